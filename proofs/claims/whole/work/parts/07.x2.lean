/-! KeccakLanes: a round: sumColumns, turnAndMove, combineRows -/
set_option maxHeartbeats 4000000 in
set_option maxRecDepth 100000 in
theorem kc_sumColumns (l : Launch) (D : va_G) (ct : Nat → ClassId) (ad tb : Nat → Nat) (M : Nat → Nat → Int64) (Pl : Nat → Nat) (C V : Nat → Int64) (sz : Nat) (g : Nat → Int64) {k : Nat} (hk : k < 9) : Met l yX0_sumColumns wsX0_sumColumns ({ frames := 1, cells := 0, slots := 0, locals := 22 }) (kr_P D vwCl (kw_T ct) (kw_B tb) [.ref (ad 0), .ref (ad (5 + k))] (kw_X ct ad (va_up M k g) Pl C V) sz) (va_Qv (S := Unit) (fun _ => True) (kr_B D vwCl (kw_T ct) (fun _ => kw_X ct ad (va_up M k g) Pl (kk_d g) V) (va_A (kw_X ct ad (va_up M k g) Pl C V) sz)) (va_A (kw_X ct ad (va_up M k g) Pl C V) sz)) 0 0 (va_A (kw_X ct ad (va_up M k g) Pl C V) sz) := by
  refine Met.ofW (cc := cX0_sumColumns) (maxL := 12) (ret := none) (by decide) rfl ?_
  intro p e s m args below meth c s₁ B hml hv
  obtain ⟨rfl, hsz, hP, hK, hD0, hB⟩ := hv
  have hx := B.exec
  have hb := B.bytes
  have hr := B.returns
  have hts := atoms_spec (ws := wsX0_sumColumns) B.pre
  have hown : s.vm.findClass RX0 = some m.cls := findClass_of_methodNamed B.named
  have hlocks := B.notSynchronized
  have hin : ∀ w ∈ u_ws RX0 TX0 4, w ∈ wsX0_sumColumns := by decide +kernel
  subst hsz
  have hD := hD0.self (sz := s.heap.size)
  generalize hAe : va_A (kw_X ct ad (va_up M k g) Pl C V) s.heap.size = A at hD hB ⊢
  have hA : ∀ q : Nat, s.heap.size ≤ q → A q := fun q h => by rw [← hAe]; exact Or.inr h
  have hS : va_S A s.heap s.heap [] := va_S.rf
  have hl := lv_entry ([.ref (ad 0), .ref (ad (5 + k))]) (n := 12) (Nat.le_of_ble_eq_true rfl)
  rw [lg_entry_eq]
  generalize (lg_sl ([.ref (ad 0), .ref (ad (5 + k))]) ++ List.replicate (12 - (lg_sl ([.ref (ad 0), .ref (ad (5 + k))])).length) Slot.unset).toArray = ls at hl ⊢
  have hl : lv_has ls 12 [(0, .ref (ad 0)), (1, .ref (ad (5 + k)))] := hl
  refine lv_aload_n hx hb dX0_sumColumns_0 rfl (lv_at hl 1 rfl) ?_
  refine lv_iconst (v := nI 0) hx hb dX0_sumColumns_1 rfl ?_
  refine kr_calll (va_runS (As := [.ref (ad (5 + k)), .int (nI 0)]) (rest := []) ⟨hx, hb, hml, hown, hts⟩ (kc_columnSum l D ct ad tb M Pl C V _ g hk (x := 0) (by omega)) (va_cwS 2 hts gX0_sumColumns_X0_columnSum rfl rfl rfl (by decide +kernel) ⟨Nat.le_of_ble_eq_true rfl, Nat.le_of_ble_eq_true rfl⟩) (kr_preS (kw_Bok tb) _ hP hK hD hB hS hA) rfl rfl hl.1 rfl (lv_room (Nat.le_of_ble_eq_true rfl)) dX0_sumColumns_2 ⟨Nat.zero_le _, Nat.zero_le _⟩) hD hS hA (fun r u H locs hq hP hD hS => ?_)
  obtain rfl : r = kk_col g 0 := hq
  have hP : va_P D vwCl (kw_X ct ad (va_up M k g) Pl C V) H := hP
  have hD : va_D A (kw_X ct ad (va_up M k g) Pl C V) := hD
  refine lv_lstore_n hx hb dX0_sumColumns_5 rfl hl (Nat.le_of_ble_eq_true rfl) rfl (fun ls hl => ?_)
  have hl : lv_has ls 12 [(2, .long (kk_col g 0)), (0, .ref (ad 0)), (1, .ref (ad (5 + k)))] := hl
  refine lv_aload_n hx hb dX0_sumColumns_6 rfl (lv_at hl 2 rfl) ?_
  refine lv_iconst (v := nI 1) hx hb dX0_sumColumns_7 rfl ?_
  refine kr_calll (va_runS (As := [.ref (ad (5 + k)), .int (nI 1)]) (rest := []) ⟨hx, hb, hml, hown, hts⟩ (kc_columnSum l D ct ad tb M Pl C V _ g hk (x := 1) (by omega)) (va_cwS 2 hts gX0_sumColumns_X0_columnSum rfl rfl rfl (by decide +kernel) ⟨Nat.le_of_ble_eq_true rfl, Nat.le_of_ble_eq_true rfl⟩) (kr_preS (kw_Bok tb) _ hP hK hD hB hS hA) rfl rfl hl.1 rfl (lv_room (Nat.le_of_ble_eq_true rfl)) dX0_sumColumns_8 ⟨Nat.zero_le _, Nat.zero_le _⟩) hD hS hA (fun r u H locs hq hP hD hS => ?_)
  obtain rfl : r = kk_col g 1 := hq
  have hP : va_P D vwCl (kw_X ct ad (va_up M k g) Pl C V) H := hP
  have hD : va_D A (kw_X ct ad (va_up M k g) Pl C V) := hD
  refine lv_lstore hx hb dX0_sumColumns_11 hl (Nat.le_of_ble_eq_true rfl) rfl (fun ls hl => ?_)
  have hl : lv_has ls 12 [(4, .long (kk_col g 1)), (2, .long (kk_col g 0)), (0, .ref (ad 0)), (1, .ref (ad (5 + k)))] := hl
  refine lv_aload_n hx hb dX0_sumColumns_13 rfl (lv_at hl 3 rfl) ?_
  refine lv_iconst (v := nI 2) hx hb dX0_sumColumns_14 rfl ?_
  refine kr_calll (va_runS (As := [.ref (ad (5 + k)), .int (nI 2)]) (rest := []) ⟨hx, hb, hml, hown, hts⟩ (kc_columnSum l D ct ad tb M Pl C V _ g hk (x := 2) (by omega)) (va_cwS 2 hts gX0_sumColumns_X0_columnSum rfl rfl rfl (by decide +kernel) ⟨Nat.le_of_ble_eq_true rfl, Nat.le_of_ble_eq_true rfl⟩) (kr_preS (kw_Bok tb) _ hP hK hD hB hS hA) rfl rfl hl.1 rfl (lv_room (Nat.le_of_ble_eq_true rfl)) dX0_sumColumns_15 ⟨Nat.zero_le _, Nat.zero_le _⟩) hD hS hA (fun r u H locs hq hP hD hS => ?_)
  obtain rfl : r = kk_col g 2 := hq
  have hP : va_P D vwCl (kw_X ct ad (va_up M k g) Pl C V) H := hP
  have hD : va_D A (kw_X ct ad (va_up M k g) Pl C V) := hD
  refine lv_lstore hx hb dX0_sumColumns_18 hl (Nat.le_of_ble_eq_true rfl) rfl (fun ls hl => ?_)
  have hl : lv_has ls 12 [(6, .long (kk_col g 2)), (4, .long (kk_col g 1)), (2, .long (kk_col g 0)), (0, .ref (ad 0)), (1, .ref (ad (5 + k)))] := hl
  refine lv_aload_n hx hb dX0_sumColumns_20 rfl (lv_at hl 4 rfl) ?_
  refine lv_iconst (v := nI 3) hx hb dX0_sumColumns_21 rfl ?_
  refine kr_calll (va_runS (As := [.ref (ad (5 + k)), .int (nI 3)]) (rest := []) ⟨hx, hb, hml, hown, hts⟩ (kc_columnSum l D ct ad tb M Pl C V _ g hk (x := 3) (by omega)) (va_cwS 2 hts gX0_sumColumns_X0_columnSum rfl rfl rfl (by decide +kernel) ⟨Nat.le_of_ble_eq_true rfl, Nat.le_of_ble_eq_true rfl⟩) (kr_preS (kw_Bok tb) _ hP hK hD hB hS hA) rfl rfl hl.1 rfl (lv_room (Nat.le_of_ble_eq_true rfl)) dX0_sumColumns_22 ⟨Nat.zero_le _, Nat.zero_le _⟩) hD hS hA (fun r u H locs hq hP hD hS => ?_)
  obtain rfl : r = kk_col g 3 := hq
  have hP : va_P D vwCl (kw_X ct ad (va_up M k g) Pl C V) H := hP
  have hD : va_D A (kw_X ct ad (va_up M k g) Pl C V) := hD
  refine lv_lstore hx hb dX0_sumColumns_25 hl (Nat.le_of_ble_eq_true rfl) rfl (fun ls hl => ?_)
  have hl : lv_has ls 12 [(8, .long (kk_col g 3)), (6, .long (kk_col g 2)), (4, .long (kk_col g 1)), (2, .long (kk_col g 0)), (0, .ref (ad 0)), (1, .ref (ad (5 + k)))] := hl
  refine lv_aload_n hx hb dX0_sumColumns_27 rfl (lv_at hl 5 rfl) ?_
  refine lv_iconst (v := nI 4) hx hb dX0_sumColumns_28 rfl ?_
  refine kr_calll (va_runS (As := [.ref (ad (5 + k)), .int (nI 4)]) (rest := []) ⟨hx, hb, hml, hown, hts⟩ (kc_columnSum l D ct ad tb M Pl C V _ g hk (x := 4) (by omega)) (va_cwS 2 hts gX0_sumColumns_X0_columnSum rfl rfl rfl (by decide +kernel) ⟨Nat.le_of_ble_eq_true rfl, Nat.le_of_ble_eq_true rfl⟩) (kr_preS (kw_Bok tb) _ hP hK hD hB hS hA) rfl rfl hl.1 rfl (lv_room (Nat.le_of_ble_eq_true rfl)) dX0_sumColumns_29 ⟨Nat.zero_le _, Nat.zero_le _⟩) hD hS hA (fun r u H locs hq hP hD hS => ?_)
  obtain rfl : r = kk_col g 4 := hq
  have hP : va_P D vwCl (kw_X ct ad (va_up M k g) Pl C V) H := hP
  have hD : va_D A (kw_X ct ad (va_up M k g) Pl C V) := hD
  refine lv_lstore hx hb dX0_sumColumns_32 hl (Nat.le_of_ble_eq_true rfl) rfl (fun ls hl => ?_)
  have hl : lv_has ls 12 [(10, .long (kk_col g 4)), (8, .long (kk_col g 3)), (6, .long (kk_col g 2)), (4, .long (kk_col g 1)), (2, .long (kk_col g 0)), (0, .ref (ad 0)), (1, .ref (ad (5 + k)))] := hl
  refine lv_aload_n hx hb dX0_sumColumns_34 rfl (lv_at hl 5 rfl) ?_
  refine va_get hx hb hts hin hown hK hP 0 rfl rfl 2 (by decide) (hts (.fieldLink RX0 18 "KeccakLanes" "columns" "[J") (by decide +kernel)) (fun _ h => h) rfl dX0_sumColumns_35 ?_
  refine lv_iconst (v := nI 0) hx hb dX0_sumColumns_38 rfl ?_
  refine lv_lload hx hb dX0_sumColumns_39 (lv_at hl 0 rfl) ?_
  refine lv_lload hx hb dX0_sumColumns_41 (lv_at hl 3 rfl) ?_
  refine lv_iconst (v := nI 1) hx hb dX0_sumColumns_43 rfl ?_
  refine kr_calll (va_runS (As := [.long (kk_col g 1), .int (nI 1)]) (rest := [.long (kk_col g 4), .int (nI 0), .ref (ad 3)]) ⟨hx, hb, hml, hown, hts⟩ (kc_turnedLeft l D ct ad tb (va_up M k g) Pl C V _ (kk_col g 1) (nI 1)) (va_cwS 2 hts gX0_sumColumns_X0_turnedLeft rfl rfl rfl (by decide +kernel) ⟨Nat.le_of_ble_eq_true rfl, Nat.le_of_ble_eq_true rfl⟩) (kr_preS (kw_Bok tb) _ hP hK hD hB hS hA) rfl rfl hl.1 rfl (lv_room (Nat.le_of_ble_eq_true rfl)) dX0_sumColumns_44 ⟨Nat.zero_le _, Nat.zero_le _⟩) hD hS hA (fun r u H locs hq hP hD hS => ?_)
  obtain rfl : r = kk_tl (kk_col g 1) (nI 1) := hq
  have hP : va_P D vwCl (kw_X ct ad (va_up M k g) Pl C V) H := hP
  have hD : va_D A (kw_X ct ad (va_up M k g) Pl C V) := hD
  refine lv_lxor hx hb dX0_sumColumns_47 ?_
  refine kr_last (w := kw_X ct ad (va_up M k g) Pl (vp_updL C 0 ((kk_col g 4) ^^^ (kk_tl (kk_col g 1) (nI 1)))) V) hx hb hK hP hD hS 3 2 rfl rfl (n := 0) (by omega) (by omega) rfl dX0_sumColumns_48 (fun H locs hP hD hS => ?_)
  refine lv_aload_n hx hb dX0_sumColumns_49 rfl (lv_at hl 5 rfl) ?_
  refine va_get hx hb hts hin hown hK hP 0 rfl rfl 2 (by decide) (hts (.fieldLink RX0 18 "KeccakLanes" "columns" "[J") (by decide +kernel)) (fun _ h => h) rfl dX0_sumColumns_50 ?_
  refine lv_iconst (v := nI 1) hx hb dX0_sumColumns_53 rfl ?_
  refine lv_lload_n hx hb dX0_sumColumns_54 rfl (lv_at hl 4 rfl) ?_
  refine lv_lload hx hb dX0_sumColumns_55 (lv_at hl 2 rfl) ?_
  refine lv_iconst (v := nI 1) hx hb dX0_sumColumns_57 rfl ?_
  refine kr_calll (va_runS (As := [.long (kk_col g 2), .int (nI 1)]) (rest := [.long (kk_col g 0), .int (nI 1), .ref (ad 3)]) ⟨hx, hb, hml, hown, hts⟩ (kc_turnedLeft l D ct ad tb (va_up M k g) Pl (vp_updL C 0 ((kk_col g 4) ^^^ (kk_tl (kk_col g 1) (nI 1)))) V _ (kk_col g 2) (nI 1)) (va_cwS 2 hts gX0_sumColumns_X0_turnedLeft rfl rfl rfl (by decide +kernel) ⟨Nat.le_of_ble_eq_true rfl, Nat.le_of_ble_eq_true rfl⟩) (kr_preS (kw_Bok tb) _ hP hK hD hB hS hA) rfl rfl hl.1 rfl (lv_room (Nat.le_of_ble_eq_true rfl)) dX0_sumColumns_58 ⟨Nat.zero_le _, Nat.zero_le _⟩) hD hS hA (fun r u H locs hq hP hD hS => ?_)
  obtain rfl : r = kk_tl (kk_col g 2) (nI 1) := hq
  have hP : va_P D vwCl (kw_X ct ad (va_up M k g) Pl (vp_updL C 0 ((kk_col g 4) ^^^ (kk_tl (kk_col g 1) (nI 1)))) V) H := hP
  have hD : va_D A (kw_X ct ad (va_up M k g) Pl (vp_updL C 0 ((kk_col g 4) ^^^ (kk_tl (kk_col g 1) (nI 1)))) V) := hD
  refine lv_lxor hx hb dX0_sumColumns_61 ?_
  refine kr_last (w := kw_X ct ad (va_up M k g) Pl (vp_updL (vp_updL C 0 ((kk_col g 4) ^^^ (kk_tl (kk_col g 1) (nI 1)))) 1 ((kk_col g 0) ^^^ (kk_tl (kk_col g 2) (nI 1)))) V) hx hb hK hP hD hS 3 2 rfl rfl (n := 1) (by omega) (by omega) rfl dX0_sumColumns_62 (fun H locs hP hD hS => ?_)
  refine lv_aload_n hx hb dX0_sumColumns_63 rfl (lv_at hl 5 rfl) ?_
  refine va_get hx hb hts hin hown hK hP 0 rfl rfl 2 (by decide) (hts (.fieldLink RX0 18 "KeccakLanes" "columns" "[J") (by decide +kernel)) (fun _ h => h) rfl dX0_sumColumns_64 ?_
  refine lv_iconst (v := nI 2) hx hb dX0_sumColumns_67 rfl ?_
  refine lv_lload hx hb dX0_sumColumns_68 (lv_at hl 3 rfl) ?_
  refine lv_lload hx hb dX0_sumColumns_70 (lv_at hl 1 rfl) ?_
  refine lv_iconst (v := nI 1) hx hb dX0_sumColumns_72 rfl ?_
  refine kr_calll (va_runS (As := [.long (kk_col g 3), .int (nI 1)]) (rest := [.long (kk_col g 1), .int (nI 2), .ref (ad 3)]) ⟨hx, hb, hml, hown, hts⟩ (kc_turnedLeft l D ct ad tb (va_up M k g) Pl (vp_updL (vp_updL C 0 ((kk_col g 4) ^^^ (kk_tl (kk_col g 1) (nI 1)))) 1 ((kk_col g 0) ^^^ (kk_tl (kk_col g 2) (nI 1)))) V _ (kk_col g 3) (nI 1)) (va_cwS 2 hts gX0_sumColumns_X0_turnedLeft rfl rfl rfl (by decide +kernel) ⟨Nat.le_of_ble_eq_true rfl, Nat.le_of_ble_eq_true rfl⟩) (kr_preS (kw_Bok tb) _ hP hK hD hB hS hA) rfl rfl hl.1 rfl (lv_room (Nat.le_of_ble_eq_true rfl)) dX0_sumColumns_73 ⟨Nat.zero_le _, Nat.zero_le _⟩) hD hS hA (fun r u H locs hq hP hD hS => ?_)
  obtain rfl : r = kk_tl (kk_col g 3) (nI 1) := hq
  have hP : va_P D vwCl (kw_X ct ad (va_up M k g) Pl (vp_updL (vp_updL C 0 ((kk_col g 4) ^^^ (kk_tl (kk_col g 1) (nI 1)))) 1 ((kk_col g 0) ^^^ (kk_tl (kk_col g 2) (nI 1)))) V) H := hP
  have hD : va_D A (kw_X ct ad (va_up M k g) Pl (vp_updL (vp_updL C 0 ((kk_col g 4) ^^^ (kk_tl (kk_col g 1) (nI 1)))) 1 ((kk_col g 0) ^^^ (kk_tl (kk_col g 2) (nI 1)))) V) := hD
  refine lv_lxor hx hb dX0_sumColumns_76 ?_
  refine kr_last (w := kw_X ct ad (va_up M k g) Pl (vp_updL (vp_updL (vp_updL C 0 ((kk_col g 4) ^^^ (kk_tl (kk_col g 1) (nI 1)))) 1 ((kk_col g 0) ^^^ (kk_tl (kk_col g 2) (nI 1)))) 2 ((kk_col g 1) ^^^ (kk_tl (kk_col g 3) (nI 1)))) V) hx hb hK hP hD hS 3 2 rfl rfl (n := 2) (by omega) (by omega) rfl dX0_sumColumns_77 (fun H locs hP hD hS => ?_)
  refine lv_aload_n hx hb dX0_sumColumns_78 rfl (lv_at hl 5 rfl) ?_
  refine va_get hx hb hts hin hown hK hP 0 rfl rfl 2 (by decide) (hts (.fieldLink RX0 18 "KeccakLanes" "columns" "[J") (by decide +kernel)) (fun _ h => h) rfl dX0_sumColumns_79 ?_
  refine lv_iconst (v := nI 3) hx hb dX0_sumColumns_82 rfl ?_
  refine lv_lload hx hb dX0_sumColumns_83 (lv_at hl 2 rfl) ?_
  refine lv_lload hx hb dX0_sumColumns_85 (lv_at hl 0 rfl) ?_
  refine lv_iconst (v := nI 1) hx hb dX0_sumColumns_87 rfl ?_
  refine kr_calll (va_runS (As := [.long (kk_col g 4), .int (nI 1)]) (rest := [.long (kk_col g 2), .int (nI 3), .ref (ad 3)]) ⟨hx, hb, hml, hown, hts⟩ (kc_turnedLeft l D ct ad tb (va_up M k g) Pl (vp_updL (vp_updL (vp_updL C 0 ((kk_col g 4) ^^^ (kk_tl (kk_col g 1) (nI 1)))) 1 ((kk_col g 0) ^^^ (kk_tl (kk_col g 2) (nI 1)))) 2 ((kk_col g 1) ^^^ (kk_tl (kk_col g 3) (nI 1)))) V _ (kk_col g 4) (nI 1)) (va_cwS 2 hts gX0_sumColumns_X0_turnedLeft rfl rfl rfl (by decide +kernel) ⟨Nat.le_of_ble_eq_true rfl, Nat.le_of_ble_eq_true rfl⟩) (kr_preS (kw_Bok tb) _ hP hK hD hB hS hA) rfl rfl hl.1 rfl (lv_room (Nat.le_of_ble_eq_true rfl)) dX0_sumColumns_88 ⟨Nat.zero_le _, Nat.zero_le _⟩) hD hS hA (fun r u H locs hq hP hD hS => ?_)
  obtain rfl : r = kk_tl (kk_col g 4) (nI 1) := hq
  have hP : va_P D vwCl (kw_X ct ad (va_up M k g) Pl (vp_updL (vp_updL (vp_updL C 0 ((kk_col g 4) ^^^ (kk_tl (kk_col g 1) (nI 1)))) 1 ((kk_col g 0) ^^^ (kk_tl (kk_col g 2) (nI 1)))) 2 ((kk_col g 1) ^^^ (kk_tl (kk_col g 3) (nI 1)))) V) H := hP
  have hD : va_D A (kw_X ct ad (va_up M k g) Pl (vp_updL (vp_updL (vp_updL C 0 ((kk_col g 4) ^^^ (kk_tl (kk_col g 1) (nI 1)))) 1 ((kk_col g 0) ^^^ (kk_tl (kk_col g 2) (nI 1)))) 2 ((kk_col g 1) ^^^ (kk_tl (kk_col g 3) (nI 1)))) V) := hD
  refine lv_lxor hx hb dX0_sumColumns_91 ?_
  refine kr_last (w := kw_X ct ad (va_up M k g) Pl (vp_updL (vp_updL (vp_updL (vp_updL C 0 ((kk_col g 4) ^^^ (kk_tl (kk_col g 1) (nI 1)))) 1 ((kk_col g 0) ^^^ (kk_tl (kk_col g 2) (nI 1)))) 2 ((kk_col g 1) ^^^ (kk_tl (kk_col g 3) (nI 1)))) 3 ((kk_col g 2) ^^^ (kk_tl (kk_col g 4) (nI 1)))) V) hx hb hK hP hD hS 3 2 rfl rfl (n := 3) (by omega) (by omega) rfl dX0_sumColumns_92 (fun H locs hP hD hS => ?_)
  refine lv_aload_n hx hb dX0_sumColumns_93 rfl (lv_at hl 5 rfl) ?_
  refine va_get hx hb hts hin hown hK hP 0 rfl rfl 2 (by decide) (hts (.fieldLink RX0 18 "KeccakLanes" "columns" "[J") (by decide +kernel)) (fun _ h => h) rfl dX0_sumColumns_94 ?_
  refine lv_iconst (v := nI 4) hx hb dX0_sumColumns_97 rfl ?_
  refine lv_lload hx hb dX0_sumColumns_98 (lv_at hl 1 rfl) ?_
  refine lv_lload_n hx hb dX0_sumColumns_100 rfl (lv_at hl 4 rfl) ?_
  refine lv_iconst (v := nI 1) hx hb dX0_sumColumns_101 rfl ?_
  refine kr_calll (va_runS (As := [.long (kk_col g 0), .int (nI 1)]) (rest := [.long (kk_col g 3), .int (nI 4), .ref (ad 3)]) ⟨hx, hb, hml, hown, hts⟩ (kc_turnedLeft l D ct ad tb (va_up M k g) Pl (vp_updL (vp_updL (vp_updL (vp_updL C 0 ((kk_col g 4) ^^^ (kk_tl (kk_col g 1) (nI 1)))) 1 ((kk_col g 0) ^^^ (kk_tl (kk_col g 2) (nI 1)))) 2 ((kk_col g 1) ^^^ (kk_tl (kk_col g 3) (nI 1)))) 3 ((kk_col g 2) ^^^ (kk_tl (kk_col g 4) (nI 1)))) V _ (kk_col g 0) (nI 1)) (va_cwS 2 hts gX0_sumColumns_X0_turnedLeft rfl rfl rfl (by decide +kernel) ⟨Nat.le_of_ble_eq_true rfl, Nat.le_of_ble_eq_true rfl⟩) (kr_preS (kw_Bok tb) _ hP hK hD hB hS hA) rfl rfl hl.1 rfl (lv_room (Nat.le_of_ble_eq_true rfl)) dX0_sumColumns_102 ⟨Nat.zero_le _, Nat.zero_le _⟩) hD hS hA (fun r u H locs hq hP hD hS => ?_)
  obtain rfl : r = kk_tl (kk_col g 0) (nI 1) := hq
  have hP : va_P D vwCl (kw_X ct ad (va_up M k g) Pl (vp_updL (vp_updL (vp_updL (vp_updL C 0 ((kk_col g 4) ^^^ (kk_tl (kk_col g 1) (nI 1)))) 1 ((kk_col g 0) ^^^ (kk_tl (kk_col g 2) (nI 1)))) 2 ((kk_col g 1) ^^^ (kk_tl (kk_col g 3) (nI 1)))) 3 ((kk_col g 2) ^^^ (kk_tl (kk_col g 4) (nI 1)))) V) H := hP
  have hD : va_D A (kw_X ct ad (va_up M k g) Pl (vp_updL (vp_updL (vp_updL (vp_updL C 0 ((kk_col g 4) ^^^ (kk_tl (kk_col g 1) (nI 1)))) 1 ((kk_col g 0) ^^^ (kk_tl (kk_col g 2) (nI 1)))) 2 ((kk_col g 1) ^^^ (kk_tl (kk_col g 3) (nI 1)))) 3 ((kk_col g 2) ^^^ (kk_tl (kk_col g 4) (nI 1)))) V) := hD
  refine lv_lxor hx hb dX0_sumColumns_105 ?_
  refine kr_last (w := kw_X ct ad (va_up M k g) Pl (vp_updL (vp_updL (vp_updL (vp_updL (vp_updL C 0 ((kk_col g 4) ^^^ (kk_tl (kk_col g 1) (nI 1)))) 1 ((kk_col g 0) ^^^ (kk_tl (kk_col g 2) (nI 1)))) 2 ((kk_col g 1) ^^^ (kk_tl (kk_col g 3) (nI 1)))) 3 ((kk_col g 2) ^^^ (kk_tl (kk_col g 4) (nI 1)))) 4 ((kk_col g 3) ^^^ (kk_tl (kk_col g 0) (nI 1)))) V) hx hb hK hP hD hS 3 2 rfl rfl (n := 4) (by omega) (by omega) rfl dX0_sumColumns_106 (fun H locs hP hD hS => ?_)
  have hP : va_P D vwCl (kw_X ct ad (va_up M k g) Pl (kk_d g) V) H := kr_sameL (q0 := 3) hP rfl (fun j hj => by rcases (show j = 0 ∨ j = 1 ∨ j = 2 ∨ j = 3 ∨ j = 4 by omega) with rfl | rfl | rfl | rfl | rfl <;> rfl) rfl
  have hD : va_D A (kw_X ct ad (va_up M k g) Pl (kk_d g) V) := kr_sameD (q0 := 3) hD rfl rfl
  exact W.vret hx hb hr (fun t ht hW => ⟨⟨(), rfl, trivial, by rw [ht]; exact hP, va_K.moved hW.alike hK, hD⟩, hS.F ht⟩) hS.2.2 dX0_sumColumns_107
set_option maxHeartbeats 4000000 in
set_option maxRecDepth 100000 in
theorem kc_turnAndMove (l : Launch) (D : va_G) (ct : Nat → ClassId) (ad tb : Nat → Nat) (M : Nat → Nat → Int64) (Pl : Nat → Nat) (C V : Nat → Int64) (sz : Nat) (g : Nat → Int64) {k : Nat} (hk : k < 9) : Met l yX0_turnAndMove wsX0_turnAndMove ({ frames := 1, cells := 0, slots := 0, locals := 22 }) (kr_P D vwCl (kw_T ct) (kw_B tb) [.ref (ad 0), .ref (ad (5 + k))] (kw_X ct ad (va_up M k g) Pl (kk_d g) V) sz) (va_Qv (S := Unit) (fun _ => True) (kr_B D vwCl (kw_T ct) (fun _ => kw_X ct ad (va_up M k g) Pl (kk_d g) (kk_mv g)) (va_A (kw_X ct ad (va_up M k g) Pl (kk_d g) V) sz)) (va_A (kw_X ct ad (va_up M k g) Pl (kk_d g) V) sz)) 0 0 (va_A (kw_X ct ad (va_up M k g) Pl (kk_d g) V) sz) := by
  refine Met.ofW (cc := cX0_turnAndMove) (maxL := 5) (ret := none) (by decide) rfl ?_
  intro p e s m args below meth c s₁ B hml hv
  obtain ⟨rfl, hsz, hP, hK, hD0, hB⟩ := hv
  have hx := B.exec
  have hb := B.bytes
  have hr := B.returns
  have hts := atoms_spec (ws := wsX0_turnAndMove) B.pre
  have hown : s.vm.findClass RX0 = some m.cls := findClass_of_methodNamed B.named
  have hlocks := B.notSynchronized
  have hin : ∀ w ∈ u_ws RX0 TX0 4, w ∈ wsX0_turnAndMove := by decide +kernel
  subst hsz
  have hD := hD0.self (sz := s.heap.size)
  generalize hAe : va_A (kw_X ct ad (va_up M k g) Pl (kk_d g) V) s.heap.size = A at hD hB ⊢
  have hA : ∀ q : Nat, s.heap.size ≤ q → A q := fun q h => by rw [← hAe]; exact Or.inr h
  have hS : va_S A s.heap s.heap [] := va_S.rf
  have hl := lv_entry ([.ref (ad 0), .ref (ad (5 + k))]) (n := 5) (Nat.le_of_ble_eq_true rfl)
  rw [lg_entry_eq]
  generalize (lg_sl ([.ref (ad 0), .ref (ad (5 + k))]) ++ List.replicate (5 - (lg_sl ([.ref (ad 0), .ref (ad (5 + k))])).length) Slot.unset).toArray = ls at hl ⊢
  have hl : lv_has ls 5 [(0, .ref (ad 0)), (1, .ref (ad (5 + k)))] := hl
  have inner : ∀ (Q : State → Prop) (i : Nat), i < 5 → (∀ (V : Nat → Int64) (H : Heap) (locs : List Loc) (ls : Array Slot), (∀ u, u < 5 * i + 5 → V (kk_tg u) = kk_mv1 g u) → lv_has ls 5 [(2, .int (nI (5 * i))), (0, .ref (ad 0)), (1, .ref (ad (5 + k)))] → va_P D vwCl (kw_X ct ad (va_up M k g) Pl (kk_d g) V) H → va_D A (kw_X ct ad (va_up M k g) Pl (kk_d g) V) → va_S A s.heap H locs → W p l e (headSpec wsX0_turnAndMove ({ frames := 1, cells := 0, slots := 0, locals := 22 })).room s m (([.ref (ad 0), .ref (ad (5 + k))] : List Value).toArray) below meth c H locs 0 0 Q (F0 m 57 ls [])) → ∀ (n j : Nat) (V : Nat → Int64) (H : Heap) (locs : List Loc) (ls : Array Slot), 5 - j < n → j ≤ 5 → (∀ u, u < 5 * i + j → V (kk_tg u) = kk_mv1 g u) → lv_has ls 5 [(3, .int (nI j)), (2, .int (nI (5 * i))), (0, .ref (ad 0)), (1, .ref (ad (5 + k)))] → va_P D vwCl (kw_X ct ad (va_up M k g) Pl (kk_d g) V) H → va_D A (kw_X ct ad (va_up M k g) Pl (kk_d g) V) → va_S A s.heap H locs → W p l e (headSpec wsX0_turnAndMove ({ frames := 1, cells := 0, slots := 0, locals := 22 })).room s m (([.ref (ad 0), .ref (ad (5 + k))] : List Value).toArray) below meth c H locs 0 0 Q (F0 m 10 ls []) := by
    intro Q i hi5 hend n
    induction n with
    | zero => intro j V H locs ls h; omega
    | succ n ih =>
      intro j V H locs ls hn hj hinv hl hP hD hS
      refine lv_iload_n hx hb dX0_turnAndMove_10 rfl (lv_at hl 0 rfl) ?_
      refine lv_iconst (v := nI 5) hx hb dX0_turnAndMove_11 rfl ?_
      refine kr_icmp_ge (tgt := 57) hx hb (by omega) (by omega) dX0_turnAndMove_12 rfl (fun hc => ?_) (fun hc => ?_)
      · obtain rfl : j = 5 := by omega
        exact hend V H locs ls hinv (lv_sub hl [1, 2, 3] rfl) hP hD hS
      · have ht : kk_tg (j + 5 * i) < 25 := kk_tg_lt _ (by omega)
        refine lv_iload_n hx hb dX0_turnAndMove_15 rfl (lv_at hl 0 rfl) ?_
        refine lv_iload_n hx hb dX0_turnAndMove_16 rfl (lv_at hl 1 rfl) ?_
        refine kr_iadd hx hb dX0_turnAndMove_17 ?_
        refine lv_istore hx hb dX0_turnAndMove_18 hl (Nat.le_of_ble_eq_true rfl) rfl (fun ls hl => ?_)
        have hl : lv_has ls 5 [(4, .int (nI (j + (5 * i)))), (3, .int (nI j)), (2, .int (nI (5 * i))), (0, .ref (ad 0)), (1, .ref (ad (5 + k)))] := hl
        refine lv_aload_n hx hb dX0_turnAndMove_20 rfl (lv_at hl 3 rfl) ?_
        refine va_get hx hb hts hin hown hK hP 0 rfl rfl 3 (by decide) (hts (.fieldLink RX0 22 "KeccakLanes" "moved" "[J") (by decide +kernel)) (fun _ h => h) rfl dX0_turnAndMove_21 ?_
        refine va_gets hx hb hB.2.1.1 hS hown (hts (.fieldLink RX0 82 "KeccakLanes" "TARGETS" "[I") (by decide +kernel)) (fun _ h => h) dX0_turnAndMove_24 ?_
        refine lv_iload hx hb dX0_turnAndMove_27 (lv_at hl 0 rfl) ?_
        refine va_ti hx hb hB.2.1.2 hS (vp_in_nI (n := j + (5 * i)) (by omega) (by omega)) (v := .int (nI (kk_tg (j + (5 * i))))) (by rw [nI_clamp (by omega)]) dX0_turnAndMove_29 ?_
        refine lv_aload_n hx hb dX0_turnAndMove_30 rfl (lv_at hl 4 rfl) ?_
        refine lv_iload hx hb dX0_turnAndMove_31 (lv_at hl 0 rfl) ?_
        refine kr_lald hx hb hK hP (5 + k) 2 (kw_Xrg hk) rfl (n := j + (5 * i)) (by omega) (by omega) dX0_turnAndMove_33 ?_
        refine lv_aload_n hx hb dX0_turnAndMove_34 rfl (lv_at hl 3 rfl) ?_
        refine va_get hx hb hts hin hown hK hP 0 rfl rfl 2 (by decide) (hts (.fieldLink RX0 18 "KeccakLanes" "columns" "[J") (by decide +kernel)) (fun _ h => h) rfl dX0_turnAndMove_35 ?_
        refine lv_iload_n hx hb dX0_turnAndMove_38 rfl (lv_at hl 1 rfl) ?_
        refine kr_lald hx hb hK hP 3 2 rfl rfl (n := j) (by omega) (by omega) dX0_turnAndMove_39 ?_
        refine lv_lxor hx hb dX0_turnAndMove_40 ?_
        refine va_gets hx hb hB.1.1 hS hown (hts (.fieldLink RX0 85 "KeccakLanes" "TURNS" "[I") (by decide +kernel)) (fun _ h => h) dX0_turnAndMove_41 ?_
        refine lv_iload hx hb dX0_turnAndMove_44 (lv_at hl 0 rfl) ?_
        refine va_ti hx hb hB.1.2 hS (vp_in_nI (n := j + (5 * i)) (by omega) (by omega)) (v := .int (nI (kk_tn (j + (5 * i))))) (by rw [nI_clamp (by omega)]) dX0_turnAndMove_46 ?_
        refine kr_calll (va_runS (As := [.long ((g (j + (5 * i))) ^^^ ((kk_d g) j)), .int (nI (kk_tn (j + (5 * i))))]) (rest := [.int (nI (kk_tg (j + (5 * i)))), .ref (ad 4)]) ⟨hx, hb, hml, hown, hts⟩ (kc_turnedLeft l D ct ad tb (va_up M k g) Pl (kk_d g) V _ ((g (j + (5 * i))) ^^^ ((kk_d g) j)) (nI (kk_tn (j + (5 * i))))) (va_cwS 2 hts gX0_turnAndMove_X0_turnedLeft rfl rfl rfl (by decide +kernel) ⟨Nat.le_of_ble_eq_true rfl, Nat.le_of_ble_eq_true rfl⟩) (kr_preS (kw_Bok tb) _ hP hK hD hB hS hA) rfl rfl hl.1 rfl (lv_room (Nat.le_of_ble_eq_true rfl)) dX0_turnAndMove_47 ⟨Nat.zero_le _, Nat.zero_le _⟩) hD hS hA (fun r u H locs hq hP hD hS => ?_)
        obtain rfl : r = kk_tl ((g (j + (5 * i))) ^^^ ((kk_d g) j)) (nI (kk_tn (j + (5 * i)))) := hq
        have hP : va_P D vwCl (kw_X ct ad (va_up M k g) Pl (kk_d g) V) H := hP
        have hD : va_D A (kw_X ct ad (va_up M k g) Pl (kk_d g) V) := hD
        refine kr_last (w := kw_X ct ad (va_up M k g) Pl (kk_d g) (vp_updL V (kk_tg (j + (5 * i))) (kk_tl ((g (j + (5 * i))) ^^^ ((kk_d g) j)) (nI (kk_tn (j + (5 * i))))))) hx hb hK hP hD hS 4 2 rfl rfl (n := kk_tg (j + (5 * i))) (by omega) (by omega) rfl dX0_turnAndMove_50 (fun H locs hP hD hS => ?_)
        refine lv_iinc (k := 1) (v := nI (j + 1)) hx hb dX0_turnAndMove_51 hl rfl (nI_add j 1) (Nat.le_of_ble_eq_true rfl) rfl (fun ls hl => ?_)
        have hl : lv_has ls 5 [(3, .int (nI (j + 1))), (4, .int (nI (j + (5 * i)))), (2, .int (nI (5 * i))), (0, .ref (ad 0)), (1, .ref (ad (5 + k)))] := hl
        refine lv_goto (tgt := 10) hx hb dX0_turnAndMove_54 rfl ?_
        refine ih (j + 1) _ H locs ls (by omega) (by omega) (fun u hu => ?_) (lv_sub hl [0, 2, 3, 4] rfl) hP hD hS
        by_cases e9 : u = j + 5 * i
        · subst e9
          rw [pk_uLs]
          unfold kk_mv1
          rw [show (j + 5 * i) % 5 = j by omega]
        · rw [pk_uLn (fun h => e9 (by have h9 := congrArg kk_sr h; rw [kk_sr_tg u (by omega), kk_sr_tg (j + 5 * i) (by omega)] at h9; exact h9))]
          exact hinv u (by omega)
  have outer : ∀ (Q : State → Prop), (∀ (V : Nat → Int64) (H : Heap) (locs : List Loc) (ls : Array Slot), (∀ u, u < 25 → V (kk_tg u) = kk_mv1 g u) → lv_has ls 5 [(2, .int (nI (5 * 5))), (0, .ref (ad 0)), (1, .ref (ad (5 + k)))] → va_P D vwCl (kw_X ct ad (va_up M k g) Pl (kk_d g) V) H → va_D A (kw_X ct ad (va_up M k g) Pl (kk_d g) V) → va_S A s.heap H locs → W p l e (headSpec wsX0_turnAndMove ({ frames := 1, cells := 0, slots := 0, locals := 22 })).room s m (([.ref (ad 0), .ref (ad (5 + k))] : List Value).toArray) below meth c H locs 0 0 Q (F0 m 63 ls [])) → ∀ (n i : Nat) (V : Nat → Int64) (H : Heap) (locs : List Loc) (ls : Array Slot), 5 - i < n → i ≤ 5 → (∀ u, u < 5 * i → V (kk_tg u) = kk_mv1 g u) → lv_has ls 5 [(2, .int (nI (5 * i))), (0, .ref (ad 0)), (1, .ref (ad (5 + k)))] → va_P D vwCl (kw_X ct ad (va_up M k g) Pl (kk_d g) V) H → va_D A (kw_X ct ad (va_up M k g) Pl (kk_d g) V) → va_S A s.heap H locs → W p l e (headSpec wsX0_turnAndMove ({ frames := 1, cells := 0, slots := 0, locals := 22 })).room s m (([.ref (ad 0), .ref (ad (5 + k))] : List Value).toArray) below meth c H locs 0 0 Q (F0 m 2 ls []) := by
    intro Q hend n
    induction n with
    | zero => intro i V H locs ls h; omega
    | succ n ih =>
      intro i V H locs ls hn hi hinv hl hP hD hS
      refine lv_iload_n hx hb dX0_turnAndMove_2 rfl (lv_at hl 0 rfl) ?_
      refine lv_bipush (v := nI 25) hx hb dX0_turnAndMove_3 (by decide +kernel) ?_
      refine kr_icmp_ge (tgt := 63) hx hb (by omega) (by omega) dX0_turnAndMove_5 rfl (fun hc => ?_) (fun hc => ?_)
      · obtain rfl : i = 5 := by omega
        exact hend V H locs ls hinv hl hP hD hS
      · have hi5 : i < 5 := by omega
        refine lv_iconst (v := nI 0) hx hb dX0_turnAndMove_8 rfl ?_
        refine lv_istore_n hx hb dX0_turnAndMove_9 rfl hl (Nat.le_of_ble_eq_true rfl) rfl (fun ls hl => ?_)
        have hl : lv_has ls 5 [(3, .int (nI 0)), (2, .int (nI (5 * i))), (0, .ref (ad 0)), (1, .ref (ad (5 + k)))] := hl
        refine inner Q i hi5 (fun V H locs ls hinv hl hP hD hS => ?_) 6 0 V H locs ls (by omega) (by omega) hinv hl hP hD hS
        refine lv_iinc (k := 0) (v := nI ((5 * i) + 5)) hx hb dX0_turnAndMove_57 hl rfl (nI_add (5 * i) 5) (Nat.le_of_ble_eq_true rfl) rfl (fun ls hl => ?_)
        have hl : lv_has ls 5 [(2, .int (nI ((5 * i) + 5))), (0, .ref (ad 0)), (1, .ref (ad (5 + k)))] := hl
        refine lv_goto (tgt := 2) hx hb dX0_turnAndMove_60 rfl ?_
        exact ih (i + 1) V H locs ls (by omega) (by omega) hinv hl hP hD hS
  refine lv_iconst (v := nI 0) hx hb dX0_turnAndMove_0 rfl ?_
  refine lv_istore_n hx hb dX0_turnAndMove_1 rfl hl (Nat.le_of_ble_eq_true rfl) rfl (fun ls hl => ?_)
  have hl : lv_has ls 5 [(2, .int (nI 0)), (0, .ref (ad 0)), (1, .ref (ad (5 + k)))] := hl
  refine outer _ (fun V H locs ls hinv hl hP hD hS => ?_) 6 0 V s.heap [] ls (by omega) (by omega) (fun u hu => absurd hu (by omega)) hl hP hD hS
  have hP : va_P D vwCl (kw_X ct ad (va_up M k g) Pl (kk_d g) (kk_mv g)) H := kr_sameL (q0 := 4) hP rfl (fun j hj => by have h9 := hinv (kk_sr j) (kk_sr_lt j hj); rw [kk_tg_sr j hj] at h9; exact h9) rfl
  have hD : va_D A (kw_X ct ad (va_up M k g) Pl (kk_d g) (kk_mv g)) := kr_sameD (q0 := 4) hD rfl rfl
  exact W.vret hx hb hr (fun t ht hW => ⟨⟨(), rfl, trivial, by rw [ht]; exact hP, va_K.moved hW.alike hK, hD⟩, hS.F ht⟩) hS.2.2 dX0_turnAndMove_63
set_option maxHeartbeats 4000000 in
set_option maxRecDepth 100000 in
theorem kc_combineRows (l : Launch) (D : va_G) (ct : Nat → ClassId) (ad tb : Nat → Nat) (M : Nat → Nat → Int64) (Pl : Nat → Nat) (C V : Nat → Int64) (sz : Nat) (g : Nat → Int64) {k : Nat} (hk : k < 9) : Met l yX0_combineRows wsX0_combineRows ({ frames := 0, cells := 0, slots := 0, locals := 0 }) (kr_P D vwCl (kw_T ct) (kw_B tb) [.ref (ad 0), .ref (ad (5 + k))] (kw_X ct ad (va_up M k g) Pl C V) sz) (va_Qv (S := Unit) (fun _ => True) (kr_B D vwCl (kw_T ct) (fun _ => kw_X ct ad (va_up M k (kk_ch V)) Pl C V) (va_A (kw_X ct ad (va_up M k g) Pl C V) sz)) (va_A (kw_X ct ad (va_up M k g) Pl C V) sz)) 0 0 (va_A (kw_X ct ad (va_up M k g) Pl C V) sz) := by
  refine Met.ofW (cc := cX0_combineRows) (maxL := 13) (ret := none) (by decide) rfl ?_
  intro p e s m args below meth c s₁ B hml hv
  obtain ⟨rfl, hsz, hP, hK, hD0, hB⟩ := hv
  have hx := B.exec
  have hb := B.bytes
  have hr := B.returns
  have hts := atoms_spec (ws := wsX0_combineRows) B.pre
  have hown : s.vm.findClass RX0 = some m.cls := findClass_of_methodNamed B.named
  have hlocks := B.notSynchronized
  have hin : ∀ w ∈ u_ws RX0 TX0 4, w ∈ wsX0_combineRows := by decide +kernel
  subst hsz
  have hD := hD0.self (sz := s.heap.size)
  generalize hAe : va_A (kw_X ct ad (va_up M k g) Pl C V) s.heap.size = A at hD hB ⊢
  have hA : ∀ q : Nat, s.heap.size ≤ q → A q := fun q h => by rw [← hAe]; exact Or.inr h
  have hS : va_S A s.heap s.heap [] := va_S.rf
  have hl := lv_entry ([.ref (ad 0), .ref (ad (5 + k))]) (n := 13) (Nat.le_of_ble_eq_true rfl)
  rw [lg_entry_eq]
  generalize (lg_sl ([.ref (ad 0), .ref (ad (5 + k))]) ++ List.replicate (13 - (lg_sl ([.ref (ad 0), .ref (ad (5 + k))])).length) Slot.unset).toArray = ls at hl ⊢
  have hl : lv_has ls 13 [(0, .ref (ad 0)), (1, .ref (ad (5 + k)))] := hl
  have loop : ∀ (Q : State → Prop), (∀ (g : Nat → Int64) (H : Heap) (locs : List Loc) (ls : Array Slot), (∀ u, u < 25 → g u = kk_ch V u) → lv_has ls 13 [(2, .int (nI (5 * 5))), (0, .ref (ad 0)), (1, .ref (ad (5 + k)))] → va_P D vwCl (kw_X ct ad (va_up M k g) Pl C V) H → va_D A (kw_X ct ad (va_up M k g) Pl C V) → va_S A s.heap H locs → W p l e (headSpec wsX0_combineRows ({ frames := 0, cells := 0, slots := 0, locals := 0 })).room s m (([.ref (ad 0), .ref (ad (5 + k))] : List Value).toArray) below meth c H locs 0 0 Q (F0 m 141 ls [])) → ∀ (n i : Nat) (g : Nat → Int64) (H : Heap) (locs : List Loc) (ls : Array Slot), 5 - i < n → i ≤ 5 → (∀ u, u < 5 * i → g u = kk_ch V u) → lv_has ls 13 [(2, .int (nI (5 * i))), (0, .ref (ad 0)), (1, .ref (ad (5 + k)))] → va_P D vwCl (kw_X ct ad (va_up M k g) Pl C V) H → va_D A (kw_X ct ad (va_up M k g) Pl C V) → va_S A s.heap H locs → W p l e (headSpec wsX0_combineRows ({ frames := 0, cells := 0, slots := 0, locals := 0 })).room s m (([.ref (ad 0), .ref (ad (5 + k))] : List Value).toArray) below meth c H locs 0 0 Q (F0 m 2 ls []) := by
    intro Q hend n
    induction n with
    | zero => intro i g H locs ls h; omega
    | succ n ih =>
      intro i g H locs ls hn hi hinv hl hP hD hS
      refine lv_iload_n hx hb dX0_combineRows_2 rfl (lv_at hl 0 rfl) ?_
      refine lv_bipush (v := nI 25) hx hb dX0_combineRows_3 (by decide +kernel) ?_
      refine kr_icmp_ge (tgt := 141) hx hb (by omega) (by omega) dX0_combineRows_5 rfl (fun hc => ?_) (fun hc => ?_)
      · obtain rfl : i = 5 := by omega
        exact hend g H locs ls hinv hl hP hD hS
      · have hi5 : i < 5 := by omega
        refine lv_aload_n hx hb dX0_combineRows_8 rfl (lv_at hl 1 rfl) ?_
        refine va_get hx hb hts hin hown hK hP 0 rfl rfl 3 (by decide) (hts (.fieldLink RX0 22 "KeccakLanes" "moved" "[J") (by decide +kernel)) (fun _ h => h) rfl dX0_combineRows_9 ?_
        refine lv_iload_n hx hb dX0_combineRows_12 rfl (lv_at hl 0 rfl) ?_
        refine kr_lald hx hb hK hP 4 2 rfl rfl (n := 5 * i) (by omega) (by omega) dX0_combineRows_13 ?_
        refine lv_lstore_n hx hb dX0_combineRows_14 rfl hl (Nat.le_of_ble_eq_true rfl) rfl (fun ls hl => ?_)
        have hl : lv_has ls 13 [(3, .long (V (5 * i))), (2, .int (nI (5 * i))), (0, .ref (ad 0)), (1, .ref (ad (5 + k)))] := hl
        refine lv_aload_n hx hb dX0_combineRows_15 rfl (lv_at hl 2 rfl) ?_
        refine va_get hx hb hts hin hown hK hP 0 rfl rfl 3 (by decide) (hts (.fieldLink RX0 22 "KeccakLanes" "moved" "[J") (by decide +kernel)) (fun _ h => h) rfl dX0_combineRows_16 ?_
        refine lv_iload_n hx hb dX0_combineRows_19 rfl (lv_at hl 1 rfl) ?_
        refine lv_iconst (v := nI 1) hx hb dX0_combineRows_20 rfl ?_
        refine kr_iadd hx hb dX0_combineRows_21 ?_
        refine kr_lald hx hb hK hP 4 2 rfl rfl (n := (5 * i) + 1) (by omega) (by omega) dX0_combineRows_22 ?_
        refine lv_lstore hx hb dX0_combineRows_23 hl (Nat.le_of_ble_eq_true rfl) rfl (fun ls hl => ?_)
        have hl : lv_has ls 13 [(5, .long (V ((5 * i) + 1))), (3, .long (V (5 * i))), (2, .int (nI (5 * i))), (0, .ref (ad 0)), (1, .ref (ad (5 + k)))] := hl
        refine lv_aload_n hx hb dX0_combineRows_25 rfl (lv_at hl 3 rfl) ?_
        refine va_get hx hb hts hin hown hK hP 0 rfl rfl 3 (by decide) (hts (.fieldLink RX0 22 "KeccakLanes" "moved" "[J") (by decide +kernel)) (fun _ h => h) rfl dX0_combineRows_26 ?_
        refine lv_iload_n hx hb dX0_combineRows_29 rfl (lv_at hl 2 rfl) ?_
        refine lv_iconst (v := nI 2) hx hb dX0_combineRows_30 rfl ?_
        refine kr_iadd hx hb dX0_combineRows_31 ?_
        refine kr_lald hx hb hK hP 4 2 rfl rfl (n := (5 * i) + 2) (by omega) (by omega) dX0_combineRows_32 ?_
        refine lv_lstore hx hb dX0_combineRows_33 hl (Nat.le_of_ble_eq_true rfl) rfl (fun ls hl => ?_)
        have hl : lv_has ls 13 [(7, .long (V ((5 * i) + 2))), (5, .long (V ((5 * i) + 1))), (3, .long (V (5 * i))), (2, .int (nI (5 * i))), (0, .ref (ad 0)), (1, .ref (ad (5 + k)))] := hl
        refine lv_aload_n hx hb dX0_combineRows_35 rfl (lv_at hl 4 rfl) ?_
        refine va_get hx hb hts hin hown hK hP 0 rfl rfl 3 (by decide) (hts (.fieldLink RX0 22 "KeccakLanes" "moved" "[J") (by decide +kernel)) (fun _ h => h) rfl dX0_combineRows_36 ?_
        refine lv_iload_n hx hb dX0_combineRows_39 rfl (lv_at hl 3 rfl) ?_
        refine lv_iconst (v := nI 3) hx hb dX0_combineRows_40 rfl ?_
        refine kr_iadd hx hb dX0_combineRows_41 ?_
        refine kr_lald hx hb hK hP 4 2 rfl rfl (n := (5 * i) + 3) (by omega) (by omega) dX0_combineRows_42 ?_
        refine lv_lstore hx hb dX0_combineRows_43 hl (Nat.le_of_ble_eq_true rfl) rfl (fun ls hl => ?_)
        have hl : lv_has ls 13 [(9, .long (V ((5 * i) + 3))), (7, .long (V ((5 * i) + 2))), (5, .long (V ((5 * i) + 1))), (3, .long (V (5 * i))), (2, .int (nI (5 * i))), (0, .ref (ad 0)), (1, .ref (ad (5 + k)))] := hl
        refine lv_aload_n hx hb dX0_combineRows_45 rfl (lv_at hl 5 rfl) ?_
        refine va_get hx hb hts hin hown hK hP 0 rfl rfl 3 (by decide) (hts (.fieldLink RX0 22 "KeccakLanes" "moved" "[J") (by decide +kernel)) (fun _ h => h) rfl dX0_combineRows_46 ?_
        refine lv_iload_n hx hb dX0_combineRows_49 rfl (lv_at hl 4 rfl) ?_
        refine lv_iconst (v := nI 4) hx hb dX0_combineRows_50 rfl ?_
        refine kr_iadd hx hb dX0_combineRows_51 ?_
        refine kr_lald hx hb hK hP 4 2 rfl rfl (n := (5 * i) + 4) (by omega) (by omega) dX0_combineRows_52 ?_
        refine lv_lstore hx hb dX0_combineRows_53 hl (Nat.le_of_ble_eq_true rfl) rfl (fun ls hl => ?_)
        have hl : lv_has ls 13 [(11, .long (V ((5 * i) + 4))), (9, .long (V ((5 * i) + 3))), (7, .long (V ((5 * i) + 2))), (5, .long (V ((5 * i) + 1))), (3, .long (V (5 * i))), (2, .int (nI (5 * i))), (0, .ref (ad 0)), (1, .ref (ad (5 + k)))] := hl
        refine lv_aload_n hx hb dX0_combineRows_55 rfl (lv_at hl 7 rfl) ?_
        refine lv_iload_n hx hb dX0_combineRows_56 rfl (lv_at hl 5 rfl) ?_
        refine lv_lload_n hx hb dX0_combineRows_57 rfl (lv_at hl 4 rfl) ?_
        refine lv_lload hx hb dX0_combineRows_58 (lv_at hl 3 rfl) ?_
        refine lv_ldc2 (v := (-1)) hx hb hown (hts (.constantLong RX0 88 (-1)) (by decide +kernel)) dX0_combineRows_60 ?_
        refine lv_lxor hx hb dX0_combineRows_63 ?_
        refine lv_lload hx hb dX0_combineRows_64 (lv_at hl 2 rfl) ?_
        refine lv_land hx hb dX0_combineRows_66 ?_
        refine lv_lxor hx hb dX0_combineRows_67 ?_
        refine kr_last (w := kw_X ct ad (va_up M k (vp_updL g (5 * i) ((V (5 * i)) ^^^ (((V ((5 * i) + 1)) ^^^ (-1)) &&& (V ((5 * i) + 2)))))) Pl C V) hx hb hK hP hD hS (5 + k) 2 (kw_Xrg hk) rfl (n := 5 * i) (by omega) (by omega) (kw_Xsg hk _) dX0_combineRows_68 (fun H locs hP hD hS => ?_)
        refine lv_aload_n hx hb dX0_combineRows_69 rfl (lv_at hl 7 rfl) ?_
        refine lv_iload_n hx hb dX0_combineRows_70 rfl (lv_at hl 5 rfl) ?_
        refine lv_iconst (v := nI 1) hx hb dX0_combineRows_71 rfl ?_
        refine kr_iadd hx hb dX0_combineRows_72 ?_
        refine lv_lload hx hb dX0_combineRows_73 (lv_at hl 3 rfl) ?_
        refine lv_lload hx hb dX0_combineRows_75 (lv_at hl 2 rfl) ?_
        refine lv_ldc2 (v := (-1)) hx hb hown (hts (.constantLong RX0 88 (-1)) (by decide +kernel)) dX0_combineRows_77 ?_
        refine lv_lxor hx hb dX0_combineRows_80 ?_
        refine lv_lload hx hb dX0_combineRows_81 (lv_at hl 1 rfl) ?_
        refine lv_land hx hb dX0_combineRows_83 ?_
        refine lv_lxor hx hb dX0_combineRows_84 ?_
        refine kr_last (w := kw_X ct ad (va_up M k (vp_updL (vp_updL g (5 * i) ((V (5 * i)) ^^^ (((V ((5 * i) + 1)) ^^^ (-1)) &&& (V ((5 * i) + 2))))) ((5 * i) + 1) ((V ((5 * i) + 1)) ^^^ (((V ((5 * i) + 2)) ^^^ (-1)) &&& (V ((5 * i) + 3)))))) Pl C V) hx hb hK hP hD hS (5 + k) 2 (kw_Xrg hk) rfl (n := (5 * i) + 1) (by omega) (by omega) (kw_Xsg hk _) dX0_combineRows_85 (fun H locs hP hD hS => ?_)
        refine lv_aload_n hx hb dX0_combineRows_86 rfl (lv_at hl 7 rfl) ?_
        refine lv_iload_n hx hb dX0_combineRows_87 rfl (lv_at hl 5 rfl) ?_
        refine lv_iconst (v := nI 2) hx hb dX0_combineRows_88 rfl ?_
        refine kr_iadd hx hb dX0_combineRows_89 ?_
        refine lv_lload hx hb dX0_combineRows_90 (lv_at hl 2 rfl) ?_
        refine lv_lload hx hb dX0_combineRows_92 (lv_at hl 1 rfl) ?_
        refine lv_ldc2 (v := (-1)) hx hb hown (hts (.constantLong RX0 88 (-1)) (by decide +kernel)) dX0_combineRows_94 ?_
        refine lv_lxor hx hb dX0_combineRows_97 ?_
        refine lv_lload hx hb dX0_combineRows_98 (lv_at hl 0 rfl) ?_
        refine lv_land hx hb dX0_combineRows_100 ?_
        refine lv_lxor hx hb dX0_combineRows_101 ?_
        refine kr_last (w := kw_X ct ad (va_up M k (vp_updL (vp_updL (vp_updL g (5 * i) ((V (5 * i)) ^^^ (((V ((5 * i) + 1)) ^^^ (-1)) &&& (V ((5 * i) + 2))))) ((5 * i) + 1) ((V ((5 * i) + 1)) ^^^ (((V ((5 * i) + 2)) ^^^ (-1)) &&& (V ((5 * i) + 3))))) ((5 * i) + 2) ((V ((5 * i) + 2)) ^^^ (((V ((5 * i) + 3)) ^^^ (-1)) &&& (V ((5 * i) + 4)))))) Pl C V) hx hb hK hP hD hS (5 + k) 2 (kw_Xrg hk) rfl (n := (5 * i) + 2) (by omega) (by omega) (kw_Xsg hk _) dX0_combineRows_102 (fun H locs hP hD hS => ?_)
        refine lv_aload_n hx hb dX0_combineRows_103 rfl (lv_at hl 7 rfl) ?_
        refine lv_iload_n hx hb dX0_combineRows_104 rfl (lv_at hl 5 rfl) ?_
        refine lv_iconst (v := nI 3) hx hb dX0_combineRows_105 rfl ?_
        refine kr_iadd hx hb dX0_combineRows_106 ?_
        refine lv_lload hx hb dX0_combineRows_107 (lv_at hl 1 rfl) ?_
        refine lv_lload hx hb dX0_combineRows_109 (lv_at hl 0 rfl) ?_
        refine lv_ldc2 (v := (-1)) hx hb hown (hts (.constantLong RX0 88 (-1)) (by decide +kernel)) dX0_combineRows_111 ?_
        refine lv_lxor hx hb dX0_combineRows_114 ?_
        refine lv_lload_n hx hb dX0_combineRows_115 rfl (lv_at hl 4 rfl) ?_
        refine lv_land hx hb dX0_combineRows_116 ?_
        refine lv_lxor hx hb dX0_combineRows_117 ?_
        refine kr_last (w := kw_X ct ad (va_up M k (vp_updL (vp_updL (vp_updL (vp_updL g (5 * i) ((V (5 * i)) ^^^ (((V ((5 * i) + 1)) ^^^ (-1)) &&& (V ((5 * i) + 2))))) ((5 * i) + 1) ((V ((5 * i) + 1)) ^^^ (((V ((5 * i) + 2)) ^^^ (-1)) &&& (V ((5 * i) + 3))))) ((5 * i) + 2) ((V ((5 * i) + 2)) ^^^ (((V ((5 * i) + 3)) ^^^ (-1)) &&& (V ((5 * i) + 4))))) ((5 * i) + 3) ((V ((5 * i) + 3)) ^^^ (((V ((5 * i) + 4)) ^^^ (-1)) &&& (V (5 * i)))))) Pl C V) hx hb hK hP hD hS (5 + k) 2 (kw_Xrg hk) rfl (n := (5 * i) + 3) (by omega) (by omega) (kw_Xsg hk _) dX0_combineRows_118 (fun H locs hP hD hS => ?_)
        refine lv_aload_n hx hb dX0_combineRows_119 rfl (lv_at hl 7 rfl) ?_
        refine lv_iload_n hx hb dX0_combineRows_120 rfl (lv_at hl 5 rfl) ?_
        refine lv_iconst (v := nI 4) hx hb dX0_combineRows_121 rfl ?_
        refine kr_iadd hx hb dX0_combineRows_122 ?_
        refine lv_lload hx hb dX0_combineRows_123 (lv_at hl 0 rfl) ?_
        refine lv_lload_n hx hb dX0_combineRows_125 rfl (lv_at hl 4 rfl) ?_
        refine lv_ldc2 (v := (-1)) hx hb hown (hts (.constantLong RX0 88 (-1)) (by decide +kernel)) dX0_combineRows_126 ?_
        refine lv_lxor hx hb dX0_combineRows_129 ?_
        refine lv_lload hx hb dX0_combineRows_130 (lv_at hl 3 rfl) ?_
        refine lv_land hx hb dX0_combineRows_132 ?_
        refine lv_lxor hx hb dX0_combineRows_133 ?_
        refine kr_last (w := kw_X ct ad (va_up M k (vp_updL (vp_updL (vp_updL (vp_updL (vp_updL g (5 * i) ((V (5 * i)) ^^^ (((V ((5 * i) + 1)) ^^^ (-1)) &&& (V ((5 * i) + 2))))) ((5 * i) + 1) ((V ((5 * i) + 1)) ^^^ (((V ((5 * i) + 2)) ^^^ (-1)) &&& (V ((5 * i) + 3))))) ((5 * i) + 2) ((V ((5 * i) + 2)) ^^^ (((V ((5 * i) + 3)) ^^^ (-1)) &&& (V ((5 * i) + 4))))) ((5 * i) + 3) ((V ((5 * i) + 3)) ^^^ (((V ((5 * i) + 4)) ^^^ (-1)) &&& (V (5 * i))))) ((5 * i) + 4) ((V ((5 * i) + 4)) ^^^ (((V (5 * i)) ^^^ (-1)) &&& (V ((5 * i) + 1)))))) Pl C V) hx hb hK hP hD hS (5 + k) 2 (kw_Xrg hk) rfl (n := (5 * i) + 4) (by omega) (by omega) (kw_Xsg hk _) dX0_combineRows_134 (fun H locs hP hD hS => ?_)
        refine lv_iinc (k := 5) (v := nI ((5 * i) + 5)) hx hb dX0_combineRows_135 hl rfl (nI_add (5 * i) 5) (Nat.le_of_ble_eq_true rfl) rfl (fun ls hl => ?_)
        have hl : lv_has ls 13 [(2, .int (nI ((5 * i) + 5))), (11, .long (V ((5 * i) + 4))), (9, .long (V ((5 * i) + 3))), (7, .long (V ((5 * i) + 2))), (5, .long (V ((5 * i) + 1))), (3, .long (V (5 * i))), (0, .ref (ad 0)), (1, .ref (ad (5 + k)))] := hl
        refine lv_goto (tgt := 2) hx hb dX0_combineRows_138 rfl ?_
        refine ih (i + 1) _ H locs ls (by omega) (by omega) (fun u hu => ?_) (lv_sub hl [0, 6, 7] rfl) hP hD hS
        by_cases e9 : u < 5 * i
        · rw [pk_uLn (k := 5 * i + 4) (by omega), pk_uLn (k := 5 * i + 3) (by omega), pk_uLn (k := 5 * i + 2) (by omega), pk_uLn (k := 5 * i + 1) (by omega), pk_uLn (k := 5 * i) (by omega)]
          exact hinv u e9
        · rcases (show u = 5 * i ∨ u = 5 * i + 1 ∨ u = 5 * i + 2 ∨ u = 5 * i + 3 ∨ u = 5 * i + 4 by omega) with rfl | rfl | rfl | rfl | rfl
          · rw [pk_uLn (k := 5 * i + 4) (j := 5 * i) (by omega), pk_uLn (k := 5 * i + 3) (j := 5 * i) (by omega), pk_uLn (k := 5 * i + 2) (j := 5 * i) (by omega), pk_uLn (k := 5 * i + 1) (j := 5 * i) (by omega), pk_uLs]
            unfold kk_ch
            rw [show (5 * i) / 5 * 5 = 5 * i by omega, show (5 * i) % 5 = 0 by omega]
            try rfl
          · rw [pk_uLn (k := 5 * i + 4) (j := 5 * i + 1) (by omega), pk_uLn (k := 5 * i + 3) (j := 5 * i + 1) (by omega), pk_uLn (k := 5 * i + 2) (j := 5 * i + 1) (by omega), pk_uLs]
            unfold kk_ch
            rw [show (5 * i + 1) / 5 * 5 = 5 * i by omega, show (5 * i + 1) % 5 = 1 by omega]
            try rfl
          · rw [pk_uLn (k := 5 * i + 4) (j := 5 * i + 2) (by omega), pk_uLn (k := 5 * i + 3) (j := 5 * i + 2) (by omega), pk_uLs]
            unfold kk_ch
            rw [show (5 * i + 2) / 5 * 5 = 5 * i by omega, show (5 * i + 2) % 5 = 2 by omega]
            try rfl
          · rw [pk_uLn (k := 5 * i + 4) (j := 5 * i + 3) (by omega), pk_uLs]
            unfold kk_ch
            rw [show (5 * i + 3) / 5 * 5 = 5 * i by omega, show (5 * i + 3) % 5 = 3 by omega]
            try rfl
          · rw [pk_uLs]
            unfold kk_ch
            rw [show (5 * i + 4) / 5 * 5 = 5 * i by omega, show (5 * i + 4) % 5 = 4 by omega]
            try rfl
  refine lv_iconst (v := nI 0) hx hb dX0_combineRows_0 rfl ?_
  refine lv_istore_n hx hb dX0_combineRows_1 rfl hl (Nat.le_of_ble_eq_true rfl) rfl (fun ls hl => ?_)
  have hl : lv_has ls 13 [(2, .int (nI 0)), (0, .ref (ad 0)), (1, .ref (ad (5 + k)))] := hl
  refine loop _ (fun g H locs ls hinv hl hP hD hS => ?_) 6 0 g s.heap [] ls (by omega) (by omega) (fun u hu => absurd hu (by omega)) hl hP hD hS
  have hP : va_P D vwCl (kw_X ct ad (va_up M k (kk_ch V)) Pl C V) H := kr_sameL (q0 := 5 + k) hP (kw_Xrg hk) hinv (kw_Xsg hk _)
  have hD : va_D A (kw_X ct ad (va_up M k (kk_ch V)) Pl C V) := kr_sameD (q0 := 5 + k) hD (kw_Xrg hk) (kw_Xsg hk _)
  exact W.vret hx hb hr (fun t ht hW => ⟨⟨(), rfl, trivial, by rw [ht]; exact hP, va_K.moved hW.alike hK, hD⟩, hS.F ht⟩) hS.2.2 dX0_combineRows_141
