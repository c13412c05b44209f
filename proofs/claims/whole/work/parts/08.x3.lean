/-! KeccakLanes: mixLanes, copyState, takeIn -/
set_option maxHeartbeats 4000000 in
set_option maxRecDepth 100000 in
theorem kc_mixLanes (l : Launch) (D : va_G) (ct : Nat → ClassId) (ad tb : Nat → Nat) (M : Nat → Nat → Int64) (Pl : Nat → Nat) (C V : Nat → Int64) (sz : Nat) (g : Nat → Int64) {k : Nat} (hk : k < 9) : Met l yX0_mixLanes wsX0_mixLanes ({ frames := 2, cells := 0, slots := 0, locals := 53 }) (kr_P D vwCl (kw_T ct) (kw_B tb) [.ref (ad 0), .ref (ad (5 + k))] (kw_X ct ad (va_up M k g) Pl C V) sz) (va_Qv (S := ((Nat → Int64) × (Nat → Int64))) (fun _ => True) (kr_B D vwCl (kw_T ct) (fun u => kw_X ct ad (va_up M k (kk_mix g)) Pl u.1 u.2) (va_A (kw_X ct ad (va_up M k g) Pl C V) sz)) (va_A (kw_X ct ad (va_up M k g) Pl C V) sz)) 0 0 (va_A (kw_X ct ad (va_up M k g) Pl C V) sz) := by
  refine Met.ofW (cc := cX0_mixLanes) (maxL := 3) (ret := none) (by decide) rfl ?_
  intro p e s m args below meth c s₁ B hml hv
  obtain ⟨rfl, hsz, hP, hK, hD0, hB⟩ := hv
  have hx := B.exec
  have hb := B.bytes
  have hr := B.returns
  have hts := atoms_spec (ws := wsX0_mixLanes) B.pre
  have hown : s.vm.findClass RX0 = some m.cls := findClass_of_methodNamed B.named
  have hlocks := B.notSynchronized
  subst hsz
  have hD := hD0.self (sz := s.heap.size)
  generalize hAe : va_A (kw_X ct ad (va_up M k g) Pl C V) s.heap.size = A at hD hB ⊢
  have hA : ∀ q : Nat, s.heap.size ≤ q → A q := fun q h => by rw [← hAe]; exact Or.inr h
  have hS : va_S A s.heap s.heap [] := va_S.rf
  have hl := lv_entry ([.ref (ad 0), .ref (ad (5 + k))]) (n := 3) (Nat.le_of_ble_eq_true rfl)
  rw [lg_entry_eq]
  generalize (lg_sl ([.ref (ad 0), .ref (ad (5 + k))]) ++ List.replicate (3 - (lg_sl ([.ref (ad 0), .ref (ad (5 + k))])).length) Slot.unset).toArray = ls at hl ⊢
  have hl : lv_has ls 3 [(0, .ref (ad 0)), (1, .ref (ad (5 + k)))] := hl
  have loop : ∀ (Q : State → Prop), (∀ (C V : Nat → Int64) (H : Heap) (locs : List Loc) (ls : Array Slot), lv_has ls 3 [(2, .int (nI 24)), (0, .ref (ad 0)), (1, .ref (ad (5 + k)))] → va_P D vwCl (kw_X ct ad (va_up M k (kk_rs g 24)) Pl C V) H → va_D A (kw_X ct ad (va_up M k (kk_rs g 24)) Pl C V) → va_S A s.heap H locs → W p l e (headSpec wsX0_mixLanes ({ frames := 2, cells := 0, slots := 0, locals := 53 })).room s m (([.ref (ad 0), .ref (ad (5 + k))] : List Value).toArray) below meth c H locs 0 0 Q (F0 m 40 ls [])) → ∀ (n i : Nat) (C V : Nat → Int64) (H : Heap) (locs : List Loc) (ls : Array Slot), 24 - i < n → i ≤ 24 → lv_has ls 3 [(2, .int (nI i)), (0, .ref (ad 0)), (1, .ref (ad (5 + k)))] → va_P D vwCl (kw_X ct ad (va_up M k (kk_rs g i)) Pl C V) H → va_D A (kw_X ct ad (va_up M k (kk_rs g i)) Pl C V) → va_S A s.heap H locs → W p l e (headSpec wsX0_mixLanes ({ frames := 2, cells := 0, slots := 0, locals := 53 })).room s m (([.ref (ad 0), .ref (ad (5 + k))] : List Value).toArray) below meth c H locs 0 0 Q (F0 m 2 ls []) := by
    intro Q hend n
    induction n with
    | zero => intro i C V H locs ls h; omega
    | succ n ih =>
      intro i C V H locs ls hn hi hl hP hD hS
      refine lv_iload_n hx hb dX0_mixLanes_2 rfl (lv_at hl 0 rfl) ?_
      refine lv_bipush (v := nI 24) hx hb dX0_mixLanes_3 (by decide +kernel) ?_
      refine kr_icmp_ge (tgt := 40) hx hb (by omega) (by omega) dX0_mixLanes_5 rfl (fun hc => ?_) (fun hc => ?_)
      · obtain rfl : i = 24 := by omega
        exact hend C V H locs ls hl hP hD hS
      · have hi24 : i < 24 := by omega
        refine lv_aload_n hx hb dX0_mixLanes_8 rfl (lv_at hl 1 rfl) ?_
        refine lv_aload_n hx hb dX0_mixLanes_9 rfl (lv_at hl 2 rfl) ?_
        refine kr_callv (va_runV (As := [.ref (ad (5 + k))]) (rest := []) ⟨hx, hb, hml, hown, hts⟩ (kc_sumColumns l D ct ad tb M Pl C V _ (kk_rs g i) hk) (cwV 1 hts gX0_mixLanes_X0_sumColumns rfl rfl rfl (by decide +kernel) ⟨Nat.le_of_ble_eq_true rfl, Nat.le_of_ble_eq_true rfl⟩) (kr_preV (kw_Bok tb) (q := (RX0, TX0, 4)) (q0 := 0) (ci := 0) _ hP hK hD hB hS hA rfl rfl rfl) rfl rfl hl.1 rfl (lv_room (Nat.le_of_ble_eq_true rfl)) dX0_mixLanes_10 ⟨Nat.zero_le _, Nat.zero_le _⟩) hD hS hA (fun u H locs hq hP hD hS => ?_)
        have hP : va_P D vwCl (kw_X ct ad (va_up M k (kk_rs g i)) Pl (kk_d (kk_rs g i)) V) H := hP
        have hD : va_D A (kw_X ct ad (va_up M k (kk_rs g i)) Pl (kk_d (kk_rs g i)) V) := hD
        refine lv_aload_n hx hb dX0_mixLanes_13 rfl (lv_at hl 1 rfl) ?_
        refine lv_aload_n hx hb dX0_mixLanes_14 rfl (lv_at hl 2 rfl) ?_
        refine kr_callv (va_runV (As := [.ref (ad (5 + k))]) (rest := []) ⟨hx, hb, hml, hown, hts⟩ (kc_turnAndMove l D ct ad tb M Pl C V _ (kk_rs g i) hk) (cwV 1 hts gX0_mixLanes_X0_turnAndMove rfl rfl rfl (by decide +kernel) ⟨Nat.le_of_ble_eq_true rfl, Nat.le_of_ble_eq_true rfl⟩) (kr_preV (kw_Bok tb) (q := (RX0, TX0, 4)) (q0 := 0) (ci := 0) _ hP hK hD hB hS hA rfl rfl rfl) rfl rfl hl.1 rfl (lv_room (Nat.le_of_ble_eq_true rfl)) dX0_mixLanes_15 ⟨Nat.zero_le _, Nat.zero_le _⟩) hD hS hA (fun u H locs hq hP hD hS => ?_)
        have hP : va_P D vwCl (kw_X ct ad (va_up M k (kk_rs g i)) Pl (kk_d (kk_rs g i)) (kk_mv (kk_rs g i))) H := hP
        have hD : va_D A (kw_X ct ad (va_up M k (kk_rs g i)) Pl (kk_d (kk_rs g i)) (kk_mv (kk_rs g i))) := hD
        refine lv_aload_n hx hb dX0_mixLanes_18 rfl (lv_at hl 1 rfl) ?_
        refine lv_aload_n hx hb dX0_mixLanes_19 rfl (lv_at hl 2 rfl) ?_
        refine kr_callv (va_runV (As := [.ref (ad (5 + k))]) (rest := []) ⟨hx, hb, hml, hown, hts⟩ (kc_combineRows l D ct ad tb M Pl (kk_d (kk_rs g i)) (kk_mv (kk_rs g i)) _ (kk_rs g i) hk) (cwV 1 hts gX0_mixLanes_X0_combineRows rfl rfl rfl (by decide +kernel) ⟨Nat.le_of_ble_eq_true rfl, Nat.le_of_ble_eq_true rfl⟩) (kr_preV (kw_Bok tb) (q := (RX0, TX0, 4)) (q0 := 0) (ci := 0) _ hP hK hD hB hS hA rfl rfl rfl) rfl rfl hl.1 rfl (lv_room (Nat.le_of_ble_eq_true rfl)) dX0_mixLanes_20 ⟨Nat.zero_le _, Nat.zero_le _⟩) hD hS hA (fun u H locs hq hP hD hS => ?_)
        have hP : va_P D vwCl (kw_X ct ad (va_up M k (kk_ch (kk_mv (kk_rs g i)))) Pl (kk_d (kk_rs g i)) (kk_mv (kk_rs g i))) H := hP
        have hD : va_D A (kw_X ct ad (va_up M k (kk_ch (kk_mv (kk_rs g i)))) Pl (kk_d (kk_rs g i)) (kk_mv (kk_rs g i))) := hD
        refine lv_aload_n hx hb dX0_mixLanes_23 rfl (lv_at hl 2 rfl) ?_
        refine lv_iconst (v := nI 0) hx hb dX0_mixLanes_24 rfl ?_
        refine lv_dup2_11 hx hb dX0_mixLanes_25 rfl rfl ?_
        refine kr_lald hx hb hK hP (5 + k) 2 (kw_Xrg hk) rfl (n := 0) (by omega) (by omega) dX0_mixLanes_26 ?_
        refine va_gets hx hb hB.2.2.1.1 hS hown (hts (.fieldLink RX0 71 "KeccakLanes" "CONSTANTS" "[J") (by decide +kernel)) (fun _ h => h) dX0_mixLanes_27 ?_
        refine lv_iload_n hx hb dX0_mixLanes_30 rfl (lv_at hl 0 rfl) ?_
        refine va_tl hx hb hB.2.2.1.2 hS (vp_in_nI (n := i) (by omega) (by omega)) (v := .long (kk_rc i)) (by rw [nI_clamp (by omega)]) dX0_mixLanes_31 ?_
        refine lv_lxor hx hb dX0_mixLanes_32 ?_
        refine kr_last (w := kw_X ct ad (va_up M k (vp_updL (kk_ch (kk_mv (kk_rs g i))) 0 (((kk_ch (kk_mv (kk_rs g i))) 0) ^^^ (kk_rc i)))) Pl (kk_d (kk_rs g i)) (kk_mv (kk_rs g i))) hx hb hK hP hD hS (5 + k) 2 (kw_Xrg hk) rfl (n := 0) (by omega) (by omega) (kw_Xsg hk _) dX0_mixLanes_33 (fun H locs hP hD hS => ?_)
        refine lv_iinc (k := 0) (v := nI (i + 1)) hx hb dX0_mixLanes_34 hl rfl (nI_add i 1) (Nat.le_of_ble_eq_true rfl) rfl (fun ls hl => ?_)
        have hl : lv_has ls 3 [(2, .int (nI (i + 1))), (0, .ref (ad 0)), (1, .ref (ad (5 + k)))] := hl
        refine lv_goto (tgt := 2) hx hb dX0_mixLanes_37 rfl ?_
        exact ih (i + 1) _ _ H locs ls (by omega) (by omega) hl hP hD hS
  refine lv_iconst (v := nI 0) hx hb dX0_mixLanes_0 rfl ?_
  refine lv_istore_n hx hb dX0_mixLanes_1 rfl hl (Nat.le_of_ble_eq_true rfl) rfl (fun ls hl => ?_)
  have hl : lv_has ls 3 [(2, .int (nI 0)), (0, .ref (ad 0)), (1, .ref (ad (5 + k)))] := hl
  refine loop _ (fun C V H locs ls hl hP hD hS => ?_) 25 0 C V s.heap [] ls (by omega) (by omega) hl hP hD hS
  exact W.vret hx hb hr (fun t ht hW => ⟨⟨(C, V), rfl, trivial, by rw [ht]; exact hP, va_K.moved hW.alike hK, hD⟩, hS.F ht⟩) hS.2.2 dX0_mixLanes_40
set_option maxHeartbeats 4000000 in
set_option maxRecDepth 100000 in
theorem kc_copyState (l : Launch) (D : va_G) (ct : Nat → ClassId) (ad tb : Nat → Nat) (M : Nat → Nat → Int64) (Pl : Nat → Nat) (C V : Nat → Int64) (sz : Nat) {k t : Nat} (hk : k < 9) (ht9 : t < 9) : Met l yX0_copyState wsX0_copyState ({ frames := 1, cells := 0, slots := 0, locals := 18 }) (kr_P D vwCl (kw_T ct) (kw_B tb) [.ref (ad 0), .int (nI k), .int (nI t)] (kw_X ct ad M Pl C V) sz) (va_Qv (S := Unit) (fun _ => True) (kr_B D vwCl (kw_T ct) (fun _ => kw_X ct ad (va_up M t (M k)) (va_up Pl t (Pl k)) C V) (va_A (kw_X ct ad M Pl C V) sz)) (va_A (kw_X ct ad M Pl C V) sz)) 0 0 (va_A (kw_X ct ad M Pl C V) sz) := by
  refine Met.ofW (cc := cX0_copyState) (maxL := 3) (ret := none) (by decide) rfl ?_
  intro p e s m args below meth c s₁ B hml hv
  obtain ⟨rfl, hsz, hP, hK, hD0, hB⟩ := hv
  have hx := B.exec
  have hb := B.bytes
  have hr := B.returns
  have hts := atoms_spec (ws := wsX0_copyState) B.pre
  have hown : s.vm.findClass RX0 = some m.cls := findClass_of_methodNamed B.named
  have hlocks := B.notSynchronized
  have hin : ∀ w ∈ u_ws RX0 TX0 4, w ∈ wsX0_copyState := by decide +kernel
  subst hsz
  have hD := hD0.self (sz := s.heap.size)
  generalize hAe : va_A (kw_X ct ad M Pl C V) s.heap.size = A at hD hB ⊢
  have hA : ∀ q : Nat, s.heap.size ≤ q → A q := fun q h => by rw [← hAe]; exact Or.inr h
  have hS : va_S A s.heap s.heap [] := va_S.rf
  have hl := lv_entry ([.ref (ad 0), .int (nI k), .int (nI t)]) (n := 3) (Nat.le_of_ble_eq_true rfl)
  rw [lg_entry_eq]
  generalize (lg_sl ([.ref (ad 0), .int (nI k), .int (nI t)]) ++ List.replicate (3 - (lg_sl ([.ref (ad 0), .int (nI k), .int (nI t)])).length) Slot.unset).toArray = ls at hl ⊢
  have hl : lv_has ls 3 [(0, .ref (ad 0)), (1, .int (nI k)), (2, .int (nI t))] := hl
  refine lv_aload_n hx hb dX0_copyState_0 rfl (lv_at hl 0 rfl) ?_
  refine va_get hx hb hts hin hown hK hP 0 rfl rfl 0 (by decide) (hts (.fieldLink RX0 11 "KeccakLanes" "lanes" "[[J") (by decide +kernel)) (fun _ h => h) rfl dX0_copyState_1 ?_
  refine lv_iload_n hx hb dX0_copyState_4 rfl (lv_at hl 1 rfl) ?_
  refine kr_aald hx hb hK hP 1 0 rfl rfl (n := k) (y := ad (5 + k)) (by omega) (by omega) (if_pos (by omega)) dX0_copyState_5 ?_
  refine lv_iconst (v := nI 0) hx hb dX0_copyState_6 rfl ?_
  refine lv_aload_n hx hb dX0_copyState_7 rfl (lv_at hl 0 rfl) ?_
  refine va_get hx hb hts hin hown hK hP 0 rfl rfl 0 (by decide) (hts (.fieldLink RX0 11 "KeccakLanes" "lanes" "[[J") (by decide +kernel)) (fun _ h => h) rfl dX0_copyState_8 ?_
  refine lv_iload_n hx hb dX0_copyState_11 rfl (lv_at hl 2 rfl) ?_
  refine kr_aald hx hb hK hP 1 0 rfl rfl (n := t) (y := ad (5 + t)) (by omega) (by omega) (if_pos (by omega)) dX0_copyState_12 ?_
  refine lv_iconst (v := nI 0) hx hb dX0_copyState_13 rfl ?_
  refine lv_bipush (v := nI 25) hx hb dX0_copyState_14 (by decide +kernel) ?_
  refine va_copyl hx hb (hml.trans hl.1.symm) hown (hts (.methodLink RX0 54 arraycopyName) (by decide +kernel)) (hts (.native arraycopyName) (by decide +kernel)) (hts (.static arraycopyName) (by decide +kernel)) (hts (.initialized "java/lang/System") (by decide +kernel)) hK hP hD hS (5 + k) (5 + t) 2 2 (kw_Xrow ct ad M Pl C V hk) (kw_Xrow ct ad M Pl C V ht9) rfl rfl rfl (nI_pos (n := 0) (by omega)) (nI_pos (n := 0) (by omega)) (nI_pos (n := 25) (by omega)) (by decide +kernel) (by decide +kernel) (fun _ _ => rfl) (Nat.le_of_ble_eq_true rfl) (by decide +kernel) dX0_copyState_16 (fun H locs hP hD hS => ?_)
  rw [kw_Xset ct ad M Pl C V _ ht9] at hP hD
  have hP : va_P D vwCl (kw_X ct ad (va_up M t (M k)) Pl C V) H := kr_sameL (q0 := 5 + t) hP (kw_Xrg ht9) (fun j hj => (show va_cpy (M k) (M t) (nI 0).toNatClampNeg (nI 0).toNatClampNeg (nI 25).toNatClampNeg j = M k j by rw [show (nI 0).toNatClampNeg = 0 from nI_clamp (by omega), show (nI 25).toNatClampNeg = 25 from nI_clamp (by omega)]; rw [pk_cpy_in (Nat.zero_le j) (by omega), Nat.zero_add, Nat.sub_zero])) (kw_Xsg ht9 _)
  have hD : va_D A (kw_X ct ad (va_up M t (M k)) Pl C V) := kr_sameD (q0 := 5 + t) hD (kw_Xrg ht9) (kw_Xsg ht9 _)
  refine lv_aload_n hx hb dX0_copyState_19 rfl (lv_at hl 0 rfl) ?_
  refine va_get hx hb hts hin hown hK hP 0 rfl rfl 1 (by decide) (hts (.fieldLink RX0 14 "KeccakLanes" "places" "[I") (by decide +kernel)) (fun _ h => h) rfl dX0_copyState_20 ?_
  refine lv_iload_n hx hb dX0_copyState_23 rfl (lv_at hl 2 rfl) ?_
  refine lv_aload_n hx hb dX0_copyState_24 rfl (lv_at hl 0 rfl) ?_
  refine va_get hx hb hts hin hown hK hP 0 rfl rfl 1 (by decide) (hts (.fieldLink RX0 14 "KeccakLanes" "places" "[I") (by decide +kernel)) (fun _ h => h) rfl dX0_copyState_25 ?_
  refine lv_iload_n hx hb dX0_copyState_28 rfl (lv_at hl 1 rfl) ?_
  refine kr_iald hx hb hK hP 2 1 rfl rfl (n := k) (by omega) (by omega) dX0_copyState_29 ?_
  refine kr_iast hx hb hK hP hD hS 2 1 rfl rfl (n := t) (by omega) (by omega) (kw_XsP t (Pl k)) dX0_copyState_30 (fun H locs hP hD hS => ?_)
  exact W.vret hx hb hr (fun t ht hW => ⟨⟨(), rfl, trivial, by rw [ht]; exact hP, va_K.moved hW.alike hK, hD⟩, hS.F ht⟩) hS.2.2 dX0_copyState_31
set_option maxHeartbeats 4000000 in
set_option maxRecDepth 100000 in
theorem kc_takeIn (l : Launch) (D : va_G) (ct : Nat → ClassId) (ad tb : Nat → Nat) (M : Nat → Nat → Int64) (Pl : Nat → Nat) (C V : Nat → Int64) (sz : Nat) (g : Nat → Int64) {k q : Nat} (hk : k < 9) (hq0 : q < 136) (b : Int32) : Met l yX0_takeIn wsX0_takeIn ({ frames := 3, cells := 0, slots := 0, locals := 75 }) (kr_P D vwCl (kw_T ct) (kw_B tb) [.ref (ad 0), .int (nI k), .int b] (kw_X ct ad (va_up M k g) (va_up Pl k q) C V) sz) (va_Qv (S := ((Nat → Int64) × (Nat → Int64))) (fun _ => True) (kr_B D vwCl (kw_T ct) (fun u => kw_X ct ad (va_up M k (kk_in (g, q) b).1) (va_up Pl k (kk_in (g, q) b).2) u.1 u.2) (va_A (kw_X ct ad (va_up M k g) (va_up Pl k q) C V) sz)) (va_A (kw_X ct ad (va_up M k g) (va_up Pl k q) C V) sz)) 0 0 (va_A (kw_X ct ad (va_up M k g) (va_up Pl k q) C V) sz) := by
  refine Met.ofW (cc := cX0_takeIn) (maxL := 3) (ret := none) (by decide) rfl ?_
  intro p e s m args below meth c s₁ B hml hv
  obtain ⟨rfl, hsz, hP, hK, hD0, hB⟩ := hv
  have hx := B.exec
  have hb := B.bytes
  have hr := B.returns
  have hts := atoms_spec (ws := wsX0_takeIn) B.pre
  have hown : s.vm.findClass RX0 = some m.cls := findClass_of_methodNamed B.named
  have hlocks := B.notSynchronized
  have hin : ∀ w ∈ u_ws RX0 TX0 4, w ∈ wsX0_takeIn := by decide +kernel
  subst hsz
  have hD := hD0.self (sz := s.heap.size)
  generalize hAe : va_A (kw_X ct ad (va_up M k g) (va_up Pl k q) C V) s.heap.size = A at hD hB ⊢
  have hA : ∀ q : Nat, s.heap.size ≤ q → A q := fun q h => by rw [← hAe]; exact Or.inr h
  have hS : va_S A s.heap s.heap [] := va_S.rf
  have hl := lv_entry ([.ref (ad 0), .int (nI k), .int b]) (n := 3) (Nat.le_of_ble_eq_true rfl)
  rw [lg_entry_eq]
  generalize (lg_sl ([.ref (ad 0), .int (nI k), .int b]) ++ List.replicate (3 - (lg_sl ([.ref (ad 0), .int (nI k), .int b])).length) Slot.unset).toArray = ls at hl ⊢
  have hl : lv_has ls 3 [(0, .ref (ad 0)), (1, .int (nI k)), (2, .int b)] := hl
  refine lv_aload_n hx hb dX0_takeIn_0 rfl (lv_at hl 0 rfl) ?_
  refine va_get hx hb hts hin hown hK hP 0 rfl rfl 0 (by decide) (hts (.fieldLink RX0 11 "KeccakLanes" "lanes" "[[J") (by decide +kernel)) (fun _ h => h) rfl dX0_takeIn_1 ?_
  refine lv_iload_n hx hb dX0_takeIn_4 rfl (lv_at hl 1 rfl) ?_
  refine kr_aald hx hb hK hP 1 0 rfl rfl (n := k) (y := ad (5 + k)) (by omega) (by omega) (if_pos (by omega)) dX0_takeIn_5 ?_
  refine lv_aload_n hx hb dX0_takeIn_6 rfl (lv_at hl 0 rfl) ?_
  refine va_get hx hb hts hin hown hK hP 0 rfl rfl 1 (by decide) (hts (.fieldLink RX0 14 "KeccakLanes" "places" "[I") (by decide +kernel)) (fun _ h => h) rfl dX0_takeIn_7 ?_
  refine lv_iload_n hx hb dX0_takeIn_10 rfl (lv_at hl 1 rfl) ?_
  refine kr_iald hx hb hK hP 2 1 rfl rfl (n := k) (by omega) (by omega) dX0_takeIn_11 ?_
  rw [va_up_self]
  refine lv_iload_n hx hb dX0_takeIn_12 rfl (lv_at hl 2 rfl) ?_
  refine kr_callv (va_runS (As := [.ref (ad (5 + k)), .int (nI q), .int b]) (rest := []) ⟨hx, hb, hml, hown, hts⟩ (kc_joinByte l D ct ad tb M (va_up Pl k q) C V _ g hk hq0 b) (va_cwS 3 hts gX0_takeIn_X0_joinByte rfl rfl rfl (by decide +kernel) ⟨Nat.le_of_ble_eq_true rfl, Nat.le_of_ble_eq_true rfl⟩) (kr_preS (kw_Bok tb) _ hP hK hD hB hS hA) rfl rfl hl.1 rfl (lv_room (Nat.le_of_ble_eq_true rfl)) dX0_takeIn_13 ⟨Nat.zero_le _, Nat.zero_le _⟩) hD hS hA (fun u H locs hq hP hD hS => ?_)
  have hP : va_P D vwCl (kw_X ct ad (va_up M k (kk_join g q (kk_bt b))) (va_up Pl k q) C V) H := hP
  have hD : va_D A (kw_X ct ad (va_up M k (kk_join g q (kk_bt b))) (va_up Pl k q) C V) := hD
  refine lv_aload_n hx hb dX0_takeIn_16 rfl (lv_at hl 0 rfl) ?_
  refine va_get hx hb hts hin hown hK hP 0 rfl rfl 1 (by decide) (hts (.fieldLink RX0 14 "KeccakLanes" "places" "[I") (by decide +kernel)) (fun _ h => h) rfl dX0_takeIn_17 ?_
  refine lv_iload_n hx hb dX0_takeIn_20 rfl (lv_at hl 1 rfl) ?_
  refine lv_dup2_11 hx hb dX0_takeIn_21 rfl rfl ?_
  refine kr_iald hx hb hK hP 2 1 rfl rfl (n := k) (by omega) (by omega) dX0_takeIn_22 ?_
  rw [va_up_self]
  refine lv_iconst (v := nI 1) hx hb dX0_takeIn_23 rfl ?_
  refine kr_iadd hx hb dX0_takeIn_24 ?_
  refine kr_iast hx hb hK hP hD hS 2 1 rfl rfl (n := k) (by omega) (by omega) ((kw_XsP k (q + 1)).trans (by rw [bx_uu])) dX0_takeIn_25 (fun H locs hP hD hS => ?_)
  have hP : va_P D vwCl (kw_X ct ad (va_up M k (kk_join g q (kk_bt b))) (va_up Pl k (q + 1)) C V) H := hP
  have hD : va_D A (kw_X ct ad (va_up M k (kk_join g q (kk_bt b))) (va_up Pl k (q + 1)) C V) := hD
  refine lv_aload_n hx hb dX0_takeIn_26 rfl (lv_at hl 0 rfl) ?_
  refine va_get hx hb hts hin hown hK hP 0 rfl rfl 1 (by decide) (hts (.fieldLink RX0 14 "KeccakLanes" "places" "[I") (by decide +kernel)) (fun _ h => h) rfl dX0_takeIn_27 ?_
  refine lv_iload_n hx hb dX0_takeIn_30 rfl (lv_at hl 1 rfl) ?_
  refine kr_iald hx hb hK hP 2 1 rfl rfl (n := k) (by omega) (by omega) dX0_takeIn_31 ?_
  rw [va_up_self]
  refine lv_sipush (v := nI 136) hx hb dX0_takeIn_32 (by decide +kernel) ?_
  refine kr_icmp_ne (tgt := 55) hx hb (by omega) (by omega) dX0_takeIn_35 rfl (fun hc => ?_) (fun hc => ?_)
  · have e9 : kk_in (g, q) b = (kk_join g q (kk_bt b), q + 1) := if_neg hc
    refine W.vret hx hb hr (fun t ht hW => ⟨⟨(C, V), rfl, trivial, ?_, va_K.moved hW.alike hK, ?_⟩, hS.F ht⟩) hS.2.2 dX0_takeIn_55
    · rw [ht]; show va_P D vwCl (kw_X ct ad (va_up M k (kk_in (g, q) b).1) (va_up Pl k (kk_in (g, q) b).2) C V) H; rw [e9]; exact hP
    · show va_D A (kw_X ct ad (va_up M k (kk_in (g, q) b).1) (va_up Pl k (kk_in (g, q) b).2) C V); rw [e9]; exact hD
  · have e9 : kk_in (g, q) b = (kk_mix (kk_join g q (kk_bt b)), 0) := if_pos hc
    refine lv_aload_n hx hb dX0_takeIn_38 rfl (lv_at hl 0 rfl) ?_
    refine lv_aload_n hx hb dX0_takeIn_39 rfl (lv_at hl 0 rfl) ?_
    refine va_get hx hb hts hin hown hK hP 0 rfl rfl 0 (by decide) (hts (.fieldLink RX0 11 "KeccakLanes" "lanes" "[[J") (by decide +kernel)) (fun _ h => h) rfl dX0_takeIn_40 ?_
    refine lv_iload_n hx hb dX0_takeIn_43 rfl (lv_at hl 1 rfl) ?_
    refine kr_aald hx hb hK hP 1 0 rfl rfl (n := k) (y := ad (5 + k)) (by omega) (by omega) (if_pos (by omega)) dX0_takeIn_44 ?_
    refine kr_callv (va_runV (As := [.ref (ad (5 + k))]) (rest := []) ⟨hx, hb, hml, hown, hts⟩ (kc_mixLanes l D ct ad tb M (va_up Pl k (q + 1)) C V _ (kk_join g q (kk_bt b)) hk) (cwV 1 hts gX0_takeIn_X0_mixLanes rfl rfl rfl (by decide +kernel) ⟨Nat.le_of_ble_eq_true rfl, Nat.le_of_ble_eq_true rfl⟩) (kr_preV (kw_Bok tb) (q := (RX0, TX0, 4)) (q0 := 0) (ci := 0) _ hP hK hD hB hS hA rfl rfl rfl) rfl rfl hl.1 rfl (lv_room (Nat.le_of_ble_eq_true rfl)) dX0_takeIn_45 ⟨Nat.zero_le _, Nat.zero_le _⟩) hD hS hA (fun u H locs hq hP hD hS => ?_)
    have hP : va_P D vwCl (kw_X ct ad (va_up M k (kk_mix (kk_join g q (kk_bt b)))) (va_up Pl k (q + 1)) u.1 u.2) H := hP
    have hD : va_D A (kw_X ct ad (va_up M k (kk_mix (kk_join g q (kk_bt b)))) (va_up Pl k (q + 1)) u.1 u.2) := hD
    refine lv_aload_n hx hb dX0_takeIn_48 rfl (lv_at hl 0 rfl) ?_
    refine va_get hx hb hts hin hown hK hP 0 rfl rfl 1 (by decide) (hts (.fieldLink RX0 14 "KeccakLanes" "places" "[I") (by decide +kernel)) (fun _ h => h) rfl dX0_takeIn_49 ?_
    refine lv_iload_n hx hb dX0_takeIn_52 rfl (lv_at hl 1 rfl) ?_
    refine lv_iconst (v := nI 0) hx hb dX0_takeIn_53 rfl ?_
    refine kr_iast hx hb hK hP hD hS 2 1 rfl rfl (n := k) (by omega) (by omega) ((kw_XsP k 0).trans (by rw [bx_uu])) dX0_takeIn_54 (fun H locs hP hD hS => ?_)
    have hP : va_P D vwCl (kw_X ct ad (va_up M k (kk_mix (kk_join g q (kk_bt b)))) (va_up Pl k 0) u.1 u.2) H := hP
    have hD : va_D A (kw_X ct ad (va_up M k (kk_mix (kk_join g q (kk_bt b)))) (va_up Pl k 0) u.1 u.2) := hD
    refine W.vret hx hb hr (fun t ht hW => ⟨⟨u, rfl, trivial, ?_, va_K.moved hW.alike hK, ?_⟩, hS.F ht⟩) hS.2.2 dX0_takeIn_55
    · rw [ht]; show va_P D vwCl (kw_X ct ad (va_up M k (kk_in (g, q) b).1) (va_up Pl k (kk_in (g, q) b).2) u.1 u.2) H; rw [e9]; exact hP
    · show va_D A (kw_X ct ad (va_up M k (kk_in (g, q) b).1) (va_up Pl k (kk_in (g, q) b).2) u.1 u.2); rw [e9]; exact hD
