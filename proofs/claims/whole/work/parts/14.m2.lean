/-! KeccakLanesModel.permute -/
set_option maxHeartbeats 4000000 in
set_option maxRecDepth 100000 in
theorem km_permute (l : Launch) (D : va_G) (ct : Nat → ClassId) (ad : Nat → Nat) (F : Int32) (M : Nat → Nat → Int64) (Pl : Nat → Nat) (L C V K : Nat → Int64) (sz : Nat) (f : Nat → Int64) : Met l yX1_permute wsM_permute ({ frames := 1, cells := 0, slots := 0, locals := 22 }) (kr_P D vwCl (kw_T ct) kw_N [.ref (ad 0)] (kw_M ct ad F M Pl f C V kk_rc) sz) (va_Qv (S := ((Nat → Int64) × (Nat → Int64))) (fun _ => True) (kr_B D vwCl (kw_T ct) (fun u => kw_M ct ad F M Pl (kk_mix f) u.1 u.2 kk_rc) (va_A (kw_M ct ad F M Pl f C V kk_rc) sz)) (va_A (kw_M ct ad F M Pl f C V kk_rc) sz)) 0 0 (va_A (kw_M ct ad F M Pl f C V kk_rc) sz) := by
  refine Met.ofW (cc := cX1_permute) (maxL := 6) (ret := none) (by decide) rfl ?_
  intro p e s m args below meth c s₁ B hml hv
  obtain ⟨rfl, hsz, hP, hK, hD0, hB⟩ := hv
  have hx := B.exec
  have hb := B.bytes
  have hr := B.returns
  have hts := atoms_spec (ws := wsM_permute) B.pre
  have hown : s.vm.findClass RX1 = some m.cls := findClass_of_methodNamed B.named
  have hlocks := B.notSynchronized
  have hin : ∀ w ∈ u_ws RX1 TX1 7, w ∈ wsM_permute := fun w h => List.mem_cons_of_mem _ (kM_in w h)
  subst hsz
  have hD := hD0.self (sz := s.heap.size)
  generalize hAe : va_A (kw_M ct ad F M Pl f C V kk_rc) s.heap.size = A at hD hB ⊢
  have hA : ∀ q : Nat, s.heap.size ≤ q → A q := fun q h => by rw [← hAe]; exact Or.inr h
  have hS : va_S A s.heap s.heap [] := va_S.rf
  have hl := lv_entry ([.ref (ad 0)]) (n := 6) (Nat.le_of_ble_eq_true rfl)
  rw [lg_entry_eq]
  generalize (lg_sl ([.ref (ad 0)]) ++ List.replicate (6 - (lg_sl ([.ref (ad 0)])).length) Slot.unset).toArray = ls at hl ⊢
  have hl : lv_has ls 6 [(0, .ref (ad 0))] := hl
  have la : ∀ (Q : State → Prop) (i : Nat) (g V : Nat → Int64), (∀ (H : Heap) (locs : List Loc) (ls : Array Slot), lv_has ls 6 [(2, .int (nI 5)), (1, .int (nI i)), (0, .ref (ad 0))] → va_P D vwCl (kw_M ct ad F M Pl g (kk_col g) V kk_rc) H → va_D A (kw_M ct ad F M Pl g (kk_col g) V kk_rc) → va_S A s.heap H locs → W p l e (headSpec wsM_permute ({ frames := 1, cells := 0, slots := 0, locals := 22 })).room s m (([.ref (ad 0)] : List Value).toArray) below meth c H locs 0 0 Q (F0 m 72 ls [])) → ∀ (n a : Nat) (C : Nat → Int64) (H : Heap) (locs : List Loc) (ls : Array Slot), 5 - a < n → a ≤ 5 → (∀ u, u < a → C u = kk_col g u) → lv_has ls 6 [(2, .int (nI a)), (1, .int (nI i)), (0, .ref (ad 0))] → va_P D vwCl (kw_M ct ad F M Pl g C V kk_rc) H → va_D A (kw_M ct ad F M Pl g C V kk_rc) → va_S A s.heap H locs → W p l e (headSpec wsM_permute ({ frames := 1, cells := 0, slots := 0, locals := 22 })).room s m (([.ref (ad 0)] : List Value).toArray) below meth c H locs 0 0 Q (F0 m 10 ls []) := by
    intro Q i g V hend n
    induction n with
    | zero => intro a C H locs ls h; omega
    | succ n ih =>
      intro a C H locs ls hn ha hinv hl hP hD hS
      refine lv_iload_n hx hb dX1_permute_10 rfl (lv_at hl 0 rfl) ?_
      refine lv_iconst (v := nI 5) hx hb dX1_permute_11 rfl ?_
      refine kr_icmp_ge (tgt := 72) hx hb (by omega) (by omega) dX1_permute_12 rfl (fun hc => ?_) (fun hc => ?_)
      · obtain rfl : a = 5 := by omega
        exact hend H locs ls hl (kr_sameL (q0 := 4) hP rfl hinv rfl) (kr_sameD (q0 := 4) hD rfl rfl) hS
      · have ha5 : a < 5 := hc
        refine lv_aload_n hx hb dX1_permute_15 rfl (lv_at hl 2 rfl) ?_
        refine va_get hx hb hts hin hown hK hP 0 rfl rfl 4 (by decide) (hts (.fieldLink RX1 1 "KeccakLanesModel" "column" "[J") (by decide +kernel)) (fun _ h => h) rfl dX1_permute_16 ?_
        refine lv_iload_n hx hb dX1_permute_19 rfl (lv_at hl 0 rfl) ?_
        refine lv_aload_n hx hb dX1_permute_20 rfl (lv_at hl 2 rfl) ?_
        refine va_get hx hb hts hin hown hK hP 0 rfl rfl 3 (by decide) (hts (.fieldLink RX1 7 "KeccakLanesModel" "lanes" "[J") (by decide +kernel)) (fun _ h => h) rfl dX1_permute_21 ?_
        refine lv_iload_n hx hb dX1_permute_24 rfl (lv_at hl 0 rfl) ?_
        refine kr_lald hx hb hK hP 3 2 rfl rfl (n := a) (by omega) (by omega) dX1_permute_25 ?_
        refine lv_aload_n hx hb dX1_permute_26 rfl (lv_at hl 2 rfl) ?_
        refine va_get hx hb hts hin hown hK hP 0 rfl rfl 3 (by decide) (hts (.fieldLink RX1 7 "KeccakLanesModel" "lanes" "[J") (by decide +kernel)) (fun _ h => h) rfl dX1_permute_27 ?_
        refine lv_iload_n hx hb dX1_permute_30 rfl (lv_at hl 0 rfl) ?_
        refine lv_iconst (v := nI 5) hx hb dX1_permute_31 rfl ?_
        refine kr_iadd hx hb dX1_permute_32 ?_
        refine kr_lald hx hb hK hP 3 2 rfl rfl (n := a + 5) (by omega) (by omega) dX1_permute_33 ?_
        refine lv_lxor hx hb dX1_permute_34 ?_
        refine lv_aload_n hx hb dX1_permute_35 rfl (lv_at hl 2 rfl) ?_
        refine va_get hx hb hts hin hown hK hP 0 rfl rfl 3 (by decide) (hts (.fieldLink RX1 7 "KeccakLanesModel" "lanes" "[J") (by decide +kernel)) (fun _ h => h) rfl dX1_permute_36 ?_
        refine lv_iload_n hx hb dX1_permute_39 rfl (lv_at hl 0 rfl) ?_
        refine lv_bipush (v := nI 10) hx hb dX1_permute_40 (by decide +kernel) ?_
        refine kr_iadd hx hb dX1_permute_42 ?_
        refine kr_lald hx hb hK hP 3 2 rfl rfl (n := a + 10) (by omega) (by omega) dX1_permute_43 ?_
        refine lv_lxor hx hb dX1_permute_44 ?_
        refine lv_aload_n hx hb dX1_permute_45 rfl (lv_at hl 2 rfl) ?_
        refine va_get hx hb hts hin hown hK hP 0 rfl rfl 3 (by decide) (hts (.fieldLink RX1 7 "KeccakLanesModel" "lanes" "[J") (by decide +kernel)) (fun _ h => h) rfl dX1_permute_46 ?_
        refine lv_iload_n hx hb dX1_permute_49 rfl (lv_at hl 0 rfl) ?_
        refine lv_bipush (v := nI 15) hx hb dX1_permute_50 (by decide +kernel) ?_
        refine kr_iadd hx hb dX1_permute_52 ?_
        refine kr_lald hx hb hK hP 3 2 rfl rfl (n := a + 15) (by omega) (by omega) dX1_permute_53 ?_
        refine lv_lxor hx hb dX1_permute_54 ?_
        refine lv_aload_n hx hb dX1_permute_55 rfl (lv_at hl 2 rfl) ?_
        refine va_get hx hb hts hin hown hK hP 0 rfl rfl 3 (by decide) (hts (.fieldLink RX1 7 "KeccakLanesModel" "lanes" "[J") (by decide +kernel)) (fun _ h => h) rfl dX1_permute_56 ?_
        refine lv_iload_n hx hb dX1_permute_59 rfl (lv_at hl 0 rfl) ?_
        refine lv_bipush (v := nI 20) hx hb dX1_permute_60 (by decide +kernel) ?_
        refine kr_iadd hx hb dX1_permute_62 ?_
        refine kr_lald hx hb hK hP 3 2 rfl rfl (n := a + 20) (by omega) (by omega) dX1_permute_63 ?_
        refine lv_lxor hx hb dX1_permute_64 ?_
        refine kr_last (w := kw_M ct ad F M Pl g (vp_updL C a (((((g a) ^^^ (g (a + 5))) ^^^ (g (a + 10))) ^^^ (g (a + 15))) ^^^ (g (a + 20)))) V kk_rc) hx hb hK hP hD hS 4 2 rfl rfl (n := a) (by omega) (by omega) rfl dX1_permute_65 (fun H locs hP hD hS => ?_)
        refine lv_iinc (k := 0) (v := nI (a + 1)) hx hb dX1_permute_66 hl rfl (nI_add a 1) (Nat.le_of_ble_eq_true rfl) rfl (fun ls hl => ?_)
        have hl : lv_has ls 6 [(2, .int (nI (a + 1))), (1, .int (nI i)), (0, .ref (ad 0))] := hl
        refine lv_goto (tgt := 10) hx hb dX1_permute_69 rfl ?_
        refine ih (a + 1) _ H locs ls (by omega) (by omega) (fun u hu => ?_) hl hP hD hS
        by_cases e9 : u = a
        · subst e9; rw [pk_uLs]; rfl
        · rw [pk_uLn e9]; exact hinv u (by omega)
  have lb : ∀ (Q : State → Prop) (i a : Nat) (g V : Nat → Int64) (ha5 : a < 5), (∀ (H : Heap) (locs : List Loc) (ls : Array Slot), lv_has ls 6 [(2, .int (nI a)), (1, .int (nI i)), (0, .ref (ad 0))] → va_P D vwCl (kw_M ct ad F M Pl (kk_th g (a + 1) 0) (kk_col g) V kk_rc) H → va_D A (kw_M ct ad F M Pl (kk_th g (a + 1) 0) (kk_col g) V kk_rc) → va_S A s.heap H locs → W p l e (headSpec wsM_permute ({ frames := 1, cells := 0, slots := 0, locals := 22 })).room s m (([.ref (ad 0)] : List Value).toArray) below meth c H locs 0 0 Q (F0 m 134 ls [])) → ∀ (n b : Nat) (H : Heap) (locs : List Loc) (ls : Array Slot), 5 - b < n → b ≤ 5 → lv_has ls 6 [(5, .int (nI (5 * b))), (3, .long (kk_d g a)), (2, .int (nI a)), (1, .int (nI i)), (0, .ref (ad 0))] → va_P D vwCl (kw_M ct ad F M Pl (kk_th g a b) (kk_col g) V kk_rc) H → va_D A (kw_M ct ad F M Pl (kk_th g a b) (kk_col g) V kk_rc) → va_S A s.heap H locs → W p l e (headSpec wsM_permute ({ frames := 1, cells := 0, slots := 0, locals := 22 })).room s m (([.ref (ad 0)] : List Value).toArray) below meth c H locs 0 0 Q (F0 m 108 ls []) := by
    intro Q i a g V ha5 hend n
    induction n with
    | zero => intro b H locs ls h; omega
    | succ n ih =>
      intro b H locs ls hn hb5 hl hP hD hS
      refine lv_iload hx hb dX1_permute_108 (lv_at hl 0 rfl) ?_
      refine lv_bipush (v := nI 25) hx hb dX1_permute_110 (by decide +kernel) ?_
      refine kr_icmp_ge (tgt := 134) hx hb (by omega) (by omega) dX1_permute_112 rfl (fun hc => ?_) (fun hc => ?_)
      · obtain rfl : b = 5 := by omega
        exact hend H locs ls (lv_sub hl [2, 3, 4] rfl) (kr_sameL (q0 := 3) hP rfl (fun j hj => kk_th_next g hj) rfl) (kr_sameD (q0 := 3) hD rfl rfl) hS
      · have hb4 : b < 5 := by omega
        refine lv_aload_n hx hb dX1_permute_115 rfl (lv_at hl 4 rfl) ?_
        refine va_get hx hb hts hin hown hK hP 0 rfl rfl 3 (by decide) (hts (.fieldLink RX1 7 "KeccakLanesModel" "lanes" "[J") (by decide +kernel)) (fun _ h => h) rfl dX1_permute_116 ?_
        refine lv_iload hx hb dX1_permute_119 (lv_at hl 0 rfl) ?_
        refine lv_iload_n hx hb dX1_permute_121 rfl (lv_at hl 2 rfl) ?_
        refine kr_iadd hx hb dX1_permute_122 ?_
        refine lv_dup2_11 hx hb dX1_permute_123 rfl rfl ?_
        refine kr_lald hx hb hK hP 3 2 rfl rfl (n := (5 * b) + a) (by omega) (by omega) dX1_permute_124 ?_
        refine lv_lload_n hx hb dX1_permute_125 rfl (lv_at hl 1 rfl) ?_
        refine lv_lxor hx hb dX1_permute_126 ?_
        refine kr_last (w := kw_M ct ad F M Pl (vp_updL (kk_th g a b) ((5 * b) + a) (((kk_th g a b) ((5 * b) + a)) ^^^ (kk_d g a))) (kk_col g) V kk_rc) hx hb hK hP hD hS 3 2 rfl rfl (n := (5 * b) + a) (by omega) (by omega) rfl dX1_permute_127 (fun H locs hP hD hS => ?_)
        rw [kk_th_step g ha5] at hP hD
        refine lv_iinc (k := 0) (v := nI ((5 * b) + 5)) hx hb dX1_permute_128 hl rfl (nI_add (5 * b) 5) (Nat.le_of_ble_eq_true rfl) rfl (fun ls hl => ?_)
        have hl : lv_has ls 6 [(5, .int (nI ((5 * b) + 5))), (3, .long (kk_d g a)), (2, .int (nI a)), (1, .int (nI i)), (0, .ref (ad 0))] := hl
        refine lv_goto (tgt := 108) hx hb dX1_permute_131 rfl ?_
        exact ih (b + 1) H locs ls (by omega) (by omega) hl hP hD hS
  have lc : ∀ (Q : State → Prop) (i : Nat) (g V : Nat → Int64), (∀ (H : Heap) (locs : List Loc) (ls : Array Slot), lv_has ls 6 [(2, .int (nI 5)), (1, .int (nI i)), (0, .ref (ad 0))] → va_P D vwCl (kw_M ct ad F M Pl (kk_tt g) (kk_col g) V kk_rc) H → va_D A (kw_M ct ad F M Pl (kk_tt g) (kk_col g) V kk_rc) → va_S A s.heap H locs → W p l e (headSpec wsM_permute ({ frames := 1, cells := 0, slots := 0, locals := 22 })).room s m (([.ref (ad 0)] : List Value).toArray) below meth c H locs 0 0 Q (F0 m 140 ls [])) → ∀ (n a : Nat) (H : Heap) (locs : List Loc) (ls : Array Slot), 5 - a < n → a ≤ 5 → lv_has ls 6 [(2, .int (nI a)), (1, .int (nI i)), (0, .ref (ad 0))] → va_P D vwCl (kw_M ct ad F M Pl (kk_th g a 0) (kk_col g) V kk_rc) H → va_D A (kw_M ct ad F M Pl (kk_th g a 0) (kk_col g) V kk_rc) → va_S A s.heap H locs → W p l e (headSpec wsM_permute ({ frames := 1, cells := 0, slots := 0, locals := 22 })).room s m (([.ref (ad 0)] : List Value).toArray) below meth c H locs 0 0 Q (F0 m 74 ls []) := by
    intro Q i g V hend n
    induction n with
    | zero => intro a H locs ls h; omega
    | succ n ih =>
      intro a H locs ls hn ha hl hP hD hS
      refine lv_iload_n hx hb dX1_permute_74 rfl (lv_at hl 0 rfl) ?_
      refine lv_iconst (v := nI 5) hx hb dX1_permute_75 rfl ?_
      refine kr_icmp_ge (tgt := 140) hx hb (by omega) (by omega) dX1_permute_76 rfl (fun hc => ?_) (fun hc => ?_)
      · obtain rfl : a = 5 := by omega
        exact hend H locs ls hl (kr_sameL (q0 := 3) hP rfl (fun j hj => kk_th_end g j) rfl) (kr_sameD (q0 := 3) hD rfl rfl) hS
      · have ha5 : a < 5 := hc
        refine lv_aload_n hx hb dX1_permute_79 rfl (lv_at hl 2 rfl) ?_
        refine va_get hx hb hts hin hown hK hP 0 rfl rfl 4 (by decide) (hts (.fieldLink RX1 1 "KeccakLanesModel" "column" "[J") (by decide +kernel)) (fun _ h => h) rfl dX1_permute_80 ?_
        refine lv_iload_n hx hb dX1_permute_83 rfl (lv_at hl 0 rfl) ?_
        refine lv_iconst (v := nI 4) hx hb dX1_permute_84 rfl ?_
        refine kr_iadd hx hb dX1_permute_85 ?_
        refine lv_iconst (v := nI 5) hx hb dX1_permute_86 rfl ?_
        refine kr_irem hx hb (by omega) (by omega) (by omega) dX1_permute_87 ?_
        refine kr_lald hx hb hK hP 4 2 rfl rfl (n := (a + 4) % 5) (by omega) (by omega) dX1_permute_88 ?_
        refine lv_aload_n hx hb dX1_permute_89 rfl (lv_at hl 2 rfl) ?_
        refine va_get hx hb hts hin hown hK hP 0 rfl rfl 4 (by decide) (hts (.fieldLink RX1 1 "KeccakLanesModel" "column" "[J") (by decide +kernel)) (fun _ h => h) rfl dX1_permute_90 ?_
        refine lv_iload_n hx hb dX1_permute_93 rfl (lv_at hl 0 rfl) ?_
        refine lv_iconst (v := nI 1) hx hb dX1_permute_94 rfl ?_
        refine kr_iadd hx hb dX1_permute_95 ?_
        refine lv_iconst (v := nI 5) hx hb dX1_permute_96 rfl ?_
        refine kr_irem hx hb (by omega) (by omega) (by omega) dX1_permute_97 ?_
        refine kr_lald hx hb hK hP 4 2 rfl rfl (n := (a + 1) % 5) (by omega) (by omega) dX1_permute_98 ?_
        refine lv_iconst (v := nI 1) hx hb dX1_permute_99 rfl ?_
        refine kr_calll (va_runS (As := [.long ((kk_col g) ((a + 1) % 5)), .int (nI 1)]) (rest := [.long ((kk_col g) ((a + 4) % 5))]) ⟨hx, hb, hml, hown, hts⟩ (kc_rot l D ct ad F M Pl (kk_th g a 0) (kk_col g) V kk_rc _ ((kk_col g) ((a + 1) % 5)) (nI 1)) (va_cwS 2 hts kM_gr rfl rfl rfl (by decide +kernel) ⟨Nat.le_of_ble_eq_true rfl, Nat.le_of_ble_eq_true rfl⟩) (kr_preS kw_Nok _ hP hK hD hB hS hA) rfl rfl hl.1 rfl (lv_room (Nat.le_of_ble_eq_true rfl)) dX1_permute_100 ⟨Nat.zero_le _, Nat.zero_le _⟩) hD hS hA (fun r u H locs hq hP hD hS => ?_)
        obtain rfl : r = kk_rl ((kk_col g) ((a + 1) % 5)) (nI 1) := hq
        have hP : va_P D vwCl (kw_M ct ad F M Pl (kk_th g a 0) (kk_col g) V kk_rc) H := hP
        have hD : va_D A (kw_M ct ad F M Pl (kk_th g a 0) (kk_col g) V kk_rc) := hD
        rw [kk_rl_tl _ (k := 1) (by omega)]
        refine lv_lxor hx hb dX1_permute_103 ?_
        refine lv_lstore_n hx hb dX1_permute_104 rfl hl (Nat.le_of_ble_eq_true rfl) rfl (fun ls hl => ?_)
        have hl : lv_has ls 6 [(3, .long (((kk_col g) ((a + 4) % 5)) ^^^ (kk_tl ((kk_col g) ((a + 1) % 5)) (nI 1)))), (2, .int (nI a)), (1, .int (nI i)), (0, .ref (ad 0))] := hl
        refine lv_iconst (v := nI 0) hx hb dX1_permute_105 rfl ?_
        refine lv_istore hx hb dX1_permute_106 hl (Nat.le_of_ble_eq_true rfl) rfl (fun ls hl => ?_)
        have hl : lv_has ls 6 [(5, .int (nI 0)), (3, .long (((kk_col g) ((a + 4) % 5)) ^^^ (kk_tl ((kk_col g) ((a + 1) % 5)) (nI 1)))), (2, .int (nI a)), (1, .int (nI i)), (0, .ref (ad 0))] := hl
        have hl : lv_has ls 6 [(5, .int (nI (5 * 0))), (3, .long (kk_d g a)), (2, .int (nI a)), (1, .int (nI i)), (0, .ref (ad 0))] := lv_sub hl [0, 1, 2, 3, 4] rfl
        refine lb Q i a g V ha5 (fun H locs ls hl hP hD hS => ?_) 6 0 H locs ls (by omega) (by omega) hl hP hD hS
        refine lv_iinc (k := 0) (v := nI (a + 1)) hx hb dX1_permute_134 hl rfl (nI_add a 1) (Nat.le_of_ble_eq_true rfl) rfl (fun ls hl => ?_)
        have hl : lv_has ls 6 [(2, .int (nI (a + 1))), (1, .int (nI i)), (0, .ref (ad 0))] := hl
        refine lv_goto (tgt := 74) hx hb dX1_permute_137 rfl ?_
        exact ih (a + 1) H locs ls (by omega) (by omega) hl hP hD hS
  have lt : ∀ (Q : State → Prop) (i : Nat) (g C : Nat → Int64), (∀ (H : Heap) (locs : List Loc) (ls : Array Slot), lv_has ls 6 [(4, .int (nI 24)), (3, .int (nI (kk_wy 24))), (2, .int (nI (kk_wx 24))), (1, .int (nI i)), (0, .ref (ad 0))] → va_P D vwCl (kw_M ct ad F M Pl (kk_tt g) C (kk_mv g) kk_rc) H → va_D A (kw_M ct ad F M Pl (kk_tt g) C (kk_mv g) kk_rc) → va_S A s.heap H locs → W p l e (headSpec wsM_permute ({ frames := 1, cells := 0, slots := 0, locals := 22 })).room s m (([.ref (ad 0)] : List Value).toArray) below meth c H locs 0 0 Q (F0 m 226 ls [])) → ∀ (n t : Nat) (V : Nat → Int64) (H : Heap) (locs : List Loc) (ls : Array Slot), 24 - t < n → t ≤ 24 → V 0 = kk_tt g 0 → (∀ u, u < t → V (kk_wt u) = kk_rl (kk_tt g (kk_ws u)) (nI ((u + 1) * (u + 2) / 2 % 64))) → lv_has ls 6 [(4, .int (nI t)), (3, .int (nI (kk_wy t))), (2, .int (nI (kk_wx t))), (1, .int (nI i)), (0, .ref (ad 0))] → va_P D vwCl (kw_M ct ad F M Pl (kk_tt g) C V kk_rc) H → va_D A (kw_M ct ad F M Pl (kk_tt g) C V kk_rc) → va_S A s.heap H locs → W p l e (headSpec wsM_permute ({ frames := 1, cells := 0, slots := 0, locals := 22 })).room s m (([.ref (ad 0)] : List Value).toArray) below meth c H locs 0 0 Q (F0 m 159 ls []) := by
    intro Q i g C hend n
    induction n with
    | zero => intro t V H locs ls h; omega
    | succ n ih =>
      intro t V H locs ls hn ht hv0 hinv hl hP hD hS
      refine lv_iload hx hb dX1_permute_159 (lv_at hl 0 rfl) ?_
      refine lv_bipush (v := nI 24) hx hb dX1_permute_161 (by decide +kernel) ?_
      refine kr_icmp_ge (tgt := 226) hx hb (by omega) (by omega) dX1_permute_163 rfl (fun hc => ?_) (fun hc => ?_)
      · obtain rfl : t = 24 := by omega
        exact hend H locs ls hl (kr_sameL (q0 := 5) hP rfl (kk_mv_of hv0 hinv) rfl) (kr_sameD (q0 := 5) hD rfl rfl) hS
      · have ht24 : t < 24 := hc
        obtain ⟨w1, w2⟩ := kk_w_lt t (by omega)
        obtain ⟨w3, w4⟩ := kk_w_lt (t + 1) (by omega)
        have hmul : (t + 1) * (t + 2) < 2 ^ 31 := by have h9 := Nat.mul_le_mul (show t + 1 ≤ 24 by omega) (show t + 2 ≤ 25 by omega); omega
        refine lv_iconst (v := nI 2) hx hb dX1_permute_166 rfl ?_
        refine lv_iload_n hx hb dX1_permute_167 rfl (lv_at hl 2 rfl) ?_
        refine kr_imul hx hb dX1_permute_168 ?_
        refine lv_iconst (v := nI 3) hx hb dX1_permute_169 rfl ?_
        refine lv_iload_n hx hb dX1_permute_170 rfl (lv_at hl 1 rfl) ?_
        refine kr_imul hx hb dX1_permute_171 ?_
        refine kr_iadd hx hb dX1_permute_172 ?_
        refine lv_iconst (v := nI 5) hx hb dX1_permute_173 rfl ?_
        refine kr_irem hx hb (by omega) (by omega) (by omega) dX1_permute_174 ?_
        refine lv_istore hx hb dX1_permute_175 hl (Nat.le_of_ble_eq_true rfl) rfl (fun ls hl => ?_)
        have hl : lv_has ls 6 [(5, .int (nI (((2 * (kk_wx t)) + (3 * (kk_wy t))) % 5))), (4, .int (nI t)), (3, .int (nI (kk_wy t))), (2, .int (nI (kk_wx t))), (1, .int (nI i)), (0, .ref (ad 0))] := hl
        have hz : (2 * kk_wx t + 3 * kk_wy t) % 5 = kk_wy (t + 1) := (kk_w_y t ht24).symm
        rw [hz] at hl
        have hl : lv_has ls 6 [(5, .int (nI (kk_wy (t + 1)))), (4, .int (nI t)), (3, .int (nI (kk_wy t))), (2, .int (nI (kk_wx t))), (1, .int (nI i)), (0, .ref (ad 0))] := hl
        refine lv_aload_n hx hb dX1_permute_177 rfl (lv_at hl 5 rfl) ?_
        refine va_get hx hb hts hin hown hK hP 0 rfl rfl 5 (by decide) (hts (.fieldLink RX1 16 "KeccakLanesModel" "moved" "[J") (by decide +kernel)) (fun _ h => h) rfl dX1_permute_178 ?_
        refine lv_iconst (v := nI 5) hx hb dX1_permute_181 rfl ?_
        refine lv_iload hx hb dX1_permute_182 (lv_at hl 0 rfl) ?_
        refine kr_imul hx hb dX1_permute_184 ?_
        refine lv_iload_n hx hb dX1_permute_185 rfl (lv_at hl 2 rfl) ?_
        refine kr_iadd hx hb dX1_permute_186 ?_
        refine lv_aload_n hx hb dX1_permute_187 rfl (lv_at hl 5 rfl) ?_
        refine va_get hx hb hts hin hown hK hP 0 rfl rfl 3 (by decide) (hts (.fieldLink RX1 7 "KeccakLanesModel" "lanes" "[J") (by decide +kernel)) (fun _ h => h) rfl dX1_permute_188 ?_
        refine lv_iconst (v := nI 5) hx hb dX1_permute_191 rfl ?_
        refine lv_iload_n hx hb dX1_permute_192 rfl (lv_at hl 2 rfl) ?_
        refine kr_imul hx hb dX1_permute_193 ?_
        refine lv_iload_n hx hb dX1_permute_194 rfl (lv_at hl 3 rfl) ?_
        refine kr_iadd hx hb dX1_permute_195 ?_
        refine kr_lald hx hb hK hP 3 2 rfl rfl (n := (5 * (kk_wy t)) + (kk_wx t)) (by omega) (by omega) dX1_permute_196 ?_
        refine lv_iload hx hb dX1_permute_197 (lv_at hl 1 rfl) ?_
        refine lv_iconst (v := nI 1) hx hb dX1_permute_199 rfl ?_
        refine kr_iadd hx hb dX1_permute_200 ?_
        refine lv_iload hx hb dX1_permute_201 (lv_at hl 1 rfl) ?_
        refine lv_iconst (v := nI 2) hx hb dX1_permute_203 rfl ?_
        refine kr_iadd hx hb dX1_permute_204 ?_
        refine kr_imul hx hb dX1_permute_205 ?_
        refine lv_iconst (v := nI 2) hx hb dX1_permute_206 rfl ?_
        refine kr_idiv hx hb (by omega) (by omega) (by omega) dX1_permute_207 ?_
        refine lv_bipush (v := nI 64) hx hb dX1_permute_208 (by decide +kernel) ?_
        refine kr_irem hx hb (by omega) (by omega) (by omega) dX1_permute_210 ?_
        refine kr_calll (va_runS (As := [.long ((kk_tt g) ((5 * (kk_wy t)) + (kk_wx t))), .int (nI ((((t + 1) * (t + 2)) / 2) % 64))]) (rest := [.int (nI ((5 * (kk_wy (t + 1))) + (kk_wy t))), .ref (ad 5)]) ⟨hx, hb, hml, hown, hts⟩ (kc_rot l D ct ad F M Pl (kk_tt g) C V kk_rc _ ((kk_tt g) ((5 * (kk_wy t)) + (kk_wx t))) (nI ((((t + 1) * (t + 2)) / 2) % 64))) (va_cwS 2 hts kM_gr rfl rfl rfl (by decide +kernel) ⟨Nat.le_of_ble_eq_true rfl, Nat.le_of_ble_eq_true rfl⟩) (kr_preS kw_Nok _ hP hK hD hB hS hA) rfl rfl hl.1 rfl (lv_room (Nat.le_of_ble_eq_true rfl)) dX1_permute_211 ⟨Nat.zero_le _, Nat.zero_le _⟩) hD hS hA (fun r u H locs hq hP hD hS => ?_)
        obtain rfl : r = kk_rl ((kk_tt g) ((5 * (kk_wy t)) + (kk_wx t))) (nI ((((t + 1) * (t + 2)) / 2) % 64)) := hq
        have hP : va_P D vwCl (kw_M ct ad F M Pl (kk_tt g) C V kk_rc) H := hP
        have hD : va_D A (kw_M ct ad F M Pl (kk_tt g) C V kk_rc) := hD
        refine kr_last (w := kw_M ct ad F M Pl (kk_tt g) C (vp_updL V ((5 * (kk_wy (t + 1))) + (kk_wy t)) (kk_rl ((kk_tt g) ((5 * (kk_wy t)) + (kk_wx t))) (nI ((((t + 1) * (t + 2)) / 2) % 64)))) kk_rc) hx hb hK hP hD hS 5 2 rfl rfl (n := (5 * (kk_wy (t + 1))) + (kk_wy t)) (by omega) (by omega) rfl dX1_permute_214 (fun H locs hP hD hS => ?_)
        refine lv_iload_n hx hb dX1_permute_215 rfl (lv_at hl 2 rfl) ?_
        refine lv_istore_n hx hb dX1_permute_216 rfl hl (Nat.le_of_ble_eq_true rfl) rfl (fun ls hl => ?_)
        have hl : lv_has ls 6 [(2, .int (nI (kk_wy t))), (5, .int (nI (kk_wy (t + 1)))), (4, .int (nI t)), (3, .int (nI (kk_wy t))), (1, .int (nI i)), (0, .ref (ad 0))] := hl
        refine lv_iload hx hb dX1_permute_217 (lv_at hl 1 rfl) ?_
        refine lv_istore_n hx hb dX1_permute_219 rfl hl (Nat.le_of_ble_eq_true rfl) rfl (fun ls hl => ?_)
        have hl : lv_has ls 6 [(3, .int (nI (kk_wy (t + 1)))), (2, .int (nI (kk_wy t))), (5, .int (nI (kk_wy (t + 1)))), (4, .int (nI t)), (1, .int (nI i)), (0, .ref (ad 0))] := hl
        refine lv_iinc (k := 3) (v := nI (t + 1)) hx hb dX1_permute_220 hl rfl (nI_add t 1) (Nat.le_of_ble_eq_true rfl) rfl (fun ls hl => ?_)
        have hl : lv_has ls 6 [(4, .int (nI (t + 1))), (3, .int (nI (kk_wy (t + 1)))), (2, .int (nI (kk_wy t))), (5, .int (nI (kk_wy (t + 1)))), (1, .int (nI i)), (0, .ref (ad 0))] := hl
        refine lv_goto (tgt := 159) hx hb dX1_permute_223 rfl ?_
        have hl : lv_has ls 6 [(4, .int (nI (t + 1))), (3, .int (nI (kk_wy (t + 1)))), (2, .int (nI (kk_wx (t + 1)))), (1, .int (nI i)), (0, .ref (ad 0))] := by rw [kk_w_x t ht24]; exact lv_sub hl [0, 1, 2, 4, 5] rfl
        have hne : kk_wt t ≠ 0 := (kk_w_st t ht24).2.2.2.2
        refine ih (t + 1) _ H locs ls (by omega) (by omega) ?_ (fun u hu => ?_) hl hP hD hS
        · show vp_updL V (kk_wt t) _ 0 = _
          rw [pk_uLn (fun h => hne h.symm)]; exact hv0
        · by_cases e9 : u = t
          · subst e9
            show vp_updL V (kk_wt u) _ (kk_wt u) = _
            rw [pk_uLs]
            rfl
          · show vp_updL V (kk_wt t) _ (kk_wt u) = _
            rw [pk_uLn (fun h => e9 (kk_w_inj u (by omega) t ht24 h))]
            exact hinv u (by omega)
  have lk : ∀ (Q : State → Prop) (i a : Nat) (C V : Nat → Int64) (ha5 : a < 5), (∀ (g : Nat → Int64) (H : Heap) (locs : List Loc) (ls : Array Slot), (∀ u, u < 5 * a + 5 → g u = kk_ch V u) → lv_has ls 6 [(4, .int (nI (5 * a))), (1, .int (nI i)), (0, .ref (ad 0))] → va_P D vwCl (kw_M ct ad F M Pl g C V kk_rc) H → va_D A (kw_M ct ad F M Pl g C V kk_rc) → va_S A s.heap H locs → W p l e (headSpec wsM_permute ({ frames := 1, cells := 0, slots := 0, locals := 22 })).room s m (([.ref (ad 0)] : List Value).toArray) below meth c H locs 0 0 Q (F0 m 305 ls [])) → ∀ (n j : Nat) (g : Nat → Int64) (H : Heap) (locs : List Loc) (ls : Array Slot), 5 - j < n → j ≤ 5 → (∀ u, u < 5 * a + j → g u = kk_ch V u) → lv_has ls 6 [(5, .int (nI j)), (4, .int (nI (5 * a))), (1, .int (nI i)), (0, .ref (ad 0))] → va_P D vwCl (kw_M ct ad F M Pl g C V kk_rc) H → va_D A (kw_M ct ad F M Pl g C V kk_rc) → va_S A s.heap H locs → W p l e (headSpec wsM_permute ({ frames := 1, cells := 0, slots := 0, locals := 22 })).room s m (([.ref (ad 0)] : List Value).toArray) below meth c H locs 0 0 Q (F0 m 239 ls []) := by
    intro Q i a C V ha5 hend n
    induction n with
    | zero => intro j g H locs ls h; omega
    | succ n ih =>
      intro j g H locs ls hn hj hinv hl hP hD hS
      refine lv_iload hx hb dX1_permute_239 (lv_at hl 0 rfl) ?_
      refine lv_iconst (v := nI 5) hx hb dX1_permute_241 rfl ?_
      refine kr_icmp_ge (tgt := 305) hx hb (by omega) (by omega) dX1_permute_242 rfl (fun hc => ?_) (fun hc => ?_)
      · obtain rfl : j = 5 := by omega
        exact hend g H locs ls hinv (lv_sub hl [1, 2, 3] rfl) hP hD hS
      · have hj5 : j < 5 := hc
        refine lv_aload_n hx hb dX1_permute_245 rfl (lv_at hl 3 rfl) ?_
        refine va_get hx hb hts hin hown hK hP 0 rfl rfl 3 (by decide) (hts (.fieldLink RX1 7 "KeccakLanesModel" "lanes" "[J") (by decide +kernel)) (fun _ h => h) rfl dX1_permute_246 ?_
        refine lv_iload hx hb dX1_permute_249 (lv_at hl 1 rfl) ?_
        refine lv_iload hx hb dX1_permute_251 (lv_at hl 0 rfl) ?_
        refine kr_iadd hx hb dX1_permute_253 ?_
        refine lv_aload_n hx hb dX1_permute_254 rfl (lv_at hl 3 rfl) ?_
        refine va_get hx hb hts hin hown hK hP 0 rfl rfl 5 (by decide) (hts (.fieldLink RX1 16 "KeccakLanesModel" "moved" "[J") (by decide +kernel)) (fun _ h => h) rfl dX1_permute_255 ?_
        refine lv_iload hx hb dX1_permute_258 (lv_at hl 1 rfl) ?_
        refine lv_iload hx hb dX1_permute_260 (lv_at hl 0 rfl) ?_
        refine kr_iadd hx hb dX1_permute_262 ?_
        refine kr_lald hx hb hK hP 5 2 rfl rfl (n := (5 * a) + j) (by omega) (by omega) dX1_permute_263 ?_
        refine lv_aload_n hx hb dX1_permute_264 rfl (lv_at hl 3 rfl) ?_
        refine va_get hx hb hts hin hown hK hP 0 rfl rfl 5 (by decide) (hts (.fieldLink RX1 16 "KeccakLanesModel" "moved" "[J") (by decide +kernel)) (fun _ h => h) rfl dX1_permute_265 ?_
        refine lv_iload hx hb dX1_permute_268 (lv_at hl 1 rfl) ?_
        refine lv_iload hx hb dX1_permute_270 (lv_at hl 0 rfl) ?_
        refine lv_iconst (v := nI 1) hx hb dX1_permute_272 rfl ?_
        refine kr_iadd hx hb dX1_permute_273 ?_
        refine lv_iconst (v := nI 5) hx hb dX1_permute_274 rfl ?_
        refine kr_irem hx hb (by omega) (by omega) (by omega) dX1_permute_275 ?_
        refine kr_iadd hx hb dX1_permute_276 ?_
        refine kr_lald hx hb hK hP 5 2 rfl rfl (n := (5 * a) + ((j + 1) % 5)) (by omega) (by omega) dX1_permute_277 ?_
        refine lv_ldc2 (v := (-1)) hx hb hown (hts (.constantLong RX1 19 (-1)) (by decide +kernel)) dX1_permute_278 ?_
        refine lv_lxor hx hb dX1_permute_281 ?_
        refine lv_aload_n hx hb dX1_permute_282 rfl (lv_at hl 3 rfl) ?_
        refine va_get hx hb hts hin hown hK hP 0 rfl rfl 5 (by decide) (hts (.fieldLink RX1 16 "KeccakLanesModel" "moved" "[J") (by decide +kernel)) (fun _ h => h) rfl dX1_permute_283 ?_
        refine lv_iload hx hb dX1_permute_286 (lv_at hl 1 rfl) ?_
        refine lv_iload hx hb dX1_permute_288 (lv_at hl 0 rfl) ?_
        refine lv_iconst (v := nI 2) hx hb dX1_permute_290 rfl ?_
        refine kr_iadd hx hb dX1_permute_291 ?_
        refine lv_iconst (v := nI 5) hx hb dX1_permute_292 rfl ?_
        refine kr_irem hx hb (by omega) (by omega) (by omega) dX1_permute_293 ?_
        refine kr_iadd hx hb dX1_permute_294 ?_
        refine kr_lald hx hb hK hP 5 2 rfl rfl (n := (5 * a) + ((j + 2) % 5)) (by omega) (by omega) dX1_permute_295 ?_
        refine lv_land hx hb dX1_permute_296 ?_
        refine lv_lxor hx hb dX1_permute_297 ?_
        refine kr_last (w := kw_M ct ad F M Pl (vp_updL g ((5 * a) + j) ((V ((5 * a) + j)) ^^^ (((V ((5 * a) + ((j + 1) % 5))) ^^^ (-1)) &&& (V ((5 * a) + ((j + 2) % 5)))))) C V kk_rc) hx hb hK hP hD hS 3 2 rfl rfl (n := (5 * a) + j) (by omega) (by omega) rfl dX1_permute_298 (fun H locs hP hD hS => ?_)
        refine lv_iinc (k := 0) (v := nI (j + 1)) hx hb dX1_permute_299 hl rfl (nI_add j 1) (Nat.le_of_ble_eq_true rfl) rfl (fun ls hl => ?_)
        have hl : lv_has ls 6 [(5, .int (nI (j + 1))), (4, .int (nI (5 * a))), (1, .int (nI i)), (0, .ref (ad 0))] := hl
        refine lv_goto (tgt := 239) hx hb dX1_permute_302 rfl ?_
        refine ih (j + 1) _ H locs ls (by omega) (by omega) (fun u hu => ?_) hl hP hD hS
        by_cases e9 : u = 5 * a + j
        · subst e9; rw [pk_uLs]; unfold kk_ch; rw [show (5 * a + j) / 5 * 5 = 5 * a by omega, show (5 * a + j) % 5 = j by omega]
        · rw [pk_uLn e9]; exact hinv u (by omega)
  have lm : ∀ (Q : State → Prop) (i : Nat) (C V : Nat → Int64), (∀ (H : Heap) (locs : List Loc) (ls : Array Slot), lv_has ls 6 [(4, .int (nI (5 * 5))), (1, .int (nI i)), (0, .ref (ad 0))] → va_P D vwCl (kw_M ct ad F M Pl (kk_ch V) C V kk_rc) H → va_D A (kw_M ct ad F M Pl (kk_ch V) C V kk_rc) → va_S A s.heap H locs → W p l e (headSpec wsM_permute ({ frames := 1, cells := 0, slots := 0, locals := 22 })).room s m (([.ref (ad 0)] : List Value).toArray) below meth c H locs 0 0 Q (F0 m 311 ls [])) → ∀ (n a : Nat) (g : Nat → Int64) (H : Heap) (locs : List Loc) (ls : Array Slot), 5 - a < n → a ≤ 5 → (∀ u, u < 5 * a → g u = kk_ch V u) → lv_has ls 6 [(4, .int (nI (5 * a))), (1, .int (nI i)), (0, .ref (ad 0))] → va_P D vwCl (kw_M ct ad F M Pl g C V kk_rc) H → va_D A (kw_M ct ad F M Pl g C V kk_rc) → va_S A s.heap H locs → W p l e (headSpec wsM_permute ({ frames := 1, cells := 0, slots := 0, locals := 22 })).room s m (([.ref (ad 0)] : List Value).toArray) below meth c H locs 0 0 Q (F0 m 229 ls []) := by
    intro Q i C V hend n
    induction n with
    | zero => intro a g H locs ls h; omega
    | succ n ih =>
      intro a g H locs ls hn ha hinv hl hP hD hS
      refine lv_iload hx hb dX1_permute_229 (lv_at hl 0 rfl) ?_
      refine lv_bipush (v := nI 25) hx hb dX1_permute_231 (by decide +kernel) ?_
      refine kr_icmp_ge (tgt := 311) hx hb (by omega) (by omega) dX1_permute_233 rfl (fun hc => ?_) (fun hc => ?_)
      · obtain rfl : a = 5 := by omega
        exact hend H locs ls hl (kr_sameL (q0 := 3) hP rfl hinv rfl) (kr_sameD (q0 := 3) hD rfl rfl) hS
      · have ha5 : a < 5 := by omega
        refine lv_iconst (v := nI 0) hx hb dX1_permute_236 rfl ?_
        refine lv_istore hx hb dX1_permute_237 hl (Nat.le_of_ble_eq_true rfl) rfl (fun ls hl => ?_)
        have hl : lv_has ls 6 [(5, .int (nI 0)), (4, .int (nI (5 * a))), (1, .int (nI i)), (0, .ref (ad 0))] := hl
        refine lk Q i a C V ha5 (fun g H locs ls hinv hl hP hD hS => ?_) 6 0 g H locs ls (by omega) (by omega) hinv hl hP hD hS
        refine lv_iinc (k := 0) (v := nI ((5 * a) + 5)) hx hb dX1_permute_305 hl rfl (nI_add (5 * a) 5) (Nat.le_of_ble_eq_true rfl) rfl (fun ls hl => ?_)
        have hl : lv_has ls 6 [(4, .int (nI ((5 * a) + 5))), (1, .int (nI i)), (0, .ref (ad 0))] := hl
        refine lv_goto (tgt := 229) hx hb dX1_permute_308 rfl ?_
        exact ih (a + 1) g H locs ls (by omega) (by omega) hinv hl hP hD hS
  have lr : ∀ (Q : State → Prop) (_ : True), (∀ (C V : Nat → Int64) (H : Heap) (locs : List Loc) (ls : Array Slot), lv_has ls 6 [(1, .int (nI 24)), (0, .ref (ad 0))] → va_P D vwCl (kw_M ct ad F M Pl (kk_rs f 24) C V kk_rc) H → va_D A (kw_M ct ad F M Pl (kk_rs f 24) C V kk_rc) → va_S A s.heap H locs → W p l e (headSpec wsM_permute ({ frames := 1, cells := 0, slots := 0, locals := 22 })).room s m (([.ref (ad 0)] : List Value).toArray) below meth c H locs 0 0 Q (F0 m 332 ls [])) → ∀ (n i : Nat) (C V : Nat → Int64) (H : Heap) (locs : List Loc) (ls : Array Slot), 24 - i < n → i ≤ 24 → lv_has ls 6 [(1, .int (nI i)), (0, .ref (ad 0))] → va_P D vwCl (kw_M ct ad F M Pl (kk_rs f i) C V kk_rc) H → va_D A (kw_M ct ad F M Pl (kk_rs f i) C V kk_rc) → va_S A s.heap H locs → W p l e (headSpec wsM_permute ({ frames := 1, cells := 0, slots := 0, locals := 22 })).room s m (([.ref (ad 0)] : List Value).toArray) below meth c H locs 0 0 Q (F0 m 2 ls []) := by
    intro Q _ hend n
    induction n with
    | zero => intro i C V H locs ls h; omega
    | succ n ih =>
      intro i C V H locs ls hn hi hl hP hD hS
      refine lv_iload_n hx hb dX1_permute_2 rfl (lv_at hl 0 rfl) ?_
      refine lv_bipush (v := nI 24) hx hb dX1_permute_3 (by decide +kernel) ?_
      refine kr_icmp_ge (tgt := 332) hx hb (by omega) (by omega) dX1_permute_5 rfl (fun hc => ?_) (fun hc => ?_)
      · obtain rfl : i = 24 := by omega
        exact hend C V H locs ls hl hP hD hS
      · have hi24 : i < 24 := hc
        refine lv_iconst (v := nI 0) hx hb dX1_permute_8 rfl ?_
        refine lv_istore_n hx hb dX1_permute_9 rfl hl (Nat.le_of_ble_eq_true rfl) rfl (fun ls hl => ?_)
        have hl : lv_has ls 6 [(2, .int (nI 0)), (1, .int (nI i)), (0, .ref (ad 0))] := hl
        refine la Q i (kk_rs f i) V (fun H locs ls hl hP hD hS => ?_) 6 0 C H locs ls (by omega) (by omega) (fun u hu => absurd hu (by omega)) hl hP hD hS
        refine lv_iconst (v := nI 0) hx hb dX1_permute_72 rfl ?_
        refine lv_istore_n hx hb dX1_permute_73 rfl hl (Nat.le_of_ble_eq_true rfl) rfl (fun ls hl => ?_)
        have hl : lv_has ls 6 [(2, .int (nI 0)), (1, .int (nI i)), (0, .ref (ad 0))] := hl
        have hl : lv_has ls 6 [(2, .int (nI 0)), (1, .int (nI i)), (0, .ref (ad 0))] := hl
        have hP : va_P D vwCl (kw_M ct ad F M Pl (kk_th (kk_rs f i) 0 0) (kk_col (kk_rs f i)) V kk_rc) H := by rw [kk_th_0]; exact hP
        have hD : va_D A (kw_M ct ad F M Pl (kk_th (kk_rs f i) 0 0) (kk_col (kk_rs f i)) V kk_rc) := by rw [kk_th_0]; exact hD
        refine lc Q i (kk_rs f i) V (fun H locs ls hl hP hD hS => ?_) 6 0 H locs ls (by omega) (by omega) hl hP hD hS
        refine lv_aload_n hx hb dX1_permute_140 rfl (lv_at hl 2 rfl) ?_
        refine va_get hx hb hts hin hown hK hP 0 rfl rfl 5 (by decide) (hts (.fieldLink RX1 16 "KeccakLanesModel" "moved" "[J") (by decide +kernel)) (fun _ h => h) rfl dX1_permute_141 ?_
        refine lv_iconst (v := nI 0) hx hb dX1_permute_144 rfl ?_
        refine lv_aload_n hx hb dX1_permute_145 rfl (lv_at hl 2 rfl) ?_
        refine va_get hx hb hts hin hown hK hP 0 rfl rfl 3 (by decide) (hts (.fieldLink RX1 7 "KeccakLanesModel" "lanes" "[J") (by decide +kernel)) (fun _ h => h) rfl dX1_permute_146 ?_
        refine lv_iconst (v := nI 0) hx hb dX1_permute_149 rfl ?_
        refine kr_lald hx hb hK hP 3 2 rfl rfl (n := 0) (by omega) (by omega) dX1_permute_150 ?_
        refine kr_last (w := kw_M ct ad F M Pl (kk_tt (kk_rs f i)) (kk_col (kk_rs f i)) (vp_updL V 0 ((kk_tt (kk_rs f i)) 0)) kk_rc) hx hb hK hP hD hS 5 2 rfl rfl (n := 0) (by omega) (by omega) rfl dX1_permute_151 (fun H locs hP hD hS => ?_)
        refine lv_iconst (v := nI 1) hx hb dX1_permute_152 rfl ?_
        refine lv_istore_n hx hb dX1_permute_153 rfl hl (Nat.le_of_ble_eq_true rfl) rfl (fun ls hl => ?_)
        have hl : lv_has ls 6 [(2, .int (nI 1)), (1, .int (nI i)), (0, .ref (ad 0))] := hl
        refine lv_iconst (v := nI 0) hx hb dX1_permute_154 rfl ?_
        refine lv_istore_n hx hb dX1_permute_155 rfl hl (Nat.le_of_ble_eq_true rfl) rfl (fun ls hl => ?_)
        have hl : lv_has ls 6 [(3, .int (nI 0)), (2, .int (nI 1)), (1, .int (nI i)), (0, .ref (ad 0))] := hl
        refine lv_iconst (v := nI 0) hx hb dX1_permute_156 rfl ?_
        refine lv_istore hx hb dX1_permute_157 hl (Nat.le_of_ble_eq_true rfl) rfl (fun ls hl => ?_)
        have hl : lv_has ls 6 [(4, .int (nI 0)), (3, .int (nI 0)), (2, .int (nI 1)), (1, .int (nI i)), (0, .ref (ad 0))] := hl
        have hl : lv_has ls 6 [(4, .int (nI 0)), (3, .int (nI (kk_wy 0))), (2, .int (nI (kk_wx 0))), (1, .int (nI i)), (0, .ref (ad 0))] := lv_sub hl [0, 1, 2, 3, 4] rfl
        refine lt Q i (kk_rs f i) (kk_col (kk_rs f i)) (fun H locs ls hl hP hD hS => ?_) 25 0 _ H locs ls (by omega) (by omega) pk_uLs (fun u hu => absurd hu (by omega)) hl hP hD hS
        refine lv_iconst (v := nI 0) hx hb dX1_permute_226 rfl ?_
        refine lv_istore hx hb dX1_permute_227 hl (Nat.le_of_ble_eq_true rfl) rfl (fun ls hl => ?_)
        have hl : lv_has ls 6 [(4, .int (nI 0)), (3, .int (nI (kk_wy 24))), (2, .int (nI (kk_wx 24))), (1, .int (nI i)), (0, .ref (ad 0))] := hl
        have hl : lv_has ls 6 [(4, .int (nI (5 * 0))), (1, .int (nI i)), (0, .ref (ad 0))] := lv_sub hl [0, 3, 4] rfl
        refine lm Q i (kk_col (kk_rs f i)) (kk_mv (kk_rs f i)) (fun H locs ls hl hP hD hS => ?_) 6 0 _ H locs ls (by omega) (by omega) (fun u hu => absurd hu (by omega)) hl hP hD hS
        refine lv_aload_n hx hb dX1_permute_311 rfl (lv_at hl 2 rfl) ?_
        refine va_get hx hb hts hin hown hK hP 0 rfl rfl 3 (by decide) (hts (.fieldLink RX1 7 "KeccakLanesModel" "lanes" "[J") (by decide +kernel)) (fun _ h => h) rfl dX1_permute_312 ?_
        refine lv_iconst (v := nI 0) hx hb dX1_permute_315 rfl ?_
        refine lv_dup2_11 hx hb dX1_permute_316 rfl rfl ?_
        refine kr_lald hx hb hK hP 3 2 rfl rfl (n := 0) (by omega) (by omega) dX1_permute_317 ?_
        refine lv_aload_n hx hb dX1_permute_318 rfl (lv_at hl 2 rfl) ?_
        refine va_get hx hb hts hin hown hK hP 0 rfl rfl 6 (by decide) (hts (.fieldLink RX1 21 "KeccakLanesModel" "constants" "[J") (by decide +kernel)) (fun _ h => h) rfl dX1_permute_319 ?_
        refine lv_iload_n hx hb dX1_permute_322 rfl (lv_at hl 1 rfl) ?_
        refine kr_lald hx hb hK hP 6 2 rfl rfl (n := i) (by omega) (by omega) dX1_permute_323 ?_
        refine lv_lxor hx hb dX1_permute_324 ?_
        refine kr_last (w := kw_M ct ad F M Pl (vp_updL (kk_ch (kk_mv (kk_rs f i))) 0 (((kk_ch (kk_mv (kk_rs f i))) 0) ^^^ (kk_rc i))) (kk_col (kk_rs f i)) (kk_mv (kk_rs f i)) kk_rc) hx hb hK hP hD hS 3 2 rfl rfl (n := 0) (by omega) (by omega) rfl dX1_permute_325 (fun H locs hP hD hS => ?_)
        refine lv_iinc (k := 1) (v := nI (i + 1)) hx hb dX1_permute_326 hl rfl (nI_add i 1) (Nat.le_of_ble_eq_true rfl) rfl (fun ls hl => ?_)
        have hl : lv_has ls 6 [(1, .int (nI (i + 1))), (4, .int (nI (5 * 5))), (0, .ref (ad 0))] := hl
        refine lv_goto (tgt := 2) hx hb dX1_permute_329 rfl ?_
        exact ih (i + 1) _ _ H locs ls (by omega) (by omega) (lv_sub hl [0, 2] rfl) hP hD hS
  refine lv_iconst (v := nI 0) hx hb dX1_permute_0 rfl ?_
  refine lv_istore_n hx hb dX1_permute_1 rfl hl (Nat.le_of_ble_eq_true rfl) rfl (fun ls hl => ?_)
  have hl : lv_has ls 6 [(1, .int (nI 0)), (0, .ref (ad 0))] := hl
  refine lr _ trivial (fun C V H locs ls hl hP hD hS => ?_) 25 0 C V s.heap [] ls (by omega) (by omega) hl hP hD hS
  exact W.vret hx hb hr (fun t ht hW => ⟨⟨(C, V), rfl, trivial, by rw [ht]; exact hP, va_K.moved hW.alike hK, hD⟩, hS.F ht⟩) hS.2.2 dX1_permute_332
