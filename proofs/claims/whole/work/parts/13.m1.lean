/-! KeccakLanesModel: further pure words; rotateLeft, constant, out, fail, thrown, get, put -/
theorem kk_tl0 (v : Int64) : kk_tl v (nI 0) = v := by
  unfold kk_tl
  rw [show ((nI 0).toInt64 &&& 63) = 0 by decide +kernel, show ((64 - nI 0).toInt64.toUInt64 &&& Int64.toUInt64 63) = 0 by decide +kernel]
  simp
def kk_th (f : Nat → Int64) (x i j : Nat) : Int64 := if j % 5 < x ∨ (j % 5 = x ∧ j / 5 < i) then f j ^^^ kk_d f (j % 5) else f j
theorem kk_th_step (f : Nat → Int64) {x i : Nat} (hx : x < 5) : vp_updL (kk_th f x i) (5 * i + x) (kk_th f x i (5 * i + x) ^^^ kk_d f x) = kk_th f x (i + 1) := by
  funext j
  by_cases e : j = 5 * i + x
  · subst e
    rw [pk_uLs]
    unfold kk_th
    rw [show (5 * i + x) % 5 = x by omega, show (5 * i + x) / 5 = i by omega, if_neg (by omega), if_pos (by omega)]
  · rw [pk_uLn e]
    unfold kk_th
    by_cases h : j % 5 < x ∨ (j % 5 = x ∧ j / 5 < i)
    · rw [if_pos h, if_pos (by omega)]
    · rw [if_neg h, if_neg (by omega)]
theorem kk_th_next (f : Nat → Int64) {x j : Nat} (hj : j < 25) : kk_th f x 5 j = kk_th f (x + 1) 0 j := by
  unfold kk_th
  by_cases h : j % 5 < x + 1
  · rw [if_pos (by omega), if_pos (Or.inl h)]
  · rw [if_neg (by omega), if_neg (by omega)]
theorem kk_th_0 (f : Nat → Int64) : kk_th f 0 0 = f := by
  funext j
  unfold kk_th
  rw [if_neg (by omega)]
def kk_tt (f : Nat → Int64) (j : Nat) : Int64 := f j ^^^ kk_d f (j % 5)
theorem kk_th_end (f : Nat → Int64) (j : Nat) : kk_th f 5 0 j = kk_tt f j := if_pos (Or.inl (Nat.mod_lt _ (by omega)))
theorem kk_mv_of {f V : Nat → Int64} (h0 : V 0 = kk_tt f 0) (h : ∀ u, u < 24 → V (kk_wt u) = kk_rl (kk_tt f (kk_ws u)) (nI ((u + 1) * (u + 2) / 2 % 64))) : ∀ j, j < 25 → V j = kk_mv f j := by
  intro j hj
  by_cases e : j = 0
  · subst e
    rw [h0]
    show _ = kk_tl (f (kk_sr 0) ^^^ kk_d f (kk_sr 0 % 5)) (nI (kk_tn (kk_sr 0)))
    rw [show kk_sr 0 = 0 from rfl, show kk_tn 0 = 0 from rfl, kk_tl0]
    rfl
  · obtain ⟨h1, h2⟩ := kk_w_ti j hj e
    obtain ⟨a1, a2, -, -, -⟩ := kk_w_st (kk_ti j) h1
    have h3 := h (kk_ti j) h1
    rw [h2, kk_rl_tl _ (Nat.mod_lt _ (by omega))] at h3
    rw [h3]
    show _ = kk_tl (f (kk_sr j) ^^^ kk_d f (kk_sr j % 5)) (nI (kk_tn (kk_sr j)))
    rw [show kk_sr j = kk_ws (kk_ti j) by rw [← a1, h2], a2]
    rfl
theorem kk_bt_n (b : Int32) : (b &&& nI 255).toInt64 = kk_bt b := kk_bt_i b
set_option maxHeartbeats 4000000 in
set_option maxRecDepth 100000 in
theorem kc_rot (l : Launch) (D : va_G) (ct : Nat → ClassId) (ad : Nat → Nat) (F : Int32) (M : Nat → Nat → Int64) (Pl : Nat → Nat) (L C V K : Nat → Int64) (sz : Nat) (v : Int64) (n : Int32) : Met l yJ_rot wsJ_rot ({ frames := 0, cells := 0, slots := 0, locals := 0 }) (kr_P D vwCl (kw_T ct) kw_N [.long v, .int n] (kw_M ct ad F M Pl L C V K) sz) (va_Ql (S := Unit) (fun r _ => r = kk_rl v n) (kr_B D vwCl (kw_T ct) (fun _ => kw_M ct ad F M Pl L C V K) (va_A (kw_M ct ad F M Pl L C V K) sz)) (va_A (kw_M ct ad F M Pl L C V K) sz)) 0 0 (va_A (kw_M ct ad F M Pl L C V K) sz) := by
  refine Met.ofW (cc := cJ_rot) (maxL := 3) (ret := some .long) (by decide) rfl ?_
  intro p e s m args below meth c s₁ B hml hv
  obtain ⟨rfl, hsz, hP, hK, hD0, hB⟩ := hv
  have hx := B.exec
  have hb := B.bytes
  have hr := B.returns
  have hlocks := B.notSynchronized
  subst hsz
  have hD := hD0.self (sz := s.heap.size)
  generalize hAe : va_A (kw_M ct ad F M Pl L C V K) s.heap.size = A at hD hB ⊢
  have hS : va_S A s.heap s.heap [] := va_S.rf
  have hl := lv_entry ([.long v, .int n]) (n := 3) (Nat.le_of_ble_eq_true rfl)
  rw [lg_entry_eq]
  generalize (lg_sl ([.long v, .int n]) ++ List.replicate (3 - (lg_sl ([.long v, .int n])).length) Slot.unset).toArray = ls at hl ⊢
  have hl : lv_has ls 3 [(0, .long v), (2, .int n)] := hl
  refine lv_lload_n hx hb dJ_rot_0 rfl (lv_at hl 0 rfl) ?_
  refine lv_iload_n hx hb dJ_rot_1 rfl (lv_at hl 1 rfl) ?_
  refine lv_lshl hx hb dJ_rot_2 rfl ?_
  refine lv_lload_n hx hb dJ_rot_3 rfl (lv_at hl 0 rfl) ?_
  refine lv_iload_n hx hb dJ_rot_4 rfl (lv_at hl 1 rfl) ?_
  refine lv_ineg hx hb dJ_rot_5 ?_
  refine lv_lushr hx hb dJ_rot_6 rfl ?_
  refine lv_lor hx hb dJ_rot_7 ?_
  exact W.lret hx hb hr (fun t ht hW => ⟨⟨_, (), rfl, rfl, by rw [ht]; exact hP, va_K.moved hW.alike hK, hD⟩, hS.F ht⟩) hS.2.2 dJ_rot_8
set_option maxHeartbeats 4000000 in
set_option maxRecDepth 100000 in
theorem kc_constant (l : Launch) (D : va_G) (tys : List (ClassId × FieldType)) (TB : (Nat → Prop) → State → Heap → Prop) (ws : va_W) (sz : Nat) {i : Nat} (hi24 : i < 24) : Met l yX1_constant wsX1_constant ({ frames := 0, cells := 0, slots := 0, locals := 0 }) (kr_P D vwCl tys TB [.int (nI i)] ws sz) (va_Ql (S := Unit) (fun r _ => r = kk_rc i) (kr_B D vwCl tys (fun _ => ws) (va_A ws sz)) (va_A ws sz)) 0 0 (va_A ws sz) := by
  refine Met.ofW (cc := cX1_constant) (maxL := 7) (ret := some .long) (by decide) rfl ?_
  intro p e s m args below meth c s₁ B hml hv
  obtain ⟨rfl, hsz, hP, hK, hD0, hB⟩ := hv
  have hx := B.exec
  have hb := B.bytes
  have hr := B.returns
  have hlocks := B.notSynchronized
  subst hsz
  have hD := hD0.self (sz := s.heap.size)
  generalize hAe : va_A ws s.heap.size = A at hD hB ⊢
  have hS : va_S A s.heap s.heap [] := va_S.rf
  have hl := lv_entry ([.int (nI i)]) (n := 7) (Nat.le_of_ble_eq_true rfl)
  rw [lg_entry_eq]
  generalize (lg_sl ([.int (nI i)]) ++ List.replicate (7 - (lg_sl ([.int (nI i)])).length) Slot.unset).toArray = ls at hl ⊢
  have hl : lv_has ls 7 [(0, .int (nI i))] := hl
  refine lv_lconst (v := 0) hx hb dX1_constant_0 rfl ?_
  refine lv_lstore_n hx hb dX1_constant_1 rfl hl (Nat.le_of_ble_eq_true rfl) rfl (fun ls hl => ?_)
  have hl : lv_has ls 7 [(1, .long 0), (0, .int (nI i))] := hl
  refine lv_iconst (v := nI 0) hx hb dX1_constant_2 rfl ?_
  refine lv_istore_n hx hb dX1_constant_3 rfl hl (Nat.le_of_ble_eq_true rfl) rfl (fun ls hl => ?_)
  have hl : lv_has ls 7 [(3, .int (nI 0)), (1, .long 0), (0, .int (nI i))] := hl
  have inner : ∀ (Q : State → Prop) (j : Nat), (∀ ls : Array Slot, lv_has ls 7 [(6, .int (nI ((j + 7 * i) % 255))), (5, .int (kk_lf ((j + 7 * i) % 255))), (4, .int (nI ((j + 7 * i) % 255))), (3, .int (nI j)), (1, .long (kk_cs i j)), (0, .int (nI i))] → W p l e (headSpec wsX1_constant ({ frames := 0, cells := 0, slots := 0, locals := 0 })).room s m (([.int (nI i)] : List Value).toArray) below meth c s.heap [] 0 0 Q (F0 m 72 ls [])) → ∀ (n k : Nat) (ls : Array Slot), (j + 7 * i) % 255 - k < n → k ≤ (j + 7 * i) % 255 → lv_has ls 7 [(6, .int (nI k)), (5, .int (kk_lf k)), (4, .int (nI ((j + 7 * i) % 255))), (3, .int (nI j)), (1, .long (kk_cs i j)), (0, .int (nI i))] → W p l e (headSpec wsX1_constant ({ frames := 0, cells := 0, slots := 0, locals := 0 })).room s m (([.int (nI i)] : List Value).toArray) below meth c s.heap [] 0 0 Q (F0 m 28 ls []) := by
    intro Q j hend n
    induction n with
    | zero => intro k ls h; omega
    | succ n ih =>
      intro k ls hn hk hl
      have hT255 : (j + 7 * i) % 255 < 255 := Nat.mod_lt _ (by omega)
      refine lv_iload hx hb dX1_constant_28 (lv_at hl 0 rfl) ?_
      refine lv_iload hx hb dX1_constant_30 (lv_at hl 2 rfl) ?_
      refine kr_icmp_ge (tgt := 72) hx hb (by omega) (by omega) dX1_constant_32 rfl (fun hc => ?_) (fun hc => ?_)
      · obtain rfl : k = (j + 7 * i) % 255 := by omega
        exact hend ls hl
      · have hkt : k < (j + 7 * i) % 255 := hc
        clear hc
        refine lv_iload hx hb dX1_constant_35 (lv_at hl 1 rfl) ?_
        refine lv_iconst (v := nI 1) hx hb dX1_constant_37 rfl ?_
        refine lv_ishl hx hb dX1_constant_38 ?_
        refine lv_istore hx hb dX1_constant_39 hl (Nat.le_of_ble_eq_true rfl) rfl (fun ls hl => ?_)
        have hl : lv_has ls 7 [(5, .int ((kk_lf k) <<< ((nI 1) &&& 31))), (6, .int (nI k)), (4, .int (nI ((j + 7 * i) % 255))), (3, .int (nI j)), (1, .long (kk_cs i j)), (0, .int (nI i))] := hl
        refine lv_iload hx hb dX1_constant_41 (lv_at hl 0 rfl) ?_
        refine lv_sipush (v := nI 256) hx hb dX1_constant_43 (by decide +kernel) ?_
        refine lv_iand hx hb dX1_constant_46 ?_
        refine lv_if_eq (tgt := 58) hx hb dX1_constant_47 rfl (fun hc => ?_) (fun hc => ?_)
        · have e9 : kk_lf (k + 1) = (((kk_lf k) <<< ((nI 1) &&& 31)) &&& nI 255) := congrArg (fun z => z &&& (255 : Int32)) (if_pos hc)
          refine lv_iload hx hb dX1_constant_58 (lv_at hl 0 rfl) ?_
          refine lv_sipush (v := nI 255) hx hb dX1_constant_60 (by decide +kernel) ?_
          refine lv_iand hx hb dX1_constant_63 ?_
          refine lv_istore hx hb dX1_constant_64 hl (Nat.le_of_ble_eq_true rfl) rfl (fun ls hl => ?_)
          have hl : lv_has ls 7 [(5, .int (((kk_lf k) <<< ((nI 1) &&& 31)) &&& (nI 255))), (6, .int (nI k)), (4, .int (nI ((j + 7 * i) % 255))), (3, .int (nI j)), (1, .long (kk_cs i j)), (0, .int (nI i))] := hl
          refine lv_iinc (k := 1) (v := nI (k + 1)) hx hb dX1_constant_66 hl rfl (nI_add k 1) (Nat.le_of_ble_eq_true rfl) rfl (fun ls hl => ?_)
          have hl : lv_has ls 7 [(6, .int (nI (k + 1))), (5, .int (((kk_lf k) <<< ((nI 1) &&& 31)) &&& (nI 255))), (4, .int (nI ((j + 7 * i) % 255))), (3, .int (nI j)), (1, .long (kk_cs i j)), (0, .int (nI i))] := hl
          refine lv_goto (tgt := 28) hx hb dX1_constant_69 rfl ?_
          exact ih (k + 1) ls (by omega) (by omega) (by rw [e9]; exact lv_sub hl [0, 1, 2, 3, 4, 5] rfl)
        · have e9 : kk_lf (k + 1) = ((((kk_lf k) <<< ((nI 1) &&& 31)) ^^^ nI 369) &&& nI 255) := congrArg (fun z => z &&& (255 : Int32)) (if_neg hc)
          refine lv_iload hx hb dX1_constant_50 (lv_at hl 0 rfl) ?_
          refine lv_sipush (v := nI 369) hx hb dX1_constant_52 (by decide +kernel) ?_
          refine lv_ixor hx hb dX1_constant_55 ?_
          refine lv_istore hx hb dX1_constant_56 hl (Nat.le_of_ble_eq_true rfl) rfl (fun ls hl => ?_)
          have hl : lv_has ls 7 [(5, .int (((kk_lf k) <<< ((nI 1) &&& 31)) ^^^ (nI 369))), (6, .int (nI k)), (4, .int (nI ((j + 7 * i) % 255))), (3, .int (nI j)), (1, .long (kk_cs i j)), (0, .int (nI i))] := hl
          refine lv_iload hx hb dX1_constant_58 (lv_at hl 0 rfl) ?_
          refine lv_sipush (v := nI 255) hx hb dX1_constant_60 (by decide +kernel) ?_
          refine lv_iand hx hb dX1_constant_63 ?_
          refine lv_istore hx hb dX1_constant_64 hl (Nat.le_of_ble_eq_true rfl) rfl (fun ls hl => ?_)
          have hl : lv_has ls 7 [(5, .int ((((kk_lf k) <<< ((nI 1) &&& 31)) ^^^ (nI 369)) &&& (nI 255))), (6, .int (nI k)), (4, .int (nI ((j + 7 * i) % 255))), (3, .int (nI j)), (1, .long (kk_cs i j)), (0, .int (nI i))] := hl
          refine lv_iinc (k := 1) (v := nI (k + 1)) hx hb dX1_constant_66 hl rfl (nI_add k 1) (Nat.le_of_ble_eq_true rfl) rfl (fun ls hl => ?_)
          have hl : lv_has ls 7 [(6, .int (nI (k + 1))), (5, .int ((((kk_lf k) <<< ((nI 1) &&& 31)) ^^^ (nI 369)) &&& (nI 255))), (4, .int (nI ((j + 7 * i) % 255))), (3, .int (nI j)), (1, .long (kk_cs i j)), (0, .int (nI i))] := hl
          refine lv_goto (tgt := 28) hx hb dX1_constant_69 rfl ?_
          exact ih (k + 1) ls (by omega) (by omega) (by rw [e9]; exact lv_sub hl [0, 1, 2, 3, 4, 5] rfl)
  have outer : ∀ (Q : State → Prop), (∀ ls : Array Slot, lv_has ls 7 [(3, .int (nI 7)), (1, .long (kk_cs i 7)), (0, .int (nI i))] → W p l e (headSpec wsX1_constant ({ frames := 0, cells := 0, slots := 0, locals := 0 })).room s m (([.int (nI i)] : List Value).toArray) below meth c s.heap [] 0 0 Q (F0 m 95 ls [])) → ∀ (n j : Nat) (ls : Array Slot), 7 - j < n → j ≤ 7 → lv_has ls 7 [(3, .int (nI j)), (1, .long (kk_cs i j)), (0, .int (nI i))] → W p l e (headSpec wsX1_constant ({ frames := 0, cells := 0, slots := 0, locals := 0 })).room s m (([.int (nI i)] : List Value).toArray) below meth c s.heap [] 0 0 Q (F0 m 4 ls []) := by
    intro Q hend n
    induction n with
    | zero => intro j ls h; omega
    | succ n ih =>
      intro j ls hn hj hl
      refine lv_iload_n hx hb dX1_constant_4 rfl (lv_at hl 0 rfl) ?_
      refine lv_bipush (v := nI 7) hx hb dX1_constant_5 (by decide +kernel) ?_
      refine kr_icmp_ge (tgt := 95) hx hb (by omega) (by omega) dX1_constant_7 rfl (fun hc => ?_) (fun hc => ?_)
      · obtain rfl : j = 7 := by omega
        exact hend ls hl
      · have hj7 : j < 7 := hc
        clear hc
        refine lv_iload_n hx hb dX1_constant_10 rfl (lv_at hl 0 rfl) ?_
        refine lv_bipush (v := nI 7) hx hb dX1_constant_11 (by decide +kernel) ?_
        refine lv_iload_n hx hb dX1_constant_13 rfl (lv_at hl 2 rfl) ?_
        refine kr_imul hx hb dX1_constant_14 ?_
        refine kr_iadd hx hb dX1_constant_15 ?_
        refine lv_sipush (v := nI 255) hx hb dX1_constant_16 (by decide +kernel) ?_
        refine kr_irem hx hb (by omega) (by omega) (by omega) dX1_constant_19 ?_
        refine lv_istore hx hb dX1_constant_20 hl (Nat.le_of_ble_eq_true rfl) rfl (fun ls hl => ?_)
        have hl : lv_has ls 7 [(4, .int (nI ((j + (7 * i)) % 255))), (3, .int (nI j)), (1, .long (kk_cs i j)), (0, .int (nI i))] := hl
        refine lv_iconst (v := nI 1) hx hb dX1_constant_22 rfl ?_
        refine lv_istore hx hb dX1_constant_23 hl (Nat.le_of_ble_eq_true rfl) rfl (fun ls hl => ?_)
        have hl : lv_has ls 7 [(5, .int (nI 1)), (4, .int (nI ((j + (7 * i)) % 255))), (3, .int (nI j)), (1, .long (kk_cs i j)), (0, .int (nI i))] := hl
        refine lv_iconst (v := nI 0) hx hb dX1_constant_25 rfl ?_
        refine lv_istore hx hb dX1_constant_26 hl (Nat.le_of_ble_eq_true rfl) rfl (fun ls hl => ?_)
        have hl : lv_has ls 7 [(6, .int (nI 0)), (5, .int (nI 1)), (4, .int (nI ((j + (7 * i)) % 255))), (3, .int (nI j)), (1, .long (kk_cs i j)), (0, .int (nI i))] := hl
        have hT255 : (j + 7 * i) % 255 < 255 := Nat.mod_lt _ (by omega)
        have hl : lv_has ls 7 [(6, .int (nI 0)), (5, .int (kk_lf 0)), (4, .int (nI ((j + 7 * i) % 255))), (3, .int (nI j)), (1, .long (kk_cs i j)), (0, .int (nI i))] := lv_sub hl [0, 1, 2, 3, 4, 5] rfl
        refine inner Q j (fun ls hl => ?_) 256 0 ls (by omega) (by omega) hl
        refine lv_iload hx hb dX1_constant_72 (lv_at hl 1 rfl) ?_
        refine lv_iconst (v := nI 1) hx hb dX1_constant_74 rfl ?_
        refine lv_iand hx hb dX1_constant_75 ?_
        refine lv_if_eq (tgt := 89) hx hb dX1_constant_76 rfl (fun hc => ?_) (fun hc => ?_)
        · have e9 : kk_cs i (j + 1) = kk_cs i j := if_pos hc
          refine lv_iinc (k := 3) (v := nI (j + 1)) hx hb dX1_constant_89 hl rfl (nI_add j 1) (Nat.le_of_ble_eq_true rfl) rfl (fun ls hl => ?_)
          have hl : lv_has ls 7 [(3, .int (nI (j + 1))), (6, .int (nI ((j + 7 * i) % 255))), (5, .int (kk_lf ((j + 7 * i) % 255))), (4, .int (nI ((j + 7 * i) % 255))), (1, .long (kk_cs i j)), (0, .int (nI i))] := hl
          refine lv_goto (tgt := 4) hx hb dX1_constant_92 rfl ?_
          exact ih (j + 1) ls (by omega) (by omega) (by rw [e9]; exact lv_sub hl [0, 4, 5] rfl)
        · have hc9 := hc
          refine lv_lload_n hx hb dX1_constant_79 rfl (lv_at hl 4 rfl) ?_
          refine lv_lconst (v := 1) hx hb dX1_constant_80 rfl ?_
          refine lv_iconst (v := nI 1) hx hb dX1_constant_81 rfl ?_
          refine lv_iload_n hx hb dX1_constant_82 rfl (lv_at hl 3 rfl) ?_
          refine lv_ishl hx hb dX1_constant_83 ?_
          refine lv_iconst (v := nI 1) hx hb dX1_constant_84 rfl ?_
          refine lv_isub hx hb dX1_constant_85 ?_
          refine lv_lshl hx hb dX1_constant_86 rfl ?_
          refine lv_lor hx hb dX1_constant_87 ?_
          refine lv_lstore_n hx hb dX1_constant_88 rfl hl (Nat.le_of_ble_eq_true rfl) rfl (fun ls hl => ?_)
          have hl : lv_has ls 7 [(1, .long ((kk_cs i j) ||| (1 <<< ((((nI 1) <<< ((nI j) &&& 31)) - (nI 1)).toInt64 &&& 63)))), (6, .int (nI ((j + 7 * i) % 255))), (5, .int (kk_lf ((j + 7 * i) % 255))), (4, .int (nI ((j + 7 * i) % 255))), (3, .int (nI j)), (0, .int (nI i))] := hl
          refine lv_iinc (k := 4) (v := nI (j + 1)) hx hb dX1_constant_89 hl rfl (nI_add j 1) (Nat.le_of_ble_eq_true rfl) rfl (fun ls hl => ?_)
          have hl : lv_has ls 7 [(3, .int (nI (j + 1))), (1, .long ((kk_cs i j) ||| (1 <<< ((((nI 1) <<< ((nI j) &&& 31)) - (nI 1)).toInt64 &&& 63)))), (6, .int (nI ((j + 7 * i) % 255))), (5, .int (kk_lf ((j + 7 * i) % 255))), (4, .int (nI ((j + 7 * i) % 255))), (0, .int (nI i))] := hl
          refine lv_goto (tgt := 4) hx hb dX1_constant_92 rfl ?_
          have e8 : kk_cs i (j + 1) = (kk_cs i j) ||| (1 <<< ((((nI 1) <<< ((nI j) &&& 31)) - (nI 1)).toInt64 &&& 63)) := if_neg hc9
          exact ih (j + 1) ls (by omega) (by omega) (by rw [e8]; exact lv_sub hl [0, 1, 5] rfl)
  refine outer _ (fun ls hl => ?_) 8 0 ls (by omega) (by omega) hl
  refine lv_lload_n hx hb dX1_constant_95 rfl (lv_at hl 1 rfl) ?_
  exact W.lret hx hb hr (fun t ht hW => ⟨⟨_, (), rfl, kk_cs_rc i hi24, by rw [ht]; exact hP, va_K.moved hW.alike hK, hD⟩, hS.F ht⟩) hS.2.2 dX1_constant_96
set_option maxHeartbeats 4000000 in
set_option maxRecDepth 100000 in
theorem km_out (l : Launch) (D : va_G) (ct : Nat → ClassId) (ad : Nat → Nat) (F : Int32) (M : Nat → Nat → Int64) (Pl : Nat → Nat) (L C V K : Nat → Int64) (sz : Nat) {a : Nat} (ha : a ≤ 7) : Met l yX1_out wsM_out ({ frames := 0, cells := 0, slots := 0, locals := 0 }) (kr_P D vwCl (kw_T ct) kw_N [.ref (ad 0), .int (nI a)] (kw_M ct ad F M Pl L C V K) sz) (va_Qi (S := Unit) (fun r _ => r = nI 0) (kr_B D vwCl (kw_T ct) (fun _ => kw_M ct ad F M Pl L C V K) (va_A (kw_M ct ad F M Pl L C V K) sz)) (va_A (kw_M ct ad F M Pl L C V K) sz)) 0 0 (va_A (kw_M ct ad F M Pl L C V K) sz) := by
  refine Met.ofW (cc := cX1_out) (maxL := 2) (ret := (some .boolean)) (by decide) rfl ?_
  intro p e s m args below meth c s₁ B hml hv
  obtain ⟨rfl, hsz, hP, hK, hD0, hB⟩ := hv
  have hx := B.exec
  have hb := B.bytes
  have hr := B.returns
  have hts := atoms_spec (ws := wsM_out) B.pre
  have hown : s.vm.findClass RX1 = some m.cls := findClass_of_methodNamed B.named
  have hlocks := B.notSynchronized
  have hin : ∀ w ∈ u_ws RX1 TX1 7, w ∈ wsM_out := fun w h => List.mem_cons_of_mem _ (kM_in w h)
  subst hsz
  have hD := hD0.self (sz := s.heap.size)
  generalize hAe : va_A (kw_M ct ad F M Pl L C V K) s.heap.size = A at hD hB ⊢
  have hA : ∀ q : Nat, s.heap.size ≤ q → A q := fun q h => by rw [← hAe]; exact Or.inr h
  have hS : va_S A s.heap s.heap [] := va_S.rf
  have hl := lv_entry ([.ref (ad 0), .int (nI a)]) (n := 2) (Nat.le_of_ble_eq_true rfl)
  rw [lg_entry_eq]
  generalize (lg_sl ([.ref (ad 0), .int (nI a)]) ++ List.replicate (2 - (lg_sl ([.ref (ad 0), .int (nI a)])).length) Slot.unset).toArray = ls at hl ⊢
  have hl : lv_has ls 2 [(0, .ref (ad 0)), (1, .int (nI a))] := hl
  refine lv_iload_n hx hb dX1_out_0 rfl (lv_at hl 1 rfl) ?_
  refine lv_if_lt (tgt := 10) hx hb dX1_out_1 rfl (fun hc => ?_) (fun hc => ?_)
  · exact absurd hc (nI_pos (by omega))
  · clear hc
    refine lv_iload_n hx hb dX1_out_4 rfl (lv_at hl 1 rfl) ?_
    refine lv_bipush (v := nI 7) hx hb dX1_out_5 (by decide +kernel) ?_
    refine kr_icmp_le (tgt := 14) hx hb (by omega) (by omega) dX1_out_7 rfl (fun hc => ?_) (fun hc => ?_)
    · clear hc
      refine lv_iconst (v := nI 0) hx hb dX1_out_14 rfl ?_
      exact W.zret (ty := .boolean) hx hb hr rfl (fun t ht hW => ⟨⟨_, (), rfl, rfl, by rw [ht]; exact hP, va_K.moved hW.alike hK, hD⟩, hS.F ht⟩) hS.2.2 dX1_out_15
    · omega
set_option maxHeartbeats 4000000 in
set_option maxRecDepth 100000 in
theorem km_out1 (l : Launch) (D : va_G) (ct : Nat → ClassId) (ad : Nat → Nat) (F : Int32) (M : Nat → Nat → Int64) (Pl : Nat → Nat) (L C V K : Nat → Int64) (sz : Nat) (x : Int32) (hbad : x < 0 ∨ ¬ x ≤ nI 7) : Met l yX1_out wsM_out ({ frames := 0, cells := 0, slots := 0, locals := 0 }) (kr_P D vwCl (kw_T ct) kw_N [.ref (ad 0), .int x] (kw_M ct ad F M Pl L C V K) sz) (va_Qi (S := Unit) (fun r _ => r = nI 1) (kr_B D vwCl (kw_T ct) (fun _ => kw_M ct ad F M Pl L C V K) (va_A (kw_M ct ad F M Pl L C V K) sz)) (va_A (kw_M ct ad F M Pl L C V K) sz)) 0 0 (va_A (kw_M ct ad F M Pl L C V K) sz) := by
  refine Met.ofW (cc := cX1_out) (maxL := 2) (ret := (some .boolean)) (by decide) rfl ?_
  intro p e s m args below meth c s₁ B hml hv
  obtain ⟨rfl, hsz, hP, hK, hD0, hB⟩ := hv
  have hx := B.exec
  have hb := B.bytes
  have hr := B.returns
  have hts := atoms_spec (ws := wsM_out) B.pre
  have hown : s.vm.findClass RX1 = some m.cls := findClass_of_methodNamed B.named
  have hlocks := B.notSynchronized
  have hin : ∀ w ∈ u_ws RX1 TX1 7, w ∈ wsM_out := fun w h => List.mem_cons_of_mem _ (kM_in w h)
  subst hsz
  have hD := hD0.self (sz := s.heap.size)
  generalize hAe : va_A (kw_M ct ad F M Pl L C V K) s.heap.size = A at hD hB ⊢
  have hA : ∀ q : Nat, s.heap.size ≤ q → A q := fun q h => by rw [← hAe]; exact Or.inr h
  have hS : va_S A s.heap s.heap [] := va_S.rf
  have hl := lv_entry ([.ref (ad 0), .int x]) (n := 2) (Nat.le_of_ble_eq_true rfl)
  rw [lg_entry_eq]
  generalize (lg_sl ([.ref (ad 0), .int x]) ++ List.replicate (2 - (lg_sl ([.ref (ad 0), .int x])).length) Slot.unset).toArray = ls at hl ⊢
  have hl : lv_has ls 2 [(0, .ref (ad 0)), (1, .int x)] := hl
  refine lv_iload_n hx hb dX1_out_0 rfl (lv_at hl 1 rfl) ?_
  refine lv_if_lt (tgt := 10) hx hb dX1_out_1 rfl (fun hc => ?_) (fun hc => ?_)
  · clear hc
    refine lv_iconst (v := nI 1) hx hb dX1_out_10 rfl ?_
    refine lv_goto (tgt := 15) hx hb dX1_out_11 rfl ?_
    exact W.zret (ty := .boolean) hx hb hr rfl (fun t ht hW => ⟨⟨_, (), rfl, rfl, by rw [ht]; exact hP, va_K.moved hW.alike hK, hD⟩, hS.F ht⟩) hS.2.2 dX1_out_15
  · have hc0 := hc
    refine lv_iload_n hx hb dX1_out_4 rfl (lv_at hl 1 rfl) ?_
    refine lv_bipush (v := nI 7) hx hb dX1_out_5 (by decide +kernel) ?_
    refine lv_icmp_le (tgt := 14) hx hb dX1_out_7 rfl (fun hc => ?_) (fun hc => ?_)
    · exact absurd hbad (fun h => h.elim hc0 (fun h => h hc))
    · clear hc
      refine lv_iconst (v := nI 1) hx hb dX1_out_10 rfl ?_
      refine lv_goto (tgt := 15) hx hb dX1_out_11 rfl ?_
      exact W.zret (ty := .boolean) hx hb hr rfl (fun t ht hW => ⟨⟨_, (), rfl, rfl, by rw [ht]; exact hP, va_K.moved hW.alike hK, hD⟩, hS.F ht⟩) hS.2.2 dX1_out_15
set_option maxHeartbeats 4000000 in
set_option maxRecDepth 100000 in
theorem km_fail (l : Launch) (D : va_G) (ct : Nat → ClassId) (ad : Nat → Nat) (F : Int32) (M : Nat → Nat → Int64) (Pl : Nat → Nat) (L C V K : Nat → Int64) (sz : Nat)  : Met l yX1_fail wsM_fail ({ frames := 0, cells := 0, slots := 0, locals := 0 }) (kr_P D vwCl (kw_T ct) kw_N [.ref (ad 0), .int (nI 1)] (kw_M ct ad F M Pl L C V K) sz) (va_Qi (S := Unit) (fun r _ => r = nI 0) (kr_B D vwCl (kw_T ct) (fun _ => kw_M ct ad (nI 1) M Pl L C V K) (va_A (kw_M ct ad F M Pl L C V K) sz)) (va_A (kw_M ct ad F M Pl L C V K) sz)) 0 0 (va_A (kw_M ct ad F M Pl L C V K) sz) := by
  refine Met.ofW (cc := cX1_fail) (maxL := 2) (ret := (some .int)) (by decide) rfl ?_
  intro p e s m args below meth c s₁ B hml hv
  obtain ⟨rfl, hsz, hP, hK, hD0, hB⟩ := hv
  have hx := B.exec
  have hb := B.bytes
  have hr := B.returns
  have hts := atoms_spec (ws := wsM_fail) B.pre
  have hown : s.vm.findClass RX1 = some m.cls := findClass_of_methodNamed B.named
  have hlocks := B.notSynchronized
  have hin : ∀ w ∈ u_ws RX1 TX1 7, w ∈ wsM_fail := fun w h => List.mem_cons_of_mem _ (kM_in w h)
  subst hsz
  have hD := hD0.self (sz := s.heap.size)
  generalize hAe : va_A (kw_M ct ad F M Pl L C V K) s.heap.size = A at hD hB ⊢
  have hA : ∀ q : Nat, s.heap.size ≤ q → A q := fun q h => by rw [← hAe]; exact Or.inr h
  have hS : va_S A s.heap s.heap [] := va_S.rf
  have hl := lv_entry ([.ref (ad 0), .int (nI 1)]) (n := 2) (Nat.le_of_ble_eq_true rfl)
  rw [lg_entry_eq]
  generalize (lg_sl ([.ref (ad 0), .int (nI 1)]) ++ List.replicate (2 - (lg_sl ([.ref (ad 0), .int (nI 1)])).length) Slot.unset).toArray = ls at hl ⊢
  have hl : lv_has ls 2 [(0, .ref (ad 0)), (1, .int (nI 1))] := hl
  refine lv_aload_n hx hb dX1_fail_0 rfl (lv_at hl 0 rfl) ?_
  refine lv_iload_n hx hb dX1_fail_1 rfl (lv_at hl 1 rfl) ?_
  refine va_put (ci := 1) (v := .int (nI 1)) (ty := .int) (C := RX1) (T := TX1) (N := 7) hx hb hts hin tyX1 tyX1_ok nmX1 hown hK hP hD hS 0 rfl rfl 0 (by decide) (hts (.fieldLink RX1 43 "KeccakLanesModel" "failed" "I") (by decide +kernel)) (fun _ h9 => h9) rfl (by decide +kernel) rfl rfl (Nat.le_of_ble_eq_true rfl) dX1_fail_2 (fun H locs hP hD hS => ?_)
  have hP : va_P D vwCl (kw_M ct ad (nI 1) M Pl L C V K) H := hP
  have hD : va_D A (kw_M ct ad (nI 1) M Pl L C V K) := hD
  refine lv_iconst (v := nI 0) hx hb dX1_fail_5 rfl ?_
  exact W.iret hx hb hr (fun t ht hW => ⟨⟨_, (), rfl, rfl, by rw [ht]; exact hP, va_K.moved hW.alike hK, hD⟩, hS.F ht⟩) hS.2.2 dX1_fail_6
set_option maxHeartbeats 4000000 in
set_option maxRecDepth 100000 in
theorem km_thrown (l : Launch) (D : va_G) (ct : Nat → ClassId) (ad : Nat → Nat) (F : Int32) (M : Nat → Nat → Int64) (Pl : Nat → Nat) (L C V K : Nat → Int64) (sz : Nat)  : Met l yX1_thrown wsM_thrown ({ frames := 0, cells := 0, slots := 0, locals := 0 }) (kr_P D vwCl (kw_T ct) kw_N [.ref (ad 0)] (kw_M ct ad F M Pl L C V K) sz) (va_Qi (S := Unit) (fun r _ => r = F) (kr_B D vwCl (kw_T ct) (fun _ => kw_M ct ad F M Pl L C V K) (va_A (kw_M ct ad F M Pl L C V K) sz)) (va_A (kw_M ct ad F M Pl L C V K) sz)) 0 0 (va_A (kw_M ct ad F M Pl L C V K) sz) := by
  refine Met.ofW (cc := cX1_thrown) (maxL := 1) (ret := (some .int)) (by decide) rfl ?_
  intro p e s m args below meth c s₁ B hml hv
  obtain ⟨rfl, hsz, hP, hK, hD0, hB⟩ := hv
  have hx := B.exec
  have hb := B.bytes
  have hr := B.returns
  have hts := atoms_spec (ws := wsM_thrown) B.pre
  have hown : s.vm.findClass RX1 = some m.cls := findClass_of_methodNamed B.named
  have hlocks := B.notSynchronized
  have hin : ∀ w ∈ u_ws RX1 TX1 7, w ∈ wsM_thrown := fun w h => List.mem_cons_of_mem _ (kM_in w h)
  subst hsz
  have hD := hD0.self (sz := s.heap.size)
  generalize hAe : va_A (kw_M ct ad F M Pl L C V K) s.heap.size = A at hD hB ⊢
  have hA : ∀ q : Nat, s.heap.size ≤ q → A q := fun q h => by rw [← hAe]; exact Or.inr h
  have hS : va_S A s.heap s.heap [] := va_S.rf
  have hl := lv_entry ([.ref (ad 0)]) (n := 1) (Nat.le_of_ble_eq_true rfl)
  rw [lg_entry_eq]
  generalize (lg_sl ([.ref (ad 0)]) ++ List.replicate (1 - (lg_sl ([.ref (ad 0)])).length) Slot.unset).toArray = ls at hl ⊢
  have hl : lv_has ls 1 [(0, .ref (ad 0))] := hl
  refine lv_aload_n hx hb dX1_thrown_0 rfl (lv_at hl 0 rfl) ?_
  refine va_get hx hb hts hin hown hK hP 0 rfl rfl 0 (by decide) (hts (.fieldLink RX1 43 "KeccakLanesModel" "failed" "I") (by decide +kernel)) (fun _ h => h) rfl dX1_thrown_1 ?_
  exact W.iret hx hb hr (fun t ht hW => ⟨⟨_, (), rfl, rfl, by rw [ht]; exact hP, va_K.moved hW.alike hK, hD⟩, hS.F ht⟩) hS.2.2 dX1_thrown_4
set_option maxHeartbeats 4000000 in
set_option maxRecDepth 100000 in
theorem km_get (l : Launch) (D : va_G) (ct : Nat → ClassId) (ad : Nat → Nat) (F : Int32) (M : Nat → Nat → Int64) (Pl : Nat → Nat) (L C V K : Nat → Int64) (sz : Nat) {k : Nat} (hk : k < 8) : Met l yX1_get wsM_get ({ frames := 0, cells := 0, slots := 0, locals := 0 }) (kr_P D vwCl (kw_T ct) kw_N [.ref (ad 0), .int (nI k)] (kw_M ct ad F M Pl L C V K) sz) (va_Qv (S := Unit) (fun _ => True) (kr_B D vwCl (kw_T ct) (fun _ => kw_M ct ad F M Pl (M k) C V K) (va_A (kw_M ct ad F M Pl L C V K) sz)) (va_A (kw_M ct ad F M Pl L C V K) sz)) 0 0 (va_A (kw_M ct ad F M Pl L C V K) sz) := by
  refine Met.ofW (cc := cX1_get) (maxL := 3) (ret := none) (by decide) rfl ?_
  intro p e s m args below meth c s₁ B hml hv
  obtain ⟨rfl, hsz, hP, hK, hD0, hB⟩ := hv
  have hx := B.exec
  have hb := B.bytes
  have hr := B.returns
  have hts := atoms_spec (ws := wsM_get) B.pre
  have hown : s.vm.findClass RX1 = some m.cls := findClass_of_methodNamed B.named
  have hlocks := B.notSynchronized
  have hin : ∀ w ∈ u_ws RX1 TX1 7, w ∈ wsM_get := fun w h => List.mem_cons_of_mem _ (kM_in w h)
  subst hsz
  have hD := hD0.self (sz := s.heap.size)
  generalize hAe : va_A (kw_M ct ad F M Pl L C V K) s.heap.size = A at hD hB ⊢
  have hA : ∀ q : Nat, s.heap.size ≤ q → A q := fun q h => by rw [← hAe]; exact Or.inr h
  have hS : va_S A s.heap s.heap [] := va_S.rf
  have hl := lv_entry ([.ref (ad 0), .int (nI k)]) (n := 3) (Nat.le_of_ble_eq_true rfl)
  rw [lg_entry_eq]
  generalize (lg_sl ([.ref (ad 0), .int (nI k)]) ++ List.replicate (3 - (lg_sl ([.ref (ad 0), .int (nI k)])).length) Slot.unset).toArray = ls at hl ⊢
  have hl : lv_has ls 3 [(0, .ref (ad 0)), (1, .int (nI k))] := hl
  have loop : ∀ (Q : State → Prop), (∀ (L : Nat → Int64) (H : Heap) (locs : List Loc) (ls : Array Slot), (∀ u, u < 25 → L u = M k u) → lv_has ls 3 [(2, .int (nI 25)), (0, .ref (ad 0)), (1, .int (nI k))] → va_P D vwCl (kw_M ct ad F M Pl L C V K) H → va_D A (kw_M ct ad F M Pl L C V K) → va_S A s.heap H locs → W p l e (headSpec wsM_get ({ frames := 0, cells := 0, slots := 0, locals := 0 })).room s m (([.ref (ad 0), .int (nI k)] : List Value).toArray) below meth c H locs 0 0 Q (F0 m 28 ls [])) → ∀ (n i : Nat) (L : Nat → Int64) (H : Heap) (locs : List Loc) (ls : Array Slot), 25 - i < n → i ≤ 25 → (∀ u, u < i → L u = M k u) → lv_has ls 3 [(2, .int (nI i)), (0, .ref (ad 0)), (1, .int (nI k))] → va_P D vwCl (kw_M ct ad F M Pl L C V K) H → va_D A (kw_M ct ad F M Pl L C V K) → va_S A s.heap H locs → W p l e (headSpec wsM_get ({ frames := 0, cells := 0, slots := 0, locals := 0 })).room s m (([.ref (ad 0), .int (nI k)] : List Value).toArray) below meth c H locs 0 0 Q (F0 m 2 ls []) := by
    intro Q hend n
    induction n with
    | zero => intro i L H locs ls h; omega
    | succ n ih =>
      intro i L H locs ls hn hi hinv hl hP hD hS
      refine lv_iload_n hx hb dX1_get_2 rfl (lv_at hl 0 rfl) ?_
      refine lv_bipush (v := nI 25) hx hb dX1_get_3 (by decide +kernel) ?_
      refine kr_icmp_ge (tgt := 28) hx hb (by omega) (by omega) dX1_get_5 rfl (fun hc => ?_) (fun hc => ?_)
      · obtain rfl : i = 25 := by omega
        exact hend L H locs ls hinv hl hP hD hS
      · have hi25 : i < 25 := by omega
        refine lv_aload_n hx hb dX1_get_8 rfl (lv_at hl 1 rfl) ?_
        refine va_get hx hb hts hin hown hK hP 0 rfl rfl 3 (by decide) (hts (.fieldLink RX1 7 "KeccakLanesModel" "lanes" "[J") (by decide +kernel)) (fun _ h => h) rfl dX1_get_9 ?_
        refine lv_iload_n hx hb dX1_get_12 rfl (lv_at hl 0 rfl) ?_
        refine lv_aload_n hx hb dX1_get_13 rfl (lv_at hl 1 rfl) ?_
        refine va_get hx hb hts hin hown hK hP 0 rfl rfl 1 (by decide) (hts (.fieldLink RX1 32 "KeccakLanesModel" "states" "[[J") (by decide +kernel)) (fun _ h => h) rfl dX1_get_14 ?_
        refine lv_iload_n hx hb dX1_get_17 rfl (lv_at hl 2 rfl) ?_
        refine kr_aald hx hb hK hP 1 0 rfl rfl (n := k) (y := ad (7 + k)) (by omega) (by omega) (if_pos (by omega)) dX1_get_18 ?_
        refine lv_iload_n hx hb dX1_get_19 rfl (lv_at hl 0 rfl) ?_
        refine kr_lald hx hb hK hP (7 + k) 2 (kw_Mrow ct ad F M Pl L C V K hk) rfl (n := i) (by omega) (by omega) dX1_get_20 ?_
        refine kr_last (w := kw_M ct ad F M Pl (vp_updL L i ((M k) i)) C V K) hx hb hK hP hD hS 3 2 rfl rfl (n := i) (by omega) (by omega) rfl dX1_get_21 (fun H locs hP hD hS => ?_)
        refine lv_iinc (k := 0) (v := nI (i + 1)) hx hb dX1_get_22 hl rfl (nI_add i 1) (Nat.le_of_ble_eq_true rfl) rfl (fun ls hl => ?_)
        have hl : lv_has ls 3 [(2, .int (nI (i + 1))), (0, .ref (ad 0)), (1, .int (nI k))] := hl
        refine lv_goto (tgt := 2) hx hb dX1_get_25 rfl ?_
        refine ih (i + 1) _ H locs ls (by omega) (by omega) (fun u hu => ?_) hl hP hD hS
        by_cases e9 : u = i
        · subst e9; rw [pk_uLs]
        · rw [pk_uLn e9]; exact hinv u (by omega)
  refine lv_iconst (v := nI 0) hx hb dX1_get_0 rfl ?_
  refine lv_istore_n hx hb dX1_get_1 rfl hl (Nat.le_of_ble_eq_true rfl) rfl (fun ls hl => ?_)
  have hl : lv_has ls 3 [(2, .int (nI 0)), (0, .ref (ad 0)), (1, .int (nI k))] := hl
  refine loop _ (fun L9 H locs ls hinv hl hP hD hS => ?_) 26 0 L s.heap [] ls (by omega) (by omega) (fun u hu => absurd hu (by omega)) hl hP hD hS
  have hP : va_P D vwCl (kw_M ct ad F M Pl (M k) C V K) H := kr_sameL (q0 := 3) hP rfl hinv rfl
  have hD : va_D A (kw_M ct ad F M Pl (M k) C V K) := kr_sameD (q0 := 3) hD rfl rfl
  exact W.vret hx hb hr (fun t ht hW => ⟨⟨(), rfl, trivial, by rw [ht]; exact hP, va_K.moved hW.alike hK, hD⟩, hS.F ht⟩) hS.2.2 dX1_get_28
set_option maxHeartbeats 4000000 in
set_option maxRecDepth 100000 in
theorem km_put (l : Launch) (D : va_G) (ct : Nat → ClassId) (ad : Nat → Nat) (F : Int32) (M : Nat → Nat → Int64) (Pl : Nat → Nat) (L C V K : Nat → Int64) (sz : Nat) {k : Nat} (hk : k < 8) : Met l yX1_put wsM_put ({ frames := 0, cells := 0, slots := 0, locals := 0 }) (kr_P D vwCl (kw_T ct) kw_N [.ref (ad 0), .int (nI k)] (kw_M ct ad F M Pl L C V K) sz) (va_Qv (S := Unit) (fun _ => True) (kr_B D vwCl (kw_T ct) (fun _ => kw_M ct ad F (va_up M k L) Pl L C V K) (va_A (kw_M ct ad F M Pl L C V K) sz)) (va_A (kw_M ct ad F M Pl L C V K) sz)) 0 0 (va_A (kw_M ct ad F M Pl L C V K) sz) := by
  refine Met.ofW (cc := cX1_put) (maxL := 3) (ret := none) (by decide) rfl ?_
  intro p e s m args below meth c s₁ B hml hv
  obtain ⟨rfl, hsz, hP, hK, hD0, hB⟩ := hv
  have hx := B.exec
  have hb := B.bytes
  have hr := B.returns
  have hts := atoms_spec (ws := wsM_put) B.pre
  have hown : s.vm.findClass RX1 = some m.cls := findClass_of_methodNamed B.named
  have hlocks := B.notSynchronized
  have hin : ∀ w ∈ u_ws RX1 TX1 7, w ∈ wsM_put := fun w h => List.mem_cons_of_mem _ (kM_in w h)
  subst hsz
  have hD := hD0.self (sz := s.heap.size)
  generalize hAe : va_A (kw_M ct ad F M Pl L C V K) s.heap.size = A at hD hB ⊢
  have hA : ∀ q : Nat, s.heap.size ≤ q → A q := fun q h => by rw [← hAe]; exact Or.inr h
  have hS : va_S A s.heap s.heap [] := va_S.rf
  have hl := lv_entry ([.ref (ad 0), .int (nI k)]) (n := 3) (Nat.le_of_ble_eq_true rfl)
  rw [lg_entry_eq]
  generalize (lg_sl ([.ref (ad 0), .int (nI k)]) ++ List.replicate (3 - (lg_sl ([.ref (ad 0), .int (nI k)])).length) Slot.unset).toArray = ls at hl ⊢
  have hl : lv_has ls 3 [(0, .ref (ad 0)), (1, .int (nI k))] := hl
  have loop : ∀ (Q : State → Prop), (∀ (g : Nat → Int64) (H : Heap) (locs : List Loc) (ls : Array Slot), (∀ u, u < 25 → g u = L u) → lv_has ls 3 [(2, .int (nI 25)), (0, .ref (ad 0)), (1, .int (nI k))] → va_P D vwCl (kw_M ct ad F (va_up M k g) Pl L C V K) H → va_D A (kw_M ct ad F (va_up M k g) Pl L C V K) → va_S A s.heap H locs → W p l e (headSpec wsM_put ({ frames := 0, cells := 0, slots := 0, locals := 0 })).room s m (([.ref (ad 0), .int (nI k)] : List Value).toArray) below meth c H locs 0 0 Q (F0 m 28 ls [])) → ∀ (n i : Nat) (g : Nat → Int64) (H : Heap) (locs : List Loc) (ls : Array Slot), 25 - i < n → i ≤ 25 → (∀ u, u < i → g u = L u) → lv_has ls 3 [(2, .int (nI i)), (0, .ref (ad 0)), (1, .int (nI k))] → va_P D vwCl (kw_M ct ad F (va_up M k g) Pl L C V K) H → va_D A (kw_M ct ad F (va_up M k g) Pl L C V K) → va_S A s.heap H locs → W p l e (headSpec wsM_put ({ frames := 0, cells := 0, slots := 0, locals := 0 })).room s m (([.ref (ad 0), .int (nI k)] : List Value).toArray) below meth c H locs 0 0 Q (F0 m 2 ls []) := by
    intro Q hend n
    induction n with
    | zero => intro i g H locs ls h; omega
    | succ n ih =>
      intro i g H locs ls hn hi hinv hl hP hD hS
      refine lv_iload_n hx hb dX1_put_2 rfl (lv_at hl 0 rfl) ?_
      refine lv_bipush (v := nI 25) hx hb dX1_put_3 (by decide +kernel) ?_
      refine kr_icmp_ge (tgt := 28) hx hb (by omega) (by omega) dX1_put_5 rfl (fun hc => ?_) (fun hc => ?_)
      · obtain rfl : i = 25 := by omega
        exact hend g H locs ls hinv hl hP hD hS
      · have hi25 : i < 25 := by omega
        refine lv_aload_n hx hb dX1_put_8 rfl (lv_at hl 1 rfl) ?_
        refine va_get hx hb hts hin hown hK hP 0 rfl rfl 1 (by decide) (hts (.fieldLink RX1 32 "KeccakLanesModel" "states" "[[J") (by decide +kernel)) (fun _ h => h) rfl dX1_put_9 ?_
        refine lv_iload_n hx hb dX1_put_12 rfl (lv_at hl 2 rfl) ?_
        refine kr_aald hx hb hK hP 1 0 rfl rfl (n := k) (y := ad (7 + k)) (by omega) (by omega) (if_pos (by omega)) dX1_put_13 ?_
        refine lv_iload_n hx hb dX1_put_14 rfl (lv_at hl 0 rfl) ?_
        refine lv_aload_n hx hb dX1_put_15 rfl (lv_at hl 1 rfl) ?_
        refine va_get hx hb hts hin hown hK hP 0 rfl rfl 3 (by decide) (hts (.fieldLink RX1 7 "KeccakLanesModel" "lanes" "[J") (by decide +kernel)) (fun _ h => h) rfl dX1_put_16 ?_
        refine lv_iload_n hx hb dX1_put_19 rfl (lv_at hl 0 rfl) ?_
        refine kr_lald hx hb hK hP 3 2 rfl rfl (n := i) (by omega) (by omega) dX1_put_20 ?_
        refine kr_last (w := kw_M ct ad F (va_up M k (vp_updL g i (L i))) Pl L C V K) hx hb hK hP hD hS (7 + k) 2 (kw_Mrg hk) rfl (n := i) (by omega) (by omega) (kw_Msg hk _) dX1_put_21 (fun H locs hP hD hS => ?_)
        refine lv_iinc (k := 0) (v := nI (i + 1)) hx hb dX1_put_22 hl rfl (nI_add i 1) (Nat.le_of_ble_eq_true rfl) rfl (fun ls hl => ?_)
        have hl : lv_has ls 3 [(2, .int (nI (i + 1))), (0, .ref (ad 0)), (1, .int (nI k))] := hl
        refine lv_goto (tgt := 2) hx hb dX1_put_25 rfl ?_
        refine ih (i + 1) _ H locs ls (by omega) (by omega) (fun u hu => ?_) hl hP hD hS
        by_cases e9 : u = i
        · subst e9; rw [pk_uLs]
        · rw [pk_uLn e9]; exact hinv u (by omega)
  refine lv_iconst (v := nI 0) hx hb dX1_put_0 rfl ?_
  refine lv_istore_n hx hb dX1_put_1 rfl hl (Nat.le_of_ble_eq_true rfl) rfl (fun ls hl => ?_)
  have hl : lv_has ls 3 [(2, .int (nI 0)), (0, .ref (ad 0)), (1, .int (nI k))] := hl
  have hP : va_P D vwCl (kw_M ct ad F (va_up M k (M k)) Pl L C V K) s.heap := by rw [kw_self]; exact hP
  have hD : va_D A (kw_M ct ad F (va_up M k (M k)) Pl L C V K) := by rw [kw_self]; exact hD
  refine loop _ (fun g H locs ls hinv hl hP hD hS => ?_) 26 0 (M k) s.heap [] ls (by omega) (by omega) (fun u hu => absurd hu (by omega)) hl hP hD hS
  have hP : va_P D vwCl (kw_M ct ad F (va_up M k L) Pl L C V K) H := kr_sameL (q0 := 7 + k) hP (kw_Mrg hk) hinv (kw_Msg hk _)
  have hD : va_D A (kw_M ct ad F (va_up M k L) Pl L C V K) := kr_sameD (q0 := 7 + k) hD (kw_Mrg hk) (kw_Msg hk _)
  exact W.vret hx hb hr (fun t ht hW => ⟨⟨(), rfl, trivial, by rw [ht]; exact hP, va_K.moved hW.alike hK, hD⟩, hS.F ht⟩) hS.2.2 dX1_put_28
