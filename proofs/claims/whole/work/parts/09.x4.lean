/-! KeccakLanes: requireUpTo, the public methods where they answer -/
/-- byte i of v; byte i of a filling -/
def kk_tb (v : Int64) (i : Nat) : Int32 := ((v.toUInt64 >>> ((nI (8 * i)).toInt64.toUInt64 &&& Int64.toUInt64 63)).toInt64).toInt32
def kk_fb (v t : Int32) (i : Nat) : Int32 := v + nI i * t
set_option maxHeartbeats 4000000 in
set_option maxRecDepth 100000 in
theorem kc_req (l : Launch) (D : va_G) (ct : Nat → ClassId) (ad tb : Nat → Nat) (M : Nat → Nat → Int64) (Pl : Nat → Nat) (C V : Nat → Int64) (sz : Nat) {a b : Nat} (hab : a ≤ b) (hb31 : b < 2 ^ 31) : Met l yX0_requireUpTo wsX0_requireUpTo ({ frames := 0, cells := 0, slots := 0, locals := 0 }) (kr_P D vwCl (kw_T ct) (kw_B tb) [.int (nI a), .int (nI b)] (kw_X ct ad M Pl C V) sz) (va_Qv (S := Unit) (fun _ => True) (kr_B D vwCl (kw_T ct) (fun _ => kw_X ct ad M Pl C V) (va_A (kw_X ct ad M Pl C V) sz)) (va_A (kw_X ct ad M Pl C V) sz)) 0 0 (va_A (kw_X ct ad M Pl C V) sz) := by
  refine Met.ofW (cc := cX0_requireUpTo) (maxL := 2) (ret := none) (by decide) rfl ?_
  intro p e s m args below meth c s₁ B hml hv
  obtain ⟨rfl, hsz, hP, hK, hD0, hB⟩ := hv
  have hx := B.exec
  have hb := B.bytes
  have hr := B.returns
  have hts := atoms_spec (ws := wsX0_requireUpTo) B.pre
  have hown : s.vm.findClass RX0 = some m.cls := findClass_of_methodNamed B.named
  have hlocks := B.notSynchronized
  subst hsz
  have hD := hD0.self (sz := s.heap.size)
  generalize hAe : va_A (kw_X ct ad M Pl C V) s.heap.size = A at hD hB ⊢
  have hA : ∀ q : Nat, s.heap.size ≤ q → A q := fun q h => by rw [← hAe]; exact Or.inr h
  have hS : va_S A s.heap s.heap [] := va_S.rf
  have hl := lv_entry ([.int (nI a), .int (nI b)]) (n := 2) (Nat.le_of_ble_eq_true rfl)
  rw [lg_entry_eq]
  generalize (lg_sl ([.int (nI a), .int (nI b)]) ++ List.replicate (2 - (lg_sl ([.int (nI a), .int (nI b)])).length) Slot.unset).toArray = ls at hl ⊢
  have hl : lv_has ls 2 [(0, .int (nI a)), (1, .int (nI b))] := hl
  refine lv_iload_n hx hb dX0_requireUpTo_0 rfl (lv_at hl 0 rfl) ?_
  refine lv_if_lt (tgt := 9) hx hb dX0_requireUpTo_1 rfl (fun hc => ?_) (fun hc => ?_)
  · exact absurd hc (nI_pos (by omega))
  · clear hc
    refine lv_iload_n hx hb dX0_requireUpTo_4 rfl (lv_at hl 0 rfl) ?_
    refine lv_iload_n hx hb dX0_requireUpTo_5 rfl (lv_at hl 1 rfl) ?_
    refine kr_icmp_le (tgt := 19) hx hb (by omega) (by omega) dX0_requireUpTo_6 rfl (fun hc => ?_) (fun hc => ?_)
    · clear hc
      exact W.vret hx hb hr (fun t ht hW => ⟨⟨(), rfl, trivial, by rw [ht]; exact hP, va_K.moved hW.alike hK, hD⟩, hS.F ht⟩) hS.2.2 dX0_requireUpTo_19
    · omega
set_option maxHeartbeats 4000000 in
set_option maxRecDepth 100000 in
theorem kc_clear (l : Launch) (D : va_G) (ct : Nat → ClassId) (ad tb : Nat → Nat) (M : Nat → Nat → Int64) (Pl : Nat → Nat) (C V : Nat → Int64) (sz : Nat) {k : Nat} (hk : k < 8) : Met l yX0_clear wsX0_clear ({ frames := 1, cells := 0, slots := 0, locals := 21 }) (kr_P D vwCl (kw_T ct) (kw_B tb) [.ref (ad 0), .int (nI k)] (kw_X ct ad M Pl C V) sz) (va_Qv (S := Unit) (fun _ => True) (kr_B D vwCl (kw_T ct) (fun _ => kw_X ct ad (va_up M k (fun _ => 0)) (va_up Pl k 0) C V) (va_A (kw_X ct ad M Pl C V) sz)) (va_A (kw_X ct ad M Pl C V) sz)) 0 0 (va_A (kw_X ct ad M Pl C V) sz) := by
  refine Met.ofW (cc := cX0_clear) (maxL := 4) (ret := none) (by decide) rfl ?_
  intro p e s m args below meth c s₁ B hml hv
  obtain ⟨rfl, hsz, hP, hK, hD0, hB⟩ := hv
  have hx := B.exec
  have hb := B.bytes
  have hr := B.returns
  have hts := atoms_spec (ws := wsX0_clear) B.pre
  have hown : s.vm.findClass RX0 = some m.cls := findClass_of_methodNamed B.named
  have hlocks := B.notSynchronized
  have hin : ∀ w ∈ u_ws RX0 TX0 4, w ∈ wsX0_clear := by decide +kernel
  subst hsz
  have hD := hD0.self (sz := s.heap.size)
  generalize hAe : va_A (kw_X ct ad M Pl C V) s.heap.size = A at hD hB ⊢
  have hA : ∀ q : Nat, s.heap.size ≤ q → A q := fun q h => by rw [← hAe]; exact Or.inr h
  have hS : va_S A s.heap s.heap [] := va_S.rf
  have hl := lv_entry ([.ref (ad 0), .int (nI k)]) (n := 4) (Nat.le_of_ble_eq_true rfl)
  rw [lg_entry_eq]
  generalize (lg_sl ([.ref (ad 0), .int (nI k)]) ++ List.replicate (4 - (lg_sl ([.ref (ad 0), .int (nI k)])).length) Slot.unset).toArray = ls at hl ⊢
  have hl : lv_has ls 4 [(0, .ref (ad 0)), (1, .int (nI k))] := hl
  have hk9 : k < 9 := by omega
  refine lv_iload_n hx hb dX0_clear_0 rfl (lv_at hl 1 rfl) ?_
  refine lv_bipush (v := nI 7) hx hb dX0_clear_1 (by decide +kernel) ?_
  refine kr_callv (va_runS (As := [.int (nI k), .int (nI 7)]) (rest := []) ⟨hx, hb, hml, hown, hts⟩ (kc_req l D ct ad tb M Pl C V _ (a := k) (b := 7) (by omega) (by omega)) (va_cwS 2 hts gX0_clear_X0_requireUpTo rfl rfl rfl (by decide +kernel) ⟨Nat.le_of_ble_eq_true rfl, Nat.le_of_ble_eq_true rfl⟩) (kr_preS (kw_Bok tb) _ hP hK hD hB hS hA) rfl rfl hl.1 rfl (lv_room (Nat.le_of_ble_eq_true rfl)) dX0_clear_3 ⟨Nat.zero_le _, Nat.zero_le _⟩) hD hS hA (fun u H locs hq hP hD hS => ?_)
  have hP : va_P D vwCl (kw_X ct ad M Pl C V) H := hP
  have hD : va_D A (kw_X ct ad M Pl C V) := hD
  refine lv_aload_n hx hb dX0_clear_6 rfl (lv_at hl 0 rfl) ?_
  refine va_get hx hb hts hin hown hK hP 0 rfl rfl 0 (by decide) (hts (.fieldLink RX0 11 "KeccakLanes" "lanes" "[[J") (by decide +kernel)) (fun _ h => h) rfl dX0_clear_7 ?_
  refine lv_iload_n hx hb dX0_clear_10 rfl (lv_at hl 1 rfl) ?_
  refine kr_aald hx hb hK hP 1 0 rfl rfl (n := k) (y := ad (5 + k)) (by omega) (by omega) (if_pos (by omega)) dX0_clear_11 ?_
  refine lv_astore_n hx hb dX0_clear_12 rfl hl (Nat.le_of_ble_eq_true rfl) rfl (fun ls hl => ?_)
  have hl : lv_has ls 4 [(2, .ref (ad (5 + k))), (0, .ref (ad 0)), (1, .int (nI k))] := hl
  refine lv_iconst (v := nI 0) hx hb dX0_clear_13 rfl ?_
  refine lv_istore_n hx hb dX0_clear_14 rfl hl (Nat.le_of_ble_eq_true rfl) rfl (fun ls hl => ?_)
  have hl : lv_has ls 4 [(3, .int (nI 0)), (2, .ref (ad (5 + k))), (0, .ref (ad 0)), (1, .int (nI k))] := hl
  have loop : ∀ (Q : State → Prop), (∀ (g : Nat → Int64) (H : Heap) (locs : List Loc) (ls : Array Slot), (∀ u, u < 25 → g u = 0) → lv_has ls 4 [(3, .int (nI 25)), (2, .ref (ad (5 + k))), (0, .ref (ad 0)), (1, .int (nI k))] → va_P D vwCl (kw_X ct ad (va_up M k g) Pl C V) H → va_D A (kw_X ct ad (va_up M k g) Pl C V) → va_S A s.heap H locs → W p l e (headSpec wsX0_clear ({ frames := 1, cells := 0, slots := 0, locals := 21 })).room s m (([.ref (ad 0), .int (nI k)] : List Value).toArray) below meth c H locs 0 0 Q (F0 m 31 ls [])) → ∀ (n i : Nat) (g : Nat → Int64) (H : Heap) (locs : List Loc) (ls : Array Slot), 25 - i < n → i ≤ 25 → (∀ u, u < i → g u = 0) → lv_has ls 4 [(3, .int (nI i)), (2, .ref (ad (5 + k))), (0, .ref (ad 0)), (1, .int (nI k))] → va_P D vwCl (kw_X ct ad (va_up M k g) Pl C V) H → va_D A (kw_X ct ad (va_up M k g) Pl C V) → va_S A s.heap H locs → W p l e (headSpec wsX0_clear ({ frames := 1, cells := 0, slots := 0, locals := 21 })).room s m (([.ref (ad 0), .int (nI k)] : List Value).toArray) below meth c H locs 0 0 Q (F0 m 15 ls []) := by
    intro Q hend n
    induction n with
    | zero => intro i g H locs ls h; omega
    | succ n ih =>
      intro i g H locs ls hn hi hinv hl hP hD hS
      refine lv_iload_n hx hb dX0_clear_15 rfl (lv_at hl 0 rfl) ?_
      refine lv_bipush (v := nI 25) hx hb dX0_clear_16 (by decide +kernel) ?_
      refine kr_icmp_ge (tgt := 31) hx hb (by omega) (by omega) dX0_clear_18 rfl (fun hc => ?_) (fun hc => ?_)
      · obtain rfl : i = 25 := by omega
        exact hend g H locs ls hinv hl hP hD hS
      · have hi25 : i < 25 := by omega
        refine lv_aload_n hx hb dX0_clear_21 rfl (lv_at hl 1 rfl) ?_
        refine lv_iload_n hx hb dX0_clear_22 rfl (lv_at hl 0 rfl) ?_
        refine lv_lconst (v := 0) hx hb dX0_clear_23 rfl ?_
        refine kr_last (w := kw_X ct ad (va_up M k (vp_updL g i 0)) Pl C V) hx hb hK hP hD hS (5 + k) 2 (kw_Xrg hk9) rfl (n := i) (by omega) (by omega) (kw_Xsg hk9 _) dX0_clear_24 (fun H locs hP hD hS => ?_)
        refine lv_iinc (k := 0) (v := nI (i + 1)) hx hb dX0_clear_25 hl rfl (nI_add i 1) (Nat.le_of_ble_eq_true rfl) rfl (fun ls hl => ?_)
        have hl : lv_has ls 4 [(3, .int (nI (i + 1))), (2, .ref (ad (5 + k))), (0, .ref (ad 0)), (1, .int (nI k))] := hl
        refine lv_goto (tgt := 15) hx hb dX0_clear_28 rfl ?_
        refine ih (i + 1) _ H locs ls (by omega) (by omega) (fun u hu => ?_) hl hP hD hS
        by_cases e9 : u = i
        · subst e9; rw [pk_uLs]
        · rw [pk_uLn e9]; exact hinv u (by omega)
  have hP : va_P D vwCl (kw_X ct ad (va_up M k (M k)) Pl C V) H := by rw [kw_self]; exact hP
  have hD : va_D A (kw_X ct ad (va_up M k (M k)) Pl C V) := by rw [kw_self]; exact hD
  refine loop _ (fun g H locs ls hinv hl hP hD hS => ?_) 26 0 (M k) H locs ls (by omega) (by omega) (fun u hu => absurd hu (by omega)) hl hP hD hS
  have hP : va_P D vwCl (kw_X ct ad (va_up M k (fun _ => 0)) Pl C V) H := kr_sameL (q0 := 5 + k) hP (kw_Xrg hk9) hinv (kw_Xsg hk9 _)
  have hD : va_D A (kw_X ct ad (va_up M k (fun _ => 0)) Pl C V) := kr_sameD (q0 := 5 + k) hD (kw_Xrg hk9) (kw_Xsg hk9 _)
  refine lv_aload_n hx hb dX0_clear_31 rfl (lv_at hl 2 rfl) ?_
  refine va_get hx hb hts hin hown hK hP 0 rfl rfl 1 (by decide) (hts (.fieldLink RX0 14 "KeccakLanes" "places" "[I") (by decide +kernel)) (fun _ h => h) rfl dX0_clear_32 ?_
  refine lv_iload_n hx hb dX0_clear_35 rfl (lv_at hl 3 rfl) ?_
  refine lv_iconst (v := nI 0) hx hb dX0_clear_36 rfl ?_
  refine kr_iast hx hb hK hP hD hS 2 1 rfl rfl (n := k) (by omega) (by omega) (kw_XsP k 0) dX0_clear_37 (fun H locs hP hD hS => ?_)
  exact W.vret hx hb hr (fun t ht hW => ⟨⟨(), rfl, trivial, by rw [ht]; exact hP, va_K.moved hW.alike hK, hD⟩, hS.F ht⟩) hS.2.2 dX0_clear_38
set_option maxHeartbeats 4000000 in
set_option maxRecDepth 100000 in
theorem kc_take (l : Launch) (D : va_G) (ct : Nat → ClassId) (ad tb : Nat → Nat) (M : Nat → Nat → Int64) (Pl : Nat → Nat) (C V : Nat → Int64) (sz : Nat) {k n : Nat} (hk : k < 8) (hn8 : n ≤ 8) (hq0 : (M k, Pl k).2 < 136) (v : Int64) : Met l yX0_take wsX0_take ({ frames := 4, cells := 0, slots := 0, locals := 97 }) (kr_P D vwCl (kw_T ct) (kw_B tb) [.ref (ad 0), .int (nI k), .long v, .int (nI n)] (kw_X ct ad M Pl C V) sz) (va_Qi (S := ((Nat → Int64) × (Nat → Int64))) (fun r _ => r = nI (kk_ins (M k, Pl k) (kk_tb v) n).2) (kr_B D vwCl (kw_T ct) (fun u => kw_X ct ad (va_up M k (kk_ins (M k, Pl k) (kk_tb v) n).1) (va_up Pl k (kk_ins (M k, Pl k) (kk_tb v) n).2) u.1 u.2) (va_A (kw_X ct ad M Pl C V) sz)) (va_A (kw_X ct ad M Pl C V) sz)) 0 0 (va_A (kw_X ct ad M Pl C V) sz) := by
  refine Met.ofW (cc := cX0_take) (maxL := 6) (ret := (some .int)) (by decide) rfl ?_
  intro p e s m args below meth c s₁ B hml hv
  obtain ⟨rfl, hsz, hP, hK, hD0, hB⟩ := hv
  have hx := B.exec
  have hb := B.bytes
  have hr := B.returns
  have hts := atoms_spec (ws := wsX0_take) B.pre
  have hown : s.vm.findClass RX0 = some m.cls := findClass_of_methodNamed B.named
  have hlocks := B.notSynchronized
  have hin : ∀ w ∈ u_ws RX0 TX0 4, w ∈ wsX0_take := by decide +kernel
  subst hsz
  have hD := hD0.self (sz := s.heap.size)
  generalize hAe : va_A (kw_X ct ad M Pl C V) s.heap.size = A at hD hB ⊢
  have hA : ∀ q : Nat, s.heap.size ≤ q → A q := fun q h => by rw [← hAe]; exact Or.inr h
  have hS : va_S A s.heap s.heap [] := va_S.rf
  have hl := lv_entry ([.ref (ad 0), .int (nI k), .long v, .int (nI n)]) (n := 6) (Nat.le_of_ble_eq_true rfl)
  rw [lg_entry_eq]
  generalize (lg_sl ([.ref (ad 0), .int (nI k), .long v, .int (nI n)]) ++ List.replicate (6 - (lg_sl ([.ref (ad 0), .int (nI k), .long v, .int (nI n)])).length) Slot.unset).toArray = ls at hl ⊢
  have hl : lv_has ls 6 [(0, .ref (ad 0)), (1, .int (nI k)), (2, .long v), (4, .int (nI n))] := hl
  have hk9 : k < 9 := by omega
  refine lv_iload_n hx hb dX0_take_0 rfl (lv_at hl 1 rfl) ?_
  refine lv_bipush (v := nI 7) hx hb dX0_take_1 (by decide +kernel) ?_
  refine kr_callv (va_runS (As := [.int (nI k), .int (nI 7)]) (rest := []) ⟨hx, hb, hml, hown, hts⟩ (kc_req l D ct ad tb M Pl C V _ (a := k) (b := 7) (by omega) (by omega)) (va_cwS 2 hts gX0_take_X0_requireUpTo rfl rfl rfl (by decide +kernel) ⟨Nat.le_of_ble_eq_true rfl, Nat.le_of_ble_eq_true rfl⟩) (kr_preS (kw_Bok tb) _ hP hK hD hB hS hA) rfl rfl hl.1 rfl (lv_room (Nat.le_of_ble_eq_true rfl)) dX0_take_3 ⟨Nat.zero_le _, Nat.zero_le _⟩) hD hS hA (fun u H locs hq hP hD hS => ?_)
  have hP : va_P D vwCl (kw_X ct ad M Pl C V) H := hP
  have hD : va_D A (kw_X ct ad M Pl C V) := hD
  refine lv_iload hx hb dX0_take_6 (lv_at hl 3 rfl) ?_
  refine lv_bipush (v := nI 8) hx hb dX0_take_8 (by decide +kernel) ?_
  refine kr_callv (va_runS (As := [.int (nI n), .int (nI 8)]) (rest := []) ⟨hx, hb, hml, hown, hts⟩ (kc_req l D ct ad tb M Pl C V _ (a := n) (b := 8) (by omega) (by omega)) (va_cwS 2 hts gX0_take_X0_requireUpTo rfl rfl rfl (by decide +kernel) ⟨Nat.le_of_ble_eq_true rfl, Nat.le_of_ble_eq_true rfl⟩) (kr_preS (kw_Bok tb) _ hP hK hD hB hS hA) rfl rfl hl.1 rfl (lv_room (Nat.le_of_ble_eq_true rfl)) dX0_take_10 ⟨Nat.zero_le _, Nat.zero_le _⟩) hD hS hA (fun u H locs hq hP hD hS => ?_)
  have hP : va_P D vwCl (kw_X ct ad M Pl C V) H := hP
  have hD : va_D A (kw_X ct ad M Pl C V) := hD
  refine lv_iconst (v := nI 0) hx hb dX0_take_13 rfl ?_
  refine lv_istore hx hb dX0_take_14 hl (Nat.le_of_ble_eq_true rfl) rfl (fun ls hl => ?_)
  have hl : lv_has ls 6 [(5, .int (nI 0)), (0, .ref (ad 0)), (1, .int (nI k)), (2, .long v), (4, .int (nI n))] := hl
  have hl : lv_has ls 6 [(5, .int (nI 0)), (0, .ref (ad 0)), (1, .int (nI k)), (2, .long v), (4, .int (nI n))] := lv_sub hl [0, 1, 2, 3, 4] rfl
  have loop : ∀ (Q : State → Prop), (∀ (C V : Nat → Int64) (H : Heap) (locs : List Loc) (ls : Array Slot), lv_has ls 6 [(5, .int (nI n)), (0, .ref (ad 0)), (1, .int (nI k)), (2, .long v), (4, .int (nI n))] → va_P D vwCl (kw_X ct ad (va_up M k (kk_ins (M k, Pl k) (kk_tb v) n).1) (va_up Pl k (kk_ins (M k, Pl k) (kk_tb v) n).2) C V) H → va_D A (kw_X ct ad (va_up M k (kk_ins (M k, Pl k) (kk_tb v) n).1) (va_up Pl k (kk_ins (M k, Pl k) (kk_tb v) n).2) C V) → va_S A s.heap H locs → W p l e (headSpec wsX0_take ({ frames := 4, cells := 0, slots := 0, locals := 97 })).room s m (([.ref (ad 0), .int (nI k), .long v, .int (nI n)] : List Value).toArray) below meth c H locs 0 0 Q (F0 m 42 ls [])) → ∀ (f i : Nat) (C V : Nat → Int64) (H : Heap) (locs : List Loc) (ls : Array Slot), n - i < f → i ≤ n → lv_has ls 6 [(5, .int (nI i)), (0, .ref (ad 0)), (1, .int (nI k)), (2, .long v), (4, .int (nI n))] → va_P D vwCl (kw_X ct ad (va_up M k (kk_ins (M k, Pl k) (kk_tb v) i).1) (va_up Pl k (kk_ins (M k, Pl k) (kk_tb v) i).2) C V) H → va_D A (kw_X ct ad (va_up M k (kk_ins (M k, Pl k) (kk_tb v) i).1) (va_up Pl k (kk_ins (M k, Pl k) (kk_tb v) i).2) C V) → va_S A s.heap H locs → W p l e (headSpec wsX0_take ({ frames := 4, cells := 0, slots := 0, locals := 97 })).room s m (([.ref (ad 0), .int (nI k), .long v, .int (nI n)] : List Value).toArray) below meth c H locs 0 0 Q (F0 m 16 ls []) := by
    intro Q hend f
    induction f with
    | zero => intro i C V H locs ls h; omega
    | succ f ih =>
      intro i C V H locs ls hn hi hl hP hD hS
      refine lv_iload hx hb dX0_take_16 (lv_at hl 0 rfl) ?_
      refine lv_iload hx hb dX0_take_18 (lv_at hl 4 rfl) ?_
      refine kr_icmp_ge (tgt := 42) hx hb (by omega) (by omega) dX0_take_20 rfl (fun hc => ?_) (fun hc => ?_)
      · obtain rfl : i = n := by omega
        exact hend C V H locs ls hl hP hD hS
      · have hin2 : i < n := by omega
        refine lv_aload_n hx hb dX0_take_23 rfl (lv_at hl 1 rfl) ?_
        refine lv_iload_n hx hb dX0_take_24 rfl (lv_at hl 2 rfl) ?_
        refine lv_lload_n hx hb dX0_take_25 rfl (lv_at hl 3 rfl) ?_
        refine lv_bipush (v := nI 8) hx hb dX0_take_26 (by decide +kernel) ?_
        refine lv_iload hx hb dX0_take_28 (lv_at hl 0 rfl) ?_
        refine kr_imul hx hb dX0_take_30 ?_
        refine lv_lushr hx hb dX0_take_31 rfl ?_
        refine lv_l2i hx hb dX0_take_32 rfl ?_
        refine kr_callv (va_runV (As := [.int (nI k), .int (((v.toUInt64 >>> ((nI (8 * i)).toInt64.toUInt64 &&& Int64.toUInt64 63)).toInt64).toInt32)]) (rest := []) ⟨hx, hb, hml, hown, hts⟩ (kc_takeIn l D ct ad tb M Pl C V _ (kk_ins (M k, Pl k) (kk_tb v) i).1 (q := (kk_ins (M k, Pl k) (kk_tb v) i).2) hk9 (kk_ins_lt hq0 i) ((kk_tb v) i)) (cwV 2 hts gX0_take_X0_takeIn rfl rfl rfl (by decide +kernel) ⟨Nat.le_of_ble_eq_true rfl, Nat.le_of_ble_eq_true rfl⟩) (kr_preV (kw_Bok tb) (q := (RX0, TX0, 4)) (q0 := 0) (ci := 0) _ hP hK hD hB hS hA rfl rfl rfl) rfl rfl hl.1 rfl (lv_room (Nat.le_of_ble_eq_true rfl)) dX0_take_33 ⟨Nat.zero_le _, Nat.zero_le _⟩) hD hS hA (fun u H locs hq hP hD hS => ?_)
        have hP : va_P D vwCl (kw_X ct ad (va_up M k ((kk_ins (M k, Pl k) (kk_tb v) (i + 1)).1)) (va_up Pl k ((kk_ins (M k, Pl k) (kk_tb v) (i + 1)).2)) u.1 u.2) H := hP
        have hD : va_D A (kw_X ct ad (va_up M k ((kk_ins (M k, Pl k) (kk_tb v) (i + 1)).1)) (va_up Pl k ((kk_ins (M k, Pl k) (kk_tb v) (i + 1)).2)) u.1 u.2) := hD
        refine lv_iinc (k := 0) (v := nI (i + 1)) hx hb dX0_take_36 hl rfl (nI_add i 1) (Nat.le_of_ble_eq_true rfl) rfl (fun ls hl => ?_)
        have hl : lv_has ls 6 [(5, .int (nI (i + 1))), (0, .ref (ad 0)), (1, .int (nI k)), (2, .long v), (4, .int (nI n))] := hl
        refine lv_goto (tgt := 16) hx hb dX0_take_39 rfl ?_
        exact ih (i + 1) u.1 u.2 H locs ls (by omega) (by omega) hl hP hD hS
  have hP : va_P D vwCl (kw_X ct ad (va_up M k (kk_ins (M k, Pl k) (kk_tb v) 0).1) (va_up Pl k (kk_ins (M k, Pl k) (kk_tb v) 0).2) C V) H := by show va_P D vwCl (kw_X ct ad (va_up M k (M k)) (va_up Pl k (Pl k)) C V) H; rw [kw_self, kw_self]; exact hP
  have hD : va_D A (kw_X ct ad (va_up M k (kk_ins (M k, Pl k) (kk_tb v) 0).1) (va_up Pl k (kk_ins (M k, Pl k) (kk_tb v) 0).2) C V) := by show va_D A (kw_X ct ad (va_up M k (M k)) (va_up Pl k (Pl k)) C V); rw [kw_self, kw_self]; exact hD
  refine loop _ (fun C V H locs ls hl hP hD hS => ?_) (n + 1) 0 C V H locs ls (by omega) (by omega) hl hP hD hS
  refine lv_aload_n hx hb dX0_take_42 rfl (lv_at hl 1 rfl) ?_
  refine va_get hx hb hts hin hown hK hP 0 rfl rfl 1 (by decide) (hts (.fieldLink RX0 14 "KeccakLanes" "places" "[I") (by decide +kernel)) (fun _ h => h) rfl dX0_take_43 ?_
  refine lv_iload_n hx hb dX0_take_46 rfl (lv_at hl 2 rfl) ?_
  refine kr_iald hx hb hK hP 2 1 rfl rfl (n := k) (by omega) (by omega) dX0_take_47 ?_
  rw [va_up_self]
  exact W.iret hx hb hr (fun t ht hW => ⟨⟨_, (C, V), rfl, rfl, by rw [ht]; exact hP, va_K.moved hW.alike hK, hD⟩, hS.F ht⟩) hS.2.2 dX0_take_48
set_option maxHeartbeats 4000000 in
set_option maxRecDepth 100000 in
theorem kc_fill (l : Launch) (D : va_G) (ct : Nat → ClassId) (ad tb : Nat → Nat) (M : Nat → Nat → Int64) (Pl : Nat → Nat) (C V : Nat → Int64) (sz : Nat) {k n : Nat} (hk : k < 8) (hn8 : n ≤ 2000) (hq0 : (M k, Pl k).2 < 136) (v t : Int32) : Met l yX0_fill wsX0_fill ({ frames := 4, cells := 0, slots := 0, locals := 97 }) (kr_P D vwCl (kw_T ct) (kw_B tb) [.ref (ad 0), .int (nI k), .int v, .int t, .int (nI n)] (kw_X ct ad M Pl C V) sz) (va_Qi (S := ((Nat → Int64) × (Nat → Int64))) (fun r _ => r = nI (kk_ins (M k, Pl k) (kk_fb v t) n).2) (kr_B D vwCl (kw_T ct) (fun u => kw_X ct ad (va_up M k (kk_ins (M k, Pl k) (kk_fb v t) n).1) (va_up Pl k (kk_ins (M k, Pl k) (kk_fb v t) n).2) u.1 u.2) (va_A (kw_X ct ad M Pl C V) sz)) (va_A (kw_X ct ad M Pl C V) sz)) 0 0 (va_A (kw_X ct ad M Pl C V) sz) := by
  refine Met.ofW (cc := cX0_fill) (maxL := 6) (ret := (some .int)) (by decide) rfl ?_
  intro p e s m args below meth c s₁ B hml hv
  obtain ⟨rfl, hsz, hP, hK, hD0, hB⟩ := hv
  have hx := B.exec
  have hb := B.bytes
  have hr := B.returns
  have hts := atoms_spec (ws := wsX0_fill) B.pre
  have hown : s.vm.findClass RX0 = some m.cls := findClass_of_methodNamed B.named
  have hlocks := B.notSynchronized
  have hin : ∀ w ∈ u_ws RX0 TX0 4, w ∈ wsX0_fill := by decide +kernel
  subst hsz
  have hD := hD0.self (sz := s.heap.size)
  generalize hAe : va_A (kw_X ct ad M Pl C V) s.heap.size = A at hD hB ⊢
  have hA : ∀ q : Nat, s.heap.size ≤ q → A q := fun q h => by rw [← hAe]; exact Or.inr h
  have hS : va_S A s.heap s.heap [] := va_S.rf
  have hl := lv_entry ([.ref (ad 0), .int (nI k), .int v, .int t, .int (nI n)]) (n := 6) (Nat.le_of_ble_eq_true rfl)
  rw [lg_entry_eq]
  generalize (lg_sl ([.ref (ad 0), .int (nI k), .int v, .int t, .int (nI n)]) ++ List.replicate (6 - (lg_sl ([.ref (ad 0), .int (nI k), .int v, .int t, .int (nI n)])).length) Slot.unset).toArray = ls at hl ⊢
  have hl : lv_has ls 6 [(0, .ref (ad 0)), (1, .int (nI k)), (2, .int v), (3, .int t), (4, .int (nI n))] := hl
  have hk9 : k < 9 := by omega
  refine lv_iload_n hx hb dX0_fill_0 rfl (lv_at hl 1 rfl) ?_
  refine lv_bipush (v := nI 7) hx hb dX0_fill_1 (by decide +kernel) ?_
  refine kr_callv (va_runS (As := [.int (nI k), .int (nI 7)]) (rest := []) ⟨hx, hb, hml, hown, hts⟩ (kc_req l D ct ad tb M Pl C V _ (a := k) (b := 7) (by omega) (by omega)) (va_cwS 2 hts gX0_fill_X0_requireUpTo rfl rfl rfl (by decide +kernel) ⟨Nat.le_of_ble_eq_true rfl, Nat.le_of_ble_eq_true rfl⟩) (kr_preS (kw_Bok tb) _ hP hK hD hB hS hA) rfl rfl hl.1 rfl (lv_room (Nat.le_of_ble_eq_true rfl)) dX0_fill_3 ⟨Nat.zero_le _, Nat.zero_le _⟩) hD hS hA (fun u H locs hq hP hD hS => ?_)
  have hP : va_P D vwCl (kw_X ct ad M Pl C V) H := hP
  have hD : va_D A (kw_X ct ad M Pl C V) := hD
  refine lv_iload hx hb dX0_fill_6 (lv_at hl 4 rfl) ?_
  refine lv_sipush (v := nI 2000) hx hb dX0_fill_8 (by decide +kernel) ?_
  refine kr_callv (va_runS (As := [.int (nI n), .int (nI 2000)]) (rest := []) ⟨hx, hb, hml, hown, hts⟩ (kc_req l D ct ad tb M Pl C V _ (a := n) (b := 2000) (by omega) (by omega)) (va_cwS 2 hts gX0_fill_X0_requireUpTo rfl rfl rfl (by decide +kernel) ⟨Nat.le_of_ble_eq_true rfl, Nat.le_of_ble_eq_true rfl⟩) (kr_preS (kw_Bok tb) _ hP hK hD hB hS hA) rfl rfl hl.1 rfl (lv_room (Nat.le_of_ble_eq_true rfl)) dX0_fill_11 ⟨Nat.zero_le _, Nat.zero_le _⟩) hD hS hA (fun u H locs hq hP hD hS => ?_)
  have hP : va_P D vwCl (kw_X ct ad M Pl C V) H := hP
  have hD : va_D A (kw_X ct ad M Pl C V) := hD
  refine lv_iconst (v := nI 0) hx hb dX0_fill_14 rfl ?_
  refine lv_istore hx hb dX0_fill_15 hl (Nat.le_of_ble_eq_true rfl) rfl (fun ls hl => ?_)
  have hl : lv_has ls 6 [(5, .int (nI 0)), (0, .ref (ad 0)), (1, .int (nI k)), (2, .int v), (3, .int t), (4, .int (nI n))] := hl
  have hl : lv_has ls 6 [(5, .int (nI 0)), (0, .ref (ad 0)), (1, .int (nI k)), (2, .int v), (3, .int t), (4, .int (nI n))] := lv_sub hl [0, 1, 2, 3, 4, 5] rfl
  have loop : ∀ (Q : State → Prop), (∀ (C V : Nat → Int64) (H : Heap) (locs : List Loc) (ls : Array Slot), lv_has ls 6 [(5, .int (nI n)), (0, .ref (ad 0)), (1, .int (nI k)), (2, .int v), (3, .int t), (4, .int (nI n))] → va_P D vwCl (kw_X ct ad (va_up M k (kk_ins (M k, Pl k) (kk_fb v t) n).1) (va_up Pl k (kk_ins (M k, Pl k) (kk_fb v t) n).2) C V) H → va_D A (kw_X ct ad (va_up M k (kk_ins (M k, Pl k) (kk_fb v t) n).1) (va_up Pl k (kk_ins (M k, Pl k) (kk_fb v t) n).2) C V) → va_S A s.heap H locs → W p l e (headSpec wsX0_fill ({ frames := 4, cells := 0, slots := 0, locals := 97 })).room s m (([.ref (ad 0), .int (nI k), .int v, .int t, .int (nI n)] : List Value).toArray) below meth c H locs 0 0 Q (F0 m 41 ls [])) → ∀ (f i : Nat) (C V : Nat → Int64) (H : Heap) (locs : List Loc) (ls : Array Slot), n - i < f → i ≤ n → lv_has ls 6 [(5, .int (nI i)), (0, .ref (ad 0)), (1, .int (nI k)), (2, .int v), (3, .int t), (4, .int (nI n))] → va_P D vwCl (kw_X ct ad (va_up M k (kk_ins (M k, Pl k) (kk_fb v t) i).1) (va_up Pl k (kk_ins (M k, Pl k) (kk_fb v t) i).2) C V) H → va_D A (kw_X ct ad (va_up M k (kk_ins (M k, Pl k) (kk_fb v t) i).1) (va_up Pl k (kk_ins (M k, Pl k) (kk_fb v t) i).2) C V) → va_S A s.heap H locs → W p l e (headSpec wsX0_fill ({ frames := 4, cells := 0, slots := 0, locals := 97 })).room s m (([.ref (ad 0), .int (nI k), .int v, .int t, .int (nI n)] : List Value).toArray) below meth c H locs 0 0 Q (F0 m 17 ls []) := by
    intro Q hend f
    induction f with
    | zero => intro i C V H locs ls h; omega
    | succ f ih =>
      intro i C V H locs ls hn hi hl hP hD hS
      refine lv_iload hx hb dX0_fill_17 (lv_at hl 0 rfl) ?_
      refine lv_iload hx hb dX0_fill_19 (lv_at hl 5 rfl) ?_
      refine kr_icmp_ge (tgt := 41) hx hb (by omega) (by omega) dX0_fill_21 rfl (fun hc => ?_) (fun hc => ?_)
      · obtain rfl : i = n := by omega
        exact hend C V H locs ls hl hP hD hS
      · have hin2 : i < n := by omega
        refine lv_aload_n hx hb dX0_fill_24 rfl (lv_at hl 1 rfl) ?_
        refine lv_iload_n hx hb dX0_fill_25 rfl (lv_at hl 2 rfl) ?_
        refine lv_iload_n hx hb dX0_fill_26 rfl (lv_at hl 3 rfl) ?_
        refine lv_iload hx hb dX0_fill_27 (lv_at hl 0 rfl) ?_
        refine lv_iload_n hx hb dX0_fill_29 rfl (lv_at hl 4 rfl) ?_
        refine lv_imul hx hb dX0_fill_30 ?_
        refine lv_iadd hx hb dX0_fill_31 ?_
        refine kr_callv (va_runV (As := [.int (nI k), .int (v + ((nI i) * t))]) (rest := []) ⟨hx, hb, hml, hown, hts⟩ (kc_takeIn l D ct ad tb M Pl C V _ (kk_ins (M k, Pl k) (kk_fb v t) i).1 (q := (kk_ins (M k, Pl k) (kk_fb v t) i).2) hk9 (kk_ins_lt hq0 i) ((kk_fb v t) i)) (cwV 2 hts gX0_fill_X0_takeIn rfl rfl rfl (by decide +kernel) ⟨Nat.le_of_ble_eq_true rfl, Nat.le_of_ble_eq_true rfl⟩) (kr_preV (kw_Bok tb) (q := (RX0, TX0, 4)) (q0 := 0) (ci := 0) _ hP hK hD hB hS hA rfl rfl rfl) rfl rfl hl.1 rfl (lv_room (Nat.le_of_ble_eq_true rfl)) dX0_fill_32 ⟨Nat.zero_le _, Nat.zero_le _⟩) hD hS hA (fun u H locs hq hP hD hS => ?_)
        have hP : va_P D vwCl (kw_X ct ad (va_up M k ((kk_ins (M k, Pl k) (kk_fb v t) (i + 1)).1)) (va_up Pl k ((kk_ins (M k, Pl k) (kk_fb v t) (i + 1)).2)) u.1 u.2) H := hP
        have hD : va_D A (kw_X ct ad (va_up M k ((kk_ins (M k, Pl k) (kk_fb v t) (i + 1)).1)) (va_up Pl k ((kk_ins (M k, Pl k) (kk_fb v t) (i + 1)).2)) u.1 u.2) := hD
        refine lv_iinc (k := 0) (v := nI (i + 1)) hx hb dX0_fill_35 hl rfl (nI_add i 1) (Nat.le_of_ble_eq_true rfl) rfl (fun ls hl => ?_)
        have hl : lv_has ls 6 [(5, .int (nI (i + 1))), (0, .ref (ad 0)), (1, .int (nI k)), (2, .int v), (3, .int t), (4, .int (nI n))] := hl
        refine lv_goto (tgt := 17) hx hb dX0_fill_38 rfl ?_
        exact ih (i + 1) u.1 u.2 H locs ls (by omega) (by omega) hl hP hD hS
  have hP : va_P D vwCl (kw_X ct ad (va_up M k (kk_ins (M k, Pl k) (kk_fb v t) 0).1) (va_up Pl k (kk_ins (M k, Pl k) (kk_fb v t) 0).2) C V) H := by show va_P D vwCl (kw_X ct ad (va_up M k (M k)) (va_up Pl k (Pl k)) C V) H; rw [kw_self, kw_self]; exact hP
  have hD : va_D A (kw_X ct ad (va_up M k (kk_ins (M k, Pl k) (kk_fb v t) 0).1) (va_up Pl k (kk_ins (M k, Pl k) (kk_fb v t) 0).2) C V) := by show va_D A (kw_X ct ad (va_up M k (M k)) (va_up Pl k (Pl k)) C V); rw [kw_self, kw_self]; exact hD
  refine loop _ (fun C V H locs ls hl hP hD hS => ?_) (n + 1) 0 C V H locs ls (by omega) (by omega) hl hP hD hS
  refine lv_aload_n hx hb dX0_fill_41 rfl (lv_at hl 1 rfl) ?_
  refine va_get hx hb hts hin hown hK hP 0 rfl rfl 1 (by decide) (hts (.fieldLink RX0 14 "KeccakLanes" "places" "[I") (by decide +kernel)) (fun _ h => h) rfl dX0_fill_42 ?_
  refine lv_iload_n hx hb dX0_fill_45 rfl (lv_at hl 2 rfl) ?_
  refine kr_iald hx hb hK hP 2 1 rfl rfl (n := k) (by omega) (by omega) dX0_fill_46 ?_
  rw [va_up_self]
  exact W.iret hx hb hr (fun t ht hW => ⟨⟨_, (C, V), rfl, rfl, by rw [ht]; exact hP, va_K.moved hW.alike hK, hD⟩, hS.F ht⟩) hS.2.2 dX0_fill_47
set_option maxHeartbeats 4000000 in
set_option maxRecDepth 100000 in
theorem kc_copy (l : Launch) (D : va_G) (ct : Nat → ClassId) (ad tb : Nat → Nat) (M : Nat → Nat → Int64) (Pl : Nat → Nat) (C V : Nat → Int64) (sz : Nat) {k t : Nat} (hk : k < 8) (ht8 : t < 8) : Met l yX0_copy wsX0_copy ({ frames := 2, cells := 0, slots := 0, locals := 40 }) (kr_P D vwCl (kw_T ct) (kw_B tb) [.ref (ad 0), .int (nI k), .int (nI t)] (kw_X ct ad M Pl C V) sz) (va_Qv (S := Unit) (fun _ => True) (kr_B D vwCl (kw_T ct) (fun _ => kw_X ct ad (va_up M t (M k)) (va_up Pl t (Pl k)) C V) (va_A (kw_X ct ad M Pl C V) sz)) (va_A (kw_X ct ad M Pl C V) sz)) 0 0 (va_A (kw_X ct ad M Pl C V) sz) := by
  refine Met.ofW (cc := cX0_copy) (maxL := 3) (ret := none) (by decide) rfl ?_
  intro p e s m args below meth c s₁ B hml hv
  obtain ⟨rfl, hsz, hP, hK, hD0, hB⟩ := hv
  have hx := B.exec
  have hb := B.bytes
  have hr := B.returns
  have hts := atoms_spec (ws := wsX0_copy) B.pre
  have hown : s.vm.findClass RX0 = some m.cls := findClass_of_methodNamed B.named
  have hlocks := B.notSynchronized
  subst hsz
  have hD := hD0.self (sz := s.heap.size)
  generalize hAe : va_A (kw_X ct ad M Pl C V) s.heap.size = A at hD hB ⊢
  have hA : ∀ q : Nat, s.heap.size ≤ q → A q := fun q h => by rw [← hAe]; exact Or.inr h
  have hS : va_S A s.heap s.heap [] := va_S.rf
  have hl := lv_entry ([.ref (ad 0), .int (nI k), .int (nI t)]) (n := 3) (Nat.le_of_ble_eq_true rfl)
  rw [lg_entry_eq]
  generalize (lg_sl ([.ref (ad 0), .int (nI k), .int (nI t)]) ++ List.replicate (3 - (lg_sl ([.ref (ad 0), .int (nI k), .int (nI t)])).length) Slot.unset).toArray = ls at hl ⊢
  have hl : lv_has ls 3 [(0, .ref (ad 0)), (1, .int (nI k)), (2, .int (nI t))] := hl
  refine lv_iload_n hx hb dX0_copy_0 rfl (lv_at hl 1 rfl) ?_
  refine lv_bipush (v := nI 7) hx hb dX0_copy_1 (by decide +kernel) ?_
  refine kr_callv (va_runS (As := [.int (nI k), .int (nI 7)]) (rest := []) ⟨hx, hb, hml, hown, hts⟩ (kc_req l D ct ad tb M Pl C V _ (a := k) (b := 7) (by omega) (by omega)) (va_cwS 2 hts gX0_copy_X0_requireUpTo rfl rfl rfl (by decide +kernel) ⟨Nat.le_of_ble_eq_true rfl, Nat.le_of_ble_eq_true rfl⟩) (kr_preS (kw_Bok tb) _ hP hK hD hB hS hA) rfl rfl hl.1 rfl (lv_room (Nat.le_of_ble_eq_true rfl)) dX0_copy_3 ⟨Nat.zero_le _, Nat.zero_le _⟩) hD hS hA (fun u H locs hq hP hD hS => ?_)
  have hP : va_P D vwCl (kw_X ct ad M Pl C V) H := hP
  have hD : va_D A (kw_X ct ad M Pl C V) := hD
  refine lv_iload_n hx hb dX0_copy_6 rfl (lv_at hl 2 rfl) ?_
  refine lv_bipush (v := nI 7) hx hb dX0_copy_7 (by decide +kernel) ?_
  refine kr_callv (va_runS (As := [.int (nI t), .int (nI 7)]) (rest := []) ⟨hx, hb, hml, hown, hts⟩ (kc_req l D ct ad tb M Pl C V _ (a := t) (b := 7) (by omega) (by omega)) (va_cwS 2 hts gX0_copy_X0_requireUpTo rfl rfl rfl (by decide +kernel) ⟨Nat.le_of_ble_eq_true rfl, Nat.le_of_ble_eq_true rfl⟩) (kr_preS (kw_Bok tb) _ hP hK hD hB hS hA) rfl rfl hl.1 rfl (lv_room (Nat.le_of_ble_eq_true rfl)) dX0_copy_9 ⟨Nat.zero_le _, Nat.zero_le _⟩) hD hS hA (fun u H locs hq hP hD hS => ?_)
  have hP : va_P D vwCl (kw_X ct ad M Pl C V) H := hP
  have hD : va_D A (kw_X ct ad M Pl C V) := hD
  refine lv_aload_n hx hb dX0_copy_12 rfl (lv_at hl 0 rfl) ?_
  refine lv_iload_n hx hb dX0_copy_13 rfl (lv_at hl 1 rfl) ?_
  refine lv_iload_n hx hb dX0_copy_14 rfl (lv_at hl 2 rfl) ?_
  refine kr_callv (va_runV (As := [.int (nI k), .int (nI t)]) (rest := []) ⟨hx, hb, hml, hown, hts⟩ (kc_copyState l D ct ad tb M Pl C V _ (k := k) (t := t) (by omega) (by omega)) (cwV 2 hts gX0_copy_X0_copyState rfl rfl rfl (by decide +kernel) ⟨Nat.le_of_ble_eq_true rfl, Nat.le_of_ble_eq_true rfl⟩) (kr_preV (kw_Bok tb) (q := (RX0, TX0, 4)) (q0 := 0) (ci := 0) _ hP hK hD hB hS hA rfl rfl rfl) rfl rfl hl.1 rfl (lv_room (Nat.le_of_ble_eq_true rfl)) dX0_copy_15 ⟨Nat.zero_le _, Nat.zero_le _⟩) hD hS hA (fun u H locs hq hP hD hS => ?_)
  have hP : va_P D vwCl (kw_X ct ad (va_up M t (M k)) (va_up Pl t (Pl k)) C V) H := hP
  have hD : va_D A (kw_X ct ad (va_up M t (M k)) (va_up Pl t (Pl k)) C V) := hD
  exact W.vret hx hb hr (fun t ht hW => ⟨⟨(), rfl, trivial, by rw [ht]; exact hP, va_K.moved hW.alike hK, hD⟩, hS.F ht⟩) hS.2.2 dX0_copy_18
set_option maxHeartbeats 4000000 in
set_option maxRecDepth 100000 in
theorem kc_mix (l : Launch) (D : va_G) (ct : Nat → ClassId) (ad tb : Nat → Nat) (M : Nat → Nat → Int64) (Pl : Nat → Nat) (C V : Nat → Int64) (sz : Nat) {k : Nat} (hk : k < 8) : Met l yX0_mix wsX0_mix ({ frames := 3, cells := 0, slots := 0, locals := 75 }) (kr_P D vwCl (kw_T ct) (kw_B tb) [.ref (ad 0), .int (nI k)] (kw_X ct ad M Pl C V) sz) (va_Qv (S := ((Nat → Int64) × (Nat → Int64))) (fun _ => True) (kr_B D vwCl (kw_T ct) (fun u => kw_X ct ad (va_up M k (kk_mix (M k))) Pl u.1 u.2) (va_A (kw_X ct ad M Pl C V) sz)) (va_A (kw_X ct ad M Pl C V) sz)) 0 0 (va_A (kw_X ct ad M Pl C V) sz) := by
  refine Met.ofW (cc := cX0_mix) (maxL := 2) (ret := none) (by decide) rfl ?_
  intro p e s m args below meth c s₁ B hml hv
  obtain ⟨rfl, hsz, hP, hK, hD0, hB⟩ := hv
  have hx := B.exec
  have hb := B.bytes
  have hr := B.returns
  have hts := atoms_spec (ws := wsX0_mix) B.pre
  have hown : s.vm.findClass RX0 = some m.cls := findClass_of_methodNamed B.named
  have hlocks := B.notSynchronized
  have hin : ∀ w ∈ u_ws RX0 TX0 4, w ∈ wsX0_mix := by decide +kernel
  subst hsz
  have hD := hD0.self (sz := s.heap.size)
  generalize hAe : va_A (kw_X ct ad M Pl C V) s.heap.size = A at hD hB ⊢
  have hA : ∀ q : Nat, s.heap.size ≤ q → A q := fun q h => by rw [← hAe]; exact Or.inr h
  have hS : va_S A s.heap s.heap [] := va_S.rf
  have hl := lv_entry ([.ref (ad 0), .int (nI k)]) (n := 2) (Nat.le_of_ble_eq_true rfl)
  rw [lg_entry_eq]
  generalize (lg_sl ([.ref (ad 0), .int (nI k)]) ++ List.replicate (2 - (lg_sl ([.ref (ad 0), .int (nI k)])).length) Slot.unset).toArray = ls at hl ⊢
  have hl : lv_has ls 2 [(0, .ref (ad 0)), (1, .int (nI k))] := hl
  have hk9 : k < 9 := by omega
  refine lv_iload_n hx hb dX0_mix_0 rfl (lv_at hl 1 rfl) ?_
  refine lv_bipush (v := nI 7) hx hb dX0_mix_1 (by decide +kernel) ?_
  refine kr_callv (va_runS (As := [.int (nI k), .int (nI 7)]) (rest := []) ⟨hx, hb, hml, hown, hts⟩ (kc_req l D ct ad tb M Pl C V _ (a := k) (b := 7) (by omega) (by omega)) (va_cwS 2 hts gX0_mix_X0_requireUpTo rfl rfl rfl (by decide +kernel) ⟨Nat.le_of_ble_eq_true rfl, Nat.le_of_ble_eq_true rfl⟩) (kr_preS (kw_Bok tb) _ hP hK hD hB hS hA) rfl rfl hl.1 rfl (lv_room (Nat.le_of_ble_eq_true rfl)) dX0_mix_3 ⟨Nat.zero_le _, Nat.zero_le _⟩) hD hS hA (fun u H locs hq hP hD hS => ?_)
  have hP : va_P D vwCl (kw_X ct ad M Pl C V) H := hP
  have hD : va_D A (kw_X ct ad M Pl C V) := hD
  refine lv_aload_n hx hb dX0_mix_6 rfl (lv_at hl 0 rfl) ?_
  refine lv_aload_n hx hb dX0_mix_7 rfl (lv_at hl 0 rfl) ?_
  refine va_get hx hb hts hin hown hK hP 0 rfl rfl 0 (by decide) (hts (.fieldLink RX0 11 "KeccakLanes" "lanes" "[[J") (by decide +kernel)) (fun _ h => h) rfl dX0_mix_8 ?_
  refine lv_iload_n hx hb dX0_mix_11 rfl (lv_at hl 1 rfl) ?_
  refine kr_aald hx hb hK hP 1 0 rfl rfl (n := k) (y := ad (5 + k)) (by omega) (by omega) (if_pos (by omega)) dX0_mix_12 ?_
  have hP : va_P D vwCl (kw_X ct ad (va_up M k (M k)) Pl C V) H := by rw [kw_self]; exact hP
  have hD : va_D A (kw_X ct ad (va_up M k (M k)) Pl C V) := by rw [kw_self]; exact hD
  refine kr_callv (va_runV (As := [.ref (ad (5 + k))]) (rest := []) ⟨hx, hb, hml, hown, hts⟩ (kc_mixLanes l D ct ad tb M Pl C V _ (M k) hk9) (cwV 1 hts gX0_mix_X0_mixLanes rfl rfl rfl (by decide +kernel) ⟨Nat.le_of_ble_eq_true rfl, Nat.le_of_ble_eq_true rfl⟩) (kr_preV (kw_Bok tb) (q := (RX0, TX0, 4)) (q0 := 0) (ci := 0) _ hP hK hD hB hS hA rfl rfl rfl) rfl rfl hl.1 rfl (lv_room (Nat.le_of_ble_eq_true rfl)) dX0_mix_13 ⟨Nat.zero_le _, Nat.zero_le _⟩) hD hS hA (fun u H locs hq hP hD hS => ?_)
  have hP : va_P D vwCl (kw_X ct ad (va_up M k (kk_mix (M k))) Pl u.1 u.2) H := hP
  have hD : va_D A (kw_X ct ad (va_up M k (kk_mix (M k))) Pl u.1 u.2) := hD
  exact W.vret hx hb hr (fun t ht hW => ⟨⟨u, rfl, trivial, by rw [ht]; exact hP, va_K.moved hW.alike hK, hD⟩, hS.F ht⟩) hS.2.2 dX0_mix_16
set_option maxHeartbeats 4000000 in
set_option maxRecDepth 100000 in
theorem kc_lane (l : Launch) (D : va_G) (ct : Nat → ClassId) (ad tb : Nat → Nat) (M : Nat → Nat → Int64) (Pl : Nat → Nat) (C V : Nat → Int64) (sz : Nat) {k i : Nat} (hk : k < 8) (hi25 : i < 25) : Met l yX0_lane wsX0_lane ({ frames := 1, cells := 0, slots := 0, locals := 21 }) (kr_P D vwCl (kw_T ct) (kw_B tb) [.ref (ad 0), .int (nI k), .int (nI i)] (kw_X ct ad M Pl C V) sz) (va_Ql (S := Unit) (fun r _ => r = M k i) (kr_B D vwCl (kw_T ct) (fun _ => kw_X ct ad M Pl C V) (va_A (kw_X ct ad M Pl C V) sz)) (va_A (kw_X ct ad M Pl C V) sz)) 0 0 (va_A (kw_X ct ad M Pl C V) sz) := by
  refine Met.ofW (cc := cX0_lane) (maxL := 3) (ret := (some .long)) (by decide) rfl ?_
  intro p e s m args below meth c s₁ B hml hv
  obtain ⟨rfl, hsz, hP, hK, hD0, hB⟩ := hv
  have hx := B.exec
  have hb := B.bytes
  have hr := B.returns
  have hts := atoms_spec (ws := wsX0_lane) B.pre
  have hown : s.vm.findClass RX0 = some m.cls := findClass_of_methodNamed B.named
  have hlocks := B.notSynchronized
  have hin : ∀ w ∈ u_ws RX0 TX0 4, w ∈ wsX0_lane := by decide +kernel
  subst hsz
  have hD := hD0.self (sz := s.heap.size)
  generalize hAe : va_A (kw_X ct ad M Pl C V) s.heap.size = A at hD hB ⊢
  have hA : ∀ q : Nat, s.heap.size ≤ q → A q := fun q h => by rw [← hAe]; exact Or.inr h
  have hS : va_S A s.heap s.heap [] := va_S.rf
  have hl := lv_entry ([.ref (ad 0), .int (nI k), .int (nI i)]) (n := 3) (Nat.le_of_ble_eq_true rfl)
  rw [lg_entry_eq]
  generalize (lg_sl ([.ref (ad 0), .int (nI k), .int (nI i)]) ++ List.replicate (3 - (lg_sl ([.ref (ad 0), .int (nI k), .int (nI i)])).length) Slot.unset).toArray = ls at hl ⊢
  have hl : lv_has ls 3 [(0, .ref (ad 0)), (1, .int (nI k)), (2, .int (nI i))] := hl
  have hk9 : k < 9 := by omega
  refine lv_iload_n hx hb dX0_lane_0 rfl (lv_at hl 1 rfl) ?_
  refine lv_bipush (v := nI 7) hx hb dX0_lane_1 (by decide +kernel) ?_
  refine kr_callv (va_runS (As := [.int (nI k), .int (nI 7)]) (rest := []) ⟨hx, hb, hml, hown, hts⟩ (kc_req l D ct ad tb M Pl C V _ (a := k) (b := 7) (by omega) (by omega)) (va_cwS 2 hts gX0_lane_X0_requireUpTo rfl rfl rfl (by decide +kernel) ⟨Nat.le_of_ble_eq_true rfl, Nat.le_of_ble_eq_true rfl⟩) (kr_preS (kw_Bok tb) _ hP hK hD hB hS hA) rfl rfl hl.1 rfl (lv_room (Nat.le_of_ble_eq_true rfl)) dX0_lane_3 ⟨Nat.zero_le _, Nat.zero_le _⟩) hD hS hA (fun u H locs hq hP hD hS => ?_)
  have hP : va_P D vwCl (kw_X ct ad M Pl C V) H := hP
  have hD : va_D A (kw_X ct ad M Pl C V) := hD
  refine lv_iload_n hx hb dX0_lane_6 rfl (lv_at hl 2 rfl) ?_
  refine lv_bipush (v := nI 24) hx hb dX0_lane_7 (by decide +kernel) ?_
  refine kr_callv (va_runS (As := [.int (nI i), .int (nI 24)]) (rest := []) ⟨hx, hb, hml, hown, hts⟩ (kc_req l D ct ad tb M Pl C V _ (a := i) (b := 24) (by omega) (by omega)) (va_cwS 2 hts gX0_lane_X0_requireUpTo rfl rfl rfl (by decide +kernel) ⟨Nat.le_of_ble_eq_true rfl, Nat.le_of_ble_eq_true rfl⟩) (kr_preS (kw_Bok tb) _ hP hK hD hB hS hA) rfl rfl hl.1 rfl (lv_room (Nat.le_of_ble_eq_true rfl)) dX0_lane_9 ⟨Nat.zero_le _, Nat.zero_le _⟩) hD hS hA (fun u H locs hq hP hD hS => ?_)
  have hP : va_P D vwCl (kw_X ct ad M Pl C V) H := hP
  have hD : va_D A (kw_X ct ad M Pl C V) := hD
  refine lv_aload_n hx hb dX0_lane_12 rfl (lv_at hl 0 rfl) ?_
  refine va_get hx hb hts hin hown hK hP 0 rfl rfl 0 (by decide) (hts (.fieldLink RX0 11 "KeccakLanes" "lanes" "[[J") (by decide +kernel)) (fun _ h => h) rfl dX0_lane_13 ?_
  refine lv_iload_n hx hb dX0_lane_16 rfl (lv_at hl 1 rfl) ?_
  refine kr_aald hx hb hK hP 1 0 rfl rfl (n := k) (y := ad (5 + k)) (by omega) (by omega) (if_pos (by omega)) dX0_lane_17 ?_
  refine lv_iload_n hx hb dX0_lane_18 rfl (lv_at hl 2 rfl) ?_
  refine kr_lald hx hb hK hP (5 + k) 2 (kw_Xrow ct ad M Pl C V hk9) rfl (n := i) (by omega) (by omega) dX0_lane_19 ?_
  exact W.lret hx hb hr (fun t ht hW => ⟨⟨_, (), rfl, rfl, by rw [ht]; exact hP, va_K.moved hW.alike hK, hD⟩, hS.F ht⟩) hS.2.2 dX0_lane_20
set_option maxHeartbeats 4000000 in
set_option maxRecDepth 100000 in
theorem kc_digest (l : Launch) (D : va_G) (ct : Nat → ClassId) (ad tb : Nat → Nat) (M : Nat → Nat → Int64) (Pl : Nat → Nat) (C V : Nat → Int64) (sz : Nat) {k i : Nat} (hk : k < 8) (hi4 : i < 4) (hq0 : Pl k < 136) : Met l yX0_digest wsX0_digest ({ frames := 3, cells := 0, slots := 0, locals := 75 }) (kr_P D vwCl (kw_T ct) (kw_B tb) [.ref (ad 0), .int (nI k), .int (nI i)] (kw_X ct ad M Pl C V) sz) (va_Ql (S := ((Nat → Int64) × (Nat → Int64))) (fun r _ => r = kk_rev (kk_dg (M k) (Pl k) i) 8) (kr_B D vwCl (kw_T ct) (fun u => kw_X ct ad (va_up M 8 (kk_dg (M k) (Pl k))) (va_up Pl 8 (Pl k)) u.1 u.2) (va_A (kw_X ct ad M Pl C V) sz)) (va_A (kw_X ct ad M Pl C V) sz)) 0 0 (va_A (kw_X ct ad M Pl C V) sz) := by
  refine Met.ofW (cc := cX0_digest) (maxL := 4) (ret := (some .long)) (by decide) rfl ?_
  intro p e s m args below meth c s₁ B hml hv
  obtain ⟨rfl, hsz, hP, hK, hD0, hB⟩ := hv
  have hx := B.exec
  have hb := B.bytes
  have hr := B.returns
  have hts := atoms_spec (ws := wsX0_digest) B.pre
  have hown : s.vm.findClass RX0 = some m.cls := findClass_of_methodNamed B.named
  have hlocks := B.notSynchronized
  have hin : ∀ w ∈ u_ws RX0 TX0 4, w ∈ wsX0_digest := by decide +kernel
  subst hsz
  have hD := hD0.self (sz := s.heap.size)
  generalize hAe : va_A (kw_X ct ad M Pl C V) s.heap.size = A at hD hB ⊢
  have hA : ∀ q : Nat, s.heap.size ≤ q → A q := fun q h => by rw [← hAe]; exact Or.inr h
  have hS : va_S A s.heap s.heap [] := va_S.rf
  have hl := lv_entry ([.ref (ad 0), .int (nI k), .int (nI i)]) (n := 4) (Nat.le_of_ble_eq_true rfl)
  rw [lg_entry_eq]
  generalize (lg_sl ([.ref (ad 0), .int (nI k), .int (nI i)]) ++ List.replicate (4 - (lg_sl ([.ref (ad 0), .int (nI k), .int (nI i)])).length) Slot.unset).toArray = ls at hl ⊢
  have hl : lv_has ls 4 [(0, .ref (ad 0)), (1, .int (nI k)), (2, .int (nI i))] := hl
  have h89 : 8 < 9 := by omega
  refine lv_iload_n hx hb dX0_digest_0 rfl (lv_at hl 1 rfl) ?_
  refine lv_bipush (v := nI 7) hx hb dX0_digest_1 (by decide +kernel) ?_
  refine kr_callv (va_runS (As := [.int (nI k), .int (nI 7)]) (rest := []) ⟨hx, hb, hml, hown, hts⟩ (kc_req l D ct ad tb M Pl C V _ (a := k) (b := 7) (by omega) (by omega)) (va_cwS 2 hts gX0_digest_X0_requireUpTo rfl rfl rfl (by decide +kernel) ⟨Nat.le_of_ble_eq_true rfl, Nat.le_of_ble_eq_true rfl⟩) (kr_preS (kw_Bok tb) _ hP hK hD hB hS hA) rfl rfl hl.1 rfl (lv_room (Nat.le_of_ble_eq_true rfl)) dX0_digest_3 ⟨Nat.zero_le _, Nat.zero_le _⟩) hD hS hA (fun u H locs hq hP hD hS => ?_)
  have hP : va_P D vwCl (kw_X ct ad M Pl C V) H := hP
  have hD : va_D A (kw_X ct ad M Pl C V) := hD
  refine lv_iload_n hx hb dX0_digest_6 rfl (lv_at hl 2 rfl) ?_
  refine lv_iconst (v := nI 3) hx hb dX0_digest_7 rfl ?_
  refine kr_callv (va_runS (As := [.int (nI i), .int (nI 3)]) (rest := []) ⟨hx, hb, hml, hown, hts⟩ (kc_req l D ct ad tb M Pl C V _ (a := i) (b := 3) (by omega) (by omega)) (va_cwS 2 hts gX0_digest_X0_requireUpTo rfl rfl rfl (by decide +kernel) ⟨Nat.le_of_ble_eq_true rfl, Nat.le_of_ble_eq_true rfl⟩) (kr_preS (kw_Bok tb) _ hP hK hD hB hS hA) rfl rfl hl.1 rfl (lv_room (Nat.le_of_ble_eq_true rfl)) dX0_digest_8 ⟨Nat.zero_le _, Nat.zero_le _⟩) hD hS hA (fun u H locs hq hP hD hS => ?_)
  have hP : va_P D vwCl (kw_X ct ad M Pl C V) H := hP
  have hD : va_D A (kw_X ct ad M Pl C V) := hD
  refine lv_aload_n hx hb dX0_digest_11 rfl (lv_at hl 0 rfl) ?_
  refine lv_iload_n hx hb dX0_digest_12 rfl (lv_at hl 1 rfl) ?_
  refine lv_bipush (v := nI 8) hx hb dX0_digest_13 (by decide +kernel) ?_
  refine kr_callv (va_runV (As := [.int (nI k), .int (nI 8)]) (rest := []) ⟨hx, hb, hml, hown, hts⟩ (kc_copyState l D ct ad tb M Pl C V _ (k := k) (t := 8) (by omega) (by omega)) (cwV 2 hts gX0_digest_X0_copyState rfl rfl rfl (by decide +kernel) ⟨Nat.le_of_ble_eq_true rfl, Nat.le_of_ble_eq_true rfl⟩) (kr_preV (kw_Bok tb) (q := (RX0, TX0, 4)) (q0 := 0) (ci := 0) _ hP hK hD hB hS hA rfl rfl rfl) rfl rfl hl.1 rfl (lv_room (Nat.le_of_ble_eq_true rfl)) dX0_digest_15 ⟨Nat.zero_le _, Nat.zero_le _⟩) hD hS hA (fun u H locs hq hP hD hS => ?_)
  have hP : va_P D vwCl (kw_X ct ad (va_up M 8 (M k)) (va_up Pl 8 (Pl k)) C V) H := hP
  have hD : va_D A (kw_X ct ad (va_up M 8 (M k)) (va_up Pl 8 (Pl k)) C V) := hD
  refine lv_aload_n hx hb dX0_digest_18 rfl (lv_at hl 0 rfl) ?_
  refine va_get hx hb hts hin hown hK hP 0 rfl rfl 0 (by decide) (hts (.fieldLink RX0 11 "KeccakLanes" "lanes" "[[J") (by decide +kernel)) (fun _ h => h) rfl dX0_digest_19 ?_
  refine lv_bipush (v := nI 8) hx hb dX0_digest_22 (by decide +kernel) ?_
  refine kr_aald hx hb hK hP 1 0 rfl rfl (n := 8) (y := ad (5 + 8)) (by omega) (by omega) (if_pos (by omega)) dX0_digest_24 ?_
  refine lv_astore_n hx hb dX0_digest_25 rfl hl (Nat.le_of_ble_eq_true rfl) rfl (fun ls hl => ?_)
  have hl : lv_has ls 4 [(3, .ref (ad (5 + 8))), (0, .ref (ad 0)), (1, .int (nI k)), (2, .int (nI i))] := hl
  refine lv_aload_n hx hb dX0_digest_26 rfl (lv_at hl 0 rfl) ?_
  refine lv_aload_n hx hb dX0_digest_27 rfl (lv_at hl 1 rfl) ?_
  refine va_get hx hb hts hin hown hK hP 0 rfl rfl 1 (by decide) (hts (.fieldLink RX0 14 "KeccakLanes" "places" "[I") (by decide +kernel)) (fun _ h => h) rfl dX0_digest_28 ?_
  refine lv_bipush (v := nI 8) hx hb dX0_digest_31 (by decide +kernel) ?_
  refine kr_iald hx hb hK hP 2 1 rfl rfl (n := 8) (by omega) (by omega) dX0_digest_33 ?_
  rw [va_up_self]
  refine lv_iconst (v := nI 1) hx hb dX0_digest_34 rfl ?_
  refine kr_callv (va_runS (As := [.ref (ad (5 + 8)), .int (nI (Pl k)), .int (nI 1)]) (rest := []) ⟨hx, hb, hml, hown, hts⟩ (kc_joinByte l D ct ad tb M (va_up Pl 8 (Pl k)) C V _ (M k) h89 hq0 (nI 1)) (va_cwS 3 hts gX0_digest_X0_joinByte rfl rfl rfl (by decide +kernel) ⟨Nat.le_of_ble_eq_true rfl, Nat.le_of_ble_eq_true rfl⟩) (kr_preS (kw_Bok tb) _ hP hK hD hB hS hA) rfl rfl hl.1 rfl (lv_room (Nat.le_of_ble_eq_true rfl)) dX0_digest_35 ⟨Nat.zero_le _, Nat.zero_le _⟩) hD hS hA (fun u H locs hq hP hD hS => ?_)
  have hP : va_P D vwCl (kw_X ct ad (va_up M 8 (kk_join (M k) (Pl k) (kk_bt (nI 1)))) (va_up Pl 8 (Pl k)) C V) H := hP
  have hD : va_D A (kw_X ct ad (va_up M 8 (kk_join (M k) (Pl k) (kk_bt (nI 1)))) (va_up Pl 8 (Pl k)) C V) := hD
  refine lv_aload_n hx hb dX0_digest_38 rfl (lv_at hl 0 rfl) ?_
  refine lv_sipush (v := nI 135) hx hb dX0_digest_39 (by decide +kernel) ?_
  refine lv_sipush (v := nI 128) hx hb dX0_digest_42 (by decide +kernel) ?_
  refine kr_callv (va_runS (As := [.ref (ad (5 + 8)), .int (nI 135), .int (nI 128)]) (rest := []) ⟨hx, hb, hml, hown, hts⟩ (kc_joinByte l D ct ad tb M (va_up Pl 8 (Pl k)) C V _ (kk_join (M k) (Pl k) (kk_bt (nI 1))) (q := 135) h89 (by omega) (nI 128)) (va_cwS 3 hts gX0_digest_X0_joinByte rfl rfl rfl (by decide +kernel) ⟨Nat.le_of_ble_eq_true rfl, Nat.le_of_ble_eq_true rfl⟩) (kr_preS (kw_Bok tb) _ hP hK hD hB hS hA) rfl rfl hl.1 rfl (lv_room (Nat.le_of_ble_eq_true rfl)) dX0_digest_45 ⟨Nat.zero_le _, Nat.zero_le _⟩) hD hS hA (fun u H locs hq hP hD hS => ?_)
  have hP : va_P D vwCl (kw_X ct ad (va_up M 8 (kk_join (kk_join (M k) (Pl k) (kk_bt (nI 1))) 135 (kk_bt (nI 128)))) (va_up Pl 8 (Pl k)) C V) H := hP
  have hD : va_D A (kw_X ct ad (va_up M 8 (kk_join (kk_join (M k) (Pl k) (kk_bt (nI 1))) 135 (kk_bt (nI 128)))) (va_up Pl 8 (Pl k)) C V) := hD
  refine lv_aload_n hx hb dX0_digest_48 rfl (lv_at hl 1 rfl) ?_
  refine lv_aload_n hx hb dX0_digest_49 rfl (lv_at hl 0 rfl) ?_
  refine kr_callv (va_runV (As := [.ref (ad (5 + 8))]) (rest := []) ⟨hx, hb, hml, hown, hts⟩ (kc_mixLanes l D ct ad tb M (va_up Pl 8 (Pl k)) C V _ (kk_join (kk_join (M k) (Pl k) (kk_bt (nI 1))) 135 (kk_bt (nI 128))) h89) (cwV 1 hts gX0_digest_X0_mixLanes rfl rfl rfl (by decide +kernel) ⟨Nat.le_of_ble_eq_true rfl, Nat.le_of_ble_eq_true rfl⟩) (kr_preV (kw_Bok tb) (q := (RX0, TX0, 4)) (q0 := 0) (ci := 0) _ hP hK hD hB hS hA rfl rfl rfl) rfl rfl hl.1 rfl (lv_room (Nat.le_of_ble_eq_true rfl)) dX0_digest_50 ⟨Nat.zero_le _, Nat.zero_le _⟩) hD hS hA (fun u H locs hq hP hD hS => ?_)
  have hP : va_P D vwCl (kw_X ct ad (va_up M 8 (kk_dg (M k) (Pl k))) (va_up Pl 8 (Pl k)) u.1 u.2) H := hP
  have hD : va_D A (kw_X ct ad (va_up M 8 (kk_dg (M k) (Pl k))) (va_up Pl 8 (Pl k)) u.1 u.2) := hD
  refine lv_aload_n hx hb dX0_digest_53 rfl (lv_at hl 0 rfl) ?_
  refine lv_iload_n hx hb dX0_digest_54 rfl (lv_at hl 3 rfl) ?_
  refine kr_lald hx hb hK hP (5 + 8) 2 (kw_Xrg h89) rfl (n := i) (by omega) (by omega) dX0_digest_55 ?_
  refine kr_calll (va_runS (As := [.long ((kk_dg (M k) (Pl k)) i)]) (rest := []) ⟨hx, hb, hml, hown, hts⟩ (kc_bytesTurnedRound l D ct ad tb (va_up M 8 (kk_dg (M k) (Pl k))) (va_up Pl 8 (Pl k)) u.1 u.2 _ (kk_dg (M k) (Pl k) i)) (va_cwS 1 hts gX0_digest_X0_bytesTurnedRound rfl rfl rfl (by decide +kernel) ⟨Nat.le_of_ble_eq_true rfl, Nat.le_of_ble_eq_true rfl⟩) (kr_preS (kw_Bok tb) _ hP hK hD hB hS hA) rfl rfl hl.1 rfl (lv_room (Nat.le_of_ble_eq_true rfl)) dX0_digest_56 ⟨Nat.zero_le _, Nat.zero_le _⟩) hD hS hA (fun r _ H locs hq hP hD hS => ?_)
  obtain rfl : r = kk_rev (kk_dg (M k) (Pl k) i) 8 := hq
  have hP : va_P D vwCl (kw_X ct ad (va_up M 8 (kk_dg (M k) (Pl k))) (va_up Pl 8 (Pl k)) u.1 u.2) H := hP
  have hD : va_D A (kw_X ct ad (va_up M 8 (kk_dg (M k) (Pl k))) (va_up Pl 8 (Pl k)) u.1 u.2) := hD
  exact W.lret hx hb hr (fun t ht hW => ⟨⟨_, u, rfl, rfl, by rw [ht]; exact hP, va_K.moved hW.alike hK, hD⟩, hS.F ht⟩) hS.2.2 dX0_digest_59
