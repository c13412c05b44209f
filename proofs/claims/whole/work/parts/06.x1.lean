/-! KeccakLanes: the leaves: joinByte, columnSum, turnedLeft, bytesTurnedRound -/
set_option maxHeartbeats 4000000 in
set_option maxRecDepth 100000 in
theorem kc_joinByte (l : Launch) (D : va_G) (ct : Nat → ClassId) (ad tb : Nat → Nat) (M : Nat → Nat → Int64) (Pl : Nat → Nat) (C V : Nat → Int64) (sz : Nat) (g : Nat → Int64) {k q : Nat} (hk : k < 9) (hq0 : q < 136) (b : Int32) : Met l yX0_joinByte wsX0_joinByte ({ frames := 0, cells := 0, slots := 0, locals := 0 }) (kr_P D vwCl (kw_T ct) (kw_B tb) [.ref (ad (5 + k)), .int (nI q), .int b] (kw_X ct ad (va_up M k g) Pl C V) sz) (va_Qv (S := Unit) (fun _ => True) (kr_B D vwCl (kw_T ct) (fun _ => kw_X ct ad (va_up M k (kk_join g q (kk_bt b))) Pl C V) (va_A (kw_X ct ad (va_up M k g) Pl C V) sz)) (va_A (kw_X ct ad (va_up M k g) Pl C V) sz)) 0 0 (va_A (kw_X ct ad (va_up M k g) Pl C V) sz) := by
  refine Met.ofW (cc := cX0_joinByte) (maxL := 3) (ret := none) (by decide) rfl ?_
  intro p e s m args below meth c s₁ B hml hv
  obtain ⟨rfl, hsz, hP, hK, hD0, hB⟩ := hv
  have hx := B.exec
  have hb := B.bytes
  have hr := B.returns
  have hts := atoms_spec (ws := wsX0_joinByte) B.pre
  have hown : s.vm.findClass RX0 = some m.cls := findClass_of_methodNamed B.named
  have hlocks := B.notSynchronized
  subst hsz
  have hD := hD0.self (sz := s.heap.size)
  generalize hAe : va_A (kw_X ct ad (va_up M k g) Pl C V) s.heap.size = A at hD hB ⊢
  have hA : ∀ q : Nat, s.heap.size ≤ q → A q := fun q h => by rw [← hAe]; exact Or.inr h
  have hS : va_S A s.heap s.heap [] := va_S.rf
  have hl := lv_entry ([.ref (ad (5 + k)), .int (nI q), .int b]) (n := 3) (Nat.le_of_ble_eq_true rfl)
  rw [lg_entry_eq]
  generalize (lg_sl ([.ref (ad (5 + k)), .int (nI q), .int b]) ++ List.replicate (3 - (lg_sl ([.ref (ad (5 + k)), .int (nI q), .int b])).length) Slot.unset).toArray = ls at hl ⊢
  have hl : lv_has ls 3 [(0, .ref (ad (5 + k))), (1, .int (nI q)), (2, .int b)] := hl
  refine lv_aload_n hx hb dX0_joinByte_0 rfl (lv_at hl 0 rfl) ?_
  refine lv_iload_n hx hb dX0_joinByte_1 rfl (lv_at hl 1 rfl) ?_
  refine lv_bipush (v := nI 8) hx hb dX0_joinByte_2 (by decide +kernel) ?_
  refine kr_idiv hx hb (by omega) (by omega) (by omega) dX0_joinByte_4 ?_
  refine lv_dup2_11 hx hb dX0_joinByte_5 rfl rfl ?_
  refine kr_lald hx hb hK hP (5 + k) 2 (kw_Xrg hk) rfl (n := q / 8) (by omega) (by omega) dX0_joinByte_6 ?_
  refine lv_iload_n hx hb dX0_joinByte_7 rfl (lv_at hl 2 rfl) ?_
  refine lv_i2l hx hb dX0_joinByte_8 rfl ?_
  refine lv_ldc2 (v := 255) hx hb hown (hts (.constantLong RX0 60 255) (by decide +kernel)) dX0_joinByte_9 ?_
  refine lv_land hx hb dX0_joinByte_12 ?_
  refine lv_bipush (v := nI 8) hx hb dX0_joinByte_13 (by decide +kernel) ?_
  refine lv_iload_n hx hb dX0_joinByte_15 rfl (lv_at hl 1 rfl) ?_
  refine lv_bipush (v := nI 8) hx hb dX0_joinByte_16 (by decide +kernel) ?_
  refine kr_irem hx hb (by omega) (by omega) (by omega) dX0_joinByte_18 ?_
  refine kr_imul hx hb dX0_joinByte_19 ?_
  refine lv_lshl hx hb dX0_joinByte_20 rfl ?_
  refine lv_lxor hx hb dX0_joinByte_21 ?_
  refine kr_last (w := kw_X ct ad (va_up M k (vp_updL g (q / 8) ((g (q / 8)) ^^^ ((b.toInt64 &&& 255) <<< ((nI (8 * (q % 8))).toInt64 &&& 63))))) Pl C V) hx hb hK hP hD hS (5 + k) 2 (kw_Xrg hk) rfl (n := q / 8) (by omega) (by omega) (kw_Xsg hk _) dX0_joinByte_22 (fun H locs hP hD hS => ?_)
  exact W.vret hx hb hr (fun t ht hW => ⟨⟨(), rfl, trivial, by rw [ht]; exact hP, va_K.moved hW.alike hK, hD⟩, hS.F ht⟩) hS.2.2 dX0_joinByte_23
set_option maxHeartbeats 4000000 in
set_option maxRecDepth 100000 in
theorem kc_columnSum (l : Launch) (D : va_G) (ct : Nat → ClassId) (ad tb : Nat → Nat) (M : Nat → Nat → Int64) (Pl : Nat → Nat) (C V : Nat → Int64) (sz : Nat) (g : Nat → Int64) {k x : Nat} (hk : k < 9) (hx0 : x < 5) : Met l yX0_columnSum wsX0_columnSum ({ frames := 0, cells := 0, slots := 0, locals := 0 }) (kr_P D vwCl (kw_T ct) (kw_B tb) [.ref (ad (5 + k)), .int (nI x)] (kw_X ct ad (va_up M k g) Pl C V) sz) (va_Ql (S := Unit) (fun r _ => r = kk_col g x) (kr_B D vwCl (kw_T ct) (fun _ => kw_X ct ad (va_up M k g) Pl C V) (va_A (kw_X ct ad (va_up M k g) Pl C V) sz)) (va_A (kw_X ct ad (va_up M k g) Pl C V) sz)) 0 0 (va_A (kw_X ct ad (va_up M k g) Pl C V) sz) := by
  refine Met.ofW (cc := cX0_columnSum) (maxL := 2) (ret := (some .long)) (by decide) rfl ?_
  intro p e s m args below meth c s₁ B hml hv
  obtain ⟨rfl, hsz, hP, hK, hD0, hB⟩ := hv
  have hx := B.exec
  have hb := B.bytes
  have hr := B.returns
  have hts := atoms_spec (ws := wsX0_columnSum) B.pre
  have hown : s.vm.findClass RX0 = some m.cls := findClass_of_methodNamed B.named
  have hlocks := B.notSynchronized
  subst hsz
  have hD := hD0.self (sz := s.heap.size)
  generalize hAe : va_A (kw_X ct ad (va_up M k g) Pl C V) s.heap.size = A at hD hB ⊢
  have hA : ∀ q : Nat, s.heap.size ≤ q → A q := fun q h => by rw [← hAe]; exact Or.inr h
  have hS : va_S A s.heap s.heap [] := va_S.rf
  have hl := lv_entry ([.ref (ad (5 + k)), .int (nI x)]) (n := 2) (Nat.le_of_ble_eq_true rfl)
  rw [lg_entry_eq]
  generalize (lg_sl ([.ref (ad (5 + k)), .int (nI x)]) ++ List.replicate (2 - (lg_sl ([.ref (ad (5 + k)), .int (nI x)])).length) Slot.unset).toArray = ls at hl ⊢
  have hl : lv_has ls 2 [(0, .ref (ad (5 + k))), (1, .int (nI x))] := hl
  refine lv_aload_n hx hb dX0_columnSum_0 rfl (lv_at hl 0 rfl) ?_
  refine lv_iload_n hx hb dX0_columnSum_1 rfl (lv_at hl 1 rfl) ?_
  refine kr_lald hx hb hK hP (5 + k) 2 (kw_Xrg hk) rfl (n := x) (by omega) (by omega) dX0_columnSum_2 ?_
  refine lv_aload_n hx hb dX0_columnSum_3 rfl (lv_at hl 0 rfl) ?_
  refine lv_iload_n hx hb dX0_columnSum_4 rfl (lv_at hl 1 rfl) ?_
  refine lv_iconst (v := nI 5) hx hb dX0_columnSum_5 rfl ?_
  refine kr_iadd hx hb dX0_columnSum_6 ?_
  refine kr_lald hx hb hK hP (5 + k) 2 (kw_Xrg hk) rfl (n := x + 5) (by omega) (by omega) dX0_columnSum_7 ?_
  refine lv_lxor hx hb dX0_columnSum_8 ?_
  refine lv_aload_n hx hb dX0_columnSum_9 rfl (lv_at hl 0 rfl) ?_
  refine lv_iload_n hx hb dX0_columnSum_10 rfl (lv_at hl 1 rfl) ?_
  refine lv_bipush (v := nI 10) hx hb dX0_columnSum_11 (by decide +kernel) ?_
  refine kr_iadd hx hb dX0_columnSum_13 ?_
  refine kr_lald hx hb hK hP (5 + k) 2 (kw_Xrg hk) rfl (n := x + 10) (by omega) (by omega) dX0_columnSum_14 ?_
  refine lv_lxor hx hb dX0_columnSum_15 ?_
  refine lv_aload_n hx hb dX0_columnSum_16 rfl (lv_at hl 0 rfl) ?_
  refine lv_iload_n hx hb dX0_columnSum_17 rfl (lv_at hl 1 rfl) ?_
  refine lv_bipush (v := nI 15) hx hb dX0_columnSum_18 (by decide +kernel) ?_
  refine kr_iadd hx hb dX0_columnSum_20 ?_
  refine kr_lald hx hb hK hP (5 + k) 2 (kw_Xrg hk) rfl (n := x + 15) (by omega) (by omega) dX0_columnSum_21 ?_
  refine lv_lxor hx hb dX0_columnSum_22 ?_
  refine lv_aload_n hx hb dX0_columnSum_23 rfl (lv_at hl 0 rfl) ?_
  refine lv_iload_n hx hb dX0_columnSum_24 rfl (lv_at hl 1 rfl) ?_
  refine lv_bipush (v := nI 20) hx hb dX0_columnSum_25 (by decide +kernel) ?_
  refine kr_iadd hx hb dX0_columnSum_27 ?_
  refine kr_lald hx hb hK hP (5 + k) 2 (kw_Xrg hk) rfl (n := x + 20) (by omega) (by omega) dX0_columnSum_28 ?_
  refine lv_lxor hx hb dX0_columnSum_29 ?_
  exact W.lret hx hb hr (fun t ht hW => ⟨⟨_, (), rfl, rfl, by rw [ht]; exact hP, va_K.moved hW.alike hK, hD⟩, hS.F ht⟩) hS.2.2 dX0_columnSum_30
set_option maxHeartbeats 4000000 in
set_option maxRecDepth 100000 in
theorem kc_turnedLeft (l : Launch) (D : va_G) (ct : Nat → ClassId) (ad tb : Nat → Nat) (M : Nat → Nat → Int64) (Pl : Nat → Nat) (C V : Nat → Int64) (sz : Nat) (v : Int64) (n : Int32) : Met l yX0_turnedLeft wsX0_turnedLeft ({ frames := 0, cells := 0, slots := 0, locals := 0 }) (kr_P D vwCl (kw_T ct) (kw_B tb) [.long v, .int n] (kw_X ct ad M Pl C V) sz) (va_Ql (S := Unit) (fun r _ => r = kk_tl v n) (kr_B D vwCl (kw_T ct) (fun _ => kw_X ct ad M Pl C V) (va_A (kw_X ct ad M Pl C V) sz)) (va_A (kw_X ct ad M Pl C V) sz)) 0 0 (va_A (kw_X ct ad M Pl C V) sz) := by
  refine Met.ofW (cc := cX0_turnedLeft) (maxL := 3) (ret := (some .long)) (by decide) rfl ?_
  intro p e s m args below meth c s₁ B hml hv
  obtain ⟨rfl, hsz, hP, hK, hD0, hB⟩ := hv
  have hx := B.exec
  have hb := B.bytes
  have hr := B.returns
  have hts := atoms_spec (ws := wsX0_turnedLeft) B.pre
  have hown : s.vm.findClass RX0 = some m.cls := findClass_of_methodNamed B.named
  have hlocks := B.notSynchronized
  subst hsz
  have hD := hD0.self (sz := s.heap.size)
  generalize hAe : va_A (kw_X ct ad M Pl C V) s.heap.size = A at hD hB ⊢
  have hA : ∀ q : Nat, s.heap.size ≤ q → A q := fun q h => by rw [← hAe]; exact Or.inr h
  have hS : va_S A s.heap s.heap [] := va_S.rf
  have hl := lv_entry ([.long v, .int n]) (n := 3) (Nat.le_of_ble_eq_true rfl)
  rw [lg_entry_eq]
  generalize (lg_sl ([.long v, .int n]) ++ List.replicate (3 - (lg_sl ([.long v, .int n])).length) Slot.unset).toArray = ls at hl ⊢
  have hl : lv_has ls 3 [(0, .long v), (2, .int n)] := hl
  refine lv_lload_n hx hb dX0_turnedLeft_0 rfl (lv_at hl 0 rfl) ?_
  refine lv_iload_n hx hb dX0_turnedLeft_1 rfl (lv_at hl 1 rfl) ?_
  refine lv_lshl hx hb dX0_turnedLeft_2 rfl ?_
  refine lv_lload_n hx hb dX0_turnedLeft_3 rfl (lv_at hl 0 rfl) ?_
  refine lv_bipush (v := nI 64) hx hb dX0_turnedLeft_4 (by decide +kernel) ?_
  refine lv_iload_n hx hb dX0_turnedLeft_6 rfl (lv_at hl 1 rfl) ?_
  refine lv_isub hx hb dX0_turnedLeft_7 ?_
  refine lv_lushr hx hb dX0_turnedLeft_8 rfl ?_
  refine lv_lor hx hb dX0_turnedLeft_9 ?_
  exact W.lret hx hb hr (fun t ht hW => ⟨⟨_, (), rfl, rfl, by rw [ht]; exact hP, va_K.moved hW.alike hK, hD⟩, hS.F ht⟩) hS.2.2 dX0_turnedLeft_10
set_option maxHeartbeats 4000000 in
set_option maxRecDepth 100000 in
theorem kc_bytesTurnedRound (l : Launch) (D : va_G) (ct : Nat → ClassId) (ad tb : Nat → Nat) (M : Nat → Nat → Int64) (Pl : Nat → Nat) (C V : Nat → Int64) (sz : Nat) (v : Int64) : Met l yX0_bytesTurnedRound wsX0_bytesTurnedRound ({ frames := 0, cells := 0, slots := 0, locals := 0 }) (kr_P D vwCl (kw_T ct) (kw_B tb) [.long v] (kw_X ct ad M Pl C V) sz) (va_Ql (S := Unit) (fun r _ => r = kk_rev v 8) (kr_B D vwCl (kw_T ct) (fun _ => kw_X ct ad M Pl C V) (va_A (kw_X ct ad M Pl C V) sz)) (va_A (kw_X ct ad M Pl C V) sz)) 0 0 (va_A (kw_X ct ad M Pl C V) sz) := by
  refine Met.ofW (cc := cX0_bytesTurnedRound) (maxL := 5) (ret := (some .long)) (by decide) rfl ?_
  intro p e s m args below meth c s₁ B hml hv
  obtain ⟨rfl, hsz, hP, hK, hD0, hB⟩ := hv
  have hx := B.exec
  have hb := B.bytes
  have hr := B.returns
  have hts := atoms_spec (ws := wsX0_bytesTurnedRound) B.pre
  have hown : s.vm.findClass RX0 = some m.cls := findClass_of_methodNamed B.named
  have hlocks := B.notSynchronized
  subst hsz
  have hD := hD0.self (sz := s.heap.size)
  generalize hAe : va_A (kw_X ct ad M Pl C V) s.heap.size = A at hD hB ⊢
  have hA : ∀ q : Nat, s.heap.size ≤ q → A q := fun q h => by rw [← hAe]; exact Or.inr h
  have hS : va_S A s.heap s.heap [] := va_S.rf
  have hl := lv_entry ([.long v]) (n := 5) (Nat.le_of_ble_eq_true rfl)
  rw [lg_entry_eq]
  generalize (lg_sl ([.long v]) ++ List.replicate (5 - (lg_sl ([.long v])).length) Slot.unset).toArray = ls at hl ⊢
  have hl : lv_has ls 5 [(0, .long v)] := hl
  refine lv_lconst (v := 0) hx hb dX0_bytesTurnedRound_0 rfl ?_
  refine lv_lstore_n hx hb dX0_bytesTurnedRound_1 rfl hl (Nat.le_of_ble_eq_true rfl) rfl (fun ls hl => ?_)
  have hl : lv_has ls 5 [(2, .long 0), (0, .long v)] := hl
  refine lv_iconst (v := nI 0) hx hb dX0_bytesTurnedRound_2 rfl ?_
  refine lv_istore hx hb dX0_bytesTurnedRound_3 hl (Nat.le_of_ble_eq_true rfl) rfl (fun ls hl => ?_)
  have hl : lv_has ls 5 [(4, .int (nI 0)), (2, .long 0), (0, .long v)] := hl
  have hl : lv_has ls 5 [(4, .int (nI 0)), (2, .long 0), (0, .long v)] := lv_sub hl [0, 1, 2] rfl
  have loop : ∀ (Q : State → Prop), (∀ ls : Array Slot, lv_has ls 5 [(4, .int (nI 8)), (2, .long (kk_rev v 8)), (0, .long v)] → W p l e (headSpec wsX0_bytesTurnedRound ({ frames := 0, cells := 0, slots := 0, locals := 0 })).room s m (([.long v] : List Value).toArray) below meth c s.heap [] 0 0 Q (F0 m 35 ls [])) → ∀ (n i : Nat) (ls : Array Slot), 8 - i < n → i ≤ 8 → lv_has ls 5 [(4, .int (nI i)), (2, .long (kk_rev v i)), (0, .long v)] → W p l e (headSpec wsX0_bytesTurnedRound ({ frames := 0, cells := 0, slots := 0, locals := 0 })).room s m (([.long v] : List Value).toArray) below meth c s.heap [] 0 0 Q (F0 m 5 ls []) := by
    intro Q hend n
    induction n with
    | zero => intro i ls h; omega
    | succ n ih =>
      intro i ls hn hi hl
      refine lv_iload hx hb dX0_bytesTurnedRound_5 (lv_at hl 0 rfl) ?_
      refine lv_bipush (v := nI 8) hx hb dX0_bytesTurnedRound_7 (by decide +kernel) ?_
      refine kr_icmp_ge (tgt := 35) hx hb (by omega) (by omega) dX0_bytesTurnedRound_9 rfl (fun hc => ?_) (fun hc => ?_)
      · obtain rfl : i = 8 := by omega
        exact hend ls hl
      · have hi8 : i < 8 := hc
        refine lv_lload_n hx hb dX0_bytesTurnedRound_12 rfl (lv_at hl 1 rfl) ?_
        refine lv_bipush (v := nI 8) hx hb dX0_bytesTurnedRound_13 (by decide +kernel) ?_
        refine lv_lshl hx hb dX0_bytesTurnedRound_15 rfl ?_
        refine lv_lload_n hx hb dX0_bytesTurnedRound_16 rfl (lv_at hl 2 rfl) ?_
        refine lv_bipush (v := nI 8) hx hb dX0_bytesTurnedRound_17 (by decide +kernel) ?_
        refine lv_iload hx hb dX0_bytesTurnedRound_19 (lv_at hl 0 rfl) ?_
        refine kr_imul hx hb dX0_bytesTurnedRound_21 ?_
        refine lv_lushr hx hb dX0_bytesTurnedRound_22 rfl ?_
        refine lv_ldc2 (v := 255) hx hb hown (hts (.constantLong RX0 60 255) (by decide +kernel)) dX0_bytesTurnedRound_23 ?_
        refine lv_land hx hb dX0_bytesTurnedRound_26 ?_
        refine lv_lor hx hb dX0_bytesTurnedRound_27 ?_
        refine lv_lstore_n hx hb dX0_bytesTurnedRound_28 rfl hl (Nat.le_of_ble_eq_true rfl) rfl (fun ls hl => ?_)
        have hl : lv_has ls 5 [(2, .long (((kk_rev v i) <<< ((nI 8).toInt64 &&& 63)) ||| (((v.toUInt64 >>> ((nI (8 * i)).toInt64.toUInt64 &&& Int64.toUInt64 63)).toInt64) &&& 255))), (4, .int (nI i)), (0, .long v)] := hl
        refine lv_iinc (k := 1) (v := nI (i + 1)) hx hb dX0_bytesTurnedRound_29 hl rfl (nI_add i 1) (Nat.le_of_ble_eq_true rfl) rfl (fun ls hl => ?_)
        have hl : lv_has ls 5 [(4, .int (nI (i + 1))), (2, .long (((kk_rev v i) <<< ((nI 8).toInt64 &&& 63)) ||| (((v.toUInt64 >>> ((nI (8 * i)).toInt64.toUInt64 &&& Int64.toUInt64 63)).toInt64) &&& 255))), (0, .long v)] := hl
        refine lv_goto (tgt := 5) hx hb dX0_bytesTurnedRound_32 rfl ?_
        exact ih (i + 1) ls (by omega) (by omega) (lv_sub hl [0, 1, 2] rfl)
  refine loop _ (fun ls hl => ?_) 9 0 ls (by omega) (by omega) hl
  refine lv_lload_n hx hb dX0_bytesTurnedRound_35 rfl (lv_at hl 1 rfl) ?_
  exact W.lret hx hb hr (fun t ht hW => ⟨⟨_, (), rfl, rfl, by rw [ht]; exact hP, va_K.moved hW.alike hK, hD⟩, hS.F ht⟩) hS.2.2 dX0_bytesTurnedRound_36
