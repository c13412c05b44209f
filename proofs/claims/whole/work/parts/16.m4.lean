/-! KeccakLanesModel: the public methods where they refuse -/
theorem km_ne1 : ¬ nI 1 = 0 := by decide +kernel
set_option maxHeartbeats 4000000 in
set_option maxRecDepth 100000 in
theorem kn_clear1 (l : Launch) (D : va_G) (ct : Nat → ClassId) (ad : Nat → Nat) (F : Int32) (M : Nat → Nat → Int64) (Pl : Nat → Nat) (L C V K : Nat → Int64) (sz : Nat) (x : Int32) (hbad : x < 0 ∨ ¬ x ≤ nI 7) : Met l yX1_clear wsM_clear ({ frames := 1, cells := 0, slots := 0, locals := 21 }) (kr_P D vwCl (kw_T ct) kw_N [.ref (ad 0), .int x] (kw_M ct ad F M Pl L C V kk_rc) sz) (va_Qv (S := Unit) (fun _ => True) (kr_B D vwCl (kw_T ct) (fun _ => kw_M ct ad (nI 1) M Pl L C V kk_rc) (va_A (kw_M ct ad F M Pl L C V kk_rc) sz)) (va_A (kw_M ct ad F M Pl L C V kk_rc) sz)) 0 0 (va_A (kw_M ct ad F M Pl L C V kk_rc) sz) := by
  refine Met.ofW (cc := cX1_clear) (maxL := 3) (ret := none) (by decide) rfl ?_
  intro p e s m args below meth c s₁ B hml hv
  obtain ⟨rfl, hsz, hP, hK, hD0, hB⟩ := hv
  have hx := B.exec
  have hb := B.bytes
  have hr := B.returns
  have hts := atoms_spec (ws := wsM_clear) B.pre
  have hown : s.vm.findClass RX1 = some m.cls := findClass_of_methodNamed B.named
  have hlocks := B.notSynchronized
  have hin : ∀ w ∈ u_ws RX1 TX1 7, w ∈ wsM_clear := fun w h => List.mem_cons_of_mem _ (kM_in w h)
  subst hsz
  have hD := hD0.self (sz := s.heap.size)
  generalize hAe : va_A (kw_M ct ad F M Pl L C V kk_rc) s.heap.size = A at hD hB ⊢
  have hA : ∀ q : Nat, s.heap.size ≤ q → A q := fun q h => by rw [← hAe]; exact Or.inr h
  have hS : va_S A s.heap s.heap [] := va_S.rf
  have hl := lv_entry ([.ref (ad 0), .int x]) (n := 3) (Nat.le_of_ble_eq_true rfl)
  rw [lg_entry_eq]
  generalize (lg_sl ([.ref (ad 0), .int x]) ++ List.replicate (3 - (lg_sl ([.ref (ad 0), .int x])).length) Slot.unset).toArray = ls at hl ⊢
  have hl : lv_has ls 3 [(0, .ref (ad 0)), (1, .int x)] := hl
  refine lv_aload_n hx hb dX1_clear_0 rfl (lv_at hl 0 rfl) ?_
  refine lv_iconst (v := nI 0) hx hb dX1_clear_1 rfl ?_
  refine va_put (ci := 1) (v := .int (nI 0)) (ty := .int) (C := RX1) (T := TX1) (N := 7) hx hb hts hin tyX1 tyX1_ok nmX1 hown hK hP hD hS 0 rfl rfl 0 (by decide) (hts (.fieldLink RX1 43 "KeccakLanesModel" "failed" "I") (by decide +kernel)) (fun _ h9 => h9) rfl (by decide +kernel) rfl rfl (Nat.le_of_ble_eq_true rfl) dX1_clear_2 (fun H locs hP hD hS => ?_)
  have hP : va_P D vwCl (kw_M ct ad (nI 0) M Pl L C V kk_rc) H := hP
  have hD : va_D A (kw_M ct ad (nI 0) M Pl L C V kk_rc) := hD
  refine lv_aload_n hx hb dX1_clear_5 rfl (lv_at hl 0 rfl) ?_
  refine lv_iload_n hx hb dX1_clear_6 rfl (lv_at hl 1 rfl) ?_
  refine kr_calli (va_runV (As := [.int x]) (rest := []) ⟨hx, hb, hml, hown, hts⟩ (km_out1 l D ct ad (nI 0) M Pl L C V kk_rc _ x hbad) (cwV 1 hts gM_clear_out rfl rfl rfl (by decide +kernel) ⟨Nat.le_of_ble_eq_true rfl, Nat.le_of_ble_eq_true rfl⟩) (kr_preV kw_Nok (q := (RX1, TX1, 7)) (q0 := 0) (ci := 1) _ hP hK hD hB hS hA rfl rfl rfl) rfl rfl hl.1 rfl (lv_room (Nat.le_of_ble_eq_true rfl)) dX1_clear_7 ⟨Nat.zero_le _, Nat.zero_le _⟩) hD hS hA (fun r u H locs hq hP hD hS => ?_)
  obtain rfl : r = nI 1 := hq
  have hP : va_P D vwCl (kw_M ct ad (nI 0) M Pl L C V kk_rc) H := hP
  have hD : va_D A (kw_M ct ad (nI 0) M Pl L C V kk_rc) := hD
  refine lv_if_eq (tgt := 21) hx hb dX1_clear_10 rfl (fun hc => ?_) (fun hc => ?_)
  · exact absurd hc km_ne1
  · clear hc
    refine lv_aload_n hx hb dX1_clear_13 rfl (lv_at hl 0 rfl) ?_
    refine lv_iconst (v := nI 1) hx hb dX1_clear_14 rfl ?_
    refine va_put (ci := 1) (v := .int (nI 1)) (ty := .int) (C := RX1) (T := TX1) (N := 7) hx hb hts hin tyX1 tyX1_ok nmX1 hown hK hP hD hS 0 rfl rfl 0 (by decide) (hts (.fieldLink RX1 43 "KeccakLanesModel" "failed" "I") (by decide +kernel)) (fun _ h9 => h9) rfl (by decide +kernel) rfl rfl (Nat.le_of_ble_eq_true rfl) dX1_clear_15 (fun H locs hP hD hS => ?_)
    have hP : va_P D vwCl (kw_M ct ad (nI 1) M Pl L C V kk_rc) H := hP
    have hD : va_D A (kw_M ct ad (nI 1) M Pl L C V kk_rc) := hD
    refine lv_goto (tgt := 51) hx hb dX1_clear_18 rfl ?_
    exact W.vret hx hb hr (fun t ht hW => ⟨⟨(), rfl, trivial, by rw [ht]; exact hP, va_K.moved hW.alike hK, hD⟩, hS.F ht⟩) hS.2.2 dX1_clear_51
set_option maxHeartbeats 4000000 in
set_option maxRecDepth 100000 in
theorem kn_mix1 (l : Launch) (D : va_G) (ct : Nat → ClassId) (ad : Nat → Nat) (F : Int32) (M : Nat → Nat → Int64) (Pl : Nat → Nat) (L C V K : Nat → Int64) (sz : Nat) (x : Int32) (hbad : x < 0 ∨ ¬ x ≤ nI 7) : Met l yX1_mix wsM_mix ({ frames := 1, cells := 0, slots := 0, locals := 21 }) (kr_P D vwCl (kw_T ct) kw_N [.ref (ad 0), .int x] (kw_M ct ad F M Pl L C V kk_rc) sz) (va_Qv (S := Unit) (fun _ => True) (kr_B D vwCl (kw_T ct) (fun _ => kw_M ct ad (nI 1) M Pl L C V kk_rc) (va_A (kw_M ct ad F M Pl L C V kk_rc) sz)) (va_A (kw_M ct ad F M Pl L C V kk_rc) sz)) 0 0 (va_A (kw_M ct ad F M Pl L C V kk_rc) sz) := by
  refine Met.ofW (cc := cX1_mix) (maxL := 2) (ret := none) (by decide) rfl ?_
  intro p e s m args below meth c s₁ B hml hv
  obtain ⟨rfl, hsz, hP, hK, hD0, hB⟩ := hv
  have hx := B.exec
  have hb := B.bytes
  have hr := B.returns
  have hts := atoms_spec (ws := wsM_mix) B.pre
  have hown : s.vm.findClass RX1 = some m.cls := findClass_of_methodNamed B.named
  have hlocks := B.notSynchronized
  have hin : ∀ w ∈ u_ws RX1 TX1 7, w ∈ wsM_mix := fun w h => List.mem_cons_of_mem _ (kM_in w h)
  subst hsz
  have hD := hD0.self (sz := s.heap.size)
  generalize hAe : va_A (kw_M ct ad F M Pl L C V kk_rc) s.heap.size = A at hD hB ⊢
  have hA : ∀ q : Nat, s.heap.size ≤ q → A q := fun q h => by rw [← hAe]; exact Or.inr h
  have hS : va_S A s.heap s.heap [] := va_S.rf
  have hl := lv_entry ([.ref (ad 0), .int x]) (n := 2) (Nat.le_of_ble_eq_true rfl)
  rw [lg_entry_eq]
  generalize (lg_sl ([.ref (ad 0), .int x]) ++ List.replicate (2 - (lg_sl ([.ref (ad 0), .int x])).length) Slot.unset).toArray = ls at hl ⊢
  have hl : lv_has ls 2 [(0, .ref (ad 0)), (1, .int x)] := hl
  refine lv_aload_n hx hb dX1_mix_0 rfl (lv_at hl 0 rfl) ?_
  refine lv_iconst (v := nI 0) hx hb dX1_mix_1 rfl ?_
  refine va_put (ci := 1) (v := .int (nI 0)) (ty := .int) (C := RX1) (T := TX1) (N := 7) hx hb hts hin tyX1 tyX1_ok nmX1 hown hK hP hD hS 0 rfl rfl 0 (by decide) (hts (.fieldLink RX1 43 "KeccakLanesModel" "failed" "I") (by decide +kernel)) (fun _ h9 => h9) rfl (by decide +kernel) rfl rfl (Nat.le_of_ble_eq_true rfl) dX1_mix_2 (fun H locs hP hD hS => ?_)
  have hP : va_P D vwCl (kw_M ct ad (nI 0) M Pl L C V kk_rc) H := hP
  have hD : va_D A (kw_M ct ad (nI 0) M Pl L C V kk_rc) := hD
  refine lv_aload_n hx hb dX1_mix_5 rfl (lv_at hl 0 rfl) ?_
  refine lv_iload_n hx hb dX1_mix_6 rfl (lv_at hl 1 rfl) ?_
  refine kr_calli (va_runV (As := [.int x]) (rest := []) ⟨hx, hb, hml, hown, hts⟩ (km_out1 l D ct ad (nI 0) M Pl L C V kk_rc _ x hbad) (cwV 1 hts gM_mix_out rfl rfl rfl (by decide +kernel) ⟨Nat.le_of_ble_eq_true rfl, Nat.le_of_ble_eq_true rfl⟩) (kr_preV kw_Nok (q := (RX1, TX1, 7)) (q0 := 0) (ci := 1) _ hP hK hD hB hS hA rfl rfl rfl) rfl rfl hl.1 rfl (lv_room (Nat.le_of_ble_eq_true rfl)) dX1_mix_7 ⟨Nat.zero_le _, Nat.zero_le _⟩) hD hS hA (fun r u H locs hq hP hD hS => ?_)
  obtain rfl : r = nI 1 := hq
  have hP : va_P D vwCl (kw_M ct ad (nI 0) M Pl L C V kk_rc) H := hP
  have hD : va_D A (kw_M ct ad (nI 0) M Pl L C V kk_rc) := hD
  refine lv_if_eq (tgt := 21) hx hb dX1_mix_10 rfl (fun hc => ?_) (fun hc => ?_)
  · exact absurd hc km_ne1
  · clear hc
    refine lv_aload_n hx hb dX1_mix_13 rfl (lv_at hl 0 rfl) ?_
    refine lv_iconst (v := nI 1) hx hb dX1_mix_14 rfl ?_
    refine va_put (ci := 1) (v := .int (nI 1)) (ty := .int) (C := RX1) (T := TX1) (N := 7) hx hb hts hin tyX1 tyX1_ok nmX1 hown hK hP hD hS 0 rfl rfl 0 (by decide) (hts (.fieldLink RX1 43 "KeccakLanesModel" "failed" "I") (by decide +kernel)) (fun _ h9 => h9) rfl (by decide +kernel) rfl rfl (Nat.le_of_ble_eq_true rfl) dX1_mix_15 (fun H locs hP hD hS => ?_)
    have hP : va_P D vwCl (kw_M ct ad (nI 1) M Pl L C V kk_rc) H := hP
    have hD : va_D A (kw_M ct ad (nI 1) M Pl L C V kk_rc) := hD
    refine lv_goto (tgt := 35) hx hb dX1_mix_18 rfl ?_
    exact W.vret hx hb hr (fun t ht hW => ⟨⟨(), rfl, trivial, by rw [ht]; exact hP, va_K.moved hW.alike hK, hD⟩, hS.F ht⟩) hS.2.2 dX1_mix_35
set_option maxHeartbeats 4000000 in
set_option maxRecDepth 100000 in
theorem kn_copy1 (l : Launch) (D : va_G) (ct : Nat → ClassId) (ad : Nat → Nat) (F : Int32) (M : Nat → Nat → Int64) (Pl : Nat → Nat) (L C V K : Nat → Int64) (sz : Nat) (x y : Int32) (hbad : x < 0 ∨ ¬ x ≤ nI 7) : Met l yX1_copy wsM_copy ({ frames := 1, cells := 0, slots := 0, locals := 21 }) (kr_P D vwCl (kw_T ct) kw_N [.ref (ad 0), .int x, .int y] (kw_M ct ad F M Pl L C V kk_rc) sz) (va_Qv (S := Unit) (fun _ => True) (kr_B D vwCl (kw_T ct) (fun _ => kw_M ct ad (nI 1) M Pl L C V kk_rc) (va_A (kw_M ct ad F M Pl L C V kk_rc) sz)) (va_A (kw_M ct ad F M Pl L C V kk_rc) sz)) 0 0 (va_A (kw_M ct ad F M Pl L C V kk_rc) sz) := by
  refine Met.ofW (cc := cX1_copy) (maxL := 3) (ret := none) (by decide) rfl ?_
  intro p e s m args below meth c s₁ B hml hv
  obtain ⟨rfl, hsz, hP, hK, hD0, hB⟩ := hv
  have hx := B.exec
  have hb := B.bytes
  have hr := B.returns
  have hts := atoms_spec (ws := wsM_copy) B.pre
  have hown : s.vm.findClass RX1 = some m.cls := findClass_of_methodNamed B.named
  have hlocks := B.notSynchronized
  have hin : ∀ w ∈ u_ws RX1 TX1 7, w ∈ wsM_copy := fun w h => List.mem_cons_of_mem _ (kM_in w h)
  subst hsz
  have hD := hD0.self (sz := s.heap.size)
  generalize hAe : va_A (kw_M ct ad F M Pl L C V kk_rc) s.heap.size = A at hD hB ⊢
  have hA : ∀ q : Nat, s.heap.size ≤ q → A q := fun q h => by rw [← hAe]; exact Or.inr h
  have hS : va_S A s.heap s.heap [] := va_S.rf
  have hl := lv_entry ([.ref (ad 0), .int x, .int y]) (n := 3) (Nat.le_of_ble_eq_true rfl)
  rw [lg_entry_eq]
  generalize (lg_sl ([.ref (ad 0), .int x, .int y]) ++ List.replicate (3 - (lg_sl ([.ref (ad 0), .int x, .int y])).length) Slot.unset).toArray = ls at hl ⊢
  have hl : lv_has ls 3 [(0, .ref (ad 0)), (1, .int x), (2, .int y)] := hl
  refine lv_aload_n hx hb dX1_copy_0 rfl (lv_at hl 0 rfl) ?_
  refine lv_iconst (v := nI 0) hx hb dX1_copy_1 rfl ?_
  refine va_put (ci := 1) (v := .int (nI 0)) (ty := .int) (C := RX1) (T := TX1) (N := 7) hx hb hts hin tyX1 tyX1_ok nmX1 hown hK hP hD hS 0 rfl rfl 0 (by decide) (hts (.fieldLink RX1 43 "KeccakLanesModel" "failed" "I") (by decide +kernel)) (fun _ h9 => h9) rfl (by decide +kernel) rfl rfl (Nat.le_of_ble_eq_true rfl) dX1_copy_2 (fun H locs hP hD hS => ?_)
  have hP : va_P D vwCl (kw_M ct ad (nI 0) M Pl L C V kk_rc) H := hP
  have hD : va_D A (kw_M ct ad (nI 0) M Pl L C V kk_rc) := hD
  refine lv_aload_n hx hb dX1_copy_5 rfl (lv_at hl 0 rfl) ?_
  refine lv_iload_n hx hb dX1_copy_6 rfl (lv_at hl 1 rfl) ?_
  refine kr_calli (va_runV (As := [.int x]) (rest := []) ⟨hx, hb, hml, hown, hts⟩ (km_out1 l D ct ad (nI 0) M Pl L C V kk_rc _ x hbad) (cwV 1 hts gM_copy_out rfl rfl rfl (by decide +kernel) ⟨Nat.le_of_ble_eq_true rfl, Nat.le_of_ble_eq_true rfl⟩) (kr_preV kw_Nok (q := (RX1, TX1, 7)) (q0 := 0) (ci := 1) _ hP hK hD hB hS hA rfl rfl rfl) rfl rfl hl.1 rfl (lv_room (Nat.le_of_ble_eq_true rfl)) dX1_copy_7 ⟨Nat.zero_le _, Nat.zero_le _⟩) hD hS hA (fun r u H locs hq hP hD hS => ?_)
  obtain rfl : r = nI 1 := hq
  have hP : va_P D vwCl (kw_M ct ad (nI 0) M Pl L C V kk_rc) H := hP
  have hD : va_D A (kw_M ct ad (nI 0) M Pl L C V kk_rc) := hD
  refine lv_if_ne (tgt := 21) hx hb dX1_copy_10 rfl (fun hc => ?_) (fun hc => ?_)
  · clear hc
    refine lv_aload_n hx hb dX1_copy_21 rfl (lv_at hl 0 rfl) ?_
    refine lv_iconst (v := nI 1) hx hb dX1_copy_22 rfl ?_
    refine va_put (ci := 1) (v := .int (nI 1)) (ty := .int) (C := RX1) (T := TX1) (N := 7) hx hb hts hin tyX1 tyX1_ok nmX1 hown hK hP hD hS 0 rfl rfl 0 (by decide) (hts (.fieldLink RX1 43 "KeccakLanesModel" "failed" "I") (by decide +kernel)) (fun _ h9 => h9) rfl (by decide +kernel) rfl rfl (Nat.le_of_ble_eq_true rfl) dX1_copy_23 (fun H locs hP hD hS => ?_)
    have hP : va_P D vwCl (kw_M ct ad (nI 1) M Pl L C V kk_rc) H := hP
    have hD : va_D A (kw_M ct ad (nI 1) M Pl L C V kk_rc) := hD
    refine lv_goto (tgt := 51) hx hb dX1_copy_26 rfl ?_
    exact W.vret hx hb hr (fun t ht hW => ⟨⟨(), rfl, trivial, by rw [ht]; exact hP, va_K.moved hW.alike hK, hD⟩, hS.F ht⟩) hS.2.2 dX1_copy_51
  · exact absurd hc km_ne1
set_option maxHeartbeats 4000000 in
set_option maxRecDepth 100000 in
theorem kn_copy2 (l : Launch) (D : va_G) (ct : Nat → ClassId) (ad : Nat → Nat) (F : Int32) (M : Nat → Nat → Int64) (Pl : Nat → Nat) (L C V K : Nat → Int64) (sz : Nat) {k : Nat} (hk : k < 8) (x : Int32) (hbad : x < 0 ∨ ¬ x ≤ nI 7) : Met l yX1_copy wsM_copy ({ frames := 1, cells := 0, slots := 0, locals := 21 }) (kr_P D vwCl (kw_T ct) kw_N [.ref (ad 0), .int (nI k), .int x] (kw_M ct ad F M Pl L C V kk_rc) sz) (va_Qv (S := Unit) (fun _ => True) (kr_B D vwCl (kw_T ct) (fun _ => kw_M ct ad (nI 1) M Pl L C V kk_rc) (va_A (kw_M ct ad F M Pl L C V kk_rc) sz)) (va_A (kw_M ct ad F M Pl L C V kk_rc) sz)) 0 0 (va_A (kw_M ct ad F M Pl L C V kk_rc) sz) := by
  refine Met.ofW (cc := cX1_copy) (maxL := 3) (ret := none) (by decide) rfl ?_
  intro p e s m args below meth c s₁ B hml hv
  obtain ⟨rfl, hsz, hP, hK, hD0, hB⟩ := hv
  have hx := B.exec
  have hb := B.bytes
  have hr := B.returns
  have hts := atoms_spec (ws := wsM_copy) B.pre
  have hown : s.vm.findClass RX1 = some m.cls := findClass_of_methodNamed B.named
  have hlocks := B.notSynchronized
  have hin : ∀ w ∈ u_ws RX1 TX1 7, w ∈ wsM_copy := fun w h => List.mem_cons_of_mem _ (kM_in w h)
  subst hsz
  have hD := hD0.self (sz := s.heap.size)
  generalize hAe : va_A (kw_M ct ad F M Pl L C V kk_rc) s.heap.size = A at hD hB ⊢
  have hA : ∀ q : Nat, s.heap.size ≤ q → A q := fun q h => by rw [← hAe]; exact Or.inr h
  have hS : va_S A s.heap s.heap [] := va_S.rf
  have hl := lv_entry ([.ref (ad 0), .int (nI k), .int x]) (n := 3) (Nat.le_of_ble_eq_true rfl)
  rw [lg_entry_eq]
  generalize (lg_sl ([.ref (ad 0), .int (nI k), .int x]) ++ List.replicate (3 - (lg_sl ([.ref (ad 0), .int (nI k), .int x])).length) Slot.unset).toArray = ls at hl ⊢
  have hl : lv_has ls 3 [(0, .ref (ad 0)), (1, .int (nI k)), (2, .int x)] := hl
  refine lv_aload_n hx hb dX1_copy_0 rfl (lv_at hl 0 rfl) ?_
  refine lv_iconst (v := nI 0) hx hb dX1_copy_1 rfl ?_
  refine va_put (ci := 1) (v := .int (nI 0)) (ty := .int) (C := RX1) (T := TX1) (N := 7) hx hb hts hin tyX1 tyX1_ok nmX1 hown hK hP hD hS 0 rfl rfl 0 (by decide) (hts (.fieldLink RX1 43 "KeccakLanesModel" "failed" "I") (by decide +kernel)) (fun _ h9 => h9) rfl (by decide +kernel) rfl rfl (Nat.le_of_ble_eq_true rfl) dX1_copy_2 (fun H locs hP hD hS => ?_)
  have hP : va_P D vwCl (kw_M ct ad (nI 0) M Pl L C V kk_rc) H := hP
  have hD : va_D A (kw_M ct ad (nI 0) M Pl L C V kk_rc) := hD
  refine lv_aload_n hx hb dX1_copy_5 rfl (lv_at hl 0 rfl) ?_
  refine lv_iload_n hx hb dX1_copy_6 rfl (lv_at hl 1 rfl) ?_
  refine kr_calli (va_runV (As := [.int (nI k)]) (rest := []) ⟨hx, hb, hml, hown, hts⟩ (km_out l D ct ad (nI 0) M Pl L C V kk_rc _ (a := k) (by omega)) (cwV 1 hts gM_copy_out rfl rfl rfl (by decide +kernel) ⟨Nat.le_of_ble_eq_true rfl, Nat.le_of_ble_eq_true rfl⟩) (kr_preV kw_Nok (q := (RX1, TX1, 7)) (q0 := 0) (ci := 1) _ hP hK hD hB hS hA rfl rfl rfl) rfl rfl hl.1 rfl (lv_room (Nat.le_of_ble_eq_true rfl)) dX1_copy_7 ⟨Nat.zero_le _, Nat.zero_le _⟩) hD hS hA (fun r u H locs hq hP hD hS => ?_)
  obtain rfl : r = nI 0 := hq
  have hP : va_P D vwCl (kw_M ct ad (nI 0) M Pl L C V kk_rc) H := hP
  have hD : va_D A (kw_M ct ad (nI 0) M Pl L C V kk_rc) := hD
  refine lv_if_ne (tgt := 21) hx hb dX1_copy_10 rfl (fun hc => ?_) (fun hc => ?_)
  · exact absurd rfl hc
  · clear hc
    refine lv_aload_n hx hb dX1_copy_13 rfl (lv_at hl 0 rfl) ?_
    refine lv_iload_n hx hb dX1_copy_14 rfl (lv_at hl 2 rfl) ?_
    refine kr_calli (va_runV (As := [.int x]) (rest := []) ⟨hx, hb, hml, hown, hts⟩ (km_out1 l D ct ad (nI 0) M Pl L C V kk_rc _ x hbad) (cwV 1 hts gM_copy_out rfl rfl rfl (by decide +kernel) ⟨Nat.le_of_ble_eq_true rfl, Nat.le_of_ble_eq_true rfl⟩) (kr_preV kw_Nok (q := (RX1, TX1, 7)) (q0 := 0) (ci := 1) _ hP hK hD hB hS hA rfl rfl rfl) rfl rfl hl.1 rfl (lv_room (Nat.le_of_ble_eq_true rfl)) dX1_copy_15 ⟨Nat.zero_le _, Nat.zero_le _⟩) hD hS hA (fun r u H locs hq hP hD hS => ?_)
    obtain rfl : r = nI 1 := hq
    have hP : va_P D vwCl (kw_M ct ad (nI 0) M Pl L C V kk_rc) H := hP
    have hD : va_D A (kw_M ct ad (nI 0) M Pl L C V kk_rc) := hD
    refine lv_if_eq (tgt := 29) hx hb dX1_copy_18 rfl (fun hc => ?_) (fun hc => ?_)
    · exact absurd hc km_ne1
    · clear hc
      refine lv_aload_n hx hb dX1_copy_21 rfl (lv_at hl 0 rfl) ?_
      refine lv_iconst (v := nI 1) hx hb dX1_copy_22 rfl ?_
      refine va_put (ci := 1) (v := .int (nI 1)) (ty := .int) (C := RX1) (T := TX1) (N := 7) hx hb hts hin tyX1 tyX1_ok nmX1 hown hK hP hD hS 0 rfl rfl 0 (by decide) (hts (.fieldLink RX1 43 "KeccakLanesModel" "failed" "I") (by decide +kernel)) (fun _ h9 => h9) rfl (by decide +kernel) rfl rfl (Nat.le_of_ble_eq_true rfl) dX1_copy_23 (fun H locs hP hD hS => ?_)
      have hP : va_P D vwCl (kw_M ct ad (nI 1) M Pl L C V kk_rc) H := hP
      have hD : va_D A (kw_M ct ad (nI 1) M Pl L C V kk_rc) := hD
      refine lv_goto (tgt := 51) hx hb dX1_copy_26 rfl ?_
      exact W.vret hx hb hr (fun t ht hW => ⟨⟨(), rfl, trivial, by rw [ht]; exact hP, va_K.moved hW.alike hK, hD⟩, hS.F ht⟩) hS.2.2 dX1_copy_51
set_option maxHeartbeats 4000000 in
set_option maxRecDepth 100000 in
theorem kn_take1 (l : Launch) (D : va_G) (ct : Nat → ClassId) (ad : Nat → Nat) (F : Int32) (M : Nat → Nat → Int64) (Pl : Nat → Nat) (L C V K : Nat → Int64) (sz : Nat) (x : Int32) (v : Int64) (y : Int32) (hbad : x < 0 ∨ ¬ x ≤ nI 7) : Met l yX1_take wsM_take ({ frames := 1, cells := 0, slots := 0, locals := 21 }) (kr_P D vwCl (kw_T ct) kw_N [.ref (ad 0), .int x, .long v, .int y] (kw_M ct ad F M Pl L C V kk_rc) sz) (va_Qi (S := Unit) (fun _ _ => True) (kr_B D vwCl (kw_T ct) (fun _ => kw_M ct ad (nI 1) M Pl L C V kk_rc) (va_A (kw_M ct ad F M Pl L C V kk_rc) sz)) (va_A (kw_M ct ad F M Pl L C V kk_rc) sz)) 0 0 (va_A (kw_M ct ad F M Pl L C V kk_rc) sz) := by
  refine Met.ofW (cc := cX1_take) (maxL := 6) (ret := (some .int)) (by decide) rfl ?_
  intro p e s m args below meth c s₁ B hml hv
  obtain ⟨rfl, hsz, hP, hK, hD0, hB⟩ := hv
  have hx := B.exec
  have hb := B.bytes
  have hr := B.returns
  have hts := atoms_spec (ws := wsM_take) B.pre
  have hown : s.vm.findClass RX1 = some m.cls := findClass_of_methodNamed B.named
  have hlocks := B.notSynchronized
  have hin : ∀ w ∈ u_ws RX1 TX1 7, w ∈ wsM_take := fun w h => List.mem_cons_of_mem _ (kM_in w h)
  subst hsz
  have hD := hD0.self (sz := s.heap.size)
  generalize hAe : va_A (kw_M ct ad F M Pl L C V kk_rc) s.heap.size = A at hD hB ⊢
  have hA : ∀ q : Nat, s.heap.size ≤ q → A q := fun q h => by rw [← hAe]; exact Or.inr h
  have hS : va_S A s.heap s.heap [] := va_S.rf
  have hl := lv_entry ([.ref (ad 0), .int x, .long v, .int y]) (n := 6) (Nat.le_of_ble_eq_true rfl)
  rw [lg_entry_eq]
  generalize (lg_sl ([.ref (ad 0), .int x, .long v, .int y]) ++ List.replicate (6 - (lg_sl ([.ref (ad 0), .int x, .long v, .int y])).length) Slot.unset).toArray = ls at hl ⊢
  have hl : lv_has ls 6 [(0, .ref (ad 0)), (1, .int x), (2, .long v), (4, .int y)] := hl
  refine lv_aload_n hx hb dX1_take_0 rfl (lv_at hl 0 rfl) ?_
  refine lv_iconst (v := nI 0) hx hb dX1_take_1 rfl ?_
  refine va_put (ci := 1) (v := .int (nI 0)) (ty := .int) (C := RX1) (T := TX1) (N := 7) hx hb hts hin tyX1 tyX1_ok nmX1 hown hK hP hD hS 0 rfl rfl 0 (by decide) (hts (.fieldLink RX1 43 "KeccakLanesModel" "failed" "I") (by decide +kernel)) (fun _ h9 => h9) rfl (by decide +kernel) rfl rfl (Nat.le_of_ble_eq_true rfl) dX1_take_2 (fun H locs hP hD hS => ?_)
  have hP : va_P D vwCl (kw_M ct ad (nI 0) M Pl L C V kk_rc) H := hP
  have hD : va_D A (kw_M ct ad (nI 0) M Pl L C V kk_rc) := hD
  refine lv_aload_n hx hb dX1_take_5 rfl (lv_at hl 0 rfl) ?_
  refine lv_iload_n hx hb dX1_take_6 rfl (lv_at hl 1 rfl) ?_
  refine kr_calli (va_runV (As := [.int x]) (rest := []) ⟨hx, hb, hml, hown, hts⟩ (km_out1 l D ct ad (nI 0) M Pl L C V kk_rc _ x hbad) (cwV 1 hts gM_take_out rfl rfl rfl (by decide +kernel) ⟨Nat.le_of_ble_eq_true rfl, Nat.le_of_ble_eq_true rfl⟩) (kr_preV kw_Nok (q := (RX1, TX1, 7)) (q0 := 0) (ci := 1) _ hP hK hD hB hS hA rfl rfl rfl) rfl rfl hl.1 rfl (lv_room (Nat.le_of_ble_eq_true rfl)) dX1_take_7 ⟨Nat.zero_le _, Nat.zero_le _⟩) hD hS hA (fun r u H locs hq hP hD hS => ?_)
  obtain rfl : r = nI 1 := hq
  have hP : va_P D vwCl (kw_M ct ad (nI 0) M Pl L C V kk_rc) H := hP
  have hD : va_D A (kw_M ct ad (nI 0) M Pl L C V kk_rc) := hD
  refine lv_if_ne (tgt := 25) hx hb dX1_take_10 rfl (fun hc => ?_) (fun hc => ?_)
  · clear hc
    refine lv_aload_n hx hb dX1_take_25 rfl (lv_at hl 0 rfl) ?_
    refine lv_iconst (v := nI 1) hx hb dX1_take_26 rfl ?_
    refine kr_calli (va_runV (As := [.int (nI 1)]) (rest := []) ⟨hx, hb, hml, hown, hts⟩ (km_fail l D ct ad (nI 0) M Pl L C V kk_rc _) (cwV 1 hts gM_take_fail rfl rfl rfl (by decide +kernel) ⟨Nat.le_of_ble_eq_true rfl, Nat.le_of_ble_eq_true rfl⟩) (kr_preV kw_Nok (q := (RX1, TX1, 7)) (q0 := 0) (ci := 1) _ hP hK hD hB hS hA rfl rfl rfl) rfl rfl hl.1 rfl (lv_room (Nat.le_of_ble_eq_true rfl)) dX1_take_27 ⟨Nat.zero_le _, Nat.zero_le _⟩) hD hS hA (fun r u H locs hq hP hD hS => ?_)
    obtain rfl : r = nI 0 := hq
    have hP : va_P D vwCl (kw_M ct ad (nI 1) M Pl L C V kk_rc) H := hP
    have hD : va_D A (kw_M ct ad (nI 1) M Pl L C V kk_rc) := hD
    exact W.iret hx hb hr (fun t ht hW => ⟨⟨_, (), rfl, trivial, by rw [ht]; exact hP, va_K.moved hW.alike hK, hD⟩, hS.F ht⟩) hS.2.2 dX1_take_30
  · exact absurd hc km_ne1
set_option maxHeartbeats 4000000 in
set_option maxRecDepth 100000 in
theorem kn_take2 (l : Launch) (D : va_G) (ct : Nat → ClassId) (ad : Nat → Nat) (F : Int32) (M : Nat → Nat → Int64) (Pl : Nat → Nat) (L C V K : Nat → Int64) (sz : Nat) {k : Nat} (hk : k < 8) (v : Int64) (x : Int32) (hbad : x < 0 ∨ ¬ x ≤ nI 8) : Met l yX1_take wsM_take ({ frames := 1, cells := 0, slots := 0, locals := 21 }) (kr_P D vwCl (kw_T ct) kw_N [.ref (ad 0), .int (nI k), .long v, .int x] (kw_M ct ad F M Pl L C V kk_rc) sz) (va_Qi (S := Unit) (fun _ _ => True) (kr_B D vwCl (kw_T ct) (fun _ => kw_M ct ad (nI 1) M Pl L C V kk_rc) (va_A (kw_M ct ad F M Pl L C V kk_rc) sz)) (va_A (kw_M ct ad F M Pl L C V kk_rc) sz)) 0 0 (va_A (kw_M ct ad F M Pl L C V kk_rc) sz) := by
  refine Met.ofW (cc := cX1_take) (maxL := 6) (ret := (some .int)) (by decide) rfl ?_
  intro p e s m args below meth c s₁ B hml hv
  obtain ⟨rfl, hsz, hP, hK, hD0, hB⟩ := hv
  have hx := B.exec
  have hb := B.bytes
  have hr := B.returns
  have hts := atoms_spec (ws := wsM_take) B.pre
  have hown : s.vm.findClass RX1 = some m.cls := findClass_of_methodNamed B.named
  have hlocks := B.notSynchronized
  have hin : ∀ w ∈ u_ws RX1 TX1 7, w ∈ wsM_take := fun w h => List.mem_cons_of_mem _ (kM_in w h)
  subst hsz
  have hD := hD0.self (sz := s.heap.size)
  generalize hAe : va_A (kw_M ct ad F M Pl L C V kk_rc) s.heap.size = A at hD hB ⊢
  have hA : ∀ q : Nat, s.heap.size ≤ q → A q := fun q h => by rw [← hAe]; exact Or.inr h
  have hS : va_S A s.heap s.heap [] := va_S.rf
  have hl := lv_entry ([.ref (ad 0), .int (nI k), .long v, .int x]) (n := 6) (Nat.le_of_ble_eq_true rfl)
  rw [lg_entry_eq]
  generalize (lg_sl ([.ref (ad 0), .int (nI k), .long v, .int x]) ++ List.replicate (6 - (lg_sl ([.ref (ad 0), .int (nI k), .long v, .int x])).length) Slot.unset).toArray = ls at hl ⊢
  have hl : lv_has ls 6 [(0, .ref (ad 0)), (1, .int (nI k)), (2, .long v), (4, .int x)] := hl
  refine lv_aload_n hx hb dX1_take_0 rfl (lv_at hl 0 rfl) ?_
  refine lv_iconst (v := nI 0) hx hb dX1_take_1 rfl ?_
  refine va_put (ci := 1) (v := .int (nI 0)) (ty := .int) (C := RX1) (T := TX1) (N := 7) hx hb hts hin tyX1 tyX1_ok nmX1 hown hK hP hD hS 0 rfl rfl 0 (by decide) (hts (.fieldLink RX1 43 "KeccakLanesModel" "failed" "I") (by decide +kernel)) (fun _ h9 => h9) rfl (by decide +kernel) rfl rfl (Nat.le_of_ble_eq_true rfl) dX1_take_2 (fun H locs hP hD hS => ?_)
  have hP : va_P D vwCl (kw_M ct ad (nI 0) M Pl L C V kk_rc) H := hP
  have hD : va_D A (kw_M ct ad (nI 0) M Pl L C V kk_rc) := hD
  refine lv_aload_n hx hb dX1_take_5 rfl (lv_at hl 0 rfl) ?_
  refine lv_iload_n hx hb dX1_take_6 rfl (lv_at hl 1 rfl) ?_
  refine kr_calli (va_runV (As := [.int (nI k)]) (rest := []) ⟨hx, hb, hml, hown, hts⟩ (km_out l D ct ad (nI 0) M Pl L C V kk_rc _ (a := k) (by omega)) (cwV 1 hts gM_take_out rfl rfl rfl (by decide +kernel) ⟨Nat.le_of_ble_eq_true rfl, Nat.le_of_ble_eq_true rfl⟩) (kr_preV kw_Nok (q := (RX1, TX1, 7)) (q0 := 0) (ci := 1) _ hP hK hD hB hS hA rfl rfl rfl) rfl rfl hl.1 rfl (lv_room (Nat.le_of_ble_eq_true rfl)) dX1_take_7 ⟨Nat.zero_le _, Nat.zero_le _⟩) hD hS hA (fun r u H locs hq hP hD hS => ?_)
  obtain rfl : r = nI 0 := hq
  have hP : va_P D vwCl (kw_M ct ad (nI 0) M Pl L C V kk_rc) H := hP
  have hD : va_D A (kw_M ct ad (nI 0) M Pl L C V kk_rc) := hD
  refine lv_if_ne (tgt := 25) hx hb dX1_take_10 rfl (fun hc => ?_) (fun hc => ?_)
  · exact absurd rfl hc
  · clear hc
    refine lv_iload hx hb dX1_take_13 (lv_at hl 3 rfl) ?_
    refine lv_if_lt (tgt := 25) hx hb dX1_take_15 rfl (fun hc => ?_) (fun hc => ?_)
    · clear hc
      refine lv_aload_n hx hb dX1_take_25 rfl (lv_at hl 0 rfl) ?_
      refine lv_iconst (v := nI 1) hx hb dX1_take_26 rfl ?_
      refine kr_calli (va_runV (As := [.int (nI 1)]) (rest := []) ⟨hx, hb, hml, hown, hts⟩ (km_fail l D ct ad (nI 0) M Pl L C V kk_rc _) (cwV 1 hts gM_take_fail rfl rfl rfl (by decide +kernel) ⟨Nat.le_of_ble_eq_true rfl, Nat.le_of_ble_eq_true rfl⟩) (kr_preV kw_Nok (q := (RX1, TX1, 7)) (q0 := 0) (ci := 1) _ hP hK hD hB hS hA rfl rfl rfl) rfl rfl hl.1 rfl (lv_room (Nat.le_of_ble_eq_true rfl)) dX1_take_27 ⟨Nat.zero_le _, Nat.zero_le _⟩) hD hS hA (fun r u H locs hq hP hD hS => ?_)
      obtain rfl : r = nI 0 := hq
      have hP : va_P D vwCl (kw_M ct ad (nI 1) M Pl L C V kk_rc) H := hP
      have hD : va_D A (kw_M ct ad (nI 1) M Pl L C V kk_rc) := hD
      exact W.iret hx hb hr (fun t ht hW => ⟨⟨_, (), rfl, trivial, by rw [ht]; exact hP, va_K.moved hW.alike hK, hD⟩, hS.F ht⟩) hS.2.2 dX1_take_30
    · have hc0 := hc
      refine lv_iload hx hb dX1_take_18 (lv_at hl 3 rfl) ?_
      refine lv_bipush (v := nI 8) hx hb dX1_take_20 (by decide +kernel) ?_
      refine lv_icmp_le (tgt := 31) hx hb dX1_take_22 rfl (fun hc => ?_) (fun hc => ?_)
      · exact absurd hbad (fun h => h.elim hc0 (fun h => h hc))
      · clear hc
        refine lv_aload_n hx hb dX1_take_25 rfl (lv_at hl 0 rfl) ?_
        refine lv_iconst (v := nI 1) hx hb dX1_take_26 rfl ?_
        refine kr_calli (va_runV (As := [.int (nI 1)]) (rest := []) ⟨hx, hb, hml, hown, hts⟩ (km_fail l D ct ad (nI 0) M Pl L C V kk_rc _) (cwV 1 hts gM_take_fail rfl rfl rfl (by decide +kernel) ⟨Nat.le_of_ble_eq_true rfl, Nat.le_of_ble_eq_true rfl⟩) (kr_preV kw_Nok (q := (RX1, TX1, 7)) (q0 := 0) (ci := 1) _ hP hK hD hB hS hA rfl rfl rfl) rfl rfl hl.1 rfl (lv_room (Nat.le_of_ble_eq_true rfl)) dX1_take_27 ⟨Nat.zero_le _, Nat.zero_le _⟩) hD hS hA (fun r u H locs hq hP hD hS => ?_)
        obtain rfl : r = nI 0 := hq
        have hP : va_P D vwCl (kw_M ct ad (nI 1) M Pl L C V kk_rc) H := hP
        have hD : va_D A (kw_M ct ad (nI 1) M Pl L C V kk_rc) := hD
        exact W.iret hx hb hr (fun t ht hW => ⟨⟨_, (), rfl, trivial, by rw [ht]; exact hP, va_K.moved hW.alike hK, hD⟩, hS.F ht⟩) hS.2.2 dX1_take_30
set_option maxHeartbeats 4000000 in
set_option maxRecDepth 100000 in
theorem kn_fill1 (l : Launch) (D : va_G) (ct : Nat → ClassId) (ad : Nat → Nat) (F : Int32) (M : Nat → Nat → Int64) (Pl : Nat → Nat) (L C V K : Nat → Int64) (sz : Nat) (x v t y : Int32) (hbad : x < 0 ∨ ¬ x ≤ nI 7) : Met l yX1_fill wsM_fill ({ frames := 1, cells := 0, slots := 0, locals := 21 }) (kr_P D vwCl (kw_T ct) kw_N [.ref (ad 0), .int x, .int v, .int t, .int y] (kw_M ct ad F M Pl L C V kk_rc) sz) (va_Qi (S := Unit) (fun _ _ => True) (kr_B D vwCl (kw_T ct) (fun _ => kw_M ct ad (nI 1) M Pl L C V kk_rc) (va_A (kw_M ct ad F M Pl L C V kk_rc) sz)) (va_A (kw_M ct ad F M Pl L C V kk_rc) sz)) 0 0 (va_A (kw_M ct ad F M Pl L C V kk_rc) sz) := by
  refine Met.ofW (cc := cX1_fill) (maxL := 6) (ret := (some .int)) (by decide) rfl ?_
  intro p e s m args below meth c s₁ B hml hv
  obtain ⟨rfl, hsz, hP, hK, hD0, hB⟩ := hv
  have hx := B.exec
  have hb := B.bytes
  have hr := B.returns
  have hts := atoms_spec (ws := wsM_fill) B.pre
  have hown : s.vm.findClass RX1 = some m.cls := findClass_of_methodNamed B.named
  have hlocks := B.notSynchronized
  have hin : ∀ w ∈ u_ws RX1 TX1 7, w ∈ wsM_fill := fun w h => List.mem_cons_of_mem _ (kM_in w h)
  subst hsz
  have hD := hD0.self (sz := s.heap.size)
  generalize hAe : va_A (kw_M ct ad F M Pl L C V kk_rc) s.heap.size = A at hD hB ⊢
  have hA : ∀ q : Nat, s.heap.size ≤ q → A q := fun q h => by rw [← hAe]; exact Or.inr h
  have hS : va_S A s.heap s.heap [] := va_S.rf
  have hl := lv_entry ([.ref (ad 0), .int x, .int v, .int t, .int y]) (n := 6) (Nat.le_of_ble_eq_true rfl)
  rw [lg_entry_eq]
  generalize (lg_sl ([.ref (ad 0), .int x, .int v, .int t, .int y]) ++ List.replicate (6 - (lg_sl ([.ref (ad 0), .int x, .int v, .int t, .int y])).length) Slot.unset).toArray = ls at hl ⊢
  have hl : lv_has ls 6 [(0, .ref (ad 0)), (1, .int x), (2, .int v), (3, .int t), (4, .int y)] := hl
  refine lv_aload_n hx hb dX1_fill_0 rfl (lv_at hl 0 rfl) ?_
  refine lv_iconst (v := nI 0) hx hb dX1_fill_1 rfl ?_
  refine va_put (ci := 1) (v := .int (nI 0)) (ty := .int) (C := RX1) (T := TX1) (N := 7) hx hb hts hin tyX1 tyX1_ok nmX1 hown hK hP hD hS 0 rfl rfl 0 (by decide) (hts (.fieldLink RX1 43 "KeccakLanesModel" "failed" "I") (by decide +kernel)) (fun _ h9 => h9) rfl (by decide +kernel) rfl rfl (Nat.le_of_ble_eq_true rfl) dX1_fill_2 (fun H locs hP hD hS => ?_)
  have hP : va_P D vwCl (kw_M ct ad (nI 0) M Pl L C V kk_rc) H := hP
  have hD : va_D A (kw_M ct ad (nI 0) M Pl L C V kk_rc) := hD
  refine lv_aload_n hx hb dX1_fill_5 rfl (lv_at hl 0 rfl) ?_
  refine lv_iload_n hx hb dX1_fill_6 rfl (lv_at hl 1 rfl) ?_
  refine kr_calli (va_runV (As := [.int x]) (rest := []) ⟨hx, hb, hml, hown, hts⟩ (km_out1 l D ct ad (nI 0) M Pl L C V kk_rc _ x hbad) (cwV 1 hts gM_fill_out rfl rfl rfl (by decide +kernel) ⟨Nat.le_of_ble_eq_true rfl, Nat.le_of_ble_eq_true rfl⟩) (kr_preV kw_Nok (q := (RX1, TX1, 7)) (q0 := 0) (ci := 1) _ hP hK hD hB hS hA rfl rfl rfl) rfl rfl hl.1 rfl (lv_room (Nat.le_of_ble_eq_true rfl)) dX1_fill_7 ⟨Nat.zero_le _, Nat.zero_le _⟩) hD hS hA (fun r u H locs hq hP hD hS => ?_)
  obtain rfl : r = nI 1 := hq
  have hP : va_P D vwCl (kw_M ct ad (nI 0) M Pl L C V kk_rc) H := hP
  have hD : va_D A (kw_M ct ad (nI 0) M Pl L C V kk_rc) := hD
  refine lv_if_ne (tgt := 26) hx hb dX1_fill_10 rfl (fun hc => ?_) (fun hc => ?_)
  · clear hc
    refine lv_aload_n hx hb dX1_fill_26 rfl (lv_at hl 0 rfl) ?_
    refine lv_iconst (v := nI 1) hx hb dX1_fill_27 rfl ?_
    refine kr_calli (va_runV (As := [.int (nI 1)]) (rest := []) ⟨hx, hb, hml, hown, hts⟩ (km_fail l D ct ad (nI 0) M Pl L C V kk_rc _) (cwV 1 hts gM_fill_fail rfl rfl rfl (by decide +kernel) ⟨Nat.le_of_ble_eq_true rfl, Nat.le_of_ble_eq_true rfl⟩) (kr_preV kw_Nok (q := (RX1, TX1, 7)) (q0 := 0) (ci := 1) _ hP hK hD hB hS hA rfl rfl rfl) rfl rfl hl.1 rfl (lv_room (Nat.le_of_ble_eq_true rfl)) dX1_fill_28 ⟨Nat.zero_le _, Nat.zero_le _⟩) hD hS hA (fun r u H locs hq hP hD hS => ?_)
    obtain rfl : r = nI 0 := hq
    have hP : va_P D vwCl (kw_M ct ad (nI 1) M Pl L C V kk_rc) H := hP
    have hD : va_D A (kw_M ct ad (nI 1) M Pl L C V kk_rc) := hD
    exact W.iret hx hb hr (fun t ht hW => ⟨⟨_, (), rfl, trivial, by rw [ht]; exact hP, va_K.moved hW.alike hK, hD⟩, hS.F ht⟩) hS.2.2 dX1_fill_31
  · exact absurd hc km_ne1
set_option maxHeartbeats 4000000 in
set_option maxRecDepth 100000 in
theorem kn_fill2 (l : Launch) (D : va_G) (ct : Nat → ClassId) (ad : Nat → Nat) (F : Int32) (M : Nat → Nat → Int64) (Pl : Nat → Nat) (L C V K : Nat → Int64) (sz : Nat) {k : Nat} (hk : k < 8) (v t x : Int32) (hbad : x < 0 ∨ ¬ x ≤ nI 2000) : Met l yX1_fill wsM_fill ({ frames := 1, cells := 0, slots := 0, locals := 21 }) (kr_P D vwCl (kw_T ct) kw_N [.ref (ad 0), .int (nI k), .int v, .int t, .int x] (kw_M ct ad F M Pl L C V kk_rc) sz) (va_Qi (S := Unit) (fun _ _ => True) (kr_B D vwCl (kw_T ct) (fun _ => kw_M ct ad (nI 1) M Pl L C V kk_rc) (va_A (kw_M ct ad F M Pl L C V kk_rc) sz)) (va_A (kw_M ct ad F M Pl L C V kk_rc) sz)) 0 0 (va_A (kw_M ct ad F M Pl L C V kk_rc) sz) := by
  refine Met.ofW (cc := cX1_fill) (maxL := 6) (ret := (some .int)) (by decide) rfl ?_
  intro p e s m args below meth c s₁ B hml hv
  obtain ⟨rfl, hsz, hP, hK, hD0, hB⟩ := hv
  have hx := B.exec
  have hb := B.bytes
  have hr := B.returns
  have hts := atoms_spec (ws := wsM_fill) B.pre
  have hown : s.vm.findClass RX1 = some m.cls := findClass_of_methodNamed B.named
  have hlocks := B.notSynchronized
  have hin : ∀ w ∈ u_ws RX1 TX1 7, w ∈ wsM_fill := fun w h => List.mem_cons_of_mem _ (kM_in w h)
  subst hsz
  have hD := hD0.self (sz := s.heap.size)
  generalize hAe : va_A (kw_M ct ad F M Pl L C V kk_rc) s.heap.size = A at hD hB ⊢
  have hA : ∀ q : Nat, s.heap.size ≤ q → A q := fun q h => by rw [← hAe]; exact Or.inr h
  have hS : va_S A s.heap s.heap [] := va_S.rf
  have hl := lv_entry ([.ref (ad 0), .int (nI k), .int v, .int t, .int x]) (n := 6) (Nat.le_of_ble_eq_true rfl)
  rw [lg_entry_eq]
  generalize (lg_sl ([.ref (ad 0), .int (nI k), .int v, .int t, .int x]) ++ List.replicate (6 - (lg_sl ([.ref (ad 0), .int (nI k), .int v, .int t, .int x])).length) Slot.unset).toArray = ls at hl ⊢
  have hl : lv_has ls 6 [(0, .ref (ad 0)), (1, .int (nI k)), (2, .int v), (3, .int t), (4, .int x)] := hl
  refine lv_aload_n hx hb dX1_fill_0 rfl (lv_at hl 0 rfl) ?_
  refine lv_iconst (v := nI 0) hx hb dX1_fill_1 rfl ?_
  refine va_put (ci := 1) (v := .int (nI 0)) (ty := .int) (C := RX1) (T := TX1) (N := 7) hx hb hts hin tyX1 tyX1_ok nmX1 hown hK hP hD hS 0 rfl rfl 0 (by decide) (hts (.fieldLink RX1 43 "KeccakLanesModel" "failed" "I") (by decide +kernel)) (fun _ h9 => h9) rfl (by decide +kernel) rfl rfl (Nat.le_of_ble_eq_true rfl) dX1_fill_2 (fun H locs hP hD hS => ?_)
  have hP : va_P D vwCl (kw_M ct ad (nI 0) M Pl L C V kk_rc) H := hP
  have hD : va_D A (kw_M ct ad (nI 0) M Pl L C V kk_rc) := hD
  refine lv_aload_n hx hb dX1_fill_5 rfl (lv_at hl 0 rfl) ?_
  refine lv_iload_n hx hb dX1_fill_6 rfl (lv_at hl 1 rfl) ?_
  refine kr_calli (va_runV (As := [.int (nI k)]) (rest := []) ⟨hx, hb, hml, hown, hts⟩ (km_out l D ct ad (nI 0) M Pl L C V kk_rc _ (a := k) (by omega)) (cwV 1 hts gM_fill_out rfl rfl rfl (by decide +kernel) ⟨Nat.le_of_ble_eq_true rfl, Nat.le_of_ble_eq_true rfl⟩) (kr_preV kw_Nok (q := (RX1, TX1, 7)) (q0 := 0) (ci := 1) _ hP hK hD hB hS hA rfl rfl rfl) rfl rfl hl.1 rfl (lv_room (Nat.le_of_ble_eq_true rfl)) dX1_fill_7 ⟨Nat.zero_le _, Nat.zero_le _⟩) hD hS hA (fun r u H locs hq hP hD hS => ?_)
  obtain rfl : r = nI 0 := hq
  have hP : va_P D vwCl (kw_M ct ad (nI 0) M Pl L C V kk_rc) H := hP
  have hD : va_D A (kw_M ct ad (nI 0) M Pl L C V kk_rc) := hD
  refine lv_if_ne (tgt := 26) hx hb dX1_fill_10 rfl (fun hc => ?_) (fun hc => ?_)
  · exact absurd rfl hc
  · clear hc
    refine lv_iload hx hb dX1_fill_13 (lv_at hl 4 rfl) ?_
    refine lv_if_lt (tgt := 26) hx hb dX1_fill_15 rfl (fun hc => ?_) (fun hc => ?_)
    · clear hc
      refine lv_aload_n hx hb dX1_fill_26 rfl (lv_at hl 0 rfl) ?_
      refine lv_iconst (v := nI 1) hx hb dX1_fill_27 rfl ?_
      refine kr_calli (va_runV (As := [.int (nI 1)]) (rest := []) ⟨hx, hb, hml, hown, hts⟩ (km_fail l D ct ad (nI 0) M Pl L C V kk_rc _) (cwV 1 hts gM_fill_fail rfl rfl rfl (by decide +kernel) ⟨Nat.le_of_ble_eq_true rfl, Nat.le_of_ble_eq_true rfl⟩) (kr_preV kw_Nok (q := (RX1, TX1, 7)) (q0 := 0) (ci := 1) _ hP hK hD hB hS hA rfl rfl rfl) rfl rfl hl.1 rfl (lv_room (Nat.le_of_ble_eq_true rfl)) dX1_fill_28 ⟨Nat.zero_le _, Nat.zero_le _⟩) hD hS hA (fun r u H locs hq hP hD hS => ?_)
      obtain rfl : r = nI 0 := hq
      have hP : va_P D vwCl (kw_M ct ad (nI 1) M Pl L C V kk_rc) H := hP
      have hD : va_D A (kw_M ct ad (nI 1) M Pl L C V kk_rc) := hD
      exact W.iret hx hb hr (fun t ht hW => ⟨⟨_, (), rfl, trivial, by rw [ht]; exact hP, va_K.moved hW.alike hK, hD⟩, hS.F ht⟩) hS.2.2 dX1_fill_31
    · have hc0 := hc
      refine lv_iload hx hb dX1_fill_18 (lv_at hl 4 rfl) ?_
      refine lv_sipush (v := nI 2000) hx hb dX1_fill_20 (by decide +kernel) ?_
      refine lv_icmp_le (tgt := 32) hx hb dX1_fill_23 rfl (fun hc => ?_) (fun hc => ?_)
      · exact absurd hbad (fun h => h.elim hc0 (fun h => h hc))
      · clear hc
        refine lv_aload_n hx hb dX1_fill_26 rfl (lv_at hl 0 rfl) ?_
        refine lv_iconst (v := nI 1) hx hb dX1_fill_27 rfl ?_
        refine kr_calli (va_runV (As := [.int (nI 1)]) (rest := []) ⟨hx, hb, hml, hown, hts⟩ (km_fail l D ct ad (nI 0) M Pl L C V kk_rc _) (cwV 1 hts gM_fill_fail rfl rfl rfl (by decide +kernel) ⟨Nat.le_of_ble_eq_true rfl, Nat.le_of_ble_eq_true rfl⟩) (kr_preV kw_Nok (q := (RX1, TX1, 7)) (q0 := 0) (ci := 1) _ hP hK hD hB hS hA rfl rfl rfl) rfl rfl hl.1 rfl (lv_room (Nat.le_of_ble_eq_true rfl)) dX1_fill_28 ⟨Nat.zero_le _, Nat.zero_le _⟩) hD hS hA (fun r u H locs hq hP hD hS => ?_)
        obtain rfl : r = nI 0 := hq
        have hP : va_P D vwCl (kw_M ct ad (nI 1) M Pl L C V kk_rc) H := hP
        have hD : va_D A (kw_M ct ad (nI 1) M Pl L C V kk_rc) := hD
        exact W.iret hx hb hr (fun t ht hW => ⟨⟨_, (), rfl, trivial, by rw [ht]; exact hP, va_K.moved hW.alike hK, hD⟩, hS.F ht⟩) hS.2.2 dX1_fill_31
set_option maxHeartbeats 4000000 in
set_option maxRecDepth 100000 in
theorem kn_lane1 (l : Launch) (D : va_G) (ct : Nat → ClassId) (ad : Nat → Nat) (F : Int32) (M : Nat → Nat → Int64) (Pl : Nat → Nat) (L C V K : Nat → Int64) (sz : Nat) (x y : Int32) (hbad : x < 0 ∨ ¬ x ≤ nI 7) : Met l yX1_lane wsM_lane ({ frames := 1, cells := 0, slots := 0, locals := 21 }) (kr_P D vwCl (kw_T ct) kw_N [.ref (ad 0), .int x, .int y] (kw_M ct ad F M Pl L C V kk_rc) sz) (va_Ql (S := Unit) (fun _ _ => True) (kr_B D vwCl (kw_T ct) (fun _ => kw_M ct ad (nI 1) M Pl L C V kk_rc) (va_A (kw_M ct ad F M Pl L C V kk_rc) sz)) (va_A (kw_M ct ad F M Pl L C V kk_rc) sz)) 0 0 (va_A (kw_M ct ad F M Pl L C V kk_rc) sz) := by
  refine Met.ofW (cc := cX1_lane) (maxL := 3) (ret := (some .long)) (by decide) rfl ?_
  intro p e s m args below meth c s₁ B hml hv
  obtain ⟨rfl, hsz, hP, hK, hD0, hB⟩ := hv
  have hx := B.exec
  have hb := B.bytes
  have hr := B.returns
  have hts := atoms_spec (ws := wsM_lane) B.pre
  have hown : s.vm.findClass RX1 = some m.cls := findClass_of_methodNamed B.named
  have hlocks := B.notSynchronized
  have hin : ∀ w ∈ u_ws RX1 TX1 7, w ∈ wsM_lane := fun w h => List.mem_cons_of_mem _ (kM_in w h)
  subst hsz
  have hD := hD0.self (sz := s.heap.size)
  generalize hAe : va_A (kw_M ct ad F M Pl L C V kk_rc) s.heap.size = A at hD hB ⊢
  have hA : ∀ q : Nat, s.heap.size ≤ q → A q := fun q h => by rw [← hAe]; exact Or.inr h
  have hS : va_S A s.heap s.heap [] := va_S.rf
  have hl := lv_entry ([.ref (ad 0), .int x, .int y]) (n := 3) (Nat.le_of_ble_eq_true rfl)
  rw [lg_entry_eq]
  generalize (lg_sl ([.ref (ad 0), .int x, .int y]) ++ List.replicate (3 - (lg_sl ([.ref (ad 0), .int x, .int y])).length) Slot.unset).toArray = ls at hl ⊢
  have hl : lv_has ls 3 [(0, .ref (ad 0)), (1, .int x), (2, .int y)] := hl
  refine lv_aload_n hx hb dX1_lane_0 rfl (lv_at hl 0 rfl) ?_
  refine lv_iconst (v := nI 0) hx hb dX1_lane_1 rfl ?_
  refine va_put (ci := 1) (v := .int (nI 0)) (ty := .int) (C := RX1) (T := TX1) (N := 7) hx hb hts hin tyX1 tyX1_ok nmX1 hown hK hP hD hS 0 rfl rfl 0 (by decide) (hts (.fieldLink RX1 43 "KeccakLanesModel" "failed" "I") (by decide +kernel)) (fun _ h9 => h9) rfl (by decide +kernel) rfl rfl (Nat.le_of_ble_eq_true rfl) dX1_lane_2 (fun H locs hP hD hS => ?_)
  have hP : va_P D vwCl (kw_M ct ad (nI 0) M Pl L C V kk_rc) H := hP
  have hD : va_D A (kw_M ct ad (nI 0) M Pl L C V kk_rc) := hD
  refine lv_aload_n hx hb dX1_lane_5 rfl (lv_at hl 0 rfl) ?_
  refine lv_iload_n hx hb dX1_lane_6 rfl (lv_at hl 1 rfl) ?_
  refine kr_calli (va_runV (As := [.int x]) (rest := []) ⟨hx, hb, hml, hown, hts⟩ (km_out1 l D ct ad (nI 0) M Pl L C V kk_rc _ x hbad) (cwV 1 hts gM_lane_out rfl rfl rfl (by decide +kernel) ⟨Nat.le_of_ble_eq_true rfl, Nat.le_of_ble_eq_true rfl⟩) (kr_preV kw_Nok (q := (RX1, TX1, 7)) (q0 := 0) (ci := 1) _ hP hK hD hB hS hA rfl rfl rfl) rfl rfl hl.1 rfl (lv_room (Nat.le_of_ble_eq_true rfl)) dX1_lane_7 ⟨Nat.zero_le _, Nat.zero_le _⟩) hD hS hA (fun r u H locs hq hP hD hS => ?_)
  obtain rfl : r = nI 1 := hq
  have hP : va_P D vwCl (kw_M ct ad (nI 0) M Pl L C V kk_rc) H := hP
  have hD : va_D A (kw_M ct ad (nI 0) M Pl L C V kk_rc) := hD
  refine lv_if_ne (tgt := 23) hx hb dX1_lane_10 rfl (fun hc => ?_) (fun hc => ?_)
  · clear hc
    refine lv_aload_n hx hb dX1_lane_23 rfl (lv_at hl 0 rfl) ?_
    refine lv_iconst (v := nI 1) hx hb dX1_lane_24 rfl ?_
    refine kr_calli (va_runV (As := [.int (nI 1)]) (rest := []) ⟨hx, hb, hml, hown, hts⟩ (km_fail l D ct ad (nI 0) M Pl L C V kk_rc _) (cwV 1 hts gM_lane_fail rfl rfl rfl (by decide +kernel) ⟨Nat.le_of_ble_eq_true rfl, Nat.le_of_ble_eq_true rfl⟩) (kr_preV kw_Nok (q := (RX1, TX1, 7)) (q0 := 0) (ci := 1) _ hP hK hD hB hS hA rfl rfl rfl) rfl rfl hl.1 rfl (lv_room (Nat.le_of_ble_eq_true rfl)) dX1_lane_25 ⟨Nat.zero_le _, Nat.zero_le _⟩) hD hS hA (fun r u H locs hq hP hD hS => ?_)
    obtain rfl : r = nI 0 := hq
    have hP : va_P D vwCl (kw_M ct ad (nI 1) M Pl L C V kk_rc) H := hP
    have hD : va_D A (kw_M ct ad (nI 1) M Pl L C V kk_rc) := hD
    refine lv_i2l hx hb dX1_lane_28 rfl ?_
    refine lv_goto (tgt := 40) hx hb dX1_lane_29 rfl ?_
    exact W.lret hx hb hr (fun t ht hW => ⟨⟨_, (), rfl, trivial, by rw [ht]; exact hP, va_K.moved hW.alike hK, hD⟩, hS.F ht⟩) hS.2.2 dX1_lane_40
  · exact absurd hc km_ne1
set_option maxHeartbeats 4000000 in
set_option maxRecDepth 100000 in
theorem kn_lane2 (l : Launch) (D : va_G) (ct : Nat → ClassId) (ad : Nat → Nat) (F : Int32) (M : Nat → Nat → Int64) (Pl : Nat → Nat) (L C V K : Nat → Int64) (sz : Nat) {k : Nat} (hk : k < 8) (x : Int32) (hbad : x < 0 ∨ ¬ x ≤ nI 24) : Met l yX1_lane wsM_lane ({ frames := 1, cells := 0, slots := 0, locals := 21 }) (kr_P D vwCl (kw_T ct) kw_N [.ref (ad 0), .int (nI k), .int x] (kw_M ct ad F M Pl L C V kk_rc) sz) (va_Ql (S := Unit) (fun _ _ => True) (kr_B D vwCl (kw_T ct) (fun _ => kw_M ct ad (nI 1) M Pl L C V kk_rc) (va_A (kw_M ct ad F M Pl L C V kk_rc) sz)) (va_A (kw_M ct ad F M Pl L C V kk_rc) sz)) 0 0 (va_A (kw_M ct ad F M Pl L C V kk_rc) sz) := by
  refine Met.ofW (cc := cX1_lane) (maxL := 3) (ret := (some .long)) (by decide) rfl ?_
  intro p e s m args below meth c s₁ B hml hv
  obtain ⟨rfl, hsz, hP, hK, hD0, hB⟩ := hv
  have hx := B.exec
  have hb := B.bytes
  have hr := B.returns
  have hts := atoms_spec (ws := wsM_lane) B.pre
  have hown : s.vm.findClass RX1 = some m.cls := findClass_of_methodNamed B.named
  have hlocks := B.notSynchronized
  have hin : ∀ w ∈ u_ws RX1 TX1 7, w ∈ wsM_lane := fun w h => List.mem_cons_of_mem _ (kM_in w h)
  subst hsz
  have hD := hD0.self (sz := s.heap.size)
  generalize hAe : va_A (kw_M ct ad F M Pl L C V kk_rc) s.heap.size = A at hD hB ⊢
  have hA : ∀ q : Nat, s.heap.size ≤ q → A q := fun q h => by rw [← hAe]; exact Or.inr h
  have hS : va_S A s.heap s.heap [] := va_S.rf
  have hl := lv_entry ([.ref (ad 0), .int (nI k), .int x]) (n := 3) (Nat.le_of_ble_eq_true rfl)
  rw [lg_entry_eq]
  generalize (lg_sl ([.ref (ad 0), .int (nI k), .int x]) ++ List.replicate (3 - (lg_sl ([.ref (ad 0), .int (nI k), .int x])).length) Slot.unset).toArray = ls at hl ⊢
  have hl : lv_has ls 3 [(0, .ref (ad 0)), (1, .int (nI k)), (2, .int x)] := hl
  refine lv_aload_n hx hb dX1_lane_0 rfl (lv_at hl 0 rfl) ?_
  refine lv_iconst (v := nI 0) hx hb dX1_lane_1 rfl ?_
  refine va_put (ci := 1) (v := .int (nI 0)) (ty := .int) (C := RX1) (T := TX1) (N := 7) hx hb hts hin tyX1 tyX1_ok nmX1 hown hK hP hD hS 0 rfl rfl 0 (by decide) (hts (.fieldLink RX1 43 "KeccakLanesModel" "failed" "I") (by decide +kernel)) (fun _ h9 => h9) rfl (by decide +kernel) rfl rfl (Nat.le_of_ble_eq_true rfl) dX1_lane_2 (fun H locs hP hD hS => ?_)
  have hP : va_P D vwCl (kw_M ct ad (nI 0) M Pl L C V kk_rc) H := hP
  have hD : va_D A (kw_M ct ad (nI 0) M Pl L C V kk_rc) := hD
  refine lv_aload_n hx hb dX1_lane_5 rfl (lv_at hl 0 rfl) ?_
  refine lv_iload_n hx hb dX1_lane_6 rfl (lv_at hl 1 rfl) ?_
  refine kr_calli (va_runV (As := [.int (nI k)]) (rest := []) ⟨hx, hb, hml, hown, hts⟩ (km_out l D ct ad (nI 0) M Pl L C V kk_rc _ (a := k) (by omega)) (cwV 1 hts gM_lane_out rfl rfl rfl (by decide +kernel) ⟨Nat.le_of_ble_eq_true rfl, Nat.le_of_ble_eq_true rfl⟩) (kr_preV kw_Nok (q := (RX1, TX1, 7)) (q0 := 0) (ci := 1) _ hP hK hD hB hS hA rfl rfl rfl) rfl rfl hl.1 rfl (lv_room (Nat.le_of_ble_eq_true rfl)) dX1_lane_7 ⟨Nat.zero_le _, Nat.zero_le _⟩) hD hS hA (fun r u H locs hq hP hD hS => ?_)
  obtain rfl : r = nI 0 := hq
  have hP : va_P D vwCl (kw_M ct ad (nI 0) M Pl L C V kk_rc) H := hP
  have hD : va_D A (kw_M ct ad (nI 0) M Pl L C V kk_rc) := hD
  refine lv_if_ne (tgt := 23) hx hb dX1_lane_10 rfl (fun hc => ?_) (fun hc => ?_)
  · exact absurd rfl hc
  · clear hc
    refine lv_iload_n hx hb dX1_lane_13 rfl (lv_at hl 2 rfl) ?_
    refine lv_if_lt (tgt := 23) hx hb dX1_lane_14 rfl (fun hc => ?_) (fun hc => ?_)
    · clear hc
      refine lv_aload_n hx hb dX1_lane_23 rfl (lv_at hl 0 rfl) ?_
      refine lv_iconst (v := nI 1) hx hb dX1_lane_24 rfl ?_
      refine kr_calli (va_runV (As := [.int (nI 1)]) (rest := []) ⟨hx, hb, hml, hown, hts⟩ (km_fail l D ct ad (nI 0) M Pl L C V kk_rc _) (cwV 1 hts gM_lane_fail rfl rfl rfl (by decide +kernel) ⟨Nat.le_of_ble_eq_true rfl, Nat.le_of_ble_eq_true rfl⟩) (kr_preV kw_Nok (q := (RX1, TX1, 7)) (q0 := 0) (ci := 1) _ hP hK hD hB hS hA rfl rfl rfl) rfl rfl hl.1 rfl (lv_room (Nat.le_of_ble_eq_true rfl)) dX1_lane_25 ⟨Nat.zero_le _, Nat.zero_le _⟩) hD hS hA (fun r u H locs hq hP hD hS => ?_)
      obtain rfl : r = nI 0 := hq
      have hP : va_P D vwCl (kw_M ct ad (nI 1) M Pl L C V kk_rc) H := hP
      have hD : va_D A (kw_M ct ad (nI 1) M Pl L C V kk_rc) := hD
      refine lv_i2l hx hb dX1_lane_28 rfl ?_
      refine lv_goto (tgt := 40) hx hb dX1_lane_29 rfl ?_
      exact W.lret hx hb hr (fun t ht hW => ⟨⟨_, (), rfl, trivial, by rw [ht]; exact hP, va_K.moved hW.alike hK, hD⟩, hS.F ht⟩) hS.2.2 dX1_lane_40
    · have hc0 := hc
      refine lv_iload_n hx hb dX1_lane_17 rfl (lv_at hl 2 rfl) ?_
      refine lv_bipush (v := nI 24) hx hb dX1_lane_18 (by decide +kernel) ?_
      refine lv_icmp_le (tgt := 32) hx hb dX1_lane_20 rfl (fun hc => ?_) (fun hc => ?_)
      · exact absurd hbad (fun h => h.elim hc0 (fun h => h hc))
      · clear hc
        refine lv_aload_n hx hb dX1_lane_23 rfl (lv_at hl 0 rfl) ?_
        refine lv_iconst (v := nI 1) hx hb dX1_lane_24 rfl ?_
        refine kr_calli (va_runV (As := [.int (nI 1)]) (rest := []) ⟨hx, hb, hml, hown, hts⟩ (km_fail l D ct ad (nI 0) M Pl L C V kk_rc _) (cwV 1 hts gM_lane_fail rfl rfl rfl (by decide +kernel) ⟨Nat.le_of_ble_eq_true rfl, Nat.le_of_ble_eq_true rfl⟩) (kr_preV kw_Nok (q := (RX1, TX1, 7)) (q0 := 0) (ci := 1) _ hP hK hD hB hS hA rfl rfl rfl) rfl rfl hl.1 rfl (lv_room (Nat.le_of_ble_eq_true rfl)) dX1_lane_25 ⟨Nat.zero_le _, Nat.zero_le _⟩) hD hS hA (fun r u H locs hq hP hD hS => ?_)
        obtain rfl : r = nI 0 := hq
        have hP : va_P D vwCl (kw_M ct ad (nI 1) M Pl L C V kk_rc) H := hP
        have hD : va_D A (kw_M ct ad (nI 1) M Pl L C V kk_rc) := hD
        refine lv_i2l hx hb dX1_lane_28 rfl ?_
        refine lv_goto (tgt := 40) hx hb dX1_lane_29 rfl ?_
        exact W.lret hx hb hr (fun t ht hW => ⟨⟨_, (), rfl, trivial, by rw [ht]; exact hP, va_K.moved hW.alike hK, hD⟩, hS.F ht⟩) hS.2.2 dX1_lane_40
set_option maxHeartbeats 4000000 in
set_option maxRecDepth 100000 in
theorem kn_digest1 (l : Launch) (D : va_G) (ct : Nat → ClassId) (ad : Nat → Nat) (F : Int32) (M : Nat → Nat → Int64) (Pl : Nat → Nat) (L C V K : Nat → Int64) (sz : Nat) (x y : Int32) (hbad : x < 0 ∨ ¬ x ≤ nI 7) : Met l yX1_digest wsM_digest ({ frames := 1, cells := 0, slots := 0, locals := 21 }) (kr_P D vwCl (kw_T ct) kw_N [.ref (ad 0), .int x, .int y] (kw_M ct ad F M Pl L C V kk_rc) sz) (va_Ql (S := Unit) (fun _ _ => True) (kr_B D vwCl (kw_T ct) (fun _ => kw_M ct ad (nI 1) M Pl L C V kk_rc) (va_A (kw_M ct ad F M Pl L C V kk_rc) sz)) (va_A (kw_M ct ad F M Pl L C V kk_rc) sz)) 0 0 (va_A (kw_M ct ad F M Pl L C V kk_rc) sz) := by
  refine Met.ofW (cc := cX1_digest) (maxL := 7) (ret := (some .long)) (by decide) rfl ?_
  intro p e s m args below meth c s₁ B hml hv
  obtain ⟨rfl, hsz, hP, hK, hD0, hB⟩ := hv
  have hx := B.exec
  have hb := B.bytes
  have hr := B.returns
  have hts := atoms_spec (ws := wsM_digest) B.pre
  have hown : s.vm.findClass RX1 = some m.cls := findClass_of_methodNamed B.named
  have hlocks := B.notSynchronized
  have hin : ∀ w ∈ u_ws RX1 TX1 7, w ∈ wsM_digest := fun w h => List.mem_cons_of_mem _ (kM_in w h)
  subst hsz
  have hD := hD0.self (sz := s.heap.size)
  generalize hAe : va_A (kw_M ct ad F M Pl L C V kk_rc) s.heap.size = A at hD hB ⊢
  have hA : ∀ q : Nat, s.heap.size ≤ q → A q := fun q h => by rw [← hAe]; exact Or.inr h
  have hS : va_S A s.heap s.heap [] := va_S.rf
  have hl := lv_entry ([.ref (ad 0), .int x, .int y]) (n := 7) (Nat.le_of_ble_eq_true rfl)
  rw [lg_entry_eq]
  generalize (lg_sl ([.ref (ad 0), .int x, .int y]) ++ List.replicate (7 - (lg_sl ([.ref (ad 0), .int x, .int y])).length) Slot.unset).toArray = ls at hl ⊢
  have hl : lv_has ls 7 [(0, .ref (ad 0)), (1, .int x), (2, .int y)] := hl
  refine lv_aload_n hx hb dX1_digest_0 rfl (lv_at hl 0 rfl) ?_
  refine lv_iconst (v := nI 0) hx hb dX1_digest_1 rfl ?_
  refine va_put (ci := 1) (v := .int (nI 0)) (ty := .int) (C := RX1) (T := TX1) (N := 7) hx hb hts hin tyX1 tyX1_ok nmX1 hown hK hP hD hS 0 rfl rfl 0 (by decide) (hts (.fieldLink RX1 43 "KeccakLanesModel" "failed" "I") (by decide +kernel)) (fun _ h9 => h9) rfl (by decide +kernel) rfl rfl (Nat.le_of_ble_eq_true rfl) dX1_digest_2 (fun H locs hP hD hS => ?_)
  have hP : va_P D vwCl (kw_M ct ad (nI 0) M Pl L C V kk_rc) H := hP
  have hD : va_D A (kw_M ct ad (nI 0) M Pl L C V kk_rc) := hD
  refine lv_aload_n hx hb dX1_digest_5 rfl (lv_at hl 0 rfl) ?_
  refine lv_iload_n hx hb dX1_digest_6 rfl (lv_at hl 1 rfl) ?_
  refine kr_calli (va_runV (As := [.int x]) (rest := []) ⟨hx, hb, hml, hown, hts⟩ (km_out1 l D ct ad (nI 0) M Pl L C V kk_rc _ x hbad) (cwV 1 hts gM_digest_out rfl rfl rfl (by decide +kernel) ⟨Nat.le_of_ble_eq_true rfl, Nat.le_of_ble_eq_true rfl⟩) (kr_preV kw_Nok (q := (RX1, TX1, 7)) (q0 := 0) (ci := 1) _ hP hK hD hB hS hA rfl rfl rfl) rfl rfl hl.1 rfl (lv_room (Nat.le_of_ble_eq_true rfl)) dX1_digest_7 ⟨Nat.zero_le _, Nat.zero_le _⟩) hD hS hA (fun r u H locs hq hP hD hS => ?_)
  obtain rfl : r = nI 1 := hq
  have hP : va_P D vwCl (kw_M ct ad (nI 0) M Pl L C V kk_rc) H := hP
  have hD : va_D A (kw_M ct ad (nI 0) M Pl L C V kk_rc) := hD
  refine lv_if_ne (tgt := 22) hx hb dX1_digest_10 rfl (fun hc => ?_) (fun hc => ?_)
  · clear hc
    refine lv_aload_n hx hb dX1_digest_22 rfl (lv_at hl 0 rfl) ?_
    refine lv_iconst (v := nI 1) hx hb dX1_digest_23 rfl ?_
    refine kr_calli (va_runV (As := [.int (nI 1)]) (rest := []) ⟨hx, hb, hml, hown, hts⟩ (km_fail l D ct ad (nI 0) M Pl L C V kk_rc _) (cwV 1 hts gM_digest_fail rfl rfl rfl (by decide +kernel) ⟨Nat.le_of_ble_eq_true rfl, Nat.le_of_ble_eq_true rfl⟩) (kr_preV kw_Nok (q := (RX1, TX1, 7)) (q0 := 0) (ci := 1) _ hP hK hD hB hS hA rfl rfl rfl) rfl rfl hl.1 rfl (lv_room (Nat.le_of_ble_eq_true rfl)) dX1_digest_24 ⟨Nat.zero_le _, Nat.zero_le _⟩) hD hS hA (fun r u H locs hq hP hD hS => ?_)
    obtain rfl : r = nI 0 := hq
    have hP : va_P D vwCl (kw_M ct ad (nI 1) M Pl L C V kk_rc) H := hP
    have hD : va_D A (kw_M ct ad (nI 1) M Pl L C V kk_rc) := hD
    refine lv_i2l hx hb dX1_digest_27 rfl ?_
    exact W.lret hx hb hr (fun t ht hW => ⟨⟨_, (), rfl, trivial, by rw [ht]; exact hP, va_K.moved hW.alike hK, hD⟩, hS.F ht⟩) hS.2.2 dX1_digest_28
  · exact absurd hc km_ne1
set_option maxHeartbeats 4000000 in
set_option maxRecDepth 100000 in
theorem kn_digest2 (l : Launch) (D : va_G) (ct : Nat → ClassId) (ad : Nat → Nat) (F : Int32) (M : Nat → Nat → Int64) (Pl : Nat → Nat) (L C V K : Nat → Int64) (sz : Nat) {k : Nat} (hk : k < 8) (x : Int32) (hbad : x < 0 ∨ ¬ x ≤ nI 3) : Met l yX1_digest wsM_digest ({ frames := 1, cells := 0, slots := 0, locals := 21 }) (kr_P D vwCl (kw_T ct) kw_N [.ref (ad 0), .int (nI k), .int x] (kw_M ct ad F M Pl L C V kk_rc) sz) (va_Ql (S := Unit) (fun _ _ => True) (kr_B D vwCl (kw_T ct) (fun _ => kw_M ct ad (nI 1) M Pl L C V kk_rc) (va_A (kw_M ct ad F M Pl L C V kk_rc) sz)) (va_A (kw_M ct ad F M Pl L C V kk_rc) sz)) 0 0 (va_A (kw_M ct ad F M Pl L C V kk_rc) sz) := by
  refine Met.ofW (cc := cX1_digest) (maxL := 7) (ret := (some .long)) (by decide) rfl ?_
  intro p e s m args below meth c s₁ B hml hv
  obtain ⟨rfl, hsz, hP, hK, hD0, hB⟩ := hv
  have hx := B.exec
  have hb := B.bytes
  have hr := B.returns
  have hts := atoms_spec (ws := wsM_digest) B.pre
  have hown : s.vm.findClass RX1 = some m.cls := findClass_of_methodNamed B.named
  have hlocks := B.notSynchronized
  have hin : ∀ w ∈ u_ws RX1 TX1 7, w ∈ wsM_digest := fun w h => List.mem_cons_of_mem _ (kM_in w h)
  subst hsz
  have hD := hD0.self (sz := s.heap.size)
  generalize hAe : va_A (kw_M ct ad F M Pl L C V kk_rc) s.heap.size = A at hD hB ⊢
  have hA : ∀ q : Nat, s.heap.size ≤ q → A q := fun q h => by rw [← hAe]; exact Or.inr h
  have hS : va_S A s.heap s.heap [] := va_S.rf
  have hl := lv_entry ([.ref (ad 0), .int (nI k), .int x]) (n := 7) (Nat.le_of_ble_eq_true rfl)
  rw [lg_entry_eq]
  generalize (lg_sl ([.ref (ad 0), .int (nI k), .int x]) ++ List.replicate (7 - (lg_sl ([.ref (ad 0), .int (nI k), .int x])).length) Slot.unset).toArray = ls at hl ⊢
  have hl : lv_has ls 7 [(0, .ref (ad 0)), (1, .int (nI k)), (2, .int x)] := hl
  refine lv_aload_n hx hb dX1_digest_0 rfl (lv_at hl 0 rfl) ?_
  refine lv_iconst (v := nI 0) hx hb dX1_digest_1 rfl ?_
  refine va_put (ci := 1) (v := .int (nI 0)) (ty := .int) (C := RX1) (T := TX1) (N := 7) hx hb hts hin tyX1 tyX1_ok nmX1 hown hK hP hD hS 0 rfl rfl 0 (by decide) (hts (.fieldLink RX1 43 "KeccakLanesModel" "failed" "I") (by decide +kernel)) (fun _ h9 => h9) rfl (by decide +kernel) rfl rfl (Nat.le_of_ble_eq_true rfl) dX1_digest_2 (fun H locs hP hD hS => ?_)
  have hP : va_P D vwCl (kw_M ct ad (nI 0) M Pl L C V kk_rc) H := hP
  have hD : va_D A (kw_M ct ad (nI 0) M Pl L C V kk_rc) := hD
  refine lv_aload_n hx hb dX1_digest_5 rfl (lv_at hl 0 rfl) ?_
  refine lv_iload_n hx hb dX1_digest_6 rfl (lv_at hl 1 rfl) ?_
  refine kr_calli (va_runV (As := [.int (nI k)]) (rest := []) ⟨hx, hb, hml, hown, hts⟩ (km_out l D ct ad (nI 0) M Pl L C V kk_rc _ (a := k) (by omega)) (cwV 1 hts gM_digest_out rfl rfl rfl (by decide +kernel) ⟨Nat.le_of_ble_eq_true rfl, Nat.le_of_ble_eq_true rfl⟩) (kr_preV kw_Nok (q := (RX1, TX1, 7)) (q0 := 0) (ci := 1) _ hP hK hD hB hS hA rfl rfl rfl) rfl rfl hl.1 rfl (lv_room (Nat.le_of_ble_eq_true rfl)) dX1_digest_7 ⟨Nat.zero_le _, Nat.zero_le _⟩) hD hS hA (fun r u H locs hq hP hD hS => ?_)
  obtain rfl : r = nI 0 := hq
  have hP : va_P D vwCl (kw_M ct ad (nI 0) M Pl L C V kk_rc) H := hP
  have hD : va_D A (kw_M ct ad (nI 0) M Pl L C V kk_rc) := hD
  refine lv_if_ne (tgt := 22) hx hb dX1_digest_10 rfl (fun hc => ?_) (fun hc => ?_)
  · exact absurd rfl hc
  · clear hc
    refine lv_iload_n hx hb dX1_digest_13 rfl (lv_at hl 2 rfl) ?_
    refine lv_if_lt (tgt := 22) hx hb dX1_digest_14 rfl (fun hc => ?_) (fun hc => ?_)
    · clear hc
      refine lv_aload_n hx hb dX1_digest_22 rfl (lv_at hl 0 rfl) ?_
      refine lv_iconst (v := nI 1) hx hb dX1_digest_23 rfl ?_
      refine kr_calli (va_runV (As := [.int (nI 1)]) (rest := []) ⟨hx, hb, hml, hown, hts⟩ (km_fail l D ct ad (nI 0) M Pl L C V kk_rc _) (cwV 1 hts gM_digest_fail rfl rfl rfl (by decide +kernel) ⟨Nat.le_of_ble_eq_true rfl, Nat.le_of_ble_eq_true rfl⟩) (kr_preV kw_Nok (q := (RX1, TX1, 7)) (q0 := 0) (ci := 1) _ hP hK hD hB hS hA rfl rfl rfl) rfl rfl hl.1 rfl (lv_room (Nat.le_of_ble_eq_true rfl)) dX1_digest_24 ⟨Nat.zero_le _, Nat.zero_le _⟩) hD hS hA (fun r u H locs hq hP hD hS => ?_)
      obtain rfl : r = nI 0 := hq
      have hP : va_P D vwCl (kw_M ct ad (nI 1) M Pl L C V kk_rc) H := hP
      have hD : va_D A (kw_M ct ad (nI 1) M Pl L C V kk_rc) := hD
      refine lv_i2l hx hb dX1_digest_27 rfl ?_
      exact W.lret hx hb hr (fun t ht hW => ⟨⟨_, (), rfl, trivial, by rw [ht]; exact hP, va_K.moved hW.alike hK, hD⟩, hS.F ht⟩) hS.2.2 dX1_digest_28
    · have hc0 := hc
      refine lv_iload_n hx hb dX1_digest_17 rfl (lv_at hl 2 rfl) ?_
      refine lv_iconst (v := nI 3) hx hb dX1_digest_18 rfl ?_
      refine lv_icmp_le (tgt := 29) hx hb dX1_digest_19 rfl (fun hc => ?_) (fun hc => ?_)
      · exact absurd hbad (fun h => h.elim hc0 (fun h => h hc))
      · clear hc
        refine lv_aload_n hx hb dX1_digest_22 rfl (lv_at hl 0 rfl) ?_
        refine lv_iconst (v := nI 1) hx hb dX1_digest_23 rfl ?_
        refine kr_calli (va_runV (As := [.int (nI 1)]) (rest := []) ⟨hx, hb, hml, hown, hts⟩ (km_fail l D ct ad (nI 0) M Pl L C V kk_rc _) (cwV 1 hts gM_digest_fail rfl rfl rfl (by decide +kernel) ⟨Nat.le_of_ble_eq_true rfl, Nat.le_of_ble_eq_true rfl⟩) (kr_preV kw_Nok (q := (RX1, TX1, 7)) (q0 := 0) (ci := 1) _ hP hK hD hB hS hA rfl rfl rfl) rfl rfl hl.1 rfl (lv_room (Nat.le_of_ble_eq_true rfl)) dX1_digest_24 ⟨Nat.zero_le _, Nat.zero_le _⟩) hD hS hA (fun r u H locs hq hP hD hS => ?_)
        obtain rfl : r = nI 0 := hq
        have hP : va_P D vwCl (kw_M ct ad (nI 1) M Pl L C V kk_rc) H := hP
        have hD : va_D A (kw_M ct ad (nI 1) M Pl L C V kk_rc) := hD
        refine lv_i2l hx hb dX1_digest_27 rfl ?_
        exact W.lret hx hb hr (fun t ht hW => ⟨⟨_, (), rfl, trivial, by rw [ht]; exact hP, va_K.moved hW.alike hK, hD⟩, hS.F ht⟩) hS.2.2 dX1_digest_28
