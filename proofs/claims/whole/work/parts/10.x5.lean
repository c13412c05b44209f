/-! KeccakLanes: calls that throw, and change nothing -/
abbrev kr_X (D : va_G) (cl : List vw_C) (tys : List (ClassId × FieldType)) (ws : va_W) (A : Nat → Prop) : String → State → State → Prop := vx_X (fun _ : Unit => True) (fun E _ t => E = "java/lang/IllegalArgumentException" ∧ va_P D cl ws t.heap ∧ va_K D cl tys t ∧ va_D A ws) A
section KRX
variable {p : Program} {l : Launch} {e : Env} {R : Room} {s : State} {m : MethodId} {args : Array Value} {below : List Frame} {meth : Method} {c : Code} {H : Heap} {locs : List Loc} {cells slots : Nat} {Q : State → Prop}
variable {pc : Nat} {ls : Array Slot} {rest st0 : List Value} {D : va_G} {cl : List vw_C} {A : Nat → Prop} {tys : List (ClassId × FieldType)} {ws : va_W} {a : Array Value} {mc ms : Nat}
theorem kr_xv (hr : vx_Run p l e R s m args below meth c H locs cells slots mc ms (F0 m pc ls st0) rest (va_Qv (fun _ : Unit => False) (kr_B D cl tys (fun _ => ws) (va_A ws H.size)) (va_A ws H.size) a) (kr_X D cl tys ws (va_A ws H.size)) (va_A ws H.size)) (hD : va_D A ws) (hS : va_S A s.heap H locs) (hA : ∀ q, s.heap.size ≤ q → A q) (kx : ∀ (ce : Cell) (q9 : Addr) (H1 : Heap) (locs1 : List Loc), va_P D cl ws H1 → va_D A ws → va_S A s.heap H1 locs1 → H1[q9]? = some ce → ce.vm = .none → s.vm.findClass "java/lang/IllegalArgumentException" = some ce.cls → vx_W p l e R s m args below meth c H1 locs1 (cells + mc) (slots + ms) Q (F0 m pc ls rest) q9) : W p l e R s m args below meth c H locs cells slots Q (F0 m pc ls st0) :=
  vx_callv hr hS (fun q _ h => kr_free hD hS hA q h) (kr_free hD hS hA) (fun q _ h => kr_free hD hS hA q h) (fun E ce q9 u t H1 locs1 ht hal hp hB _ _ hS1 hce hcv hcl => by
    obtain ⟨rfl, b1, b2, b3⟩ := hB
    exact kx ce q9 H1 locs1 (ht ▸ b1) (b3.weaken (fun _ x _ h => kr_free hD hS hA x.1 h)) hS1 hce hcv hcl) (fun u t H1 locs1 _ _ hf => hf.elim)
theorem kr_xi (hr : vx_Run p l e R s m args below meth c H locs cells slots mc ms (F0 m pc ls st0) rest (va_Qi (fun (_ : Int32) (_ : Unit) => False) (kr_B D cl tys (fun _ => ws) (va_A ws H.size)) (va_A ws H.size) a) (kr_X D cl tys ws (va_A ws H.size)) (va_A ws H.size)) (hD : va_D A ws) (hS : va_S A s.heap H locs) (hA : ∀ q, s.heap.size ≤ q → A q) (kx : ∀ (ce : Cell) (q9 : Addr) (H1 : Heap) (locs1 : List Loc), va_P D cl ws H1 → va_D A ws → va_S A s.heap H1 locs1 → H1[q9]? = some ce → ce.vm = .none → s.vm.findClass "java/lang/IllegalArgumentException" = some ce.cls → vx_W p l e R s m args below meth c H1 locs1 (cells + mc) (slots + ms) Q (F0 m pc ls rest) q9) : W p l e R s m args below meth c H locs cells slots Q (F0 m pc ls st0) :=
  vx_calli hr hS (fun q _ h => kr_free hD hS hA q h) (kr_free hD hS hA) (fun q _ h => kr_free hD hS hA q h) (fun E ce q9 u t H1 locs1 ht hal hp hB _ _ hS1 hce hcv hcl => by
    obtain ⟨rfl, b1, b2, b3⟩ := hB
    exact kx ce q9 H1 locs1 (ht ▸ b1) (b3.weaken (fun _ x _ h => kr_free hD hS hA x.1 h)) hS1 hce hcv hcl) (fun _ u t H1 locs1 _ _ hf => hf.elim)
theorem kr_xl (hr : vx_Run p l e R s m args below meth c H locs cells slots mc ms (F0 m pc ls st0) rest (va_Ql (fun (_ : Int64) (_ : Unit) => False) (kr_B D cl tys (fun _ => ws) (va_A ws H.size)) (va_A ws H.size) a) (kr_X D cl tys ws (va_A ws H.size)) (va_A ws H.size)) (hD : va_D A ws) (hS : va_S A s.heap H locs) (hA : ∀ q, s.heap.size ≤ q → A q) (kx : ∀ (ce : Cell) (q9 : Addr) (H1 : Heap) (locs1 : List Loc), va_P D cl ws H1 → va_D A ws → va_S A s.heap H1 locs1 → H1[q9]? = some ce → ce.vm = .none → s.vm.findClass "java/lang/IllegalArgumentException" = some ce.cls → vx_W p l e R s m args below meth c H1 locs1 (cells + mc) (slots + ms) Q (F0 m pc ls rest) q9) : W p l e R s m args below meth c H locs cells slots Q (F0 m pc ls st0) :=
  vx_calll hr hS (fun q _ h => kr_free hD hS hA q h) (kr_free hD hS hA) (fun q _ h => kr_free hD hS hA q h) (fun E ce q9 u t H1 locs1 ht hal hp hB _ _ hS1 hce hcv hcl => by
    obtain ⟨rfl, b1, b2, b3⟩ := hB
    exact kx ce q9 H1 locs1 (ht ▸ b1) (b3.weaken (fun _ x _ h => kr_free hD hS hA x.1 h)) hS1 hce hcv hcl) (fun _ u t H1 locs1 _ _ hf => hf.elim)
end KRX
set_option maxHeartbeats 4000000 in
set_option maxRecDepth 100000 in
theorem kx_req (l : Launch) (D : va_G) (ct : Nat → ClassId) (ad tb : Nat → Nat) (M : Nat → Nat → Int64) (Pl : Nat → Nat) (C V : Nat → Int64) (hl0 : l.stackTraces = false) (sz : Nat) (x : Int32) {b : Nat} (hbad : x < 0 ∨ ¬ x ≤ nI b) : vx_Met l yX0_requireUpTo wsX0_requireUpTo ({ frames := 6, cells := 1, slots := 6, locals := 82 }) (kr_P D vwCl (kw_T ct) (kw_B tb) [.int x, .int (nI b)] (kw_X ct ad M Pl C V) sz) (va_Qv (fun _ : Unit => False) (kr_B D vwCl (kw_T ct) (fun _ => kw_X ct ad M Pl C V) (va_A (kw_X ct ad M Pl C V) sz)) (va_A (kw_X ct ad M Pl C V) sz)) (kr_X D vwCl (kw_T ct) (kw_X ct ad M Pl C V) (va_A (kw_X ct ad M Pl C V) sz)) 1 6 (va_A (kw_X ct ad M Pl C V) sz) := by
  refine vx_ofW (cc := cX0_requireUpTo) (maxL := 2) (ret := none) (by decide) rfl ?_
  intro p e s m args below meth c s₁ B hml htab hv
  obtain ⟨rfl, hsz, hP, hK, hD0, hB⟩ := hv
  have hx := B.exec
  have hb := B.bytes
  have hr := B.returns
  have hts := atoms_spec (ws := wsX0_requireUpTo) B.pre
  have hown : s.vm.findClass RX0 = some m.cls := findClass_of_methodNamed B.named
  have hlocks := B.notSynchronized
  subst hsz
  have hD := hD0.self (sz := s.heap.size)
  generalize hAe : va_A (kw_X ct ad M Pl C V) s.heap.size = A at hD hB ⊢
  have hA : ∀ q : Nat, s.heap.size ≤ q → A q := fun q h => by rw [← hAe]; exact Or.inr h
  have hS : va_S A s.heap s.heap [] := va_S.rf
  have hl := lv_entry ([.int x, .int (nI b)]) (n := 2) (Nat.le_of_ble_eq_true rfl)
  rw [lg_entry_eq]
  generalize (lg_sl ([.int x, .int (nI b)]) ++ List.replicate (2 - (lg_sl ([.int x, .int (nI b)])).length) Slot.unset).toArray = ls at hl ⊢
  have hl : lv_has ls 2 [(0, .int x), (1, .int (nI b))] := hl
  refine lv_iload_n hx hb dX0_requireUpTo_0 rfl (lv_at hl 0 rfl) ?_
  refine lv_if_lt (tgt := 9) hx hb dX0_requireUpTo_1 rfl (fun hc => ?_) (fun hc => ?_)
  · clear hc
    exact vx_throwS (own := RX0) (cls := "java/lang/IllegalArgumentException") (names := ["java/lang/RuntimeException", "java/lang/Exception"]) (text := "a number is out of range") (ik := 47) (is := 49) (ic := 51) hx hb hl0 hown (by decide +kernel) (by decide +kernel) (hts (.classLink RX0 47 "java/lang/IllegalArgumentException") (by decide +kernel)) (hts (.initialized "java/lang/IllegalArgumentException") (by decide +kernel)) hB.2.2.2.2.2.1 (vx_hat (fun w h => hts w (List.mem_cons_of_mem _ (List.mem_append_right _ h))) kw_good (vx_c (va_Nw.use rfl hB.2.2.2.2.2.2.1) (vx_c (va_Nw.use rfl hB.2.2.2.2.2.2.2.1) (vx_c (va_Nw.use rfl hB.2.2.2.2.2.2.2.2.1) (vx_c (va_Nw.use rfl hB.2.2.2.2.2.2.2.2.2) vx_n))))) (by decide +kernel) hB.2.2.2.1 hB.2.2.2.2.1 hS (hl.1.trans hml.symm) dX0_requireUpTo_9 dX0_requireUpTo_12 dX0_requireUpTo_13 dX0_requireUpTo_15 dX0_requireUpTo_18 (fun x h => (htab x h).elim) (by decide +kernel) (by decide +kernel) (by decide +kernel) (by decide +kernel) hlocks (fun t ha hz hk => ⟨(), trivial, ⟨rfl, hP.kept (fun k q hq => hk q.1 ((hP k q hq).lt)), va_K.moved ha hK, hD⟩, hz, fun q h1 h2 => hk q h1⟩) hS.2.2 (Nat.le_refl _) (Nat.le_refl _)
  · have hc0 := hc
    refine lv_iload_n hx hb dX0_requireUpTo_4 rfl (lv_at hl 0 rfl) ?_
    refine lv_iload_n hx hb dX0_requireUpTo_5 rfl (lv_at hl 1 rfl) ?_
    refine lv_icmp_le (tgt := 19) hx hb dX0_requireUpTo_6 rfl (fun hc => ?_) (fun hc => ?_)
    · exact absurd hbad (fun h => h.elim hc0 (fun h => h hc))
    · clear hc
      exact vx_throwS (own := RX0) (cls := "java/lang/IllegalArgumentException") (names := ["java/lang/RuntimeException", "java/lang/Exception"]) (text := "a number is out of range") (ik := 47) (is := 49) (ic := 51) hx hb hl0 hown (by decide +kernel) (by decide +kernel) (hts (.classLink RX0 47 "java/lang/IllegalArgumentException") (by decide +kernel)) (hts (.initialized "java/lang/IllegalArgumentException") (by decide +kernel)) hB.2.2.2.2.2.1 (vx_hat (fun w h => hts w (List.mem_cons_of_mem _ (List.mem_append_right _ h))) kw_good (vx_c (va_Nw.use rfl hB.2.2.2.2.2.2.1) (vx_c (va_Nw.use rfl hB.2.2.2.2.2.2.2.1) (vx_c (va_Nw.use rfl hB.2.2.2.2.2.2.2.2.1) (vx_c (va_Nw.use rfl hB.2.2.2.2.2.2.2.2.2) vx_n))))) (by decide +kernel) hB.2.2.2.1 hB.2.2.2.2.1 hS (hl.1.trans hml.symm) dX0_requireUpTo_9 dX0_requireUpTo_12 dX0_requireUpTo_13 dX0_requireUpTo_15 dX0_requireUpTo_18 (fun x h => (htab x h).elim) (by decide +kernel) (by decide +kernel) (by decide +kernel) (by decide +kernel) hlocks (fun t ha hz hk => ⟨(), trivial, ⟨rfl, hP.kept (fun k q hq => hk q.1 ((hP k q hq).lt)), va_K.moved ha hK, hD⟩, hz, fun q h1 h2 => hk q h1⟩) hS.2.2 (Nat.le_refl _) (Nat.le_refl _)
set_option maxHeartbeats 4000000 in
set_option maxRecDepth 100000 in
theorem kx_clear1 (l : Launch) (D : va_G) (ct : Nat → ClassId) (ad tb : Nat → Nat) (M : Nat → Nat → Int64) (Pl : Nat → Nat) (C V : Nat → Int64) (hl0 : l.stackTraces = false) (sz : Nat) (x : Int32) (hbad : x < 0 ∨ ¬ x ≤ nI 7) : vx_Met l yX0_clear wsX0_clear ({ frames := 7, cells := 1, slots := 6, locals := 103 }) (kr_P D vwCl (kw_T ct) (kw_B tb) [.ref (ad 0), .int x] (kw_X ct ad M Pl C V) sz) (va_Qv (fun _ : Unit => False) (kr_B D vwCl (kw_T ct) (fun _ => kw_X ct ad M Pl C V) (va_A (kw_X ct ad M Pl C V) sz)) (va_A (kw_X ct ad M Pl C V) sz)) (kr_X D vwCl (kw_T ct) (kw_X ct ad M Pl C V) (va_A (kw_X ct ad M Pl C V) sz)) 1 6 (va_A (kw_X ct ad M Pl C V) sz) := by
  refine vx_ofW (cc := cX0_clear) (maxL := 4) (ret := none) (by decide) rfl ?_
  intro p e s m args below meth c s₁ B hml htab hv
  obtain ⟨rfl, hsz, hP, hK, hD0, hB⟩ := hv
  have hx := B.exec
  have hb := B.bytes
  have hr := B.returns
  have hts := atoms_spec (ws := wsX0_clear) B.pre
  have hown : s.vm.findClass RX0 = some m.cls := findClass_of_methodNamed B.named
  have hlocks := B.notSynchronized
  have hin : ∀ w ∈ u_ws RX0 TX0 4, w ∈ wsX0_clear := by decide +kernel
  subst hsz
  have hD := hD0.self (sz := s.heap.size)
  generalize hAe : va_A (kw_X ct ad M Pl C V) s.heap.size = A at hD hB ⊢
  have hA : ∀ q : Nat, s.heap.size ≤ q → A q := fun q h => by rw [← hAe]; exact Or.inr h
  have hS : va_S A s.heap s.heap [] := va_S.rf
  have hl := lv_entry ([.ref (ad 0), .int x]) (n := 4) (Nat.le_of_ble_eq_true rfl)
  rw [lg_entry_eq]
  generalize (lg_sl ([.ref (ad 0), .int x]) ++ List.replicate (4 - (lg_sl ([.ref (ad 0), .int x])).length) Slot.unset).toArray = ls at hl ⊢
  have hl : lv_has ls 4 [(0, .ref (ad 0)), (1, .int x)] := hl
  refine lv_iload_n hx hb dX0_clear_0 rfl (lv_at hl 1 rfl) ?_
  refine lv_bipush (v := nI 7) hx hb dX0_clear_1 (by decide +kernel) ?_
  refine kr_xv (vx_runS (As := [.int x, .int (nI 7)]) (rest := []) ⟨hx, hb, hml, hown, hts⟩ (kx_req l D ct ad tb M Pl C V hl0 _ x hbad) (va_cwS 2 hts gX0_clear_X0_requireUpTo rfl rfl rfl (by decide +kernel) ⟨Nat.le_of_ble_eq_true rfl, Nat.le_of_ble_eq_true rfl⟩) (kr_preS (kw_Bok tb) _ hP hK hD hB hS hA) rfl rfl hl.1 rfl (lv_room (Nat.le_of_ble_eq_true rfl)) dX0_clear_3 ⟨Nat.le_of_ble_eq_true rfl, Nat.le_of_ble_eq_true rfl⟩) hD hS hA (fun ce q9 H locs hP hD hS hce hcv hcl => ?_)
  exact vx_out (E := "java/lang/IllegalArgumentException") (fun x h => (htab x h).elim) hlocks hce hcv hcl (fun t ht ha => ⟨(), trivial, ⟨rfl, by rw [ht]; exact hP, va_K.moved ha hK, hD⟩, hS.F ht⟩) hS.2.2 (Nat.le_refl _) (Nat.le_refl _)
set_option maxHeartbeats 4000000 in
set_option maxRecDepth 100000 in
theorem kx_take1 (l : Launch) (D : va_G) (ct : Nat → ClassId) (ad tb : Nat → Nat) (M : Nat → Nat → Int64) (Pl : Nat → Nat) (C V : Nat → Int64) (hl0 : l.stackTraces = false) (sz : Nat) (x : Int32) (v : Int64) (y : Int32) (hbad : x < 0 ∨ ¬ x ≤ nI 7) : vx_Met l yX0_take wsX0_take ({ frames := 7, cells := 1, slots := 6, locals := 103 }) (kr_P D vwCl (kw_T ct) (kw_B tb) [.ref (ad 0), .int x, .long v, .int y] (kw_X ct ad M Pl C V) sz) (va_Qi (fun (_ : Int32) (_ : Unit) => False) (kr_B D vwCl (kw_T ct) (fun _ => kw_X ct ad M Pl C V) (va_A (kw_X ct ad M Pl C V) sz)) (va_A (kw_X ct ad M Pl C V) sz)) (kr_X D vwCl (kw_T ct) (kw_X ct ad M Pl C V) (va_A (kw_X ct ad M Pl C V) sz)) 1 6 (va_A (kw_X ct ad M Pl C V) sz) := by
  refine vx_ofW (cc := cX0_take) (maxL := 6) (ret := (some .int)) (by decide) rfl ?_
  intro p e s m args below meth c s₁ B hml htab hv
  obtain ⟨rfl, hsz, hP, hK, hD0, hB⟩ := hv
  have hx := B.exec
  have hb := B.bytes
  have hr := B.returns
  have hts := atoms_spec (ws := wsX0_take) B.pre
  have hown : s.vm.findClass RX0 = some m.cls := findClass_of_methodNamed B.named
  have hlocks := B.notSynchronized
  have hin : ∀ w ∈ u_ws RX0 TX0 4, w ∈ wsX0_take := by decide +kernel
  subst hsz
  have hD := hD0.self (sz := s.heap.size)
  generalize hAe : va_A (kw_X ct ad M Pl C V) s.heap.size = A at hD hB ⊢
  have hA : ∀ q : Nat, s.heap.size ≤ q → A q := fun q h => by rw [← hAe]; exact Or.inr h
  have hS : va_S A s.heap s.heap [] := va_S.rf
  have hl := lv_entry ([.ref (ad 0), .int x, .long v, .int y]) (n := 6) (Nat.le_of_ble_eq_true rfl)
  rw [lg_entry_eq]
  generalize (lg_sl ([.ref (ad 0), .int x, .long v, .int y]) ++ List.replicate (6 - (lg_sl ([.ref (ad 0), .int x, .long v, .int y])).length) Slot.unset).toArray = ls at hl ⊢
  have hl : lv_has ls 6 [(0, .ref (ad 0)), (1, .int x), (2, .long v), (4, .int y)] := hl
  refine lv_iload_n hx hb dX0_take_0 rfl (lv_at hl 1 rfl) ?_
  refine lv_bipush (v := nI 7) hx hb dX0_take_1 (by decide +kernel) ?_
  refine kr_xv (vx_runS (As := [.int x, .int (nI 7)]) (rest := []) ⟨hx, hb, hml, hown, hts⟩ (kx_req l D ct ad tb M Pl C V hl0 _ x hbad) (va_cwS 2 hts gX0_take_X0_requireUpTo rfl rfl rfl (by decide +kernel) ⟨Nat.le_of_ble_eq_true rfl, Nat.le_of_ble_eq_true rfl⟩) (kr_preS (kw_Bok tb) _ hP hK hD hB hS hA) rfl rfl hl.1 rfl (lv_room (Nat.le_of_ble_eq_true rfl)) dX0_take_3 ⟨Nat.le_of_ble_eq_true rfl, Nat.le_of_ble_eq_true rfl⟩) hD hS hA (fun ce q9 H locs hP hD hS hce hcv hcl => ?_)
  exact vx_out (E := "java/lang/IllegalArgumentException") (fun x h => (htab x h).elim) hlocks hce hcv hcl (fun t ht ha => ⟨(), trivial, ⟨rfl, by rw [ht]; exact hP, va_K.moved ha hK, hD⟩, hS.F ht⟩) hS.2.2 (Nat.le_refl _) (Nat.le_refl _)
set_option maxHeartbeats 4000000 in
set_option maxRecDepth 100000 in
theorem kx_take2 (l : Launch) (D : va_G) (ct : Nat → ClassId) (ad tb : Nat → Nat) (M : Nat → Nat → Int64) (Pl : Nat → Nat) (C V : Nat → Int64) (hl0 : l.stackTraces = false) (sz : Nat) {k : Nat} (hk : k < 8) (v : Int64) (x : Int32) (hbad : x < 0 ∨ ¬ x ≤ nI 8) : vx_Met l yX0_take wsX0_take ({ frames := 7, cells := 1, slots := 6, locals := 103 }) (kr_P D vwCl (kw_T ct) (kw_B tb) [.ref (ad 0), .int (nI k), .long v, .int x] (kw_X ct ad M Pl C V) sz) (va_Qi (fun (_ : Int32) (_ : Unit) => False) (kr_B D vwCl (kw_T ct) (fun _ => kw_X ct ad M Pl C V) (va_A (kw_X ct ad M Pl C V) sz)) (va_A (kw_X ct ad M Pl C V) sz)) (kr_X D vwCl (kw_T ct) (kw_X ct ad M Pl C V) (va_A (kw_X ct ad M Pl C V) sz)) 1 6 (va_A (kw_X ct ad M Pl C V) sz) := by
  refine vx_ofW (cc := cX0_take) (maxL := 6) (ret := (some .int)) (by decide) rfl ?_
  intro p e s m args below meth c s₁ B hml htab hv
  obtain ⟨rfl, hsz, hP, hK, hD0, hB⟩ := hv
  have hx := B.exec
  have hb := B.bytes
  have hr := B.returns
  have hts := atoms_spec (ws := wsX0_take) B.pre
  have hown : s.vm.findClass RX0 = some m.cls := findClass_of_methodNamed B.named
  have hlocks := B.notSynchronized
  have hin : ∀ w ∈ u_ws RX0 TX0 4, w ∈ wsX0_take := by decide +kernel
  subst hsz
  have hD := hD0.self (sz := s.heap.size)
  generalize hAe : va_A (kw_X ct ad M Pl C V) s.heap.size = A at hD hB ⊢
  have hA : ∀ q : Nat, s.heap.size ≤ q → A q := fun q h => by rw [← hAe]; exact Or.inr h
  have hS : va_S A s.heap s.heap [] := va_S.rf
  have hl := lv_entry ([.ref (ad 0), .int (nI k), .long v, .int x]) (n := 6) (Nat.le_of_ble_eq_true rfl)
  rw [lg_entry_eq]
  generalize (lg_sl ([.ref (ad 0), .int (nI k), .long v, .int x]) ++ List.replicate (6 - (lg_sl ([.ref (ad 0), .int (nI k), .long v, .int x])).length) Slot.unset).toArray = ls at hl ⊢
  have hl : lv_has ls 6 [(0, .ref (ad 0)), (1, .int (nI k)), (2, .long v), (4, .int x)] := hl
  refine lv_iload_n hx hb dX0_take_0 rfl (lv_at hl 1 rfl) ?_
  refine lv_bipush (v := nI 7) hx hb dX0_take_1 (by decide +kernel) ?_
  refine kr_callv (va_runS (As := [.int (nI k), .int (nI 7)]) (rest := []) ⟨hx, hb, hml, hown, hts⟩ (kc_req l D ct ad tb M Pl C V _ (a := k) (b := 7) (by omega) (by omega)) (va_cwS 2 hts gX0_take_X0_requireUpTo rfl rfl rfl (by decide +kernel) ⟨Nat.le_of_ble_eq_true rfl, Nat.le_of_ble_eq_true rfl⟩) (kr_preS (kw_Bok tb) _ hP hK hD hB hS hA) rfl rfl hl.1 rfl (lv_room (Nat.le_of_ble_eq_true rfl)) dX0_take_3 ⟨Nat.zero_le _, Nat.zero_le _⟩) hD hS hA (fun u H locs hq hP hD hS => ?_)
  have hP : va_P D vwCl (kw_X ct ad M Pl C V) H := hP
  have hD : va_D A (kw_X ct ad M Pl C V) := hD
  refine lv_iload hx hb dX0_take_6 (lv_at hl 3 rfl) ?_
  refine lv_bipush (v := nI 8) hx hb dX0_take_8 (by decide +kernel) ?_
  refine kr_xv (vx_runS (As := [.int x, .int (nI 8)]) (rest := []) ⟨hx, hb, hml, hown, hts⟩ (kx_req l D ct ad tb M Pl C V hl0 _ x hbad) (va_cwS 2 hts gX0_take_X0_requireUpTo rfl rfl rfl (by decide +kernel) ⟨Nat.le_of_ble_eq_true rfl, Nat.le_of_ble_eq_true rfl⟩) (kr_preS (kw_Bok tb) _ hP hK hD hB hS hA) rfl rfl hl.1 rfl (lv_room (Nat.le_of_ble_eq_true rfl)) dX0_take_10 ⟨Nat.le_of_ble_eq_true rfl, Nat.le_of_ble_eq_true rfl⟩) hD hS hA (fun ce q9 H locs hP hD hS hce hcv hcl => ?_)
  exact vx_out (E := "java/lang/IllegalArgumentException") (fun x h => (htab x h).elim) hlocks hce hcv hcl (fun t ht ha => ⟨(), trivial, ⟨rfl, by rw [ht]; exact hP, va_K.moved ha hK, hD⟩, hS.F ht⟩) hS.2.2 (Nat.le_refl _) (Nat.le_refl _)
set_option maxHeartbeats 4000000 in
set_option maxRecDepth 100000 in
theorem kx_fill1 (l : Launch) (D : va_G) (ct : Nat → ClassId) (ad tb : Nat → Nat) (M : Nat → Nat → Int64) (Pl : Nat → Nat) (C V : Nat → Int64) (hl0 : l.stackTraces = false) (sz : Nat) (x v t y : Int32) (hbad : x < 0 ∨ ¬ x ≤ nI 7) : vx_Met l yX0_fill wsX0_fill ({ frames := 7, cells := 1, slots := 6, locals := 103 }) (kr_P D vwCl (kw_T ct) (kw_B tb) [.ref (ad 0), .int x, .int v, .int t, .int y] (kw_X ct ad M Pl C V) sz) (va_Qi (fun (_ : Int32) (_ : Unit) => False) (kr_B D vwCl (kw_T ct) (fun _ => kw_X ct ad M Pl C V) (va_A (kw_X ct ad M Pl C V) sz)) (va_A (kw_X ct ad M Pl C V) sz)) (kr_X D vwCl (kw_T ct) (kw_X ct ad M Pl C V) (va_A (kw_X ct ad M Pl C V) sz)) 1 6 (va_A (kw_X ct ad M Pl C V) sz) := by
  refine vx_ofW (cc := cX0_fill) (maxL := 6) (ret := (some .int)) (by decide) rfl ?_
  intro p e s m args below meth c s₁ B hml htab hv
  obtain ⟨rfl, hsz, hP, hK, hD0, hB⟩ := hv
  have hx := B.exec
  have hb := B.bytes
  have hr := B.returns
  have hts := atoms_spec (ws := wsX0_fill) B.pre
  have hown : s.vm.findClass RX0 = some m.cls := findClass_of_methodNamed B.named
  have hlocks := B.notSynchronized
  have hin : ∀ w ∈ u_ws RX0 TX0 4, w ∈ wsX0_fill := by decide +kernel
  subst hsz
  have hD := hD0.self (sz := s.heap.size)
  generalize hAe : va_A (kw_X ct ad M Pl C V) s.heap.size = A at hD hB ⊢
  have hA : ∀ q : Nat, s.heap.size ≤ q → A q := fun q h => by rw [← hAe]; exact Or.inr h
  have hS : va_S A s.heap s.heap [] := va_S.rf
  have hl := lv_entry ([.ref (ad 0), .int x, .int v, .int t, .int y]) (n := 6) (Nat.le_of_ble_eq_true rfl)
  rw [lg_entry_eq]
  generalize (lg_sl ([.ref (ad 0), .int x, .int v, .int t, .int y]) ++ List.replicate (6 - (lg_sl ([.ref (ad 0), .int x, .int v, .int t, .int y])).length) Slot.unset).toArray = ls at hl ⊢
  have hl : lv_has ls 6 [(0, .ref (ad 0)), (1, .int x), (2, .int v), (3, .int t), (4, .int y)] := hl
  refine lv_iload_n hx hb dX0_fill_0 rfl (lv_at hl 1 rfl) ?_
  refine lv_bipush (v := nI 7) hx hb dX0_fill_1 (by decide +kernel) ?_
  refine kr_xv (vx_runS (As := [.int x, .int (nI 7)]) (rest := []) ⟨hx, hb, hml, hown, hts⟩ (kx_req l D ct ad tb M Pl C V hl0 _ x hbad) (va_cwS 2 hts gX0_fill_X0_requireUpTo rfl rfl rfl (by decide +kernel) ⟨Nat.le_of_ble_eq_true rfl, Nat.le_of_ble_eq_true rfl⟩) (kr_preS (kw_Bok tb) _ hP hK hD hB hS hA) rfl rfl hl.1 rfl (lv_room (Nat.le_of_ble_eq_true rfl)) dX0_fill_3 ⟨Nat.le_of_ble_eq_true rfl, Nat.le_of_ble_eq_true rfl⟩) hD hS hA (fun ce q9 H locs hP hD hS hce hcv hcl => ?_)
  exact vx_out (E := "java/lang/IllegalArgumentException") (fun x h => (htab x h).elim) hlocks hce hcv hcl (fun t ht ha => ⟨(), trivial, ⟨rfl, by rw [ht]; exact hP, va_K.moved ha hK, hD⟩, hS.F ht⟩) hS.2.2 (Nat.le_refl _) (Nat.le_refl _)
set_option maxHeartbeats 4000000 in
set_option maxRecDepth 100000 in
theorem kx_fill2 (l : Launch) (D : va_G) (ct : Nat → ClassId) (ad tb : Nat → Nat) (M : Nat → Nat → Int64) (Pl : Nat → Nat) (C V : Nat → Int64) (hl0 : l.stackTraces = false) (sz : Nat) {k : Nat} (hk : k < 8) (v t x : Int32) (hbad : x < 0 ∨ ¬ x ≤ nI 2000) : vx_Met l yX0_fill wsX0_fill ({ frames := 7, cells := 1, slots := 6, locals := 103 }) (kr_P D vwCl (kw_T ct) (kw_B tb) [.ref (ad 0), .int (nI k), .int v, .int t, .int x] (kw_X ct ad M Pl C V) sz) (va_Qi (fun (_ : Int32) (_ : Unit) => False) (kr_B D vwCl (kw_T ct) (fun _ => kw_X ct ad M Pl C V) (va_A (kw_X ct ad M Pl C V) sz)) (va_A (kw_X ct ad M Pl C V) sz)) (kr_X D vwCl (kw_T ct) (kw_X ct ad M Pl C V) (va_A (kw_X ct ad M Pl C V) sz)) 1 6 (va_A (kw_X ct ad M Pl C V) sz) := by
  refine vx_ofW (cc := cX0_fill) (maxL := 6) (ret := (some .int)) (by decide) rfl ?_
  intro p e s m args below meth c s₁ B hml htab hv
  obtain ⟨rfl, hsz, hP, hK, hD0, hB⟩ := hv
  have hx := B.exec
  have hb := B.bytes
  have hr := B.returns
  have hts := atoms_spec (ws := wsX0_fill) B.pre
  have hown : s.vm.findClass RX0 = some m.cls := findClass_of_methodNamed B.named
  have hlocks := B.notSynchronized
  have hin : ∀ w ∈ u_ws RX0 TX0 4, w ∈ wsX0_fill := by decide +kernel
  subst hsz
  have hD := hD0.self (sz := s.heap.size)
  generalize hAe : va_A (kw_X ct ad M Pl C V) s.heap.size = A at hD hB ⊢
  have hA : ∀ q : Nat, s.heap.size ≤ q → A q := fun q h => by rw [← hAe]; exact Or.inr h
  have hS : va_S A s.heap s.heap [] := va_S.rf
  have hl := lv_entry ([.ref (ad 0), .int (nI k), .int v, .int t, .int x]) (n := 6) (Nat.le_of_ble_eq_true rfl)
  rw [lg_entry_eq]
  generalize (lg_sl ([.ref (ad 0), .int (nI k), .int v, .int t, .int x]) ++ List.replicate (6 - (lg_sl ([.ref (ad 0), .int (nI k), .int v, .int t, .int x])).length) Slot.unset).toArray = ls at hl ⊢
  have hl : lv_has ls 6 [(0, .ref (ad 0)), (1, .int (nI k)), (2, .int v), (3, .int t), (4, .int x)] := hl
  refine lv_iload_n hx hb dX0_fill_0 rfl (lv_at hl 1 rfl) ?_
  refine lv_bipush (v := nI 7) hx hb dX0_fill_1 (by decide +kernel) ?_
  refine kr_callv (va_runS (As := [.int (nI k), .int (nI 7)]) (rest := []) ⟨hx, hb, hml, hown, hts⟩ (kc_req l D ct ad tb M Pl C V _ (a := k) (b := 7) (by omega) (by omega)) (va_cwS 2 hts gX0_fill_X0_requireUpTo rfl rfl rfl (by decide +kernel) ⟨Nat.le_of_ble_eq_true rfl, Nat.le_of_ble_eq_true rfl⟩) (kr_preS (kw_Bok tb) _ hP hK hD hB hS hA) rfl rfl hl.1 rfl (lv_room (Nat.le_of_ble_eq_true rfl)) dX0_fill_3 ⟨Nat.zero_le _, Nat.zero_le _⟩) hD hS hA (fun u H locs hq hP hD hS => ?_)
  have hP : va_P D vwCl (kw_X ct ad M Pl C V) H := hP
  have hD : va_D A (kw_X ct ad M Pl C V) := hD
  refine lv_iload hx hb dX0_fill_6 (lv_at hl 4 rfl) ?_
  refine lv_sipush (v := nI 2000) hx hb dX0_fill_8 (by decide +kernel) ?_
  refine kr_xv (vx_runS (As := [.int x, .int (nI 2000)]) (rest := []) ⟨hx, hb, hml, hown, hts⟩ (kx_req l D ct ad tb M Pl C V hl0 _ x hbad) (va_cwS 2 hts gX0_fill_X0_requireUpTo rfl rfl rfl (by decide +kernel) ⟨Nat.le_of_ble_eq_true rfl, Nat.le_of_ble_eq_true rfl⟩) (kr_preS (kw_Bok tb) _ hP hK hD hB hS hA) rfl rfl hl.1 rfl (lv_room (Nat.le_of_ble_eq_true rfl)) dX0_fill_11 ⟨Nat.le_of_ble_eq_true rfl, Nat.le_of_ble_eq_true rfl⟩) hD hS hA (fun ce q9 H locs hP hD hS hce hcv hcl => ?_)
  exact vx_out (E := "java/lang/IllegalArgumentException") (fun x h => (htab x h).elim) hlocks hce hcv hcl (fun t ht ha => ⟨(), trivial, ⟨rfl, by rw [ht]; exact hP, va_K.moved ha hK, hD⟩, hS.F ht⟩) hS.2.2 (Nat.le_refl _) (Nat.le_refl _)
set_option maxHeartbeats 4000000 in
set_option maxRecDepth 100000 in
theorem kx_copy1 (l : Launch) (D : va_G) (ct : Nat → ClassId) (ad tb : Nat → Nat) (M : Nat → Nat → Int64) (Pl : Nat → Nat) (C V : Nat → Int64) (hl0 : l.stackTraces = false) (sz : Nat) (x y : Int32) (hbad : x < 0 ∨ ¬ x ≤ nI 7) : vx_Met l yX0_copy wsX0_copy ({ frames := 7, cells := 1, slots := 6, locals := 103 }) (kr_P D vwCl (kw_T ct) (kw_B tb) [.ref (ad 0), .int x, .int y] (kw_X ct ad M Pl C V) sz) (va_Qv (fun _ : Unit => False) (kr_B D vwCl (kw_T ct) (fun _ => kw_X ct ad M Pl C V) (va_A (kw_X ct ad M Pl C V) sz)) (va_A (kw_X ct ad M Pl C V) sz)) (kr_X D vwCl (kw_T ct) (kw_X ct ad M Pl C V) (va_A (kw_X ct ad M Pl C V) sz)) 1 6 (va_A (kw_X ct ad M Pl C V) sz) := by
  refine vx_ofW (cc := cX0_copy) (maxL := 3) (ret := none) (by decide) rfl ?_
  intro p e s m args below meth c s₁ B hml htab hv
  obtain ⟨rfl, hsz, hP, hK, hD0, hB⟩ := hv
  have hx := B.exec
  have hb := B.bytes
  have hr := B.returns
  have hts := atoms_spec (ws := wsX0_copy) B.pre
  have hown : s.vm.findClass RX0 = some m.cls := findClass_of_methodNamed B.named
  have hlocks := B.notSynchronized
  subst hsz
  have hD := hD0.self (sz := s.heap.size)
  generalize hAe : va_A (kw_X ct ad M Pl C V) s.heap.size = A at hD hB ⊢
  have hA : ∀ q : Nat, s.heap.size ≤ q → A q := fun q h => by rw [← hAe]; exact Or.inr h
  have hS : va_S A s.heap s.heap [] := va_S.rf
  have hl := lv_entry ([.ref (ad 0), .int x, .int y]) (n := 3) (Nat.le_of_ble_eq_true rfl)
  rw [lg_entry_eq]
  generalize (lg_sl ([.ref (ad 0), .int x, .int y]) ++ List.replicate (3 - (lg_sl ([.ref (ad 0), .int x, .int y])).length) Slot.unset).toArray = ls at hl ⊢
  have hl : lv_has ls 3 [(0, .ref (ad 0)), (1, .int x), (2, .int y)] := hl
  refine lv_iload_n hx hb dX0_copy_0 rfl (lv_at hl 1 rfl) ?_
  refine lv_bipush (v := nI 7) hx hb dX0_copy_1 (by decide +kernel) ?_
  refine kr_xv (vx_runS (As := [.int x, .int (nI 7)]) (rest := []) ⟨hx, hb, hml, hown, hts⟩ (kx_req l D ct ad tb M Pl C V hl0 _ x hbad) (va_cwS 2 hts gX0_copy_X0_requireUpTo rfl rfl rfl (by decide +kernel) ⟨Nat.le_of_ble_eq_true rfl, Nat.le_of_ble_eq_true rfl⟩) (kr_preS (kw_Bok tb) _ hP hK hD hB hS hA) rfl rfl hl.1 rfl (lv_room (Nat.le_of_ble_eq_true rfl)) dX0_copy_3 ⟨Nat.le_of_ble_eq_true rfl, Nat.le_of_ble_eq_true rfl⟩) hD hS hA (fun ce q9 H locs hP hD hS hce hcv hcl => ?_)
  exact vx_out (E := "java/lang/IllegalArgumentException") (fun x h => (htab x h).elim) hlocks hce hcv hcl (fun t ht ha => ⟨(), trivial, ⟨rfl, by rw [ht]; exact hP, va_K.moved ha hK, hD⟩, hS.F ht⟩) hS.2.2 (Nat.le_refl _) (Nat.le_refl _)
set_option maxHeartbeats 4000000 in
set_option maxRecDepth 100000 in
theorem kx_copy2 (l : Launch) (D : va_G) (ct : Nat → ClassId) (ad tb : Nat → Nat) (M : Nat → Nat → Int64) (Pl : Nat → Nat) (C V : Nat → Int64) (hl0 : l.stackTraces = false) (sz : Nat) {k : Nat} (hk : k < 8) (x : Int32) (hbad : x < 0 ∨ ¬ x ≤ nI 7) : vx_Met l yX0_copy wsX0_copy ({ frames := 7, cells := 1, slots := 6, locals := 103 }) (kr_P D vwCl (kw_T ct) (kw_B tb) [.ref (ad 0), .int (nI k), .int x] (kw_X ct ad M Pl C V) sz) (va_Qv (fun _ : Unit => False) (kr_B D vwCl (kw_T ct) (fun _ => kw_X ct ad M Pl C V) (va_A (kw_X ct ad M Pl C V) sz)) (va_A (kw_X ct ad M Pl C V) sz)) (kr_X D vwCl (kw_T ct) (kw_X ct ad M Pl C V) (va_A (kw_X ct ad M Pl C V) sz)) 1 6 (va_A (kw_X ct ad M Pl C V) sz) := by
  refine vx_ofW (cc := cX0_copy) (maxL := 3) (ret := none) (by decide) rfl ?_
  intro p e s m args below meth c s₁ B hml htab hv
  obtain ⟨rfl, hsz, hP, hK, hD0, hB⟩ := hv
  have hx := B.exec
  have hb := B.bytes
  have hr := B.returns
  have hts := atoms_spec (ws := wsX0_copy) B.pre
  have hown : s.vm.findClass RX0 = some m.cls := findClass_of_methodNamed B.named
  have hlocks := B.notSynchronized
  subst hsz
  have hD := hD0.self (sz := s.heap.size)
  generalize hAe : va_A (kw_X ct ad M Pl C V) s.heap.size = A at hD hB ⊢
  have hA : ∀ q : Nat, s.heap.size ≤ q → A q := fun q h => by rw [← hAe]; exact Or.inr h
  have hS : va_S A s.heap s.heap [] := va_S.rf
  have hl := lv_entry ([.ref (ad 0), .int (nI k), .int x]) (n := 3) (Nat.le_of_ble_eq_true rfl)
  rw [lg_entry_eq]
  generalize (lg_sl ([.ref (ad 0), .int (nI k), .int x]) ++ List.replicate (3 - (lg_sl ([.ref (ad 0), .int (nI k), .int x])).length) Slot.unset).toArray = ls at hl ⊢
  have hl : lv_has ls 3 [(0, .ref (ad 0)), (1, .int (nI k)), (2, .int x)] := hl
  refine lv_iload_n hx hb dX0_copy_0 rfl (lv_at hl 1 rfl) ?_
  refine lv_bipush (v := nI 7) hx hb dX0_copy_1 (by decide +kernel) ?_
  refine kr_callv (va_runS (As := [.int (nI k), .int (nI 7)]) (rest := []) ⟨hx, hb, hml, hown, hts⟩ (kc_req l D ct ad tb M Pl C V _ (a := k) (b := 7) (by omega) (by omega)) (va_cwS 2 hts gX0_copy_X0_requireUpTo rfl rfl rfl (by decide +kernel) ⟨Nat.le_of_ble_eq_true rfl, Nat.le_of_ble_eq_true rfl⟩) (kr_preS (kw_Bok tb) _ hP hK hD hB hS hA) rfl rfl hl.1 rfl (lv_room (Nat.le_of_ble_eq_true rfl)) dX0_copy_3 ⟨Nat.zero_le _, Nat.zero_le _⟩) hD hS hA (fun u H locs hq hP hD hS => ?_)
  have hP : va_P D vwCl (kw_X ct ad M Pl C V) H := hP
  have hD : va_D A (kw_X ct ad M Pl C V) := hD
  refine lv_iload_n hx hb dX0_copy_6 rfl (lv_at hl 2 rfl) ?_
  refine lv_bipush (v := nI 7) hx hb dX0_copy_7 (by decide +kernel) ?_
  refine kr_xv (vx_runS (As := [.int x, .int (nI 7)]) (rest := []) ⟨hx, hb, hml, hown, hts⟩ (kx_req l D ct ad tb M Pl C V hl0 _ x hbad) (va_cwS 2 hts gX0_copy_X0_requireUpTo rfl rfl rfl (by decide +kernel) ⟨Nat.le_of_ble_eq_true rfl, Nat.le_of_ble_eq_true rfl⟩) (kr_preS (kw_Bok tb) _ hP hK hD hB hS hA) rfl rfl hl.1 rfl (lv_room (Nat.le_of_ble_eq_true rfl)) dX0_copy_9 ⟨Nat.le_of_ble_eq_true rfl, Nat.le_of_ble_eq_true rfl⟩) hD hS hA (fun ce q9 H locs hP hD hS hce hcv hcl => ?_)
  exact vx_out (E := "java/lang/IllegalArgumentException") (fun x h => (htab x h).elim) hlocks hce hcv hcl (fun t ht ha => ⟨(), trivial, ⟨rfl, by rw [ht]; exact hP, va_K.moved ha hK, hD⟩, hS.F ht⟩) hS.2.2 (Nat.le_refl _) (Nat.le_refl _)
set_option maxHeartbeats 4000000 in
set_option maxRecDepth 100000 in
theorem kx_mix1 (l : Launch) (D : va_G) (ct : Nat → ClassId) (ad tb : Nat → Nat) (M : Nat → Nat → Int64) (Pl : Nat → Nat) (C V : Nat → Int64) (hl0 : l.stackTraces = false) (sz : Nat) (x : Int32) (hbad : x < 0 ∨ ¬ x ≤ nI 7) : vx_Met l yX0_mix wsX0_mix ({ frames := 7, cells := 1, slots := 6, locals := 103 }) (kr_P D vwCl (kw_T ct) (kw_B tb) [.ref (ad 0), .int x] (kw_X ct ad M Pl C V) sz) (va_Qv (fun _ : Unit => False) (kr_B D vwCl (kw_T ct) (fun _ => kw_X ct ad M Pl C V) (va_A (kw_X ct ad M Pl C V) sz)) (va_A (kw_X ct ad M Pl C V) sz)) (kr_X D vwCl (kw_T ct) (kw_X ct ad M Pl C V) (va_A (kw_X ct ad M Pl C V) sz)) 1 6 (va_A (kw_X ct ad M Pl C V) sz) := by
  refine vx_ofW (cc := cX0_mix) (maxL := 2) (ret := none) (by decide) rfl ?_
  intro p e s m args below meth c s₁ B hml htab hv
  obtain ⟨rfl, hsz, hP, hK, hD0, hB⟩ := hv
  have hx := B.exec
  have hb := B.bytes
  have hr := B.returns
  have hts := atoms_spec (ws := wsX0_mix) B.pre
  have hown : s.vm.findClass RX0 = some m.cls := findClass_of_methodNamed B.named
  have hlocks := B.notSynchronized
  have hin : ∀ w ∈ u_ws RX0 TX0 4, w ∈ wsX0_mix := by decide +kernel
  subst hsz
  have hD := hD0.self (sz := s.heap.size)
  generalize hAe : va_A (kw_X ct ad M Pl C V) s.heap.size = A at hD hB ⊢
  have hA : ∀ q : Nat, s.heap.size ≤ q → A q := fun q h => by rw [← hAe]; exact Or.inr h
  have hS : va_S A s.heap s.heap [] := va_S.rf
  have hl := lv_entry ([.ref (ad 0), .int x]) (n := 2) (Nat.le_of_ble_eq_true rfl)
  rw [lg_entry_eq]
  generalize (lg_sl ([.ref (ad 0), .int x]) ++ List.replicate (2 - (lg_sl ([.ref (ad 0), .int x])).length) Slot.unset).toArray = ls at hl ⊢
  have hl : lv_has ls 2 [(0, .ref (ad 0)), (1, .int x)] := hl
  refine lv_iload_n hx hb dX0_mix_0 rfl (lv_at hl 1 rfl) ?_
  refine lv_bipush (v := nI 7) hx hb dX0_mix_1 (by decide +kernel) ?_
  refine kr_xv (vx_runS (As := [.int x, .int (nI 7)]) (rest := []) ⟨hx, hb, hml, hown, hts⟩ (kx_req l D ct ad tb M Pl C V hl0 _ x hbad) (va_cwS 2 hts gX0_mix_X0_requireUpTo rfl rfl rfl (by decide +kernel) ⟨Nat.le_of_ble_eq_true rfl, Nat.le_of_ble_eq_true rfl⟩) (kr_preS (kw_Bok tb) _ hP hK hD hB hS hA) rfl rfl hl.1 rfl (lv_room (Nat.le_of_ble_eq_true rfl)) dX0_mix_3 ⟨Nat.le_of_ble_eq_true rfl, Nat.le_of_ble_eq_true rfl⟩) hD hS hA (fun ce q9 H locs hP hD hS hce hcv hcl => ?_)
  exact vx_out (E := "java/lang/IllegalArgumentException") (fun x h => (htab x h).elim) hlocks hce hcv hcl (fun t ht ha => ⟨(), trivial, ⟨rfl, by rw [ht]; exact hP, va_K.moved ha hK, hD⟩, hS.F ht⟩) hS.2.2 (Nat.le_refl _) (Nat.le_refl _)
set_option maxHeartbeats 4000000 in
set_option maxRecDepth 100000 in
theorem kx_lane1 (l : Launch) (D : va_G) (ct : Nat → ClassId) (ad tb : Nat → Nat) (M : Nat → Nat → Int64) (Pl : Nat → Nat) (C V : Nat → Int64) (hl0 : l.stackTraces = false) (sz : Nat) (x y : Int32) (hbad : x < 0 ∨ ¬ x ≤ nI 7) : vx_Met l yX0_lane wsX0_lane ({ frames := 7, cells := 1, slots := 6, locals := 103 }) (kr_P D vwCl (kw_T ct) (kw_B tb) [.ref (ad 0), .int x, .int y] (kw_X ct ad M Pl C V) sz) (va_Ql (fun (_ : Int64) (_ : Unit) => False) (kr_B D vwCl (kw_T ct) (fun _ => kw_X ct ad M Pl C V) (va_A (kw_X ct ad M Pl C V) sz)) (va_A (kw_X ct ad M Pl C V) sz)) (kr_X D vwCl (kw_T ct) (kw_X ct ad M Pl C V) (va_A (kw_X ct ad M Pl C V) sz)) 1 6 (va_A (kw_X ct ad M Pl C V) sz) := by
  refine vx_ofW (cc := cX0_lane) (maxL := 3) (ret := (some .long)) (by decide) rfl ?_
  intro p e s m args below meth c s₁ B hml htab hv
  obtain ⟨rfl, hsz, hP, hK, hD0, hB⟩ := hv
  have hx := B.exec
  have hb := B.bytes
  have hr := B.returns
  have hts := atoms_spec (ws := wsX0_lane) B.pre
  have hown : s.vm.findClass RX0 = some m.cls := findClass_of_methodNamed B.named
  have hlocks := B.notSynchronized
  have hin : ∀ w ∈ u_ws RX0 TX0 4, w ∈ wsX0_lane := by decide +kernel
  subst hsz
  have hD := hD0.self (sz := s.heap.size)
  generalize hAe : va_A (kw_X ct ad M Pl C V) s.heap.size = A at hD hB ⊢
  have hA : ∀ q : Nat, s.heap.size ≤ q → A q := fun q h => by rw [← hAe]; exact Or.inr h
  have hS : va_S A s.heap s.heap [] := va_S.rf
  have hl := lv_entry ([.ref (ad 0), .int x, .int y]) (n := 3) (Nat.le_of_ble_eq_true rfl)
  rw [lg_entry_eq]
  generalize (lg_sl ([.ref (ad 0), .int x, .int y]) ++ List.replicate (3 - (lg_sl ([.ref (ad 0), .int x, .int y])).length) Slot.unset).toArray = ls at hl ⊢
  have hl : lv_has ls 3 [(0, .ref (ad 0)), (1, .int x), (2, .int y)] := hl
  refine lv_iload_n hx hb dX0_lane_0 rfl (lv_at hl 1 rfl) ?_
  refine lv_bipush (v := nI 7) hx hb dX0_lane_1 (by decide +kernel) ?_
  refine kr_xv (vx_runS (As := [.int x, .int (nI 7)]) (rest := []) ⟨hx, hb, hml, hown, hts⟩ (kx_req l D ct ad tb M Pl C V hl0 _ x hbad) (va_cwS 2 hts gX0_lane_X0_requireUpTo rfl rfl rfl (by decide +kernel) ⟨Nat.le_of_ble_eq_true rfl, Nat.le_of_ble_eq_true rfl⟩) (kr_preS (kw_Bok tb) _ hP hK hD hB hS hA) rfl rfl hl.1 rfl (lv_room (Nat.le_of_ble_eq_true rfl)) dX0_lane_3 ⟨Nat.le_of_ble_eq_true rfl, Nat.le_of_ble_eq_true rfl⟩) hD hS hA (fun ce q9 H locs hP hD hS hce hcv hcl => ?_)
  exact vx_out (E := "java/lang/IllegalArgumentException") (fun x h => (htab x h).elim) hlocks hce hcv hcl (fun t ht ha => ⟨(), trivial, ⟨rfl, by rw [ht]; exact hP, va_K.moved ha hK, hD⟩, hS.F ht⟩) hS.2.2 (Nat.le_refl _) (Nat.le_refl _)
set_option maxHeartbeats 4000000 in
set_option maxRecDepth 100000 in
theorem kx_lane2 (l : Launch) (D : va_G) (ct : Nat → ClassId) (ad tb : Nat → Nat) (M : Nat → Nat → Int64) (Pl : Nat → Nat) (C V : Nat → Int64) (hl0 : l.stackTraces = false) (sz : Nat) {k : Nat} (hk : k < 8) (x : Int32) (hbad : x < 0 ∨ ¬ x ≤ nI 24) : vx_Met l yX0_lane wsX0_lane ({ frames := 7, cells := 1, slots := 6, locals := 103 }) (kr_P D vwCl (kw_T ct) (kw_B tb) [.ref (ad 0), .int (nI k), .int x] (kw_X ct ad M Pl C V) sz) (va_Ql (fun (_ : Int64) (_ : Unit) => False) (kr_B D vwCl (kw_T ct) (fun _ => kw_X ct ad M Pl C V) (va_A (kw_X ct ad M Pl C V) sz)) (va_A (kw_X ct ad M Pl C V) sz)) (kr_X D vwCl (kw_T ct) (kw_X ct ad M Pl C V) (va_A (kw_X ct ad M Pl C V) sz)) 1 6 (va_A (kw_X ct ad M Pl C V) sz) := by
  refine vx_ofW (cc := cX0_lane) (maxL := 3) (ret := (some .long)) (by decide) rfl ?_
  intro p e s m args below meth c s₁ B hml htab hv
  obtain ⟨rfl, hsz, hP, hK, hD0, hB⟩ := hv
  have hx := B.exec
  have hb := B.bytes
  have hr := B.returns
  have hts := atoms_spec (ws := wsX0_lane) B.pre
  have hown : s.vm.findClass RX0 = some m.cls := findClass_of_methodNamed B.named
  have hlocks := B.notSynchronized
  have hin : ∀ w ∈ u_ws RX0 TX0 4, w ∈ wsX0_lane := by decide +kernel
  subst hsz
  have hD := hD0.self (sz := s.heap.size)
  generalize hAe : va_A (kw_X ct ad M Pl C V) s.heap.size = A at hD hB ⊢
  have hA : ∀ q : Nat, s.heap.size ≤ q → A q := fun q h => by rw [← hAe]; exact Or.inr h
  have hS : va_S A s.heap s.heap [] := va_S.rf
  have hl := lv_entry ([.ref (ad 0), .int (nI k), .int x]) (n := 3) (Nat.le_of_ble_eq_true rfl)
  rw [lg_entry_eq]
  generalize (lg_sl ([.ref (ad 0), .int (nI k), .int x]) ++ List.replicate (3 - (lg_sl ([.ref (ad 0), .int (nI k), .int x])).length) Slot.unset).toArray = ls at hl ⊢
  have hl : lv_has ls 3 [(0, .ref (ad 0)), (1, .int (nI k)), (2, .int x)] := hl
  refine lv_iload_n hx hb dX0_lane_0 rfl (lv_at hl 1 rfl) ?_
  refine lv_bipush (v := nI 7) hx hb dX0_lane_1 (by decide +kernel) ?_
  refine kr_callv (va_runS (As := [.int (nI k), .int (nI 7)]) (rest := []) ⟨hx, hb, hml, hown, hts⟩ (kc_req l D ct ad tb M Pl C V _ (a := k) (b := 7) (by omega) (by omega)) (va_cwS 2 hts gX0_lane_X0_requireUpTo rfl rfl rfl (by decide +kernel) ⟨Nat.le_of_ble_eq_true rfl, Nat.le_of_ble_eq_true rfl⟩) (kr_preS (kw_Bok tb) _ hP hK hD hB hS hA) rfl rfl hl.1 rfl (lv_room (Nat.le_of_ble_eq_true rfl)) dX0_lane_3 ⟨Nat.zero_le _, Nat.zero_le _⟩) hD hS hA (fun u H locs hq hP hD hS => ?_)
  have hP : va_P D vwCl (kw_X ct ad M Pl C V) H := hP
  have hD : va_D A (kw_X ct ad M Pl C V) := hD
  refine lv_iload_n hx hb dX0_lane_6 rfl (lv_at hl 2 rfl) ?_
  refine lv_bipush (v := nI 24) hx hb dX0_lane_7 (by decide +kernel) ?_
  refine kr_xv (vx_runS (As := [.int x, .int (nI 24)]) (rest := []) ⟨hx, hb, hml, hown, hts⟩ (kx_req l D ct ad tb M Pl C V hl0 _ x hbad) (va_cwS 2 hts gX0_lane_X0_requireUpTo rfl rfl rfl (by decide +kernel) ⟨Nat.le_of_ble_eq_true rfl, Nat.le_of_ble_eq_true rfl⟩) (kr_preS (kw_Bok tb) _ hP hK hD hB hS hA) rfl rfl hl.1 rfl (lv_room (Nat.le_of_ble_eq_true rfl)) dX0_lane_9 ⟨Nat.le_of_ble_eq_true rfl, Nat.le_of_ble_eq_true rfl⟩) hD hS hA (fun ce q9 H locs hP hD hS hce hcv hcl => ?_)
  exact vx_out (E := "java/lang/IllegalArgumentException") (fun x h => (htab x h).elim) hlocks hce hcv hcl (fun t ht ha => ⟨(), trivial, ⟨rfl, by rw [ht]; exact hP, va_K.moved ha hK, hD⟩, hS.F ht⟩) hS.2.2 (Nat.le_refl _) (Nat.le_refl _)
set_option maxHeartbeats 4000000 in
set_option maxRecDepth 100000 in
theorem kx_digest1 (l : Launch) (D : va_G) (ct : Nat → ClassId) (ad tb : Nat → Nat) (M : Nat → Nat → Int64) (Pl : Nat → Nat) (C V : Nat → Int64) (hl0 : l.stackTraces = false) (sz : Nat) (x y : Int32) (hbad : x < 0 ∨ ¬ x ≤ nI 7) : vx_Met l yX0_digest wsX0_digest ({ frames := 7, cells := 1, slots := 6, locals := 103 }) (kr_P D vwCl (kw_T ct) (kw_B tb) [.ref (ad 0), .int x, .int y] (kw_X ct ad M Pl C V) sz) (va_Ql (fun (_ : Int64) (_ : Unit) => False) (kr_B D vwCl (kw_T ct) (fun _ => kw_X ct ad M Pl C V) (va_A (kw_X ct ad M Pl C V) sz)) (va_A (kw_X ct ad M Pl C V) sz)) (kr_X D vwCl (kw_T ct) (kw_X ct ad M Pl C V) (va_A (kw_X ct ad M Pl C V) sz)) 1 6 (va_A (kw_X ct ad M Pl C V) sz) := by
  refine vx_ofW (cc := cX0_digest) (maxL := 4) (ret := (some .long)) (by decide) rfl ?_
  intro p e s m args below meth c s₁ B hml htab hv
  obtain ⟨rfl, hsz, hP, hK, hD0, hB⟩ := hv
  have hx := B.exec
  have hb := B.bytes
  have hr := B.returns
  have hts := atoms_spec (ws := wsX0_digest) B.pre
  have hown : s.vm.findClass RX0 = some m.cls := findClass_of_methodNamed B.named
  have hlocks := B.notSynchronized
  have hin : ∀ w ∈ u_ws RX0 TX0 4, w ∈ wsX0_digest := by decide +kernel
  subst hsz
  have hD := hD0.self (sz := s.heap.size)
  generalize hAe : va_A (kw_X ct ad M Pl C V) s.heap.size = A at hD hB ⊢
  have hA : ∀ q : Nat, s.heap.size ≤ q → A q := fun q h => by rw [← hAe]; exact Or.inr h
  have hS : va_S A s.heap s.heap [] := va_S.rf
  have hl := lv_entry ([.ref (ad 0), .int x, .int y]) (n := 4) (Nat.le_of_ble_eq_true rfl)
  rw [lg_entry_eq]
  generalize (lg_sl ([.ref (ad 0), .int x, .int y]) ++ List.replicate (4 - (lg_sl ([.ref (ad 0), .int x, .int y])).length) Slot.unset).toArray = ls at hl ⊢
  have hl : lv_has ls 4 [(0, .ref (ad 0)), (1, .int x), (2, .int y)] := hl
  refine lv_iload_n hx hb dX0_digest_0 rfl (lv_at hl 1 rfl) ?_
  refine lv_bipush (v := nI 7) hx hb dX0_digest_1 (by decide +kernel) ?_
  refine kr_xv (vx_runS (As := [.int x, .int (nI 7)]) (rest := []) ⟨hx, hb, hml, hown, hts⟩ (kx_req l D ct ad tb M Pl C V hl0 _ x hbad) (va_cwS 2 hts gX0_digest_X0_requireUpTo rfl rfl rfl (by decide +kernel) ⟨Nat.le_of_ble_eq_true rfl, Nat.le_of_ble_eq_true rfl⟩) (kr_preS (kw_Bok tb) _ hP hK hD hB hS hA) rfl rfl hl.1 rfl (lv_room (Nat.le_of_ble_eq_true rfl)) dX0_digest_3 ⟨Nat.le_of_ble_eq_true rfl, Nat.le_of_ble_eq_true rfl⟩) hD hS hA (fun ce q9 H locs hP hD hS hce hcv hcl => ?_)
  exact vx_out (E := "java/lang/IllegalArgumentException") (fun x h => (htab x h).elim) hlocks hce hcv hcl (fun t ht ha => ⟨(), trivial, ⟨rfl, by rw [ht]; exact hP, va_K.moved ha hK, hD⟩, hS.F ht⟩) hS.2.2 (Nat.le_refl _) (Nat.le_refl _)
set_option maxHeartbeats 4000000 in
set_option maxRecDepth 100000 in
theorem kx_digest2 (l : Launch) (D : va_G) (ct : Nat → ClassId) (ad tb : Nat → Nat) (M : Nat → Nat → Int64) (Pl : Nat → Nat) (C V : Nat → Int64) (hl0 : l.stackTraces = false) (sz : Nat) {k : Nat} (hk : k < 8) (x : Int32) (hbad : x < 0 ∨ ¬ x ≤ nI 3) : vx_Met l yX0_digest wsX0_digest ({ frames := 7, cells := 1, slots := 6, locals := 103 }) (kr_P D vwCl (kw_T ct) (kw_B tb) [.ref (ad 0), .int (nI k), .int x] (kw_X ct ad M Pl C V) sz) (va_Ql (fun (_ : Int64) (_ : Unit) => False) (kr_B D vwCl (kw_T ct) (fun _ => kw_X ct ad M Pl C V) (va_A (kw_X ct ad M Pl C V) sz)) (va_A (kw_X ct ad M Pl C V) sz)) (kr_X D vwCl (kw_T ct) (kw_X ct ad M Pl C V) (va_A (kw_X ct ad M Pl C V) sz)) 1 6 (va_A (kw_X ct ad M Pl C V) sz) := by
  refine vx_ofW (cc := cX0_digest) (maxL := 4) (ret := (some .long)) (by decide) rfl ?_
  intro p e s m args below meth c s₁ B hml htab hv
  obtain ⟨rfl, hsz, hP, hK, hD0, hB⟩ := hv
  have hx := B.exec
  have hb := B.bytes
  have hr := B.returns
  have hts := atoms_spec (ws := wsX0_digest) B.pre
  have hown : s.vm.findClass RX0 = some m.cls := findClass_of_methodNamed B.named
  have hlocks := B.notSynchronized
  have hin : ∀ w ∈ u_ws RX0 TX0 4, w ∈ wsX0_digest := by decide +kernel
  subst hsz
  have hD := hD0.self (sz := s.heap.size)
  generalize hAe : va_A (kw_X ct ad M Pl C V) s.heap.size = A at hD hB ⊢
  have hA : ∀ q : Nat, s.heap.size ≤ q → A q := fun q h => by rw [← hAe]; exact Or.inr h
  have hS : va_S A s.heap s.heap [] := va_S.rf
  have hl := lv_entry ([.ref (ad 0), .int (nI k), .int x]) (n := 4) (Nat.le_of_ble_eq_true rfl)
  rw [lg_entry_eq]
  generalize (lg_sl ([.ref (ad 0), .int (nI k), .int x]) ++ List.replicate (4 - (lg_sl ([.ref (ad 0), .int (nI k), .int x])).length) Slot.unset).toArray = ls at hl ⊢
  have hl : lv_has ls 4 [(0, .ref (ad 0)), (1, .int (nI k)), (2, .int x)] := hl
  refine lv_iload_n hx hb dX0_digest_0 rfl (lv_at hl 1 rfl) ?_
  refine lv_bipush (v := nI 7) hx hb dX0_digest_1 (by decide +kernel) ?_
  refine kr_callv (va_runS (As := [.int (nI k), .int (nI 7)]) (rest := []) ⟨hx, hb, hml, hown, hts⟩ (kc_req l D ct ad tb M Pl C V _ (a := k) (b := 7) (by omega) (by omega)) (va_cwS 2 hts gX0_digest_X0_requireUpTo rfl rfl rfl (by decide +kernel) ⟨Nat.le_of_ble_eq_true rfl, Nat.le_of_ble_eq_true rfl⟩) (kr_preS (kw_Bok tb) _ hP hK hD hB hS hA) rfl rfl hl.1 rfl (lv_room (Nat.le_of_ble_eq_true rfl)) dX0_digest_3 ⟨Nat.zero_le _, Nat.zero_le _⟩) hD hS hA (fun u H locs hq hP hD hS => ?_)
  have hP : va_P D vwCl (kw_X ct ad M Pl C V) H := hP
  have hD : va_D A (kw_X ct ad M Pl C V) := hD
  refine lv_iload_n hx hb dX0_digest_6 rfl (lv_at hl 2 rfl) ?_
  refine lv_iconst (v := nI 3) hx hb dX0_digest_7 rfl ?_
  refine kr_xv (vx_runS (As := [.int x, .int (nI 3)]) (rest := []) ⟨hx, hb, hml, hown, hts⟩ (kx_req l D ct ad tb M Pl C V hl0 _ x hbad) (va_cwS 2 hts gX0_digest_X0_requireUpTo rfl rfl rfl (by decide +kernel) ⟨Nat.le_of_ble_eq_true rfl, Nat.le_of_ble_eq_true rfl⟩) (kr_preS (kw_Bok tb) _ hP hK hD hB hS hA) rfl rfl hl.1 rfl (lv_room (Nat.le_of_ble_eq_true rfl)) dX0_digest_8 ⟨Nat.le_of_ble_eq_true rfl, Nat.le_of_ble_eq_true rfl⟩) hD hS hA (fun ce q9 H locs hP hD hS hce hcv hcl => ?_)
  exact vx_out (E := "java/lang/IllegalArgumentException") (fun x h => (htab x h).elim) hlocks hce hcv hcl (fun t ht ha => ⟨(), trivial, ⟨rfl, by rw [ht]; exact hP, va_K.moved ha hK, hD⟩, hS.F ht⟩) hS.2.2 (Nat.le_refl _) (Nat.le_refl _)
