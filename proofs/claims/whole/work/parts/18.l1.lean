/-! the law's helpers: worlds side by side -/
theorem kr_left {D : va_G} {cl : List vw_C} {a b : va_W} {H : Heap} (h : va_P D cl (a ++ b) H) : va_P D cl a H := fun k q hk => h k q (by rw [List.getElem?_append_left (List.getElem?_eq_some_iff.mp hk).1]; exact hk)
theorem kr_leftD {A : Nat → Prop} {a b : va_W} (h : va_D A (a ++ b)) : va_D A a := by
  have at' : ∀ (k : Nat) (q : Nat × va_E), a[k]? = some q → (a ++ b)[k]? = some q := fun k q hk => by rw [List.getElem?_append_left (List.getElem?_eq_some_iff.mp hk).1]; exact hk
  exact ⟨fun i j x y hi hj e => h.1 i j x y (at' i x hi) (at' j y hj) e, fun k q hk => h.2 k q (at' k q hk)⟩
theorem kr_swap {D : va_G} {cl : List vw_C} {a b : va_W} {H : Heap} (h : va_P D cl (a ++ b) H) : va_P D cl (b ++ a) H := va_P.swap (a := []) h
theorem kr_swapD {A : Nat → Prop} {a b : va_W} (h : va_D A (a ++ b)) : va_D A (b ++ a) := va_D.swap (a := []) h
theorem kr_frame {A : Nat → Prop} {D : va_G} {cl : List vw_C} {wx wr w1 : va_W} {H H1 : Heap} (hP : va_P D cl (wx ++ wr) H) (hD : va_D A (wx ++ wr)) (hk : ∀ q : Nat, q < H.size → ¬ va_A wx H.size q → H1[q]? = H[q]?) (hF : ∀ q, va_A wx H.size q → A q) (hP1 : va_P D cl w1 H1) (hD1 : va_D (va_A wx H.size) w1) : va_P D cl (w1 ++ wr) H1 ∧ va_D A (w1 ++ wr) := by
  have at' : ∀ (k : Nat) (q : Nat × va_E), wr[k]? = some q → (wx ++ wr)[wx.length + k]? = some q := fun k q hk => by rw [List.getElem?_append_right (by omega), Nat.add_sub_cancel_left]; exact hk
  have apart : ∀ (k : Nat) (q : Nat × va_E), wr[k]? = some q → q.1 < H.size ∧ ¬ va_A wx H.size q.1 := by
    intro k q hq
    have hl := (hP _ q (at' k q hq)).lt
    refine ⟨hl, fun h => ?_⟩
    rcases h with ⟨k2, e, h⟩ | h
    · have hlt := (List.getElem?_eq_some_iff.mp h).1
      have := hD.1 k2 (wx.length + k) (q.1, e) q (by rw [List.getElem?_append_left hlt]; exact h) (at' k q hq) rfl
      omega
    · omega
  refine ⟨hP1.app (fun k q hq => ?_), (hD1.weaken (fun k q _ h => hF q.1 h)).app ⟨fun i j x y hi hj e => ?_, fun k q hq => hD.2 _ q (at' k q hq)⟩ (fun i j x y hx hy e => (apart j y hy).2 (by rw [← e]; exact hD1.2 i x hx))⟩
  · obtain ⟨g1, g2⟩ := apart k q hq
    exact (hP _ q (at' k q hq)).kept (hk q.1 g1 g2)
  · have := hD.1 _ _ x y (at' i x hi) (at' j y hj) e
    omega
section KRF
variable {p : Program} {l : Launch} {e : Env} {R : Room} {s : State} {m : MethodId} {args : Array Value} {below : List Frame} {meth : Method} {c : Code} {H : Heap} {locs : List Loc} {cells slots : Nat} {Q : State → Prop}
variable {pc : Nat} {ls : Array Slot} {rest st0 : List Value} {D : va_G} {cl : List vw_C} {A : Nat → Prop} {tys : List (ClassId × FieldType)} {wx wr : va_W} {a : Array Value} {mc ms : Nat}
theorem kr_fv {S : Type} {post : S → Prop} {wf : S → va_W} (hr : va_Run p l e R s m args below meth c H locs cells slots mc ms (F0 m pc ls st0) rest (va_Qv post (kr_B D cl tys wf (va_A wx H.size)) (va_A wx H.size) a) (va_A wx H.size)) (hP : va_P D cl (wx ++ wr) H) (hD : va_D A (wx ++ wr)) (hS : va_S A s.heap H locs) (hA : ∀ q, s.heap.size ≤ q → A q) (kk : ∀ (u : S) (H1 : Heap) (locs1 : List Loc), post u → va_P D cl (wf u ++ wr) H1 → va_D A (wf u ++ wr) → va_S A s.heap H1 locs1 → W p l e R s m args below meth c H1 locs1 (cells + mc) (slots + ms) Q (F0 m (pc + 3) ls (rest))) : W p l e R s m args below meth c H locs cells slots Q (F0 m pc ls st0) :=
  va_callv hr hS (fun q _ h => kr_free (kr_leftD hD) hS hA q h) (kr_free (kr_leftD hD) hS hA) (fun u t H1 locs1 ht hvm hw hB _ hk1 hS1 => by
    obtain ⟨z1, z2⟩ := kr_frame hP hD hk1 (kr_free (kr_leftD hD) hS hA) (ht ▸ hB.1) hB.2.2
    exact kk u H1 locs1 hw z1 z2 hS1)
theorem kr_fi {S : Type} {post : Int32 → S → Prop} {wf : S → va_W} (hr : va_Run p l e R s m args below meth c H locs cells slots mc ms (F0 m pc ls st0) rest (va_Qi post (kr_B D cl tys wf (va_A wx H.size)) (va_A wx H.size) a) (va_A wx H.size)) (hP : va_P D cl (wx ++ wr) H) (hD : va_D A (wx ++ wr)) (hS : va_S A s.heap H locs) (hA : ∀ q, s.heap.size ≤ q → A q) (kk : ∀ (r : Int32) (u : S) (H1 : Heap) (locs1 : List Loc), post r u → va_P D cl (wf u ++ wr) H1 → va_D A (wf u ++ wr) → va_S A s.heap H1 locs1 → W p l e R s m args below meth c H1 locs1 (cells + mc) (slots + ms) Q (F0 m (pc + 3) ls (.int r :: rest))) : W p l e R s m args below meth c H locs cells slots Q (F0 m pc ls st0) :=
  va_calli hr hS (fun q _ h => kr_free (kr_leftD hD) hS hA q h) (kr_free (kr_leftD hD) hS hA) (fun r u t H1 locs1 ht hvm hw hB _ hk1 hS1 => by
    obtain ⟨z1, z2⟩ := kr_frame hP hD hk1 (kr_free (kr_leftD hD) hS hA) (ht ▸ hB.1) hB.2.2
    exact kk r u H1 locs1 hw z1 z2 hS1)
theorem kr_fl {S : Type} {post : Int64 → S → Prop} {wf : S → va_W} (hr : va_Run p l e R s m args below meth c H locs cells slots mc ms (F0 m pc ls st0) rest (va_Ql post (kr_B D cl tys wf (va_A wx H.size)) (va_A wx H.size) a) (va_A wx H.size)) (hP : va_P D cl (wx ++ wr) H) (hD : va_D A (wx ++ wr)) (hS : va_S A s.heap H locs) (hA : ∀ q, s.heap.size ≤ q → A q) (kk : ∀ (r : Int64) (u : S) (H1 : Heap) (locs1 : List Loc), post r u → va_P D cl (wf u ++ wr) H1 → va_D A (wf u ++ wr) → va_S A s.heap H1 locs1 → W p l e R s m args below meth c H1 locs1 (cells + mc) (slots + ms) Q (F0 m (pc + 3) ls (.long r :: rest))) : W p l e R s m args below meth c H locs cells slots Q (F0 m pc ls st0) :=
  va_calll hr hS (fun q _ h => kr_free (kr_leftD hD) hS hA q h) (kr_free (kr_leftD hD) hS hA) (fun r u t H1 locs1 ht hvm hw hB _ hk1 hS1 => by
    obtain ⟨z1, z2⟩ := kr_frame hP hD hk1 (kr_free (kr_leftD hD) hS hA) (ht ▸ hB.1) hB.2.2
    exact kk r u H1 locs1 hw z1 z2 hS1)
theorem kr_fxv (hr : vx_Run p l e R s m args below meth c H locs cells slots mc ms (F0 m pc ls st0) rest (va_Qv (fun _ : Unit => False) (kr_B D cl tys (fun _ => wx) (va_A wx H.size)) (va_A wx H.size) a) (kr_X D cl tys wx (va_A wx H.size)) (va_A wx H.size)) (hP : va_P D cl (wx ++ wr) H) (hD : va_D A (wx ++ wr)) (hS : va_S A s.heap H locs) (hA : ∀ q, s.heap.size ≤ q → A q) (kx : ∀ (ce : Cell) (q9 : Addr) (H1 : Heap) (locs1 : List Loc), va_P D cl (wx ++ wr) H1 → va_D A (wx ++ wr) → va_S A s.heap H1 locs1 → H1[q9]? = some ce → ce.vm = .none → s.vm.findClass "java/lang/IllegalArgumentException" = some ce.cls → vx_W p l e R s m args below meth c H1 locs1 (cells + mc) (slots + ms) Q (F0 m pc ls rest) q9) : W p l e R s m args below meth c H locs cells slots Q (F0 m pc ls st0) :=
  vx_callv hr hS (fun q _ h => kr_free (kr_leftD hD) hS hA q h) (kr_free (kr_leftD hD) hS hA) (fun q _ h => kr_free (kr_leftD hD) hS hA q h) (fun E ce q9 u t H1 locs1 ht hal hp hB _ hk1 hS1 hce hcv hcl => by
    obtain ⟨rfl, b1, b2, b3⟩ := hB
    obtain ⟨z1, z2⟩ := kr_frame hP hD hk1 (kr_free (kr_leftD hD) hS hA) (ht ▸ b1) b3
    exact kx ce q9 H1 locs1 z1 z2 hS1 hce hcv hcl) (fun u t H1 locs1 _ _ hf => hf.elim)
theorem kr_fxi (hr : vx_Run p l e R s m args below meth c H locs cells slots mc ms (F0 m pc ls st0) rest (va_Qi (fun (_ : Int32) (_ : Unit) => False) (kr_B D cl tys (fun _ => wx) (va_A wx H.size)) (va_A wx H.size) a) (kr_X D cl tys wx (va_A wx H.size)) (va_A wx H.size)) (hP : va_P D cl (wx ++ wr) H) (hD : va_D A (wx ++ wr)) (hS : va_S A s.heap H locs) (hA : ∀ q, s.heap.size ≤ q → A q) (kx : ∀ (ce : Cell) (q9 : Addr) (H1 : Heap) (locs1 : List Loc), va_P D cl (wx ++ wr) H1 → va_D A (wx ++ wr) → va_S A s.heap H1 locs1 → H1[q9]? = some ce → ce.vm = .none → s.vm.findClass "java/lang/IllegalArgumentException" = some ce.cls → vx_W p l e R s m args below meth c H1 locs1 (cells + mc) (slots + ms) Q (F0 m pc ls rest) q9) : W p l e R s m args below meth c H locs cells slots Q (F0 m pc ls st0) :=
  vx_calli hr hS (fun q _ h => kr_free (kr_leftD hD) hS hA q h) (kr_free (kr_leftD hD) hS hA) (fun q _ h => kr_free (kr_leftD hD) hS hA q h) (fun E ce q9 u t H1 locs1 ht hal hp hB _ hk1 hS1 hce hcv hcl => by
    obtain ⟨rfl, b1, b2, b3⟩ := hB
    obtain ⟨z1, z2⟩ := kr_frame hP hD hk1 (kr_free (kr_leftD hD) hS hA) (ht ▸ b1) b3
    exact kx ce q9 H1 locs1 z1 z2 hS1 hce hcv hcl) (fun _ u t H1 locs1 _ _ hf => hf.elim)
theorem kr_fxl (hr : vx_Run p l e R s m args below meth c H locs cells slots mc ms (F0 m pc ls st0) rest (va_Ql (fun (_ : Int64) (_ : Unit) => False) (kr_B D cl tys (fun _ => wx) (va_A wx H.size)) (va_A wx H.size) a) (kr_X D cl tys wx (va_A wx H.size)) (va_A wx H.size)) (hP : va_P D cl (wx ++ wr) H) (hD : va_D A (wx ++ wr)) (hS : va_S A s.heap H locs) (hA : ∀ q, s.heap.size ≤ q → A q) (kx : ∀ (ce : Cell) (q9 : Addr) (H1 : Heap) (locs1 : List Loc), va_P D cl (wx ++ wr) H1 → va_D A (wx ++ wr) → va_S A s.heap H1 locs1 → H1[q9]? = some ce → ce.vm = .none → s.vm.findClass "java/lang/IllegalArgumentException" = some ce.cls → vx_W p l e R s m args below meth c H1 locs1 (cells + mc) (slots + ms) Q (F0 m pc ls rest) q9) : W p l e R s m args below meth c H locs cells slots Q (F0 m pc ls st0) :=
  vx_calll hr hS (fun q _ h => kr_free (kr_leftD hD) hS hA q h) (kr_free (kr_leftD hD) hS hA) (fun q _ h => kr_free (kr_leftD hD) hS hA q h) (fun E ce q9 u t H1 locs1 ht hal hp hB _ hk1 hS1 hce hcv hcl => by
    obtain ⟨rfl, b1, b2, b3⟩ := hB
    obtain ⟨z1, z2⟩ := kr_frame hP hD hk1 (kr_free (kr_leftD hD) hS hA) (ht ▸ b1) b3
    exact kx ce q9 H1 locs1 z1 z2 hS1 hce hcv hcl) (fun _ u t H1 locs1 _ _ hf => hf.elim)
end KRF
/-- the class's world, and the law's out -/
def kw_O (ct : Nat → ClassId) (qo : Nat) (o : Nat → Int64) : va_W := [(qo, .inl (ct 2, 1, .inr (.inl o)))]
set_option maxHeartbeats 4000000 in
set_option maxRecDepth 100000 in
theorem kl_clear (l : Launch) (D : va_G) (ct : Nat → ClassId) (ad tb : Nat → Nat) (qo : Nat) (M : Nat → Nat → Int64) (Pl : Nat → Nat) (C V o : Nat → Int64) (sz : Nat) {k : Nat} (hk : k < 8) : Met l yL_clear wsL_clear ({ frames := 2, cells := 0, slots := 0, locals := 44 }) (kr_P D vwCl (kw_T ct) (kw_B tb) [.ref (ad 0), .int (nI k)] (kw_X ct ad M Pl C V ++ kw_O ct qo o) sz) (va_Qi (S := Unit) (fun r _ => r = nI 0) (kr_B D vwCl (kw_T ct) (fun u => kw_X ct ad (va_up M k (fun _ => 0)) (va_up Pl k 0) C V ++ kw_O ct qo o) (va_A (kw_X ct ad M Pl C V ++ kw_O ct qo o) sz)) (va_A (kw_X ct ad M Pl C V ++ kw_O ct qo o) sz)) 0 0 (va_A (kw_X ct ad M Pl C V ++ kw_O ct qo o) sz) := by
  refine va_MetW (cc := cL_clear) (maxL := 3) (ret := some .int) (hh := [(0, 5, 8, 13)]) (by decide) rfl ?_
  intro p e s m args below meth c s₁ B hml hv
  obtain ⟨rfl, hsz, hP, hK, hD0, hB⟩ := hv
  have hx := B.exec
  have hb := B.bytes
  have hr := B.returns
  have hts := atoms_spec (ws := wsL_clear) B.pre
  have hown : s.vm.findClass RL = some m.cls := findClass_of_methodNamed B.named
  have hlocks := B.notSynchronized
  have htab := vx_table (x := yL_clear) B (hts (.codeWith yL_clear cL_clear 3 (some .int) [(0, 5, 8, 13)]) List.mem_cons_self)
  subst hsz
  have hD := hD0.self (sz := s.heap.size)
  generalize hAe : va_A (kw_X ct ad M Pl C V ++ kw_O ct qo o) s.heap.size = A at hD hB ⊢
  have hA : ∀ q : Nat, s.heap.size ≤ q → A q := fun q h => by rw [← hAe]; exact Or.inr h
  have hS : va_S A s.heap s.heap [] := va_S.rf
  have hl := lv_entry ([.ref (ad 0), .int (nI k)]) (n := 3) (Nat.le_of_ble_eq_true rfl)
  rw [lg_entry_eq]
  generalize (lg_sl ([.ref (ad 0), .int (nI k)]) ++ List.replicate (3 - (lg_sl ([.ref (ad 0), .int (nI k)])).length) Slot.unset).toArray = ls at hl ⊢
  have hl : lv_has ls 3 [(0, .ref (ad 0)), (1, .int (nI k))] := hl
  refine lv_aload_n hx hb dL_clear_0 rfl (lv_at hl 0 rfl) ?_
  refine lv_iload_n hx hb dL_clear_1 rfl (lv_at hl 1 rfl) ?_
  refine kr_fv (va_runV (As := [.int (nI k)]) (rest := []) ⟨hx, hb, hml, hown, hts⟩ (kc_clear l D ct ad tb M Pl C V _ hk) (cwV 1 hts gL_clear_X0_clear rfl rfl rfl (by decide +kernel) ⟨Nat.le_of_ble_eq_true rfl, Nat.le_of_ble_eq_true rfl⟩) (kr_preV (kw_Bok tb) (q := (RX0, TX0, 4)) (q0 := 0) (ci := 0) _ (kr_left hP) hK (kr_leftD hD) hB hS hA rfl rfl rfl) rfl rfl hl.1 rfl (lv_room (Nat.le_of_ble_eq_true rfl)) dL_clear_2 ⟨Nat.le_of_ble_eq_true rfl, Nat.le_of_ble_eq_true rfl⟩) hP hD hS hA (fun u H locs hq hP hD hS => ?_)
  have hP : va_P D vwCl (kw_X ct ad (va_up M k (fun _ => 0)) (va_up Pl k 0) C V ++ kw_O ct qo o) H := hP
  have hD : va_D A (kw_X ct ad (va_up M k (fun _ => 0)) (va_up Pl k 0) C V ++ kw_O ct qo o) := hD
  refine lv_goto (tgt := 11) hx hb dL_clear_5 rfl ?_
  refine lv_iconst (v := nI 0) hx hb dL_clear_11 rfl ?_
  exact W.iret hx hb hr (fun t ht hW => ⟨⟨_, (), rfl, rfl, by rw [ht]; exact hP, va_K.moved hW.alike hK, hD⟩, hS.F ht⟩) hS.2.2 dL_clear_12
set_option maxHeartbeats 4000000 in
set_option maxRecDepth 100000 in
theorem kl_clear1 (l : Launch) (D : va_G) (ct : Nat → ClassId) (ad tb : Nat → Nat) (qo : Nat) (M : Nat → Nat → Int64) (Pl : Nat → Nat) (C V o : Nat → Int64) (hl0 : l.stackTraces = false) (sz : Nat) (x : Int32) (hbad : x < 0 ∨ ¬ x ≤ nI 7) : Met l yL_clear wsL_clear ({ frames := 8, cells := 1, slots := 6, locals := 126 }) (kr_P D vwCl (kw_T ct) (kw_B tb) [.ref (ad 0), .int x] (kw_X ct ad M Pl C V ++ kw_O ct qo o) sz) (va_Qi (S := Unit) (fun r _ => r = nI 1) (kr_B D vwCl (kw_T ct) (fun u => kw_X ct ad M Pl C V ++ kw_O ct qo o) (va_A (kw_X ct ad M Pl C V ++ kw_O ct qo o) sz)) (va_A (kw_X ct ad M Pl C V ++ kw_O ct qo o) sz)) 1 6 (va_A (kw_X ct ad M Pl C V ++ kw_O ct qo o) sz) := by
  refine va_MetW (cc := cL_clear) (maxL := 3) (ret := some .int) (hh := [(0, 5, 8, 13)]) (by decide) rfl ?_
  intro p e s m args below meth c s₁ B hml hv
  obtain ⟨rfl, hsz, hP, hK, hD0, hB⟩ := hv
  have hx := B.exec
  have hb := B.bytes
  have hr := B.returns
  have hts := atoms_spec (ws := wsL_clear) B.pre
  have hown : s.vm.findClass RL = some m.cls := findClass_of_methodNamed B.named
  have hlocks := B.notSynchronized
  have htab := vx_table (x := yL_clear) B (hts (.codeWith yL_clear cL_clear 3 (some .int) [(0, 5, 8, 13)]) List.mem_cons_self)
  subst hsz
  have hD := hD0.self (sz := s.heap.size)
  generalize hAe : va_A (kw_X ct ad M Pl C V ++ kw_O ct qo o) s.heap.size = A at hD hB ⊢
  have hA : ∀ q : Nat, s.heap.size ≤ q → A q := fun q h => by rw [← hAe]; exact Or.inr h
  have hS : va_S A s.heap s.heap [] := va_S.rf
  have hl := lv_entry ([.ref (ad 0), .int x]) (n := 3) (Nat.le_of_ble_eq_true rfl)
  rw [lg_entry_eq]
  generalize (lg_sl ([.ref (ad 0), .int x]) ++ List.replicate (3 - (lg_sl ([.ref (ad 0), .int x])).length) Slot.unset).toArray = ls at hl ⊢
  have hl : lv_has ls 3 [(0, .ref (ad 0)), (1, .int x)] := hl
  refine lv_aload_n hx hb dL_clear_0 rfl (lv_at hl 0 rfl) ?_
  refine lv_iload_n hx hb dL_clear_1 rfl (lv_at hl 1 rfl) ?_
  refine kr_fxv (vx_runV (As := [.int x]) (rest := []) ⟨hx, hb, hml, hown, hts⟩ (kx_clear1 l D ct ad tb M Pl C V hl0 _ x hbad) (cwV 1 hts gL_clear_X0_clear rfl rfl rfl (by decide +kernel) ⟨Nat.le_of_ble_eq_true rfl, Nat.le_of_ble_eq_true rfl⟩) (kr_preV (kw_Bok tb) (q := (RX0, TX0, 4)) (q0 := 0) (ci := 0) _ (kr_left hP) hK (kr_leftD hD) hB hS hA rfl rfl rfl) rfl rfl hl.1 rfl (lv_room (Nat.le_of_ble_eq_true rfl)) dL_clear_2 ⟨Nat.le_of_ble_eq_true rfl, Nat.le_of_ble_eq_true rfl⟩) hP hD hS hA (fun ce q9 H locs hP hD hS hce hcv hcl => ?_)
  refine vx_catch (own := RL) (name := "java/lang/IllegalArgumentException") (E := "java/lang/IllegalArgumentException") hown [] ⟨0, 5, 8, 13⟩ [] htab (fun z h => absurd h List.not_mem_nil) (by decide) (by decide) (hts (.classLink RL 13 "java/lang/IllegalArgumentException") (by decide +kernel)) (va_Nw.use rfl hB.2.2.2.2.2.2.1) hce hcv hcl ?_
  refine lv_astore_n hx hb dL_clear_8 rfl hl (Nat.le_of_ble_eq_true rfl) rfl (fun ls hl => ?_)
  have hl : lv_has ls 3 [(2, .ref q9), (0, .ref (ad 0)), (1, .int x)] := hl
  refine lv_iconst (v := nI 1) hx hb dL_clear_9 rfl ?_
  exact W.iret hx hb hr (fun t ht hW => ⟨⟨_, (), rfl, rfl, by rw [ht]; exact hP, va_K.moved hW.alike hK, hD⟩, hS.F ht⟩) hS.2.2 dL_clear_10
set_option maxHeartbeats 4000000 in
set_option maxRecDepth 100000 in
theorem kl_take (l : Launch) (D : va_G) (ct : Nat → ClassId) (ad tb : Nat → Nat) (qo : Nat) (M : Nat → Nat → Int64) (Pl : Nat → Nat) (C V o : Nat → Int64) (sz : Nat) {k n : Nat} (hk : k < 8) (hn8 : n ≤ 8) (hq0 : (M k, Pl k).2 < 136) (v : Int64) : Met l yL_take wsL_take ({ frames := 5, cells := 0, slots := 0, locals := 122 }) (kr_P D vwCl (kw_T ct) (kw_B tb) [.ref (ad 0), .int (nI k), .long v, .int (nI n), .ref qo] (kw_X ct ad M Pl C V ++ kw_O ct qo o) sz) (va_Qi (S := ((Nat → Int64) × (Nat → Int64))) (fun r _ => r = nI 0) (kr_B D vwCl (kw_T ct) (fun u => kw_X ct ad (va_up M k (kk_ins (M k, Pl k) (kk_tb v) n).1) (va_up Pl k (kk_ins (M k, Pl k) (kk_tb v) n).2) u.1 u.2 ++ kw_O ct qo (vp_updL o 0 ((nI ((kk_ins (M k, Pl k) (kk_tb v) n).2)).toInt64))) (va_A (kw_X ct ad M Pl C V ++ kw_O ct qo o) sz)) (va_A (kw_X ct ad M Pl C V ++ kw_O ct qo o) sz)) 0 0 (va_A (kw_X ct ad M Pl C V ++ kw_O ct qo o) sz) := by
  refine va_MetW (cc := cL_take) (maxL := 7) (ret := some .int) (hh := [(0, 13, 16, 13)]) (by decide) rfl ?_
  intro p e s m args below meth c s₁ B hml hv
  obtain ⟨rfl, hsz, hP, hK, hD0, hB⟩ := hv
  have hx := B.exec
  have hb := B.bytes
  have hr := B.returns
  have hts := atoms_spec (ws := wsL_take) B.pre
  have hown : s.vm.findClass RL = some m.cls := findClass_of_methodNamed B.named
  have hlocks := B.notSynchronized
  have htab := vx_table (x := yL_clear) B (hts (.codeWith yL_take cL_take 7 (some .int) [(0, 13, 16, 13)]) List.mem_cons_self)
  subst hsz
  have hD := hD0.self (sz := s.heap.size)
  generalize hAe : va_A (kw_X ct ad M Pl C V ++ kw_O ct qo o) s.heap.size = A at hD hB ⊢
  have hA : ∀ q : Nat, s.heap.size ≤ q → A q := fun q h => by rw [← hAe]; exact Or.inr h
  have hS : va_S A s.heap s.heap [] := va_S.rf
  have hl := lv_entry ([.ref (ad 0), .int (nI k), .long v, .int (nI n), .ref qo]) (n := 7) (Nat.le_of_ble_eq_true rfl)
  rw [lg_entry_eq]
  generalize (lg_sl ([.ref (ad 0), .int (nI k), .long v, .int (nI n), .ref qo]) ++ List.replicate (7 - (lg_sl ([.ref (ad 0), .int (nI k), .long v, .int (nI n), .ref qo])).length) Slot.unset).toArray = ls at hl ⊢
  have hl : lv_has ls 7 [(0, .ref (ad 0)), (1, .int (nI k)), (2, .long v), (4, .int (nI n)), (5, .ref qo)] := hl
  refine lv_aload hx hb dL_take_0 (lv_at hl 4 rfl) ?_
  refine lv_iconst (v := nI 0) hx hb dL_take_2 rfl ?_
  refine lv_aload_n hx hb dL_take_3 rfl (lv_at hl 0 rfl) ?_
  refine lv_iload_n hx hb dL_take_4 rfl (lv_at hl 1 rfl) ?_
  refine lv_lload_n hx hb dL_take_5 rfl (lv_at hl 2 rfl) ?_
  refine lv_iload hx hb dL_take_6 (lv_at hl 3 rfl) ?_
  refine kr_fi (va_runV (As := [.int (nI k), .long v, .int (nI n)]) (rest := [.int (nI 0), .ref qo]) ⟨hx, hb, hml, hown, hts⟩ (kc_take l D ct ad tb M Pl C V _ hk hn8 hq0 v) (cwV 3 hts gL_take_X0_take rfl rfl rfl (by decide +kernel) ⟨Nat.le_of_ble_eq_true rfl, Nat.le_of_ble_eq_true rfl⟩) (kr_preV (kw_Bok tb) (q := (RX0, TX0, 4)) (q0 := 0) (ci := 0) _ (kr_left hP) hK (kr_leftD hD) hB hS hA rfl rfl rfl) rfl rfl hl.1 rfl (lv_room (Nat.le_of_ble_eq_true rfl)) dL_take_8 ⟨Nat.le_of_ble_eq_true rfl, Nat.le_of_ble_eq_true rfl⟩) hP hD hS hA (fun r u H locs hq hP hD hS => ?_)
  obtain rfl : r = nI ((kk_ins (M k, Pl k) (kk_tb v) n).2) := hq
  have hP : va_P D vwCl (kw_X ct ad (va_up M k (kk_ins (M k, Pl k) (kk_tb v) n).1) (va_up Pl k (kk_ins (M k, Pl k) (kk_tb v) n).2) u.1 u.2 ++ kw_O ct qo o) H := hP
  have hD : va_D A (kw_X ct ad (va_up M k (kk_ins (M k, Pl k) (kk_tb v) n).1) (va_up Pl k (kk_ins (M k, Pl k) (kk_tb v) n).2) u.1 u.2 ++ kw_O ct qo o) := hD
  refine lv_i2l hx hb dL_take_11 rfl ?_
  refine kr_last (w := kw_X ct ad (va_up M k (kk_ins (M k, Pl k) (kk_tb v) n).1) (va_up Pl k (kk_ins (M k, Pl k) (kk_tb v) n).2) u.1 u.2 ++ kw_O ct qo (vp_updL o 0 ((nI ((kk_ins (M k, Pl k) (kk_tb v) n).2)).toInt64))) hx hb hK hP hD hS 14 2 rfl rfl (n := 0) (by omega) (by omega) rfl dL_take_12 (fun H locs hP hD hS => ?_)
  refine lv_goto (tgt := 20) hx hb dL_take_13 rfl ?_
  refine lv_iconst (v := nI 0) hx hb dL_take_20 rfl ?_
  exact W.iret hx hb hr (fun t ht hW => ⟨⟨_, u, rfl, rfl, by rw [ht]; exact hP, va_K.moved hW.alike hK, hD⟩, hS.F ht⟩) hS.2.2 dL_take_21
set_option maxHeartbeats 4000000 in
set_option maxRecDepth 100000 in
theorem kl_fill (l : Launch) (D : va_G) (ct : Nat → ClassId) (ad tb : Nat → Nat) (qo : Nat) (M : Nat → Nat → Int64) (Pl : Nat → Nat) (C V o : Nat → Int64) (sz : Nat) {k n : Nat} (hk : k < 8) (hn8 : n ≤ 2000) (hq0 : (M k, Pl k).2 < 136) (v t : Int32) : Met l yL_fill wsL_fill ({ frames := 5, cells := 0, slots := 0, locals := 122 }) (kr_P D vwCl (kw_T ct) (kw_B tb) [.ref (ad 0), .int (nI k), .int v, .int t, .int (nI n), .ref qo] (kw_X ct ad M Pl C V ++ kw_O ct qo o) sz) (va_Qi (S := ((Nat → Int64) × (Nat → Int64))) (fun r _ => r = nI 0) (kr_B D vwCl (kw_T ct) (fun u => kw_X ct ad (va_up M k (kk_ins (M k, Pl k) (kk_fb v t) n).1) (va_up Pl k (kk_ins (M k, Pl k) (kk_fb v t) n).2) u.1 u.2 ++ kw_O ct qo (vp_updL o 0 ((nI ((kk_ins (M k, Pl k) (kk_fb v t) n).2)).toInt64))) (va_A (kw_X ct ad M Pl C V ++ kw_O ct qo o) sz)) (va_A (kw_X ct ad M Pl C V ++ kw_O ct qo o) sz)) 0 0 (va_A (kw_X ct ad M Pl C V ++ kw_O ct qo o) sz) := by
  refine va_MetW (cc := cL_fill) (maxL := 7) (ret := some .int) (hh := [(0, 14, 17, 13)]) (by decide) rfl ?_
  intro p e s m args below meth c s₁ B hml hv
  obtain ⟨rfl, hsz, hP, hK, hD0, hB⟩ := hv
  have hx := B.exec
  have hb := B.bytes
  have hr := B.returns
  have hts := atoms_spec (ws := wsL_fill) B.pre
  have hown : s.vm.findClass RL = some m.cls := findClass_of_methodNamed B.named
  have hlocks := B.notSynchronized
  have htab := vx_table (x := yL_clear) B (hts (.codeWith yL_fill cL_fill 7 (some .int) [(0, 14, 17, 13)]) List.mem_cons_self)
  subst hsz
  have hD := hD0.self (sz := s.heap.size)
  generalize hAe : va_A (kw_X ct ad M Pl C V ++ kw_O ct qo o) s.heap.size = A at hD hB ⊢
  have hA : ∀ q : Nat, s.heap.size ≤ q → A q := fun q h => by rw [← hAe]; exact Or.inr h
  have hS : va_S A s.heap s.heap [] := va_S.rf
  have hl := lv_entry ([.ref (ad 0), .int (nI k), .int v, .int t, .int (nI n), .ref qo]) (n := 7) (Nat.le_of_ble_eq_true rfl)
  rw [lg_entry_eq]
  generalize (lg_sl ([.ref (ad 0), .int (nI k), .int v, .int t, .int (nI n), .ref qo]) ++ List.replicate (7 - (lg_sl ([.ref (ad 0), .int (nI k), .int v, .int t, .int (nI n), .ref qo])).length) Slot.unset).toArray = ls at hl ⊢
  have hl : lv_has ls 7 [(0, .ref (ad 0)), (1, .int (nI k)), (2, .int v), (3, .int t), (4, .int (nI n)), (5, .ref qo)] := hl
  refine lv_aload hx hb dL_fill_0 (lv_at hl 5 rfl) ?_
  refine lv_iconst (v := nI 0) hx hb dL_fill_2 rfl ?_
  refine lv_aload_n hx hb dL_fill_3 rfl (lv_at hl 0 rfl) ?_
  refine lv_iload_n hx hb dL_fill_4 rfl (lv_at hl 1 rfl) ?_
  refine lv_iload_n hx hb dL_fill_5 rfl (lv_at hl 2 rfl) ?_
  refine lv_iload_n hx hb dL_fill_6 rfl (lv_at hl 3 rfl) ?_
  refine lv_iload hx hb dL_fill_7 (lv_at hl 4 rfl) ?_
  refine kr_fi (va_runV (As := [.int (nI k), .int v, .int t, .int (nI n)]) (rest := [.int (nI 0), .ref qo]) ⟨hx, hb, hml, hown, hts⟩ (kc_fill l D ct ad tb M Pl C V _ hk hn8 hq0 v t) (cwV 4 hts gL_fill_X0_fill rfl rfl rfl (by decide +kernel) ⟨Nat.le_of_ble_eq_true rfl, Nat.le_of_ble_eq_true rfl⟩) (kr_preV (kw_Bok tb) (q := (RX0, TX0, 4)) (q0 := 0) (ci := 0) _ (kr_left hP) hK (kr_leftD hD) hB hS hA rfl rfl rfl) rfl rfl hl.1 rfl (lv_room (Nat.le_of_ble_eq_true rfl)) dL_fill_9 ⟨Nat.le_of_ble_eq_true rfl, Nat.le_of_ble_eq_true rfl⟩) hP hD hS hA (fun r u H locs hq hP hD hS => ?_)
  obtain rfl : r = nI ((kk_ins (M k, Pl k) (kk_fb v t) n).2) := hq
  have hP : va_P D vwCl (kw_X ct ad (va_up M k (kk_ins (M k, Pl k) (kk_fb v t) n).1) (va_up Pl k (kk_ins (M k, Pl k) (kk_fb v t) n).2) u.1 u.2 ++ kw_O ct qo o) H := hP
  have hD : va_D A (kw_X ct ad (va_up M k (kk_ins (M k, Pl k) (kk_fb v t) n).1) (va_up Pl k (kk_ins (M k, Pl k) (kk_fb v t) n).2) u.1 u.2 ++ kw_O ct qo o) := hD
  refine lv_i2l hx hb dL_fill_12 rfl ?_
  refine kr_last (w := kw_X ct ad (va_up M k (kk_ins (M k, Pl k) (kk_fb v t) n).1) (va_up Pl k (kk_ins (M k, Pl k) (kk_fb v t) n).2) u.1 u.2 ++ kw_O ct qo (vp_updL o 0 ((nI ((kk_ins (M k, Pl k) (kk_fb v t) n).2)).toInt64))) hx hb hK hP hD hS 14 2 rfl rfl (n := 0) (by omega) (by omega) rfl dL_fill_13 (fun H locs hP hD hS => ?_)
  refine lv_goto (tgt := 21) hx hb dL_fill_14 rfl ?_
  refine lv_iconst (v := nI 0) hx hb dL_fill_21 rfl ?_
  exact W.iret hx hb hr (fun t ht hW => ⟨⟨_, u, rfl, rfl, by rw [ht]; exact hP, va_K.moved hW.alike hK, hD⟩, hS.F ht⟩) hS.2.2 dL_fill_22
set_option maxHeartbeats 4000000 in
set_option maxRecDepth 100000 in
theorem kl_take1 (l : Launch) (D : va_G) (ct : Nat → ClassId) (ad tb : Nat → Nat) (qo : Nat) (M : Nat → Nat → Int64) (Pl : Nat → Nat) (C V o : Nat → Int64) (hl0 : l.stackTraces = false) (sz : Nat) (x : Int32) (v : Int64) (y : Int32) (hbad : x < 0 ∨ ¬ x ≤ nI 7) : Met l yL_take wsL_take ({ frames := 8, cells := 1, slots := 6, locals := 128 }) (kr_P D vwCl (kw_T ct) (kw_B tb) [.ref (ad 0), .int x, .long v, .int y, .ref qo] (kw_X ct ad M Pl C V ++ kw_O ct qo o) sz) (va_Qi (S := Unit) (fun r _ => r = nI 1) (kr_B D vwCl (kw_T ct) (fun u => kw_X ct ad M Pl C V ++ kw_O ct qo o) (va_A (kw_X ct ad M Pl C V ++ kw_O ct qo o) sz)) (va_A (kw_X ct ad M Pl C V ++ kw_O ct qo o) sz)) 1 6 (va_A (kw_X ct ad M Pl C V ++ kw_O ct qo o) sz) := by
  refine va_MetW (cc := cL_take) (maxL := 7) (ret := some .int) (hh := [(0, 13, 16, 13)]) (by decide) rfl ?_
  intro p e s m args below meth c s₁ B hml hv
  obtain ⟨rfl, hsz, hP, hK, hD0, hB⟩ := hv
  have hx := B.exec
  have hb := B.bytes
  have hr := B.returns
  have hts := atoms_spec (ws := wsL_take) B.pre
  have hown : s.vm.findClass RL = some m.cls := findClass_of_methodNamed B.named
  have hlocks := B.notSynchronized
  have htab := vx_table (x := yL_clear) B (hts (.codeWith yL_take cL_take 7 (some .int) [(0, 13, 16, 13)]) List.mem_cons_self)
  subst hsz
  have hD := hD0.self (sz := s.heap.size)
  generalize hAe : va_A (kw_X ct ad M Pl C V ++ kw_O ct qo o) s.heap.size = A at hD hB ⊢
  have hA : ∀ q : Nat, s.heap.size ≤ q → A q := fun q h => by rw [← hAe]; exact Or.inr h
  have hS : va_S A s.heap s.heap [] := va_S.rf
  have hl := lv_entry ([.ref (ad 0), .int x, .long v, .int y, .ref qo]) (n := 7) (Nat.le_of_ble_eq_true rfl)
  rw [lg_entry_eq]
  generalize (lg_sl ([.ref (ad 0), .int x, .long v, .int y, .ref qo]) ++ List.replicate (7 - (lg_sl ([.ref (ad 0), .int x, .long v, .int y, .ref qo])).length) Slot.unset).toArray = ls at hl ⊢
  have hl : lv_has ls 7 [(0, .ref (ad 0)), (1, .int x), (2, .long v), (4, .int y), (5, .ref qo)] := hl
  refine lv_aload hx hb dL_take_0 (lv_at hl 4 rfl) ?_
  refine lv_iconst (v := nI 0) hx hb dL_take_2 rfl ?_
  refine lv_aload_n hx hb dL_take_3 rfl (lv_at hl 0 rfl) ?_
  refine lv_iload_n hx hb dL_take_4 rfl (lv_at hl 1 rfl) ?_
  refine lv_lload_n hx hb dL_take_5 rfl (lv_at hl 2 rfl) ?_
  refine lv_iload hx hb dL_take_6 (lv_at hl 3 rfl) ?_
  refine kr_fxi (vx_runV (As := [.int x, .long v, .int y]) (rest := [.int (nI 0), .ref qo]) ⟨hx, hb, hml, hown, hts⟩ (kx_take1 l D ct ad tb M Pl C V hl0 _ x v y hbad) (cwV 3 hts gL_take_X0_take rfl rfl rfl (by decide +kernel) ⟨Nat.le_of_ble_eq_true rfl, Nat.le_of_ble_eq_true rfl⟩) (kr_preV (kw_Bok tb) (q := (RX0, TX0, 4)) (q0 := 0) (ci := 0) _ (kr_left hP) hK (kr_leftD hD) hB hS hA rfl rfl rfl) rfl rfl hl.1 rfl (lv_room (Nat.le_of_ble_eq_true rfl)) dL_take_8 ⟨Nat.le_of_ble_eq_true rfl, Nat.le_of_ble_eq_true rfl⟩) hP hD hS hA (fun ce q9 H locs hP hD hS hce hcv hcl => ?_)
  refine vx_catch (own := RL) (name := "java/lang/IllegalArgumentException") (E := "java/lang/IllegalArgumentException") hown [] ⟨0, 13, 16, 13⟩ [] htab (fun z h => absurd h List.not_mem_nil) (by decide) (by decide) (hts (.classLink RL 13 "java/lang/IllegalArgumentException") (by decide +kernel)) (va_Nw.use rfl hB.2.2.2.2.2.2.1) hce hcv hcl ?_
  refine lv_astore hx hb dL_take_16 hl (Nat.le_of_ble_eq_true rfl) rfl (fun ls hl => ?_)
  have hl : lv_has ls 7 [(6, .ref q9), (0, .ref (ad 0)), (1, .int x), (2, .long v), (4, .int y), (5, .ref qo)] := hl
  refine lv_iconst (v := nI 1) hx hb dL_take_18 rfl ?_
  exact W.iret hx hb hr (fun t ht hW => ⟨⟨_, (), rfl, rfl, by rw [ht]; exact hP, va_K.moved hW.alike hK, hD⟩, hS.F ht⟩) hS.2.2 dL_take_19
set_option maxHeartbeats 4000000 in
set_option maxRecDepth 100000 in
theorem kl_take2 (l : Launch) (D : va_G) (ct : Nat → ClassId) (ad tb : Nat → Nat) (qo : Nat) (M : Nat → Nat → Int64) (Pl : Nat → Nat) (C V o : Nat → Int64) (hl0 : l.stackTraces = false) (sz : Nat) {k : Nat} (hk : k < 8) (v : Int64) (x : Int32) (hbad : x < 0 ∨ ¬ x ≤ nI 8) : Met l yL_take wsL_take ({ frames := 8, cells := 1, slots := 6, locals := 128 }) (kr_P D vwCl (kw_T ct) (kw_B tb) [.ref (ad 0), .int (nI k), .long v, .int x, .ref qo] (kw_X ct ad M Pl C V ++ kw_O ct qo o) sz) (va_Qi (S := Unit) (fun r _ => r = nI 1) (kr_B D vwCl (kw_T ct) (fun u => kw_X ct ad M Pl C V ++ kw_O ct qo o) (va_A (kw_X ct ad M Pl C V ++ kw_O ct qo o) sz)) (va_A (kw_X ct ad M Pl C V ++ kw_O ct qo o) sz)) 1 6 (va_A (kw_X ct ad M Pl C V ++ kw_O ct qo o) sz) := by
  refine va_MetW (cc := cL_take) (maxL := 7) (ret := some .int) (hh := [(0, 13, 16, 13)]) (by decide) rfl ?_
  intro p e s m args below meth c s₁ B hml hv
  obtain ⟨rfl, hsz, hP, hK, hD0, hB⟩ := hv
  have hx := B.exec
  have hb := B.bytes
  have hr := B.returns
  have hts := atoms_spec (ws := wsL_take) B.pre
  have hown : s.vm.findClass RL = some m.cls := findClass_of_methodNamed B.named
  have hlocks := B.notSynchronized
  have htab := vx_table (x := yL_clear) B (hts (.codeWith yL_take cL_take 7 (some .int) [(0, 13, 16, 13)]) List.mem_cons_self)
  subst hsz
  have hD := hD0.self (sz := s.heap.size)
  generalize hAe : va_A (kw_X ct ad M Pl C V ++ kw_O ct qo o) s.heap.size = A at hD hB ⊢
  have hA : ∀ q : Nat, s.heap.size ≤ q → A q := fun q h => by rw [← hAe]; exact Or.inr h
  have hS : va_S A s.heap s.heap [] := va_S.rf
  have hl := lv_entry ([.ref (ad 0), .int (nI k), .long v, .int x, .ref qo]) (n := 7) (Nat.le_of_ble_eq_true rfl)
  rw [lg_entry_eq]
  generalize (lg_sl ([.ref (ad 0), .int (nI k), .long v, .int x, .ref qo]) ++ List.replicate (7 - (lg_sl ([.ref (ad 0), .int (nI k), .long v, .int x, .ref qo])).length) Slot.unset).toArray = ls at hl ⊢
  have hl : lv_has ls 7 [(0, .ref (ad 0)), (1, .int (nI k)), (2, .long v), (4, .int x), (5, .ref qo)] := hl
  refine lv_aload hx hb dL_take_0 (lv_at hl 4 rfl) ?_
  refine lv_iconst (v := nI 0) hx hb dL_take_2 rfl ?_
  refine lv_aload_n hx hb dL_take_3 rfl (lv_at hl 0 rfl) ?_
  refine lv_iload_n hx hb dL_take_4 rfl (lv_at hl 1 rfl) ?_
  refine lv_lload_n hx hb dL_take_5 rfl (lv_at hl 2 rfl) ?_
  refine lv_iload hx hb dL_take_6 (lv_at hl 3 rfl) ?_
  refine kr_fxi (vx_runV (As := [.int (nI k), .long v, .int x]) (rest := [.int (nI 0), .ref qo]) ⟨hx, hb, hml, hown, hts⟩ (kx_take2 l D ct ad tb M Pl C V hl0 _ hk v x hbad) (cwV 3 hts gL_take_X0_take rfl rfl rfl (by decide +kernel) ⟨Nat.le_of_ble_eq_true rfl, Nat.le_of_ble_eq_true rfl⟩) (kr_preV (kw_Bok tb) (q := (RX0, TX0, 4)) (q0 := 0) (ci := 0) _ (kr_left hP) hK (kr_leftD hD) hB hS hA rfl rfl rfl) rfl rfl hl.1 rfl (lv_room (Nat.le_of_ble_eq_true rfl)) dL_take_8 ⟨Nat.le_of_ble_eq_true rfl, Nat.le_of_ble_eq_true rfl⟩) hP hD hS hA (fun ce q9 H locs hP hD hS hce hcv hcl => ?_)
  refine vx_catch (own := RL) (name := "java/lang/IllegalArgumentException") (E := "java/lang/IllegalArgumentException") hown [] ⟨0, 13, 16, 13⟩ [] htab (fun z h => absurd h List.not_mem_nil) (by decide) (by decide) (hts (.classLink RL 13 "java/lang/IllegalArgumentException") (by decide +kernel)) (va_Nw.use rfl hB.2.2.2.2.2.2.1) hce hcv hcl ?_
  refine lv_astore hx hb dL_take_16 hl (Nat.le_of_ble_eq_true rfl) rfl (fun ls hl => ?_)
  have hl : lv_has ls 7 [(6, .ref q9), (0, .ref (ad 0)), (1, .int (nI k)), (2, .long v), (4, .int x), (5, .ref qo)] := hl
  refine lv_iconst (v := nI 1) hx hb dL_take_18 rfl ?_
  exact W.iret hx hb hr (fun t ht hW => ⟨⟨_, (), rfl, rfl, by rw [ht]; exact hP, va_K.moved hW.alike hK, hD⟩, hS.F ht⟩) hS.2.2 dL_take_19
set_option maxHeartbeats 4000000 in
set_option maxRecDepth 100000 in
theorem kl_fill1 (l : Launch) (D : va_G) (ct : Nat → ClassId) (ad tb : Nat → Nat) (qo : Nat) (M : Nat → Nat → Int64) (Pl : Nat → Nat) (C V o : Nat → Int64) (hl0 : l.stackTraces = false) (sz : Nat) (x v t y : Int32) (hbad : x < 0 ∨ ¬ x ≤ nI 7) : Met l yL_fill wsL_fill ({ frames := 8, cells := 1, slots := 6, locals := 128 }) (kr_P D vwCl (kw_T ct) (kw_B tb) [.ref (ad 0), .int x, .int v, .int t, .int y, .ref qo] (kw_X ct ad M Pl C V ++ kw_O ct qo o) sz) (va_Qi (S := Unit) (fun r _ => r = nI 1) (kr_B D vwCl (kw_T ct) (fun u => kw_X ct ad M Pl C V ++ kw_O ct qo o) (va_A (kw_X ct ad M Pl C V ++ kw_O ct qo o) sz)) (va_A (kw_X ct ad M Pl C V ++ kw_O ct qo o) sz)) 1 6 (va_A (kw_X ct ad M Pl C V ++ kw_O ct qo o) sz) := by
  refine va_MetW (cc := cL_fill) (maxL := 7) (ret := some .int) (hh := [(0, 14, 17, 13)]) (by decide) rfl ?_
  intro p e s m args below meth c s₁ B hml hv
  obtain ⟨rfl, hsz, hP, hK, hD0, hB⟩ := hv
  have hx := B.exec
  have hb := B.bytes
  have hr := B.returns
  have hts := atoms_spec (ws := wsL_fill) B.pre
  have hown : s.vm.findClass RL = some m.cls := findClass_of_methodNamed B.named
  have hlocks := B.notSynchronized
  have htab := vx_table (x := yL_clear) B (hts (.codeWith yL_fill cL_fill 7 (some .int) [(0, 14, 17, 13)]) List.mem_cons_self)
  subst hsz
  have hD := hD0.self (sz := s.heap.size)
  generalize hAe : va_A (kw_X ct ad M Pl C V ++ kw_O ct qo o) s.heap.size = A at hD hB ⊢
  have hA : ∀ q : Nat, s.heap.size ≤ q → A q := fun q h => by rw [← hAe]; exact Or.inr h
  have hS : va_S A s.heap s.heap [] := va_S.rf
  have hl := lv_entry ([.ref (ad 0), .int x, .int v, .int t, .int y, .ref qo]) (n := 7) (Nat.le_of_ble_eq_true rfl)
  rw [lg_entry_eq]
  generalize (lg_sl ([.ref (ad 0), .int x, .int v, .int t, .int y, .ref qo]) ++ List.replicate (7 - (lg_sl ([.ref (ad 0), .int x, .int v, .int t, .int y, .ref qo])).length) Slot.unset).toArray = ls at hl ⊢
  have hl : lv_has ls 7 [(0, .ref (ad 0)), (1, .int x), (2, .int v), (3, .int t), (4, .int y), (5, .ref qo)] := hl
  refine lv_aload hx hb dL_fill_0 (lv_at hl 5 rfl) ?_
  refine lv_iconst (v := nI 0) hx hb dL_fill_2 rfl ?_
  refine lv_aload_n hx hb dL_fill_3 rfl (lv_at hl 0 rfl) ?_
  refine lv_iload_n hx hb dL_fill_4 rfl (lv_at hl 1 rfl) ?_
  refine lv_iload_n hx hb dL_fill_5 rfl (lv_at hl 2 rfl) ?_
  refine lv_iload_n hx hb dL_fill_6 rfl (lv_at hl 3 rfl) ?_
  refine lv_iload hx hb dL_fill_7 (lv_at hl 4 rfl) ?_
  refine kr_fxi (vx_runV (As := [.int x, .int v, .int t, .int y]) (rest := [.int (nI 0), .ref qo]) ⟨hx, hb, hml, hown, hts⟩ (kx_fill1 l D ct ad tb M Pl C V hl0 _ x v t y hbad) (cwV 4 hts gL_fill_X0_fill rfl rfl rfl (by decide +kernel) ⟨Nat.le_of_ble_eq_true rfl, Nat.le_of_ble_eq_true rfl⟩) (kr_preV (kw_Bok tb) (q := (RX0, TX0, 4)) (q0 := 0) (ci := 0) _ (kr_left hP) hK (kr_leftD hD) hB hS hA rfl rfl rfl) rfl rfl hl.1 rfl (lv_room (Nat.le_of_ble_eq_true rfl)) dL_fill_9 ⟨Nat.le_of_ble_eq_true rfl, Nat.le_of_ble_eq_true rfl⟩) hP hD hS hA (fun ce q9 H locs hP hD hS hce hcv hcl => ?_)
  refine vx_catch (own := RL) (name := "java/lang/IllegalArgumentException") (E := "java/lang/IllegalArgumentException") hown [] ⟨0, 14, 17, 13⟩ [] htab (fun z h => absurd h List.not_mem_nil) (by decide) (by decide) (hts (.classLink RL 13 "java/lang/IllegalArgumentException") (by decide +kernel)) (va_Nw.use rfl hB.2.2.2.2.2.2.1) hce hcv hcl ?_
  refine lv_astore hx hb dL_fill_17 hl (Nat.le_of_ble_eq_true rfl) rfl (fun ls hl => ?_)
  have hl : lv_has ls 7 [(6, .ref q9), (0, .ref (ad 0)), (1, .int x), (2, .int v), (3, .int t), (4, .int y), (5, .ref qo)] := hl
  refine lv_iconst (v := nI 1) hx hb dL_fill_19 rfl ?_
  exact W.iret hx hb hr (fun t ht hW => ⟨⟨_, (), rfl, rfl, by rw [ht]; exact hP, va_K.moved hW.alike hK, hD⟩, hS.F ht⟩) hS.2.2 dL_fill_20
set_option maxHeartbeats 4000000 in
set_option maxRecDepth 100000 in
theorem kl_fill2 (l : Launch) (D : va_G) (ct : Nat → ClassId) (ad tb : Nat → Nat) (qo : Nat) (M : Nat → Nat → Int64) (Pl : Nat → Nat) (C V o : Nat → Int64) (hl0 : l.stackTraces = false) (sz : Nat) {k : Nat} (hk : k < 8) (v t x : Int32) (hbad : x < 0 ∨ ¬ x ≤ nI 2000) : Met l yL_fill wsL_fill ({ frames := 8, cells := 1, slots := 6, locals := 128 }) (kr_P D vwCl (kw_T ct) (kw_B tb) [.ref (ad 0), .int (nI k), .int v, .int t, .int x, .ref qo] (kw_X ct ad M Pl C V ++ kw_O ct qo o) sz) (va_Qi (S := Unit) (fun r _ => r = nI 1) (kr_B D vwCl (kw_T ct) (fun u => kw_X ct ad M Pl C V ++ kw_O ct qo o) (va_A (kw_X ct ad M Pl C V ++ kw_O ct qo o) sz)) (va_A (kw_X ct ad M Pl C V ++ kw_O ct qo o) sz)) 1 6 (va_A (kw_X ct ad M Pl C V ++ kw_O ct qo o) sz) := by
  refine va_MetW (cc := cL_fill) (maxL := 7) (ret := some .int) (hh := [(0, 14, 17, 13)]) (by decide) rfl ?_
  intro p e s m args below meth c s₁ B hml hv
  obtain ⟨rfl, hsz, hP, hK, hD0, hB⟩ := hv
  have hx := B.exec
  have hb := B.bytes
  have hr := B.returns
  have hts := atoms_spec (ws := wsL_fill) B.pre
  have hown : s.vm.findClass RL = some m.cls := findClass_of_methodNamed B.named
  have hlocks := B.notSynchronized
  have htab := vx_table (x := yL_clear) B (hts (.codeWith yL_fill cL_fill 7 (some .int) [(0, 14, 17, 13)]) List.mem_cons_self)
  subst hsz
  have hD := hD0.self (sz := s.heap.size)
  generalize hAe : va_A (kw_X ct ad M Pl C V ++ kw_O ct qo o) s.heap.size = A at hD hB ⊢
  have hA : ∀ q : Nat, s.heap.size ≤ q → A q := fun q h => by rw [← hAe]; exact Or.inr h
  have hS : va_S A s.heap s.heap [] := va_S.rf
  have hl := lv_entry ([.ref (ad 0), .int (nI k), .int v, .int t, .int x, .ref qo]) (n := 7) (Nat.le_of_ble_eq_true rfl)
  rw [lg_entry_eq]
  generalize (lg_sl ([.ref (ad 0), .int (nI k), .int v, .int t, .int x, .ref qo]) ++ List.replicate (7 - (lg_sl ([.ref (ad 0), .int (nI k), .int v, .int t, .int x, .ref qo])).length) Slot.unset).toArray = ls at hl ⊢
  have hl : lv_has ls 7 [(0, .ref (ad 0)), (1, .int (nI k)), (2, .int v), (3, .int t), (4, .int x), (5, .ref qo)] := hl
  refine lv_aload hx hb dL_fill_0 (lv_at hl 5 rfl) ?_
  refine lv_iconst (v := nI 0) hx hb dL_fill_2 rfl ?_
  refine lv_aload_n hx hb dL_fill_3 rfl (lv_at hl 0 rfl) ?_
  refine lv_iload_n hx hb dL_fill_4 rfl (lv_at hl 1 rfl) ?_
  refine lv_iload_n hx hb dL_fill_5 rfl (lv_at hl 2 rfl) ?_
  refine lv_iload_n hx hb dL_fill_6 rfl (lv_at hl 3 rfl) ?_
  refine lv_iload hx hb dL_fill_7 (lv_at hl 4 rfl) ?_
  refine kr_fxi (vx_runV (As := [.int (nI k), .int v, .int t, .int x]) (rest := [.int (nI 0), .ref qo]) ⟨hx, hb, hml, hown, hts⟩ (kx_fill2 l D ct ad tb M Pl C V hl0 _ hk v t x hbad) (cwV 4 hts gL_fill_X0_fill rfl rfl rfl (by decide +kernel) ⟨Nat.le_of_ble_eq_true rfl, Nat.le_of_ble_eq_true rfl⟩) (kr_preV (kw_Bok tb) (q := (RX0, TX0, 4)) (q0 := 0) (ci := 0) _ (kr_left hP) hK (kr_leftD hD) hB hS hA rfl rfl rfl) rfl rfl hl.1 rfl (lv_room (Nat.le_of_ble_eq_true rfl)) dL_fill_9 ⟨Nat.le_of_ble_eq_true rfl, Nat.le_of_ble_eq_true rfl⟩) hP hD hS hA (fun ce q9 H locs hP hD hS hce hcv hcl => ?_)
  refine vx_catch (own := RL) (name := "java/lang/IllegalArgumentException") (E := "java/lang/IllegalArgumentException") hown [] ⟨0, 14, 17, 13⟩ [] htab (fun z h => absurd h List.not_mem_nil) (by decide) (by decide) (hts (.classLink RL 13 "java/lang/IllegalArgumentException") (by decide +kernel)) (va_Nw.use rfl hB.2.2.2.2.2.2.1) hce hcv hcl ?_
  refine lv_astore hx hb dL_fill_17 hl (Nat.le_of_ble_eq_true rfl) rfl (fun ls hl => ?_)
  have hl : lv_has ls 7 [(6, .ref q9), (0, .ref (ad 0)), (1, .int (nI k)), (2, .int v), (3, .int t), (4, .int x), (5, .ref qo)] := hl
  refine lv_iconst (v := nI 1) hx hb dL_fill_19 rfl ?_
  exact W.iret hx hb hr (fun t ht hW => ⟨⟨_, (), rfl, rfl, by rw [ht]; exact hP, va_K.moved hW.alike hK, hD⟩, hS.F ht⟩) hS.2.2 dL_fill_20
set_option maxHeartbeats 4000000 in
set_option maxRecDepth 100000 in
theorem kl_copy (l : Launch) (D : va_G) (ct : Nat → ClassId) (ad tb : Nat → Nat) (qo : Nat) (M : Nat → Nat → Int64) (Pl : Nat → Nat) (C V o : Nat → Int64) (sz : Nat) {k t : Nat} (hk : k < 8) (ht8 : t < 8) : Met l yL_copy wsL_copy ({ frames := 3, cells := 0, slots := 0, locals := 62 }) (kr_P D vwCl (kw_T ct) (kw_B tb) [.ref (ad 0), .int (nI k), .int (nI t)] (kw_X ct ad M Pl C V ++ kw_O ct qo o) sz) (va_Qi (S := Unit) (fun r _ => r = nI 0) (kr_B D vwCl (kw_T ct) (fun u => kw_X ct ad (va_up M t (M k)) (va_up Pl t (Pl k)) C V ++ kw_O ct qo o) (va_A (kw_X ct ad M Pl C V ++ kw_O ct qo o) sz)) (va_A (kw_X ct ad M Pl C V ++ kw_O ct qo o) sz)) 0 0 (va_A (kw_X ct ad M Pl C V ++ kw_O ct qo o) sz) := by
  refine va_MetW (cc := cL_copy) (maxL := 4) (ret := some .int) (hh := [(0, 6, 9, 13)]) (by decide) rfl ?_
  intro p e s m args below meth c s₁ B hml hv
  obtain ⟨rfl, hsz, hP, hK, hD0, hB⟩ := hv
  have hx := B.exec
  have hb := B.bytes
  have hr := B.returns
  have hts := atoms_spec (ws := wsL_copy) B.pre
  have hown : s.vm.findClass RL = some m.cls := findClass_of_methodNamed B.named
  have hlocks := B.notSynchronized
  have htab := vx_table (x := yL_clear) B (hts (.codeWith yL_copy cL_copy 4 (some .int) [(0, 6, 9, 13)]) List.mem_cons_self)
  subst hsz
  have hD := hD0.self (sz := s.heap.size)
  generalize hAe : va_A (kw_X ct ad M Pl C V ++ kw_O ct qo o) s.heap.size = A at hD hB ⊢
  have hA : ∀ q : Nat, s.heap.size ≤ q → A q := fun q h => by rw [← hAe]; exact Or.inr h
  have hS : va_S A s.heap s.heap [] := va_S.rf
  have hl := lv_entry ([.ref (ad 0), .int (nI k), .int (nI t)]) (n := 4) (Nat.le_of_ble_eq_true rfl)
  rw [lg_entry_eq]
  generalize (lg_sl ([.ref (ad 0), .int (nI k), .int (nI t)]) ++ List.replicate (4 - (lg_sl ([.ref (ad 0), .int (nI k), .int (nI t)])).length) Slot.unset).toArray = ls at hl ⊢
  have hl : lv_has ls 4 [(0, .ref (ad 0)), (1, .int (nI k)), (2, .int (nI t))] := hl
  refine lv_aload_n hx hb dL_copy_0 rfl (lv_at hl 0 rfl) ?_
  refine lv_iload_n hx hb dL_copy_1 rfl (lv_at hl 1 rfl) ?_
  refine lv_iload_n hx hb dL_copy_2 rfl (lv_at hl 2 rfl) ?_
  refine kr_fv (va_runV (As := [.int (nI k), .int (nI t)]) (rest := []) ⟨hx, hb, hml, hown, hts⟩ (kc_copy l D ct ad tb M Pl C V _ hk ht8) (cwV 2 hts gL_copy_X0_copy rfl rfl rfl (by decide +kernel) ⟨Nat.le_of_ble_eq_true rfl, Nat.le_of_ble_eq_true rfl⟩) (kr_preV (kw_Bok tb) (q := (RX0, TX0, 4)) (q0 := 0) (ci := 0) _ (kr_left hP) hK (kr_leftD hD) hB hS hA rfl rfl rfl) rfl rfl hl.1 rfl (lv_room (Nat.le_of_ble_eq_true rfl)) dL_copy_3 ⟨Nat.le_of_ble_eq_true rfl, Nat.le_of_ble_eq_true rfl⟩) hP hD hS hA (fun u H locs hq hP hD hS => ?_)
  have hP : va_P D vwCl (kw_X ct ad (va_up M t (M k)) (va_up Pl t (Pl k)) C V ++ kw_O ct qo o) H := hP
  have hD : va_D A (kw_X ct ad (va_up M t (M k)) (va_up Pl t (Pl k)) C V ++ kw_O ct qo o) := hD
  refine lv_goto (tgt := 12) hx hb dL_copy_6 rfl ?_
  refine lv_iconst (v := nI 0) hx hb dL_copy_12 rfl ?_
  exact W.iret hx hb hr (fun t ht hW => ⟨⟨_, (), rfl, rfl, by rw [ht]; exact hP, va_K.moved hW.alike hK, hD⟩, hS.F ht⟩) hS.2.2 dL_copy_13
set_option maxHeartbeats 4000000 in
set_option maxRecDepth 100000 in
theorem kl_copy1 (l : Launch) (D : va_G) (ct : Nat → ClassId) (ad tb : Nat → Nat) (qo : Nat) (M : Nat → Nat → Int64) (Pl : Nat → Nat) (C V o : Nat → Int64) (hl0 : l.stackTraces = false) (sz : Nat) (x y : Int32) (hbad : x < 0 ∨ ¬ x ≤ nI 7) : Met l yL_copy wsL_copy ({ frames := 8, cells := 1, slots := 6, locals := 125 }) (kr_P D vwCl (kw_T ct) (kw_B tb) [.ref (ad 0), .int x, .int y] (kw_X ct ad M Pl C V ++ kw_O ct qo o) sz) (va_Qi (S := Unit) (fun r _ => r = nI 1) (kr_B D vwCl (kw_T ct) (fun u => kw_X ct ad M Pl C V ++ kw_O ct qo o) (va_A (kw_X ct ad M Pl C V ++ kw_O ct qo o) sz)) (va_A (kw_X ct ad M Pl C V ++ kw_O ct qo o) sz)) 1 6 (va_A (kw_X ct ad M Pl C V ++ kw_O ct qo o) sz) := by
  refine va_MetW (cc := cL_copy) (maxL := 4) (ret := some .int) (hh := [(0, 6, 9, 13)]) (by decide) rfl ?_
  intro p e s m args below meth c s₁ B hml hv
  obtain ⟨rfl, hsz, hP, hK, hD0, hB⟩ := hv
  have hx := B.exec
  have hb := B.bytes
  have hr := B.returns
  have hts := atoms_spec (ws := wsL_copy) B.pre
  have hown : s.vm.findClass RL = some m.cls := findClass_of_methodNamed B.named
  have hlocks := B.notSynchronized
  have htab := vx_table (x := yL_clear) B (hts (.codeWith yL_copy cL_copy 4 (some .int) [(0, 6, 9, 13)]) List.mem_cons_self)
  subst hsz
  have hD := hD0.self (sz := s.heap.size)
  generalize hAe : va_A (kw_X ct ad M Pl C V ++ kw_O ct qo o) s.heap.size = A at hD hB ⊢
  have hA : ∀ q : Nat, s.heap.size ≤ q → A q := fun q h => by rw [← hAe]; exact Or.inr h
  have hS : va_S A s.heap s.heap [] := va_S.rf
  have hl := lv_entry ([.ref (ad 0), .int x, .int y]) (n := 4) (Nat.le_of_ble_eq_true rfl)
  rw [lg_entry_eq]
  generalize (lg_sl ([.ref (ad 0), .int x, .int y]) ++ List.replicate (4 - (lg_sl ([.ref (ad 0), .int x, .int y])).length) Slot.unset).toArray = ls at hl ⊢
  have hl : lv_has ls 4 [(0, .ref (ad 0)), (1, .int x), (2, .int y)] := hl
  refine lv_aload_n hx hb dL_copy_0 rfl (lv_at hl 0 rfl) ?_
  refine lv_iload_n hx hb dL_copy_1 rfl (lv_at hl 1 rfl) ?_
  refine lv_iload_n hx hb dL_copy_2 rfl (lv_at hl 2 rfl) ?_
  refine kr_fxv (vx_runV (As := [.int x, .int y]) (rest := []) ⟨hx, hb, hml, hown, hts⟩ (kx_copy1 l D ct ad tb M Pl C V hl0 _ x y hbad) (cwV 2 hts gL_copy_X0_copy rfl rfl rfl (by decide +kernel) ⟨Nat.le_of_ble_eq_true rfl, Nat.le_of_ble_eq_true rfl⟩) (kr_preV (kw_Bok tb) (q := (RX0, TX0, 4)) (q0 := 0) (ci := 0) _ (kr_left hP) hK (kr_leftD hD) hB hS hA rfl rfl rfl) rfl rfl hl.1 rfl (lv_room (Nat.le_of_ble_eq_true rfl)) dL_copy_3 ⟨Nat.le_of_ble_eq_true rfl, Nat.le_of_ble_eq_true rfl⟩) hP hD hS hA (fun ce q9 H locs hP hD hS hce hcv hcl => ?_)
  refine vx_catch (own := RL) (name := "java/lang/IllegalArgumentException") (E := "java/lang/IllegalArgumentException") hown [] ⟨0, 6, 9, 13⟩ [] htab (fun z h => absurd h List.not_mem_nil) (by decide) (by decide) (hts (.classLink RL 13 "java/lang/IllegalArgumentException") (by decide +kernel)) (va_Nw.use rfl hB.2.2.2.2.2.2.1) hce hcv hcl ?_
  refine lv_astore_n hx hb dL_copy_9 rfl hl (Nat.le_of_ble_eq_true rfl) rfl (fun ls hl => ?_)
  have hl : lv_has ls 4 [(3, .ref q9), (0, .ref (ad 0)), (1, .int x), (2, .int y)] := hl
  refine lv_iconst (v := nI 1) hx hb dL_copy_10 rfl ?_
  exact W.iret hx hb hr (fun t ht hW => ⟨⟨_, (), rfl, rfl, by rw [ht]; exact hP, va_K.moved hW.alike hK, hD⟩, hS.F ht⟩) hS.2.2 dL_copy_11
set_option maxHeartbeats 4000000 in
set_option maxRecDepth 100000 in
theorem kl_copy2 (l : Launch) (D : va_G) (ct : Nat → ClassId) (ad tb : Nat → Nat) (qo : Nat) (M : Nat → Nat → Int64) (Pl : Nat → Nat) (C V o : Nat → Int64) (hl0 : l.stackTraces = false) (sz : Nat) {k : Nat} (hk : k < 8) (x : Int32) (hbad : x < 0 ∨ ¬ x ≤ nI 7) : Met l yL_copy wsL_copy ({ frames := 8, cells := 1, slots := 6, locals := 125 }) (kr_P D vwCl (kw_T ct) (kw_B tb) [.ref (ad 0), .int (nI k), .int x] (kw_X ct ad M Pl C V ++ kw_O ct qo o) sz) (va_Qi (S := Unit) (fun r _ => r = nI 1) (kr_B D vwCl (kw_T ct) (fun u => kw_X ct ad M Pl C V ++ kw_O ct qo o) (va_A (kw_X ct ad M Pl C V ++ kw_O ct qo o) sz)) (va_A (kw_X ct ad M Pl C V ++ kw_O ct qo o) sz)) 1 6 (va_A (kw_X ct ad M Pl C V ++ kw_O ct qo o) sz) := by
  refine va_MetW (cc := cL_copy) (maxL := 4) (ret := some .int) (hh := [(0, 6, 9, 13)]) (by decide) rfl ?_
  intro p e s m args below meth c s₁ B hml hv
  obtain ⟨rfl, hsz, hP, hK, hD0, hB⟩ := hv
  have hx := B.exec
  have hb := B.bytes
  have hr := B.returns
  have hts := atoms_spec (ws := wsL_copy) B.pre
  have hown : s.vm.findClass RL = some m.cls := findClass_of_methodNamed B.named
  have hlocks := B.notSynchronized
  have htab := vx_table (x := yL_clear) B (hts (.codeWith yL_copy cL_copy 4 (some .int) [(0, 6, 9, 13)]) List.mem_cons_self)
  subst hsz
  have hD := hD0.self (sz := s.heap.size)
  generalize hAe : va_A (kw_X ct ad M Pl C V ++ kw_O ct qo o) s.heap.size = A at hD hB ⊢
  have hA : ∀ q : Nat, s.heap.size ≤ q → A q := fun q h => by rw [← hAe]; exact Or.inr h
  have hS : va_S A s.heap s.heap [] := va_S.rf
  have hl := lv_entry ([.ref (ad 0), .int (nI k), .int x]) (n := 4) (Nat.le_of_ble_eq_true rfl)
  rw [lg_entry_eq]
  generalize (lg_sl ([.ref (ad 0), .int (nI k), .int x]) ++ List.replicate (4 - (lg_sl ([.ref (ad 0), .int (nI k), .int x])).length) Slot.unset).toArray = ls at hl ⊢
  have hl : lv_has ls 4 [(0, .ref (ad 0)), (1, .int (nI k)), (2, .int x)] := hl
  refine lv_aload_n hx hb dL_copy_0 rfl (lv_at hl 0 rfl) ?_
  refine lv_iload_n hx hb dL_copy_1 rfl (lv_at hl 1 rfl) ?_
  refine lv_iload_n hx hb dL_copy_2 rfl (lv_at hl 2 rfl) ?_
  refine kr_fxv (vx_runV (As := [.int (nI k), .int x]) (rest := []) ⟨hx, hb, hml, hown, hts⟩ (kx_copy2 l D ct ad tb M Pl C V hl0 _ hk x hbad) (cwV 2 hts gL_copy_X0_copy rfl rfl rfl (by decide +kernel) ⟨Nat.le_of_ble_eq_true rfl, Nat.le_of_ble_eq_true rfl⟩) (kr_preV (kw_Bok tb) (q := (RX0, TX0, 4)) (q0 := 0) (ci := 0) _ (kr_left hP) hK (kr_leftD hD) hB hS hA rfl rfl rfl) rfl rfl hl.1 rfl (lv_room (Nat.le_of_ble_eq_true rfl)) dL_copy_3 ⟨Nat.le_of_ble_eq_true rfl, Nat.le_of_ble_eq_true rfl⟩) hP hD hS hA (fun ce q9 H locs hP hD hS hce hcv hcl => ?_)
  refine vx_catch (own := RL) (name := "java/lang/IllegalArgumentException") (E := "java/lang/IllegalArgumentException") hown [] ⟨0, 6, 9, 13⟩ [] htab (fun z h => absurd h List.not_mem_nil) (by decide) (by decide) (hts (.classLink RL 13 "java/lang/IllegalArgumentException") (by decide +kernel)) (va_Nw.use rfl hB.2.2.2.2.2.2.1) hce hcv hcl ?_
  refine lv_astore_n hx hb dL_copy_9 rfl hl (Nat.le_of_ble_eq_true rfl) rfl (fun ls hl => ?_)
  have hl : lv_has ls 4 [(3, .ref q9), (0, .ref (ad 0)), (1, .int (nI k)), (2, .int x)] := hl
  refine lv_iconst (v := nI 1) hx hb dL_copy_10 rfl ?_
  exact W.iret hx hb hr (fun t ht hW => ⟨⟨_, (), rfl, rfl, by rw [ht]; exact hP, va_K.moved hW.alike hK, hD⟩, hS.F ht⟩) hS.2.2 dL_copy_11
set_option maxHeartbeats 4000000 in
set_option maxRecDepth 100000 in
theorem kl_mix (l : Launch) (D : va_G) (ct : Nat → ClassId) (ad tb : Nat → Nat) (qo : Nat) (M : Nat → Nat → Int64) (Pl : Nat → Nat) (C V o : Nat → Int64) (sz : Nat) {k : Nat} (hk : k < 8) : Met l yL_mix wsL_mix ({ frames := 4, cells := 0, slots := 0, locals := 96 }) (kr_P D vwCl (kw_T ct) (kw_B tb) [.ref (ad 0), .int (nI k)] (kw_X ct ad M Pl C V ++ kw_O ct qo o) sz) (va_Qi (S := ((Nat → Int64) × (Nat → Int64))) (fun r _ => r = nI 0) (kr_B D vwCl (kw_T ct) (fun u => kw_X ct ad (va_up M k (kk_mix (M k))) Pl u.1 u.2 ++ kw_O ct qo o) (va_A (kw_X ct ad M Pl C V ++ kw_O ct qo o) sz)) (va_A (kw_X ct ad M Pl C V ++ kw_O ct qo o) sz)) 0 0 (va_A (kw_X ct ad M Pl C V ++ kw_O ct qo o) sz) := by
  refine va_MetW (cc := cL_mix) (maxL := 3) (ret := some .int) (hh := [(0, 5, 8, 13)]) (by decide) rfl ?_
  intro p e s m args below meth c s₁ B hml hv
  obtain ⟨rfl, hsz, hP, hK, hD0, hB⟩ := hv
  have hx := B.exec
  have hb := B.bytes
  have hr := B.returns
  have hts := atoms_spec (ws := wsL_mix) B.pre
  have hown : s.vm.findClass RL = some m.cls := findClass_of_methodNamed B.named
  have hlocks := B.notSynchronized
  have htab := vx_table (x := yL_clear) B (hts (.codeWith yL_mix cL_mix 3 (some .int) [(0, 5, 8, 13)]) List.mem_cons_self)
  subst hsz
  have hD := hD0.self (sz := s.heap.size)
  generalize hAe : va_A (kw_X ct ad M Pl C V ++ kw_O ct qo o) s.heap.size = A at hD hB ⊢
  have hA : ∀ q : Nat, s.heap.size ≤ q → A q := fun q h => by rw [← hAe]; exact Or.inr h
  have hS : va_S A s.heap s.heap [] := va_S.rf
  have hl := lv_entry ([.ref (ad 0), .int (nI k)]) (n := 3) (Nat.le_of_ble_eq_true rfl)
  rw [lg_entry_eq]
  generalize (lg_sl ([.ref (ad 0), .int (nI k)]) ++ List.replicate (3 - (lg_sl ([.ref (ad 0), .int (nI k)])).length) Slot.unset).toArray = ls at hl ⊢
  have hl : lv_has ls 3 [(0, .ref (ad 0)), (1, .int (nI k))] := hl
  refine lv_aload_n hx hb dL_mix_0 rfl (lv_at hl 0 rfl) ?_
  refine lv_iload_n hx hb dL_mix_1 rfl (lv_at hl 1 rfl) ?_
  refine kr_fv (va_runV (As := [.int (nI k)]) (rest := []) ⟨hx, hb, hml, hown, hts⟩ (kc_mix l D ct ad tb M Pl C V _ hk) (cwV 1 hts gL_mix_X0_mix rfl rfl rfl (by decide +kernel) ⟨Nat.le_of_ble_eq_true rfl, Nat.le_of_ble_eq_true rfl⟩) (kr_preV (kw_Bok tb) (q := (RX0, TX0, 4)) (q0 := 0) (ci := 0) _ (kr_left hP) hK (kr_leftD hD) hB hS hA rfl rfl rfl) rfl rfl hl.1 rfl (lv_room (Nat.le_of_ble_eq_true rfl)) dL_mix_2 ⟨Nat.le_of_ble_eq_true rfl, Nat.le_of_ble_eq_true rfl⟩) hP hD hS hA (fun u H locs hq hP hD hS => ?_)
  have hP : va_P D vwCl (kw_X ct ad (va_up M k (kk_mix (M k))) Pl u.1 u.2 ++ kw_O ct qo o) H := hP
  have hD : va_D A (kw_X ct ad (va_up M k (kk_mix (M k))) Pl u.1 u.2 ++ kw_O ct qo o) := hD
  refine lv_goto (tgt := 11) hx hb dL_mix_5 rfl ?_
  refine lv_iconst (v := nI 0) hx hb dL_mix_11 rfl ?_
  exact W.iret hx hb hr (fun t ht hW => ⟨⟨_, u, rfl, rfl, by rw [ht]; exact hP, va_K.moved hW.alike hK, hD⟩, hS.F ht⟩) hS.2.2 dL_mix_12
set_option maxHeartbeats 4000000 in
set_option maxRecDepth 100000 in
theorem kl_mix1 (l : Launch) (D : va_G) (ct : Nat → ClassId) (ad tb : Nat → Nat) (qo : Nat) (M : Nat → Nat → Int64) (Pl : Nat → Nat) (C V o : Nat → Int64) (hl0 : l.stackTraces = false) (sz : Nat) (x : Int32) (hbad : x < 0 ∨ ¬ x ≤ nI 7) : Met l yL_mix wsL_mix ({ frames := 8, cells := 1, slots := 6, locals := 124 }) (kr_P D vwCl (kw_T ct) (kw_B tb) [.ref (ad 0), .int x] (kw_X ct ad M Pl C V ++ kw_O ct qo o) sz) (va_Qi (S := Unit) (fun r _ => r = nI 1) (kr_B D vwCl (kw_T ct) (fun u => kw_X ct ad M Pl C V ++ kw_O ct qo o) (va_A (kw_X ct ad M Pl C V ++ kw_O ct qo o) sz)) (va_A (kw_X ct ad M Pl C V ++ kw_O ct qo o) sz)) 1 6 (va_A (kw_X ct ad M Pl C V ++ kw_O ct qo o) sz) := by
  refine va_MetW (cc := cL_mix) (maxL := 3) (ret := some .int) (hh := [(0, 5, 8, 13)]) (by decide) rfl ?_
  intro p e s m args below meth c s₁ B hml hv
  obtain ⟨rfl, hsz, hP, hK, hD0, hB⟩ := hv
  have hx := B.exec
  have hb := B.bytes
  have hr := B.returns
  have hts := atoms_spec (ws := wsL_mix) B.pre
  have hown : s.vm.findClass RL = some m.cls := findClass_of_methodNamed B.named
  have hlocks := B.notSynchronized
  have htab := vx_table (x := yL_clear) B (hts (.codeWith yL_mix cL_mix 3 (some .int) [(0, 5, 8, 13)]) List.mem_cons_self)
  subst hsz
  have hD := hD0.self (sz := s.heap.size)
  generalize hAe : va_A (kw_X ct ad M Pl C V ++ kw_O ct qo o) s.heap.size = A at hD hB ⊢
  have hA : ∀ q : Nat, s.heap.size ≤ q → A q := fun q h => by rw [← hAe]; exact Or.inr h
  have hS : va_S A s.heap s.heap [] := va_S.rf
  have hl := lv_entry ([.ref (ad 0), .int x]) (n := 3) (Nat.le_of_ble_eq_true rfl)
  rw [lg_entry_eq]
  generalize (lg_sl ([.ref (ad 0), .int x]) ++ List.replicate (3 - (lg_sl ([.ref (ad 0), .int x])).length) Slot.unset).toArray = ls at hl ⊢
  have hl : lv_has ls 3 [(0, .ref (ad 0)), (1, .int x)] := hl
  refine lv_aload_n hx hb dL_mix_0 rfl (lv_at hl 0 rfl) ?_
  refine lv_iload_n hx hb dL_mix_1 rfl (lv_at hl 1 rfl) ?_
  refine kr_fxv (vx_runV (As := [.int x]) (rest := []) ⟨hx, hb, hml, hown, hts⟩ (kx_mix1 l D ct ad tb M Pl C V hl0 _ x hbad) (cwV 1 hts gL_mix_X0_mix rfl rfl rfl (by decide +kernel) ⟨Nat.le_of_ble_eq_true rfl, Nat.le_of_ble_eq_true rfl⟩) (kr_preV (kw_Bok tb) (q := (RX0, TX0, 4)) (q0 := 0) (ci := 0) _ (kr_left hP) hK (kr_leftD hD) hB hS hA rfl rfl rfl) rfl rfl hl.1 rfl (lv_room (Nat.le_of_ble_eq_true rfl)) dL_mix_2 ⟨Nat.le_of_ble_eq_true rfl, Nat.le_of_ble_eq_true rfl⟩) hP hD hS hA (fun ce q9 H locs hP hD hS hce hcv hcl => ?_)
  refine vx_catch (own := RL) (name := "java/lang/IllegalArgumentException") (E := "java/lang/IllegalArgumentException") hown [] ⟨0, 5, 8, 13⟩ [] htab (fun z h => absurd h List.not_mem_nil) (by decide) (by decide) (hts (.classLink RL 13 "java/lang/IllegalArgumentException") (by decide +kernel)) (va_Nw.use rfl hB.2.2.2.2.2.2.1) hce hcv hcl ?_
  refine lv_astore_n hx hb dL_mix_8 rfl hl (Nat.le_of_ble_eq_true rfl) rfl (fun ls hl => ?_)
  have hl : lv_has ls 3 [(2, .ref q9), (0, .ref (ad 0)), (1, .int x)] := hl
  refine lv_iconst (v := nI 1) hx hb dL_mix_9 rfl ?_
  exact W.iret hx hb hr (fun t ht hW => ⟨⟨_, (), rfl, rfl, by rw [ht]; exact hP, va_K.moved hW.alike hK, hD⟩, hS.F ht⟩) hS.2.2 dL_mix_10
set_option maxHeartbeats 4000000 in
set_option maxRecDepth 100000 in
theorem kl_lane (l : Launch) (D : va_G) (ct : Nat → ClassId) (ad tb : Nat → Nat) (qo : Nat) (M : Nat → Nat → Int64) (Pl : Nat → Nat) (C V o : Nat → Int64) (sz : Nat) {k i : Nat} (hk : k < 8) (hi25 : i < 25) : Met l yL_lane wsL_lane ({ frames := 2, cells := 0, slots := 0, locals := 43 }) (kr_P D vwCl (kw_T ct) (kw_B tb) [.ref (ad 0), .int (nI k), .int (nI i), .ref qo] (kw_X ct ad M Pl C V ++ kw_O ct qo o) sz) (va_Qi (S := Unit) (fun r _ => r = nI 0) (kr_B D vwCl (kw_T ct) (fun u => kw_X ct ad M Pl C V ++ kw_O ct qo (vp_updL o 0 (M k i))) (va_A (kw_X ct ad M Pl C V ++ kw_O ct qo o) sz)) (va_A (kw_X ct ad M Pl C V ++ kw_O ct qo o) sz)) 0 0 (va_A (kw_X ct ad M Pl C V ++ kw_O ct qo o) sz) := by
  refine va_MetW (cc := cL_lane) (maxL := 5) (ret := some .int) (hh := [(0, 9, 12, 13)]) (by decide) rfl ?_
  intro p e s m args below meth c s₁ B hml hv
  obtain ⟨rfl, hsz, hP, hK, hD0, hB⟩ := hv
  have hx := B.exec
  have hb := B.bytes
  have hr := B.returns
  have hts := atoms_spec (ws := wsL_lane) B.pre
  have hown : s.vm.findClass RL = some m.cls := findClass_of_methodNamed B.named
  have hlocks := B.notSynchronized
  have htab := vx_table (x := yL_clear) B (hts (.codeWith yL_lane cL_lane 5 (some .int) [(0, 9, 12, 13)]) List.mem_cons_self)
  subst hsz
  have hD := hD0.self (sz := s.heap.size)
  generalize hAe : va_A (kw_X ct ad M Pl C V ++ kw_O ct qo o) s.heap.size = A at hD hB ⊢
  have hA : ∀ q : Nat, s.heap.size ≤ q → A q := fun q h => by rw [← hAe]; exact Or.inr h
  have hS : va_S A s.heap s.heap [] := va_S.rf
  have hl := lv_entry ([.ref (ad 0), .int (nI k), .int (nI i), .ref qo]) (n := 5) (Nat.le_of_ble_eq_true rfl)
  rw [lg_entry_eq]
  generalize (lg_sl ([.ref (ad 0), .int (nI k), .int (nI i), .ref qo]) ++ List.replicate (5 - (lg_sl ([.ref (ad 0), .int (nI k), .int (nI i), .ref qo])).length) Slot.unset).toArray = ls at hl ⊢
  have hl : lv_has ls 5 [(0, .ref (ad 0)), (1, .int (nI k)), (2, .int (nI i)), (3, .ref qo)] := hl
  refine lv_aload_n hx hb dL_lane_0 rfl (lv_at hl 3 rfl) ?_
  refine lv_iconst (v := nI 0) hx hb dL_lane_1 rfl ?_
  refine lv_aload_n hx hb dL_lane_2 rfl (lv_at hl 0 rfl) ?_
  refine lv_iload_n hx hb dL_lane_3 rfl (lv_at hl 1 rfl) ?_
  refine lv_iload_n hx hb dL_lane_4 rfl (lv_at hl 2 rfl) ?_
  refine kr_fl (va_runV (As := [.int (nI k), .int (nI i)]) (rest := [.int (nI 0), .ref qo]) ⟨hx, hb, hml, hown, hts⟩ (kc_lane l D ct ad tb M Pl C V _ hk hi25) (cwV 2 hts gL_lane_X0_lane rfl rfl rfl (by decide +kernel) ⟨Nat.le_of_ble_eq_true rfl, Nat.le_of_ble_eq_true rfl⟩) (kr_preV (kw_Bok tb) (q := (RX0, TX0, 4)) (q0 := 0) (ci := 0) _ (kr_left hP) hK (kr_leftD hD) hB hS hA rfl rfl rfl) rfl rfl hl.1 rfl (lv_room (Nat.le_of_ble_eq_true rfl)) dL_lane_5 ⟨Nat.le_of_ble_eq_true rfl, Nat.le_of_ble_eq_true rfl⟩) hP hD hS hA (fun r u H locs hq hP hD hS => ?_)
  obtain rfl : r = M k i := hq
  have hP : va_P D vwCl (kw_X ct ad M Pl C V ++ kw_O ct qo o) H := hP
  have hD : va_D A (kw_X ct ad M Pl C V ++ kw_O ct qo o) := hD
  refine kr_last (w := kw_X ct ad M Pl C V ++ kw_O ct qo (vp_updL o 0 (M k i))) hx hb hK hP hD hS 14 2 rfl rfl (n := 0) (by omega) (by omega) rfl dL_lane_8 (fun H locs hP hD hS => ?_)
  refine lv_goto (tgt := 16) hx hb dL_lane_9 rfl ?_
  refine lv_iconst (v := nI 0) hx hb dL_lane_16 rfl ?_
  exact W.iret hx hb hr (fun t ht hW => ⟨⟨_, (), rfl, rfl, by rw [ht]; exact hP, va_K.moved hW.alike hK, hD⟩, hS.F ht⟩) hS.2.2 dL_lane_17
set_option maxHeartbeats 4000000 in
set_option maxRecDepth 100000 in
theorem kl_lane1 (l : Launch) (D : va_G) (ct : Nat → ClassId) (ad tb : Nat → Nat) (qo : Nat) (M : Nat → Nat → Int64) (Pl : Nat → Nat) (C V o : Nat → Int64) (hl0 : l.stackTraces = false) (sz : Nat) (x y : Int32) (hbad : x < 0 ∨ ¬ x ≤ nI 7) : Met l yL_lane wsL_lane ({ frames := 8, cells := 1, slots := 6, locals := 125 }) (kr_P D vwCl (kw_T ct) (kw_B tb) [.ref (ad 0), .int x, .int y, .ref qo] (kw_X ct ad M Pl C V ++ kw_O ct qo o) sz) (va_Qi (S := Unit) (fun r _ => r = nI 1) (kr_B D vwCl (kw_T ct) (fun u => kw_X ct ad M Pl C V ++ kw_O ct qo o) (va_A (kw_X ct ad M Pl C V ++ kw_O ct qo o) sz)) (va_A (kw_X ct ad M Pl C V ++ kw_O ct qo o) sz)) 1 6 (va_A (kw_X ct ad M Pl C V ++ kw_O ct qo o) sz) := by
  refine va_MetW (cc := cL_lane) (maxL := 5) (ret := some .int) (hh := [(0, 9, 12, 13)]) (by decide) rfl ?_
  intro p e s m args below meth c s₁ B hml hv
  obtain ⟨rfl, hsz, hP, hK, hD0, hB⟩ := hv
  have hx := B.exec
  have hb := B.bytes
  have hr := B.returns
  have hts := atoms_spec (ws := wsL_lane) B.pre
  have hown : s.vm.findClass RL = some m.cls := findClass_of_methodNamed B.named
  have hlocks := B.notSynchronized
  have htab := vx_table (x := yL_clear) B (hts (.codeWith yL_lane cL_lane 5 (some .int) [(0, 9, 12, 13)]) List.mem_cons_self)
  subst hsz
  have hD := hD0.self (sz := s.heap.size)
  generalize hAe : va_A (kw_X ct ad M Pl C V ++ kw_O ct qo o) s.heap.size = A at hD hB ⊢
  have hA : ∀ q : Nat, s.heap.size ≤ q → A q := fun q h => by rw [← hAe]; exact Or.inr h
  have hS : va_S A s.heap s.heap [] := va_S.rf
  have hl := lv_entry ([.ref (ad 0), .int x, .int y, .ref qo]) (n := 5) (Nat.le_of_ble_eq_true rfl)
  rw [lg_entry_eq]
  generalize (lg_sl ([.ref (ad 0), .int x, .int y, .ref qo]) ++ List.replicate (5 - (lg_sl ([.ref (ad 0), .int x, .int y, .ref qo])).length) Slot.unset).toArray = ls at hl ⊢
  have hl : lv_has ls 5 [(0, .ref (ad 0)), (1, .int x), (2, .int y), (3, .ref qo)] := hl
  refine lv_aload_n hx hb dL_lane_0 rfl (lv_at hl 3 rfl) ?_
  refine lv_iconst (v := nI 0) hx hb dL_lane_1 rfl ?_
  refine lv_aload_n hx hb dL_lane_2 rfl (lv_at hl 0 rfl) ?_
  refine lv_iload_n hx hb dL_lane_3 rfl (lv_at hl 1 rfl) ?_
  refine lv_iload_n hx hb dL_lane_4 rfl (lv_at hl 2 rfl) ?_
  refine kr_fxl (vx_runV (As := [.int x, .int y]) (rest := [.int (nI 0), .ref qo]) ⟨hx, hb, hml, hown, hts⟩ (kx_lane1 l D ct ad tb M Pl C V hl0 _ x y hbad) (cwV 2 hts gL_lane_X0_lane rfl rfl rfl (by decide +kernel) ⟨Nat.le_of_ble_eq_true rfl, Nat.le_of_ble_eq_true rfl⟩) (kr_preV (kw_Bok tb) (q := (RX0, TX0, 4)) (q0 := 0) (ci := 0) _ (kr_left hP) hK (kr_leftD hD) hB hS hA rfl rfl rfl) rfl rfl hl.1 rfl (lv_room (Nat.le_of_ble_eq_true rfl)) dL_lane_5 ⟨Nat.le_of_ble_eq_true rfl, Nat.le_of_ble_eq_true rfl⟩) hP hD hS hA (fun ce q9 H locs hP hD hS hce hcv hcl => ?_)
  refine vx_catch (own := RL) (name := "java/lang/IllegalArgumentException") (E := "java/lang/IllegalArgumentException") hown [] ⟨0, 9, 12, 13⟩ [] htab (fun z h => absurd h List.not_mem_nil) (by decide) (by decide) (hts (.classLink RL 13 "java/lang/IllegalArgumentException") (by decide +kernel)) (va_Nw.use rfl hB.2.2.2.2.2.2.1) hce hcv hcl ?_
  refine lv_astore hx hb dL_lane_12 hl (Nat.le_of_ble_eq_true rfl) rfl (fun ls hl => ?_)
  have hl : lv_has ls 5 [(4, .ref q9), (0, .ref (ad 0)), (1, .int x), (2, .int y), (3, .ref qo)] := hl
  refine lv_iconst (v := nI 1) hx hb dL_lane_14 rfl ?_
  exact W.iret hx hb hr (fun t ht hW => ⟨⟨_, (), rfl, rfl, by rw [ht]; exact hP, va_K.moved hW.alike hK, hD⟩, hS.F ht⟩) hS.2.2 dL_lane_15
set_option maxHeartbeats 4000000 in
set_option maxRecDepth 100000 in
theorem kl_lane2 (l : Launch) (D : va_G) (ct : Nat → ClassId) (ad tb : Nat → Nat) (qo : Nat) (M : Nat → Nat → Int64) (Pl : Nat → Nat) (C V o : Nat → Int64) (hl0 : l.stackTraces = false) (sz : Nat) {k : Nat} (hk : k < 8) (x : Int32) (hbad : x < 0 ∨ ¬ x ≤ nI 24) : Met l yL_lane wsL_lane ({ frames := 8, cells := 1, slots := 6, locals := 125 }) (kr_P D vwCl (kw_T ct) (kw_B tb) [.ref (ad 0), .int (nI k), .int x, .ref qo] (kw_X ct ad M Pl C V ++ kw_O ct qo o) sz) (va_Qi (S := Unit) (fun r _ => r = nI 1) (kr_B D vwCl (kw_T ct) (fun u => kw_X ct ad M Pl C V ++ kw_O ct qo o) (va_A (kw_X ct ad M Pl C V ++ kw_O ct qo o) sz)) (va_A (kw_X ct ad M Pl C V ++ kw_O ct qo o) sz)) 1 6 (va_A (kw_X ct ad M Pl C V ++ kw_O ct qo o) sz) := by
  refine va_MetW (cc := cL_lane) (maxL := 5) (ret := some .int) (hh := [(0, 9, 12, 13)]) (by decide) rfl ?_
  intro p e s m args below meth c s₁ B hml hv
  obtain ⟨rfl, hsz, hP, hK, hD0, hB⟩ := hv
  have hx := B.exec
  have hb := B.bytes
  have hr := B.returns
  have hts := atoms_spec (ws := wsL_lane) B.pre
  have hown : s.vm.findClass RL = some m.cls := findClass_of_methodNamed B.named
  have hlocks := B.notSynchronized
  have htab := vx_table (x := yL_clear) B (hts (.codeWith yL_lane cL_lane 5 (some .int) [(0, 9, 12, 13)]) List.mem_cons_self)
  subst hsz
  have hD := hD0.self (sz := s.heap.size)
  generalize hAe : va_A (kw_X ct ad M Pl C V ++ kw_O ct qo o) s.heap.size = A at hD hB ⊢
  have hA : ∀ q : Nat, s.heap.size ≤ q → A q := fun q h => by rw [← hAe]; exact Or.inr h
  have hS : va_S A s.heap s.heap [] := va_S.rf
  have hl := lv_entry ([.ref (ad 0), .int (nI k), .int x, .ref qo]) (n := 5) (Nat.le_of_ble_eq_true rfl)
  rw [lg_entry_eq]
  generalize (lg_sl ([.ref (ad 0), .int (nI k), .int x, .ref qo]) ++ List.replicate (5 - (lg_sl ([.ref (ad 0), .int (nI k), .int x, .ref qo])).length) Slot.unset).toArray = ls at hl ⊢
  have hl : lv_has ls 5 [(0, .ref (ad 0)), (1, .int (nI k)), (2, .int x), (3, .ref qo)] := hl
  refine lv_aload_n hx hb dL_lane_0 rfl (lv_at hl 3 rfl) ?_
  refine lv_iconst (v := nI 0) hx hb dL_lane_1 rfl ?_
  refine lv_aload_n hx hb dL_lane_2 rfl (lv_at hl 0 rfl) ?_
  refine lv_iload_n hx hb dL_lane_3 rfl (lv_at hl 1 rfl) ?_
  refine lv_iload_n hx hb dL_lane_4 rfl (lv_at hl 2 rfl) ?_
  refine kr_fxl (vx_runV (As := [.int (nI k), .int x]) (rest := [.int (nI 0), .ref qo]) ⟨hx, hb, hml, hown, hts⟩ (kx_lane2 l D ct ad tb M Pl C V hl0 _ hk x hbad) (cwV 2 hts gL_lane_X0_lane rfl rfl rfl (by decide +kernel) ⟨Nat.le_of_ble_eq_true rfl, Nat.le_of_ble_eq_true rfl⟩) (kr_preV (kw_Bok tb) (q := (RX0, TX0, 4)) (q0 := 0) (ci := 0) _ (kr_left hP) hK (kr_leftD hD) hB hS hA rfl rfl rfl) rfl rfl hl.1 rfl (lv_room (Nat.le_of_ble_eq_true rfl)) dL_lane_5 ⟨Nat.le_of_ble_eq_true rfl, Nat.le_of_ble_eq_true rfl⟩) hP hD hS hA (fun ce q9 H locs hP hD hS hce hcv hcl => ?_)
  refine vx_catch (own := RL) (name := "java/lang/IllegalArgumentException") (E := "java/lang/IllegalArgumentException") hown [] ⟨0, 9, 12, 13⟩ [] htab (fun z h => absurd h List.not_mem_nil) (by decide) (by decide) (hts (.classLink RL 13 "java/lang/IllegalArgumentException") (by decide +kernel)) (va_Nw.use rfl hB.2.2.2.2.2.2.1) hce hcv hcl ?_
  refine lv_astore hx hb dL_lane_12 hl (Nat.le_of_ble_eq_true rfl) rfl (fun ls hl => ?_)
  have hl : lv_has ls 5 [(4, .ref q9), (0, .ref (ad 0)), (1, .int (nI k)), (2, .int x), (3, .ref qo)] := hl
  refine lv_iconst (v := nI 1) hx hb dL_lane_14 rfl ?_
  exact W.iret hx hb hr (fun t ht hW => ⟨⟨_, (), rfl, rfl, by rw [ht]; exact hP, va_K.moved hW.alike hK, hD⟩, hS.F ht⟩) hS.2.2 dL_lane_15
set_option maxHeartbeats 4000000 in
set_option maxRecDepth 100000 in
theorem kl_digest (l : Launch) (D : va_G) (ct : Nat → ClassId) (ad tb : Nat → Nat) (qo : Nat) (M : Nat → Nat → Int64) (Pl : Nat → Nat) (C V o : Nat → Int64) (sz : Nat) {k i : Nat} (hk : k < 8) (hi4 : i < 4) (hq0 : Pl k < 136) : Met l yL_digest wsL_digest ({ frames := 4, cells := 0, slots := 0, locals := 98 }) (kr_P D vwCl (kw_T ct) (kw_B tb) [.ref (ad 0), .int (nI k), .int (nI i), .ref qo] (kw_X ct ad M Pl C V ++ kw_O ct qo o) sz) (va_Qi (S := ((Nat → Int64) × (Nat → Int64))) (fun r _ => r = nI 0) (kr_B D vwCl (kw_T ct) (fun u => kw_X ct ad (va_up M 8 (kk_dg (M k) (Pl k))) (va_up Pl 8 (Pl k)) u.1 u.2 ++ kw_O ct qo (vp_updL o 0 (kk_rev (kk_dg (M k) (Pl k) i) 8))) (va_A (kw_X ct ad M Pl C V ++ kw_O ct qo o) sz)) (va_A (kw_X ct ad M Pl C V ++ kw_O ct qo o) sz)) 0 0 (va_A (kw_X ct ad M Pl C V ++ kw_O ct qo o) sz) := by
  refine va_MetW (cc := cL_digest) (maxL := 5) (ret := some .int) (hh := [(0, 9, 12, 13)]) (by decide) rfl ?_
  intro p e s m args below meth c s₁ B hml hv
  obtain ⟨rfl, hsz, hP, hK, hD0, hB⟩ := hv
  have hx := B.exec
  have hb := B.bytes
  have hr := B.returns
  have hts := atoms_spec (ws := wsL_digest) B.pre
  have hown : s.vm.findClass RL = some m.cls := findClass_of_methodNamed B.named
  have hlocks := B.notSynchronized
  have htab := vx_table (x := yL_clear) B (hts (.codeWith yL_digest cL_digest 5 (some .int) [(0, 9, 12, 13)]) List.mem_cons_self)
  subst hsz
  have hD := hD0.self (sz := s.heap.size)
  generalize hAe : va_A (kw_X ct ad M Pl C V ++ kw_O ct qo o) s.heap.size = A at hD hB ⊢
  have hA : ∀ q : Nat, s.heap.size ≤ q → A q := fun q h => by rw [← hAe]; exact Or.inr h
  have hS : va_S A s.heap s.heap [] := va_S.rf
  have hl := lv_entry ([.ref (ad 0), .int (nI k), .int (nI i), .ref qo]) (n := 5) (Nat.le_of_ble_eq_true rfl)
  rw [lg_entry_eq]
  generalize (lg_sl ([.ref (ad 0), .int (nI k), .int (nI i), .ref qo]) ++ List.replicate (5 - (lg_sl ([.ref (ad 0), .int (nI k), .int (nI i), .ref qo])).length) Slot.unset).toArray = ls at hl ⊢
  have hl : lv_has ls 5 [(0, .ref (ad 0)), (1, .int (nI k)), (2, .int (nI i)), (3, .ref qo)] := hl
  refine lv_aload_n hx hb dL_digest_0 rfl (lv_at hl 3 rfl) ?_
  refine lv_iconst (v := nI 0) hx hb dL_digest_1 rfl ?_
  refine lv_aload_n hx hb dL_digest_2 rfl (lv_at hl 0 rfl) ?_
  refine lv_iload_n hx hb dL_digest_3 rfl (lv_at hl 1 rfl) ?_
  refine lv_iload_n hx hb dL_digest_4 rfl (lv_at hl 2 rfl) ?_
  refine kr_fl (va_runV (As := [.int (nI k), .int (nI i)]) (rest := [.int (nI 0), .ref qo]) ⟨hx, hb, hml, hown, hts⟩ (kc_digest l D ct ad tb M Pl C V _ hk hi4 hq0) (cwV 2 hts gL_digest_X0_digest rfl rfl rfl (by decide +kernel) ⟨Nat.le_of_ble_eq_true rfl, Nat.le_of_ble_eq_true rfl⟩) (kr_preV (kw_Bok tb) (q := (RX0, TX0, 4)) (q0 := 0) (ci := 0) _ (kr_left hP) hK (kr_leftD hD) hB hS hA rfl rfl rfl) rfl rfl hl.1 rfl (lv_room (Nat.le_of_ble_eq_true rfl)) dL_digest_5 ⟨Nat.le_of_ble_eq_true rfl, Nat.le_of_ble_eq_true rfl⟩) hP hD hS hA (fun r u H locs hq hP hD hS => ?_)
  obtain rfl : r = kk_rev (kk_dg (M k) (Pl k) i) 8 := hq
  have hP : va_P D vwCl (kw_X ct ad (va_up M 8 (kk_dg (M k) (Pl k))) (va_up Pl 8 (Pl k)) u.1 u.2 ++ kw_O ct qo o) H := hP
  have hD : va_D A (kw_X ct ad (va_up M 8 (kk_dg (M k) (Pl k))) (va_up Pl 8 (Pl k)) u.1 u.2 ++ kw_O ct qo o) := hD
  refine kr_last (w := kw_X ct ad (va_up M 8 (kk_dg (M k) (Pl k))) (va_up Pl 8 (Pl k)) u.1 u.2 ++ kw_O ct qo (vp_updL o 0 (kk_rev (kk_dg (M k) (Pl k) i) 8))) hx hb hK hP hD hS 14 2 rfl rfl (n := 0) (by omega) (by omega) rfl dL_digest_8 (fun H locs hP hD hS => ?_)
  refine lv_goto (tgt := 16) hx hb dL_digest_9 rfl ?_
  refine lv_iconst (v := nI 0) hx hb dL_digest_16 rfl ?_
  exact W.iret hx hb hr (fun t ht hW => ⟨⟨_, u, rfl, rfl, by rw [ht]; exact hP, va_K.moved hW.alike hK, hD⟩, hS.F ht⟩) hS.2.2 dL_digest_17
set_option maxHeartbeats 4000000 in
set_option maxRecDepth 100000 in
theorem kl_digest1 (l : Launch) (D : va_G) (ct : Nat → ClassId) (ad tb : Nat → Nat) (qo : Nat) (M : Nat → Nat → Int64) (Pl : Nat → Nat) (C V o : Nat → Int64) (hl0 : l.stackTraces = false) (sz : Nat) (x y : Int32) (hbad : x < 0 ∨ ¬ x ≤ nI 7) : Met l yL_digest wsL_digest ({ frames := 8, cells := 1, slots := 6, locals := 126 }) (kr_P D vwCl (kw_T ct) (kw_B tb) [.ref (ad 0), .int x, .int y, .ref qo] (kw_X ct ad M Pl C V ++ kw_O ct qo o) sz) (va_Qi (S := Unit) (fun r _ => r = nI 1) (kr_B D vwCl (kw_T ct) (fun u => kw_X ct ad M Pl C V ++ kw_O ct qo o) (va_A (kw_X ct ad M Pl C V ++ kw_O ct qo o) sz)) (va_A (kw_X ct ad M Pl C V ++ kw_O ct qo o) sz)) 1 6 (va_A (kw_X ct ad M Pl C V ++ kw_O ct qo o) sz) := by
  refine va_MetW (cc := cL_digest) (maxL := 5) (ret := some .int) (hh := [(0, 9, 12, 13)]) (by decide) rfl ?_
  intro p e s m args below meth c s₁ B hml hv
  obtain ⟨rfl, hsz, hP, hK, hD0, hB⟩ := hv
  have hx := B.exec
  have hb := B.bytes
  have hr := B.returns
  have hts := atoms_spec (ws := wsL_digest) B.pre
  have hown : s.vm.findClass RL = some m.cls := findClass_of_methodNamed B.named
  have hlocks := B.notSynchronized
  have htab := vx_table (x := yL_clear) B (hts (.codeWith yL_digest cL_digest 5 (some .int) [(0, 9, 12, 13)]) List.mem_cons_self)
  subst hsz
  have hD := hD0.self (sz := s.heap.size)
  generalize hAe : va_A (kw_X ct ad M Pl C V ++ kw_O ct qo o) s.heap.size = A at hD hB ⊢
  have hA : ∀ q : Nat, s.heap.size ≤ q → A q := fun q h => by rw [← hAe]; exact Or.inr h
  have hS : va_S A s.heap s.heap [] := va_S.rf
  have hl := lv_entry ([.ref (ad 0), .int x, .int y, .ref qo]) (n := 5) (Nat.le_of_ble_eq_true rfl)
  rw [lg_entry_eq]
  generalize (lg_sl ([.ref (ad 0), .int x, .int y, .ref qo]) ++ List.replicate (5 - (lg_sl ([.ref (ad 0), .int x, .int y, .ref qo])).length) Slot.unset).toArray = ls at hl ⊢
  have hl : lv_has ls 5 [(0, .ref (ad 0)), (1, .int x), (2, .int y), (3, .ref qo)] := hl
  refine lv_aload_n hx hb dL_digest_0 rfl (lv_at hl 3 rfl) ?_
  refine lv_iconst (v := nI 0) hx hb dL_digest_1 rfl ?_
  refine lv_aload_n hx hb dL_digest_2 rfl (lv_at hl 0 rfl) ?_
  refine lv_iload_n hx hb dL_digest_3 rfl (lv_at hl 1 rfl) ?_
  refine lv_iload_n hx hb dL_digest_4 rfl (lv_at hl 2 rfl) ?_
  refine kr_fxl (vx_runV (As := [.int x, .int y]) (rest := [.int (nI 0), .ref qo]) ⟨hx, hb, hml, hown, hts⟩ (kx_digest1 l D ct ad tb M Pl C V hl0 _ x y hbad) (cwV 2 hts gL_digest_X0_digest rfl rfl rfl (by decide +kernel) ⟨Nat.le_of_ble_eq_true rfl, Nat.le_of_ble_eq_true rfl⟩) (kr_preV (kw_Bok tb) (q := (RX0, TX0, 4)) (q0 := 0) (ci := 0) _ (kr_left hP) hK (kr_leftD hD) hB hS hA rfl rfl rfl) rfl rfl hl.1 rfl (lv_room (Nat.le_of_ble_eq_true rfl)) dL_digest_5 ⟨Nat.le_of_ble_eq_true rfl, Nat.le_of_ble_eq_true rfl⟩) hP hD hS hA (fun ce q9 H locs hP hD hS hce hcv hcl => ?_)
  refine vx_catch (own := RL) (name := "java/lang/IllegalArgumentException") (E := "java/lang/IllegalArgumentException") hown [] ⟨0, 9, 12, 13⟩ [] htab (fun z h => absurd h List.not_mem_nil) (by decide) (by decide) (hts (.classLink RL 13 "java/lang/IllegalArgumentException") (by decide +kernel)) (va_Nw.use rfl hB.2.2.2.2.2.2.1) hce hcv hcl ?_
  refine lv_astore hx hb dL_digest_12 hl (Nat.le_of_ble_eq_true rfl) rfl (fun ls hl => ?_)
  have hl : lv_has ls 5 [(4, .ref q9), (0, .ref (ad 0)), (1, .int x), (2, .int y), (3, .ref qo)] := hl
  refine lv_iconst (v := nI 1) hx hb dL_digest_14 rfl ?_
  exact W.iret hx hb hr (fun t ht hW => ⟨⟨_, (), rfl, rfl, by rw [ht]; exact hP, va_K.moved hW.alike hK, hD⟩, hS.F ht⟩) hS.2.2 dL_digest_15
set_option maxHeartbeats 4000000 in
set_option maxRecDepth 100000 in
theorem kl_digest2 (l : Launch) (D : va_G) (ct : Nat → ClassId) (ad tb : Nat → Nat) (qo : Nat) (M : Nat → Nat → Int64) (Pl : Nat → Nat) (C V o : Nat → Int64) (hl0 : l.stackTraces = false) (sz : Nat) {k : Nat} (hk : k < 8) (x : Int32) (hbad : x < 0 ∨ ¬ x ≤ nI 3) : Met l yL_digest wsL_digest ({ frames := 8, cells := 1, slots := 6, locals := 126 }) (kr_P D vwCl (kw_T ct) (kw_B tb) [.ref (ad 0), .int (nI k), .int x, .ref qo] (kw_X ct ad M Pl C V ++ kw_O ct qo o) sz) (va_Qi (S := Unit) (fun r _ => r = nI 1) (kr_B D vwCl (kw_T ct) (fun u => kw_X ct ad M Pl C V ++ kw_O ct qo o) (va_A (kw_X ct ad M Pl C V ++ kw_O ct qo o) sz)) (va_A (kw_X ct ad M Pl C V ++ kw_O ct qo o) sz)) 1 6 (va_A (kw_X ct ad M Pl C V ++ kw_O ct qo o) sz) := by
  refine va_MetW (cc := cL_digest) (maxL := 5) (ret := some .int) (hh := [(0, 9, 12, 13)]) (by decide) rfl ?_
  intro p e s m args below meth c s₁ B hml hv
  obtain ⟨rfl, hsz, hP, hK, hD0, hB⟩ := hv
  have hx := B.exec
  have hb := B.bytes
  have hr := B.returns
  have hts := atoms_spec (ws := wsL_digest) B.pre
  have hown : s.vm.findClass RL = some m.cls := findClass_of_methodNamed B.named
  have hlocks := B.notSynchronized
  have htab := vx_table (x := yL_clear) B (hts (.codeWith yL_digest cL_digest 5 (some .int) [(0, 9, 12, 13)]) List.mem_cons_self)
  subst hsz
  have hD := hD0.self (sz := s.heap.size)
  generalize hAe : va_A (kw_X ct ad M Pl C V ++ kw_O ct qo o) s.heap.size = A at hD hB ⊢
  have hA : ∀ q : Nat, s.heap.size ≤ q → A q := fun q h => by rw [← hAe]; exact Or.inr h
  have hS : va_S A s.heap s.heap [] := va_S.rf
  have hl := lv_entry ([.ref (ad 0), .int (nI k), .int x, .ref qo]) (n := 5) (Nat.le_of_ble_eq_true rfl)
  rw [lg_entry_eq]
  generalize (lg_sl ([.ref (ad 0), .int (nI k), .int x, .ref qo]) ++ List.replicate (5 - (lg_sl ([.ref (ad 0), .int (nI k), .int x, .ref qo])).length) Slot.unset).toArray = ls at hl ⊢
  have hl : lv_has ls 5 [(0, .ref (ad 0)), (1, .int (nI k)), (2, .int x), (3, .ref qo)] := hl
  refine lv_aload_n hx hb dL_digest_0 rfl (lv_at hl 3 rfl) ?_
  refine lv_iconst (v := nI 0) hx hb dL_digest_1 rfl ?_
  refine lv_aload_n hx hb dL_digest_2 rfl (lv_at hl 0 rfl) ?_
  refine lv_iload_n hx hb dL_digest_3 rfl (lv_at hl 1 rfl) ?_
  refine lv_iload_n hx hb dL_digest_4 rfl (lv_at hl 2 rfl) ?_
  refine kr_fxl (vx_runV (As := [.int (nI k), .int x]) (rest := [.int (nI 0), .ref qo]) ⟨hx, hb, hml, hown, hts⟩ (kx_digest2 l D ct ad tb M Pl C V hl0 _ hk x hbad) (cwV 2 hts gL_digest_X0_digest rfl rfl rfl (by decide +kernel) ⟨Nat.le_of_ble_eq_true rfl, Nat.le_of_ble_eq_true rfl⟩) (kr_preV (kw_Bok tb) (q := (RX0, TX0, 4)) (q0 := 0) (ci := 0) _ (kr_left hP) hK (kr_leftD hD) hB hS hA rfl rfl rfl) rfl rfl hl.1 rfl (lv_room (Nat.le_of_ble_eq_true rfl)) dL_digest_5 ⟨Nat.le_of_ble_eq_true rfl, Nat.le_of_ble_eq_true rfl⟩) hP hD hS hA (fun ce q9 H locs hP hD hS hce hcv hcl => ?_)
  refine vx_catch (own := RL) (name := "java/lang/IllegalArgumentException") (E := "java/lang/IllegalArgumentException") hown [] ⟨0, 9, 12, 13⟩ [] htab (fun z h => absurd h List.not_mem_nil) (by decide) (by decide) (hts (.classLink RL 13 "java/lang/IllegalArgumentException") (by decide +kernel)) (va_Nw.use rfl hB.2.2.2.2.2.2.1) hce hcv hcl ?_
  refine lv_astore hx hb dL_digest_12 hl (Nat.le_of_ble_eq_true rfl) rfl (fun ls hl => ?_)
  have hl : lv_has ls 5 [(4, .ref q9), (0, .ref (ad 0)), (1, .int (nI k)), (2, .int x), (3, .ref qo)] := hl
  refine lv_iconst (v := nI 1) hx hb dL_digest_14 rfl ?_
  exact W.iret hx hb hr (fun t ht hW => ⟨⟨_, (), rfl, rfl, by rw [ht]; exact hP, va_K.moved hW.alike hK, hD⟩, hS.F ht⟩) hS.2.2 dL_digest_15
