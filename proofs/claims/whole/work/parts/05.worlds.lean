/-! worlds: the class (14 cells) and the reference (15 cells) -/
/-- the classes of arrays: of rows, of ints, of longs -/
def kw_T (ct : Nat → ClassId) : List (ClassId × FieldType) := [(ct 0, .array .long), (ct 1, .int), (ct 2, .long)]
theorem kw_updP (Pl : Nat → Nat) (k p : Nat) : upd (fun j => nI (Pl j)) k (nI p) = fun j => nI (va_up Pl k p j) := by
  funext j
  by_cases h : j = k
  · subst h
    simp [upd, va_up]
  · simp [upd, va_up, h]
theorem kw_self {α : Type} (M : Nat → α) (k : Nat) : va_up M k (M k) = M := by
  funext j
  by_cases h : j = k
  · subst h
    simp [va_up]
  · simp [va_up, h]
/-- KeccakLanes: lanes, places, columns, moved; the rows of the nine states -/
def kw_X (ct : Nat → ClassId) (ad : Nat → Nat) (M : Nat → Nat → Int64) (Pl : Nat → Nat) (C V : Nat → Int64) : va_W :=
  [(ad 0, .inr (0, [.ref (ad 1), .ref (ad 2), .ref (ad 3), .ref (ad 4)])), (ad 1, .inl (ct 0, 9, .inr (.inr (.inr (.inr (fun i => if i < 9 then some (ad (5 + i)) else none)))))), (ad 2, .inl (ct 1, 9, .inl (fun j => nI (Pl j)))), (ad 3, .inl (ct 2, 5, .inr (.inl C))), (ad 4, .inl (ct 2, 25, .inr (.inl V))), (ad 5, .inl (ct 2, 25, .inr (.inl (M 0)))), (ad 6, .inl (ct 2, 25, .inr (.inl (M 1)))), (ad 7, .inl (ct 2, 25, .inr (.inl (M 2)))), (ad 8, .inl (ct 2, 25, .inr (.inl (M 3)))), (ad 9, .inl (ct 2, 25, .inr (.inl (M 4)))), (ad 10, .inl (ct 2, 25, .inr (.inl (M 5)))), (ad 11, .inl (ct 2, 25, .inr (.inl (M 6)))), (ad 12, .inl (ct 2, 25, .inr (.inl (M 7)))), (ad 13, .inl (ct 2, 25, .inr (.inl (M 8))))]
theorem kw_Xrow (ct : Nat → ClassId) (ad : Nat → Nat) (M : Nat → Nat → Int64) (Pl : Nat → Nat) (C V : Nat → Int64) : ∀ {k : Nat}, k < 9 → (kw_X ct ad M Pl C V)[5 + k]? = some (ad (5 + k), .inl (ct 2, 25, .inr (.inl (M k))))
  | 0, _ => rfl
  | 1, _ => rfl
  | 2, _ => rfl
  | 3, _ => rfl
  | 4, _ => rfl
  | 5, _ => rfl
  | 6, _ => rfl
  | 7, _ => rfl
  | 8, _ => rfl
  | n + 9, h => absurd h (by omega)
theorem kw_Xset (ct : Nat → ClassId) (ad : Nat → Nat) (M : Nat → Nat → Int64) (Pl : Nat → Nat) (C V f : Nat → Int64) : ∀ {k : Nat}, k < 9 → (kw_X ct ad M Pl C V).set (5 + k) (ad (5 + k), .inl (ct 2, 25, .inr (.inl f))) = kw_X ct ad (va_up M k f) Pl C V
  | 0, _ => rfl
  | 1, _ => rfl
  | 2, _ => rfl
  | 3, _ => rfl
  | 4, _ => rfl
  | 5, _ => rfl
  | 6, _ => rfl
  | 7, _ => rfl
  | 8, _ => rfl
  | n + 9, h => absurd h (by omega)
theorem kw_Xrg {ct : Nat → ClassId} {ad : Nat → Nat} {M : Nat → Nat → Int64} {Pl : Nat → Nat} {C V g : Nat → Int64} {k : Nat} (hk : k < 9) : (kw_X ct ad (va_up M k g) Pl C V)[5 + k]? = some (ad (5 + k), .inl (ct 2, 25, .inr (.inl g))) := by
  have h := kw_Xrow ct ad (va_up M k g) Pl C V hk
  rw [va_up_self] at h
  exact h
theorem kw_Xsg {ct : Nat → ClassId} {ad : Nat → Nat} {M : Nat → Nat → Int64} {Pl : Nat → Nat} {C V g : Nat → Int64} {k : Nat} (hk : k < 9) (f : Nat → Int64) : (kw_X ct ad (va_up M k g) Pl C V).set (5 + k) (ad (5 + k), .inl (ct 2, 25, .inr (.inl f))) = kw_X ct ad (va_up M k f) Pl C V := by
  rw [kw_Xset ct ad (va_up M k g) Pl C V f hk, bx_uu]
theorem kw_XsP {ct : Nat → ClassId} {ad : Nat → Nat} {M : Nat → Nat → Int64} {Pl : Nat → Nat} {C V : Nat → Int64} (k p : Nat) : (kw_X ct ad M Pl C V).set 2 (ad 2, .inl (ct 1, 9, .inl (upd (fun j => nI (Pl j)) k (nI p)))) = kw_X ct ad M (va_up Pl k p) C V := by
  rw [kw_updP]
  rfl
/-- KeccakLanesModel: failed, states, places, lanes, column, moved, constants; the rows of the eight states -/
def kw_M (ct : Nat → ClassId) (ad : Nat → Nat) (F : Int32) (M : Nat → Nat → Int64) (Pl : Nat → Nat) (L C V K : Nat → Int64) : va_W :=
  [(ad 0, .inr (1, [.int F, .ref (ad 1), .ref (ad 2), .ref (ad 3), .ref (ad 4), .ref (ad 5), .ref (ad 6)])), (ad 1, .inl (ct 0, 8, .inr (.inr (.inr (.inr (fun i => if i < 8 then some (ad (7 + i)) else none)))))), (ad 2, .inl (ct 1, 8, .inl (fun j => nI (Pl j)))), (ad 3, .inl (ct 2, 25, .inr (.inl L))), (ad 4, .inl (ct 2, 5, .inr (.inl C))), (ad 5, .inl (ct 2, 25, .inr (.inl V))), (ad 6, .inl (ct 2, 24, .inr (.inl K))), (ad 7, .inl (ct 2, 25, .inr (.inl (M 0)))), (ad 8, .inl (ct 2, 25, .inr (.inl (M 1)))), (ad 9, .inl (ct 2, 25, .inr (.inl (M 2)))), (ad 10, .inl (ct 2, 25, .inr (.inl (M 3)))), (ad 11, .inl (ct 2, 25, .inr (.inl (M 4)))), (ad 12, .inl (ct 2, 25, .inr (.inl (M 5)))), (ad 13, .inl (ct 2, 25, .inr (.inl (M 6)))), (ad 14, .inl (ct 2, 25, .inr (.inl (M 7))))]
theorem kw_Mrow (ct : Nat → ClassId) (ad : Nat → Nat) (F : Int32) (M : Nat → Nat → Int64) (Pl : Nat → Nat) (L C V K : Nat → Int64) : ∀ {k : Nat}, k < 8 → (kw_M ct ad F M Pl L C V K)[7 + k]? = some (ad (7 + k), .inl (ct 2, 25, .inr (.inl (M k))))
  | 0, _ => rfl
  | 1, _ => rfl
  | 2, _ => rfl
  | 3, _ => rfl
  | 4, _ => rfl
  | 5, _ => rfl
  | 6, _ => rfl
  | 7, _ => rfl
  | n + 8, h => absurd h (by omega)
theorem kw_Mset (ct : Nat → ClassId) (ad : Nat → Nat) (F : Int32) (M : Nat → Nat → Int64) (Pl : Nat → Nat) (L C V K f : Nat → Int64) : ∀ {k : Nat}, k < 8 → (kw_M ct ad F M Pl L C V K).set (7 + k) (ad (7 + k), .inl (ct 2, 25, .inr (.inl f))) = kw_M ct ad F (va_up M k f) Pl L C V K
  | 0, _ => rfl
  | 1, _ => rfl
  | 2, _ => rfl
  | 3, _ => rfl
  | 4, _ => rfl
  | 5, _ => rfl
  | 6, _ => rfl
  | 7, _ => rfl
  | n + 8, h => absurd h (by omega)
theorem kw_Mrg {ct : Nat → ClassId} {ad : Nat → Nat} {F : Int32} {M : Nat → Nat → Int64} {Pl : Nat → Nat} {L C V K g : Nat → Int64} {k : Nat} (hk : k < 8) : (kw_M ct ad F (va_up M k g) Pl L C V K)[7 + k]? = some (ad (7 + k), .inl (ct 2, 25, .inr (.inl g))) := by
  have h := kw_Mrow ct ad F (va_up M k g) Pl L C V K hk
  rw [va_up_self] at h
  exact h
theorem kw_Msg {ct : Nat → ClassId} {ad : Nat → Nat} {F : Int32} {M : Nat → Nat → Int64} {Pl : Nat → Nat} {L C V K g : Nat → Int64} {k : Nat} (hk : k < 8) (f : Nat → Int64) : (kw_M ct ad F (va_up M k g) Pl L C V K).set (7 + k) (ad (7 + k), .inl (ct 2, 25, .inr (.inl f))) = kw_M ct ad F (va_up M k f) Pl L C V K := by
  rw [kw_Mset ct ad F (va_up M k g) Pl L C V K f hk, bx_uu]
theorem kw_MsP {ct : Nat → ClassId} {ad : Nat → Nat} {F : Int32} {M : Nat → Nat → Int64} {Pl : Nat → Nat} {L C V K : Nat → Int64} (k p : Nat) : (kw_M ct ad F M Pl L C V K).set 2 (ad 2, .inl (ct 1, 8, .inl (upd (fun j => nI (Pl j)) k (nI p)))) = kw_M ct ad F M (va_up Pl k p) L C V K := by
  rw [kw_updP]
  rfl
/-- what the class's statics hold, and what a throw needs of the start -/
def kw_B (tb : Nat → Nat) (A : Nat → Prop) (U : State) (H : Heap) : Prop :=
  (va_Z RX0 "TURNS" "[I" (.ref (tb 0)) A U H ∧ va_T .int (tb 0) 25 (fun j => .int (nI (kk_tn j))) A U H) ∧ (va_Z RX0 "TARGETS" "[I" (.ref (tb 1)) A U H ∧ va_T .int (tb 1) 25 (fun j => .int (nI (kk_tg j))) A U H) ∧ (va_Z RX0 "CONSTANTS" "[J" (.ref (tb 2)) A U H ∧ va_T .long (tb 2) 24 (fun j => .long (kk_rc j)) A U H) ∧ vx_Zq Bundle.tN "UNASSIGNED_STACK" Bundle.steD A U H ∧ vx_Zq Bundle.tN "SUPPRESSED_SENTINEL" Bundle.listD A U H ∧ vk_R RX0 49 "a number is out of range" (tb 3) U ∧ va_Nw (.castable "java/lang/IllegalArgumentException" "java/lang/IllegalArgumentException") U ∧ va_Nw (.declares (Bundle.initS "java/lang/RuntimeException")) U ∧ va_Nw (.declares (Bundle.initS "java/lang/Exception")) U ∧ va_Nw (.declares (Bundle.initS Bundle.tN)) U
theorem kw_decl {x : MethodName} {u U : State} (hvm : u.vm.Alike U.vm) (h : va_Nw (.declares x) u) : va_Nw (.declares x) U := by
  have e := Cond.onTables_vm (A := #[]) (A' := #[]) (U := u) (U' := U) U.vm (.declares x) rfl
  have hU : U.setVm U.vm = U := rfl
  rw [hU] at e
  unfold va_Nw
  rw [← e, Cond.declares_setVm hvm]
  exact h
theorem kw_cast {a b : String} {u U : State} (hvm : u.vm.Alike U.vm) (h : va_Nw (.castable a b) u) : va_Nw (.castable a b) U := by
  have e := Cond.onTables_vm (A := #[]) (A' := #[]) (U := u) (U' := U) U.vm (.castable a b) rfl
  have hU : U.setVm U.vm = U := rfl
  rw [hU] at e
  unfold va_Nw
  rw [← e, Cond.castable_setVm hvm]
  exact h
theorem kw_Bok (tb : Nat → Nat) : kr_ok (kw_B tb) := by
  refine ⟨⟨fun A u U H hv h => ?_, fun A u U H hW h => ?_⟩, fun A U H H1 hq h => ?_, fun A B U H hAB h => ?_⟩
  · obtain ⟨⟨a1, a2⟩, ⟨b1, b2⟩, ⟨c1, c2⟩, d1, d2, d3, d4, d5, d6, d7⟩ := h
    have ha : u.vm.Alike U.vm := by rw [hv]; exact Vm.Alike.refl _
    exact ⟨⟨a1.moved ha, a2.moved ha⟩, ⟨b1.moved ha, b2.moved ha⟩, ⟨c1.moved ha, c2.moved ha⟩, d1.moved ha, d2.moved ha, vk_R.same hv d3, kw_cast ha d4, kw_decl ha d5, kw_decl ha d6, kw_decl ha d7⟩
  · obtain ⟨⟨a1, a2⟩, ⟨b1, b2⟩, ⟨c1, c2⟩, d1, d2, d3, d4, d5, d6, d7⟩ := h
    have ha : u.vm.Alike U.vm := hW.alike
    exact ⟨⟨a1.moved ha, a2.moved ha⟩, ⟨b1.moved ha, b2.moved ha⟩, ⟨c1.moved ha, c2.moved ha⟩, d1.moved ha, d2.moved ha, vk_R.warm hW d3, kw_cast ha d4, kw_decl ha d5, kw_decl ha d6, kw_decl ha d7⟩
  · obtain ⟨⟨a1, a2⟩, ⟨b1, b2⟩, ⟨c1, c2⟩, d1, d2, d3, d4, d5, d6, d7⟩ := h
    exact ⟨⟨a1.kept hq, a2.kept hq⟩, ⟨b1.kept hq, b2.kept hq⟩, ⟨c1.kept hq, c2.kept hq⟩, d1.kept hq, d2.kept hq, d3, d4, d5, d6, d7⟩
  · obtain ⟨⟨a1, a2⟩, ⟨b1, b2⟩, ⟨c1, c2⟩, d1, d2, d3, d4, d5, d6, d7⟩ := h
    exact ⟨⟨a1.narrow hAB, a2.narrow hAB⟩, ⟨b1.narrow hAB, b2.narrow hAB⟩, ⟨c1.narrow hAB, c2.narrow hAB⟩, d1.narrow hAB, d2.narrow hAB, d3, d4, d5, d6, d7⟩
/-- nothing asked of the start -/
def kw_N (_ : Nat → Prop) (_ : State) (_ : Heap) : Prop := True
theorem kw_Nok : kr_ok kw_N := ⟨⟨fun _ _ _ _ _ h => h, fun _ _ _ _ _ h => h⟩, fun _ _ _ _ _ h => h, fun _ _ _ _ _ h => h⟩
theorem kw_good : ∀ w ∈ (vx_atS RX0 51 "java/lang/IllegalArgumentException" ["java/lang/RuntimeException", "java/lang/Exception"]).filter (fun w => !goodWord w), w ∈ [Cond.castable "java/lang/IllegalArgumentException" "java/lang/IllegalArgumentException", Cond.declares (Bundle.initS "java/lang/RuntimeException"), Cond.declares (Bundle.initS "java/lang/Exception"), Cond.declares (Bundle.initS Bundle.tN)] := by decide +kernel
