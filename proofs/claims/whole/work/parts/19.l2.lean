/-! THE CLAIM OUT OF ONE WALK OF THE LAW'S BODY. Your part is whole_start (and what it stands on); all else here is the same for every law, but numbers. -/
def R_law : String := "KeccakLanesLaw"
def lw_P (b : Addr) (xs : List Int32) (args : Array Value) (s : State) : Prop := args = #[.ref b] ∧ s.IntsAt b xs ∧ xs.length ≤ 2560 ∧ (Jvm.Cond.and given_1 narrow_1).before args s = true
def lw_Q (_ : Array Value) (s : State) (o : Outcome) (t : State) : Prop := o = .returned (some (.int 1)) ∧ Framed s o t [] 601024 7293034
def lw_Z (below : List Frame) (a : Array Value) (s : State) : State → Prop := fun t => ∃ o, t.status = .running ∧ Ended t below o ∧ lw_Q a s o t
/-- the law's own end, with 1 on the stack, nothing written that was there before, its room as the claim has it -/
theorem lw_ret {p : Program} {l : Launch} {e : Env} {s : State} {m : MethodId} {below : List Frame} {meth : Method} {c : Code} {b : Nat} (hx : p.tables.exec = Jvm.exec) (hb : c.code = code) (hr : meth.sig.returnType = ret) (hlocks : meth.locks = false) {pc : Nat} {H : Heap} {ls : Array Slot} (hdg : decode code pc = .ok (.ireturn, 1)) : W p l e room_1 s m #[Value.ref b] below meth c H [] 601024 7293034 (lw_Z below #[Value.ref b] s) (F0 m pc ls [.int 1]) := by
  intro T hT X
  obtain ⟨fs, hret, hrun, hended, hW, hframe⟩ := X.leave (v := some (.int 1)) (hlocks := hlocks) (fun h => by rw [hr] at h; cases h)
  have hmeth' : T.vm.method? m = some meth := X.method'
  refine ⟨T.setFrames fs, ?_, .returned (some (.int 1)), hrun, hended, rfl, ⟨_, rfl⟩, hW, hframe⟩
  jvm_step X.here [X.here.top, hx, hb, hdg, hmeth', hr, ret, narrow_b1]
  (try refine ⟨rfl, ?_⟩); (try refine ⟨rfl, ?_⟩)
  first | (intro acts; rw [hret _ acts rfl rfl rfl]) | rw [hret _ _ rfl rfl rfl]
  exact Steps.refl _
/-- what holds at the law's entry: the machine, the code, the tables' words (any of lw_tbl by 'hts w (by decide +kernel)'), the script of L ints xs at the cell b, what the Statement gives of the start (any of its parts by flat_of_before) -/
def lw_At (p : Program) (s : State) (m : MethodId) (meth : Method) (c : Code) (b L : Nat) (xs : Nat → Int32) : Prop :=
  p.tables.exec = Jvm.exec ∧ c.code = code ∧ meth.sig.returnType = ret ∧ c.maxLocals = 8 ∧ s.vm.findClass R_law = some m.cls ∧ (∀ w ∈ lw_tbl, w.before #[Value.ref b] s = true) ∧ va_X b L xs s s.heap ∧ b < s.heap.size ∧ meth.locks = false ∧ (Jvm.Cond.and given_1 narrow_1).before #[Value.ref b] s = true
/-! what holds at the law's start -/
theorem kl_cls {s : State} {args : Array Value} {ty : FieldType} (h : (Cond.arrayClass ty).before args s = true) (ho : ∀ C, ty ≠ .object C) : ∃ c : ClassId, ArrOfT s c ty ∧ va_RA s c ty := by
  obtain ⟨c, k, comp, h1, h2, h3⟩ := Cond.arrayClass_spec h
  refine ⟨c, fun N z => ⟨(fun q hq => by cases hq), k, h2, comp, h3⟩, ?_⟩
  cases ty <;> first | exact h1 | exact absurd rfl (ho _)
theorem kl_over {s : State} {args : Array Value} {ty : FieldType} (h : (Cond.arrayOver (.array ty)).before args s = true) : ∃ c : ClassId, ArrOfT s c (.array ty) ∧ va_RA s c (.array ty) := by
  obtain ⟨comp, c, k, h1, h2, h3, h4⟩ := Cond.arrayOver_specA h
  exact ⟨c, fun N z => ⟨(fun q hq => by cases hq), k, h2, comp, h3⟩, h4⟩
set_option maxRecDepth 100000 in
theorem kl_K {s : State} {b : Nat} (hts : ∀ w ∈ lw_tbl, w.before #[Value.ref b] s = true) : ∃ (D : va_G) (ct : Nat → ClassId), va_K D vwCl (kw_T ct) s := by
  obtain ⟨c0, i0, k0⟩ := u_known (T := TX0) (N := 4) hts inX0 (hts (.instantiable RX0 4) (by decide +kernel))
  obtain ⟨c1, i1, k1⟩ := u_known (T := TX1) (N := 7) hts inX1 (hts (.instantiable RX1 7) (by decide +kernel))
  obtain ⟨a0, h0⟩ := kl_over (hts (.arrayOver (.array .long)) (by decide +kernel))
  obtain ⟨a1, h1⟩ := kl_cls (hts (.arrayClass .int) (by decide +kernel)) (fun _ h => by cases h)
  obtain ⟨a2, h2⟩ := kl_cls (hts (.arrayClass .long) (by decide +kernel)) (fun _ h => by cases h)
  refine ⟨(fun c => if c = 0 then c0 else c1, fun c => if c = 0 then i0 else i1), fun i => if i = 0 then a0 else if i = 1 then a1 else a2, ?_, ?_⟩
  · intro c q hq
    match c, hq with
    | 0, hq => cases hq; exact k0
    | 1, hq => cases hq; exact k1
    | n + 2, hq => simp at hq
  · intro k q hq
    match k, hq with
    | 0, hq => cases hq; exact h0
    | 1, hq => cases hq; exact h1
    | 2, hq => cases hq; exact h2
    | n + 3, hq => simp [kw_T] at hq
theorem kl_e0 : ∀ j, j < 25 → Cond.eq (.elem (.static RX0 "TURNS" "[I") (.int (Int32.ofNat j))) (.int (nI (kk_tn j))) ∈ flatC (Jvm.Cond.and given_1 narrow_1) := by decide +kernel
theorem kl_e1 : ∀ j, j < 25 → Cond.eq (.elem (.static RX0 "TARGETS" "[I") (.int (Int32.ofNat j))) (.int (nI (kk_tg j))) ∈ flatC (Jvm.Cond.and given_1 narrow_1) := by decide +kernel
theorem kl_e2 : ∀ j, j < 24 → Cond.eq (.elem (.static RX0 "CONSTANTS" "[J") (.int (Int32.ofNat j))) (.long (kk_rc j)) ∈ flatC (Jvm.Cond.and given_1 narrow_1) := by decide +kernel
set_option maxRecDepth 100000 in
theorem kl_B {s : State} {b : Nat} (hts : ∀ w ∈ lw_tbl, w.before #[Value.ref b] s = true) (hgv : (Jvm.Cond.and given_1 narrow_1).before #[Value.ref b] s = true) : ∃ tb : Nat → Nat, kw_B tb (fun q => s.heap.size ≤ q) s s.heap := by
  have hs := flat_of_before _ hgv
  have hA : ∀ a : Nat, a < s.heap.size → ¬ s.heap.size ≤ a := fun a h => by omega
  have hi : (Cond.initialized RX0).before #[Value.ref b] s = true := hts (.initialized RX0) (by decide +kernel)
  have hiT : (Cond.initialized Bundle.tN).before #[Value.ref b] s = true := hts (.initialized Bundle.tN) (by decide +kernel)
  obtain ⟨t0, e0, T0⟩ := va_Tof (tm := .static RX0 "TURNS" "[I") (ty := .int) (N := 25) (f := fun j => .int (nI (kk_tn j))) (A := fun q => s.heap.size ≤ q) (by decide) (hs (.arrayOf (.static RX0 "TURNS" "[I") .int) (by decide +kernel)) (va_eqt (hs (.eq (.length (.static RX0 "TURNS" "[I")) (.int 25)) (by decide +kernel))) (fun j hj => va_eqt (hs _ (kl_e0 j hj))) hA
  obtain ⟨t1, e1, T1⟩ := va_Tof (tm := .static RX0 "TARGETS" "[I") (ty := .int) (N := 25) (f := fun j => .int (nI (kk_tg j))) (A := fun q => s.heap.size ≤ q) (by decide) (hs (.arrayOf (.static RX0 "TARGETS" "[I") .int) (by decide +kernel)) (va_eqt (hs (.eq (.length (.static RX0 "TARGETS" "[I")) (.int 25)) (by decide +kernel))) (fun j hj => va_eqt (hs _ (kl_e1 j hj))) hA
  obtain ⟨t2, e2, T2⟩ := va_Tof (tm := .static RX0 "CONSTANTS" "[J") (ty := .long) (N := 24) (f := fun j => .long (kk_rc j)) (A := fun q => s.heap.size ≤ q) (by decide) (hs (.arrayOf (.static RX0 "CONSTANTS" "[J") .long) (by decide +kernel)) (va_eqt (hs (.eq (.length (.static RX0 "CONSTANTS" "[J")) (.int 24)) (by decide +kernel))) (fun j hj => va_eqtl (hs _ (kl_e2 j hj))) hA
  obtain ⟨t3, c3, cell3, k3, q1, -⟩ := Cond.exactly_spec (hs (.exactly (.string RX0 49) "java/lang/String") (by decide +kernel))
  refine ⟨fun i => if i = 0 then t0 else if i = 1 then t1 else if i = 2 then t2 else t3, ⟨va_Zref (hts (.laysStatic RX0 "TURNS" "[I") (by decide +kernel)) hi e0 hA, T0⟩, ⟨va_Zref (hts (.laysStatic RX0 "TARGETS" "[I") (by decide +kernel)) hi e1 hA, T1⟩, ⟨va_Zref (hts (.laysStatic RX0 "CONSTANTS" "[J") (by decide +kernel)) hi e2 hA, T2⟩, vx_Zqof (hts (.laysStatic Bundle.tN "UNASSIGNED_STACK" Bundle.steD) (by decide +kernel)) hiT (hs (.isRef (.static Bundle.tN "UNASSIGNED_STACK" Bundle.steD)) (by decide +kernel)) hA, vx_Zqof (hts (.laysStatic Bundle.tN "SUPPRESSED_SENTINEL" Bundle.listD) (by decide +kernel)) hiT (hs (.isRef (.static Bundle.tN "SUPPRESSED_SENTINEL" Bundle.listD)) (by decide +kernel)) hA, vk_R.of (hts (.stringRef RX0 49 "a number is out of range") (by decide +kernel)) q1, va_Nw.of rfl (hts (.castable "java/lang/IllegalArgumentException" "java/lang/IllegalArgumentException") (by decide +kernel)), va_Nw.of rfl (hts (.declares (Bundle.initS "java/lang/RuntimeException")) (by decide +kernel)), va_Nw.of rfl (hts (.declares (Bundle.initS "java/lang/Exception")) (by decide +kernel)), va_Nw.of rfl (hts (.declares (Bundle.initS Bundle.tN)) (by decide +kernel))⟩
theorem kl_rng (x : Int32) (b : Nat) (hb : b < 2 ^ 31) : (∃ k, k ≤ b ∧ x = nI k) ∨ (x < 0 ∨ ¬ x ≤ nI b) := by
  by_cases h1 : x < 0
  · exact Or.inr (Or.inl h1)
  · by_cases h2 : x ≤ nI b
    · exact Or.inl (nI_of2 (nI_toInt hb) h1 h2)
    · exact Or.inr (Or.inr h2)
theorem kl_len {L t : Nat} (hL : L ≤ 2560) (ht : t ≤ 512) : (nI L - nI 5 < nI (5 * t)) ↔ L < 5 * t + 5 := by
  rw [Int32.lt_iff_toInt_lt, pk_sub_toInt (by omega) (by omega), nI_toInt (by omega)]
  omega
theorem kl_up {α : Type} {f g : Nat → α} (h : ∀ j, j < 8 → f j = g j) (k : Nat) (a : α) : ∀ j, j < 8 → va_up f k a j = va_up g k a j := by
  intro j hj
  by_cases e : j = k
  · subst e
    rw [va_up_self, va_up_self]
  · rw [va_up_ne _ _ e, va_up_ne _ _ e]
    exact h j hj
theorem kl_up8 {α : Type} {f g : Nat → α} (h : ∀ j, j < 8 → f j = g j) (a : α) : ∀ j, j < 8 → va_up f 8 a j = g j := by
  intro j hj
  rw [va_up_ne _ _ (by omega)]
  exact h j hj
theorem kl_lt {Pl : Nat → Nat} (h : ∀ j, j < 8 → Pl j < 136) (k : Nat) {a : Nat} (ha : a < 136) : ∀ j, j < 8 → va_up Pl k a j < 136 := by
  intro j hj
  by_cases e : j = k
  · subst e
    rw [va_up_self]
    exact ha
  · rw [va_up_ne _ _ e]
    exact h j hj
theorem kl_cmp (x : Int64) : lg_cmp x x = 0 := by simp [lg_cmp]
set_option maxRecDepth 100000 in
theorem gl_clear : GoodIn lw_tbl (wsV RL 46 RX1 yX1_clear wsM_clear) := goodIn_of _ (by decide +kernel)
set_option maxRecDepth 100000 in
theorem gl_take : GoodIn lw_tbl (wsV RL 56 RX1 yX1_take wsM_take) := goodIn_of _ (by decide +kernel)
set_option maxRecDepth 100000 in
theorem gl_fill : GoodIn lw_tbl (wsV RL 60 RX1 yX1_fill wsM_fill) := goodIn_of _ (by decide +kernel)
set_option maxRecDepth 100000 in
theorem gl_copy : GoodIn lw_tbl (wsV RL 64 RX1 yX1_copy wsM_copy) := goodIn_of _ (by decide +kernel)
set_option maxRecDepth 100000 in
theorem gl_mix : GoodIn lw_tbl (wsV RL 67 RX1 yX1_mix wsM_mix) := goodIn_of _ (by decide +kernel)
set_option maxRecDepth 100000 in
theorem gl_lane : GoodIn lw_tbl (wsV RL 71 RX1 yX1_lane wsM_lane) := goodIn_of _ (by decide +kernel)
set_option maxRecDepth 100000 in
theorem gl_digest : GoodIn lw_tbl (wsV RL 74 RX1 yX1_digest wsM_digest) := goodIn_of _ (by decide +kernel)
set_option maxRecDepth 100000 in
theorem gl_thrown : GoodIn lw_tbl (wsV RL 47 RX1 yX1_thrown wsM_thrown) := goodIn_of _ (by decide +kernel)
