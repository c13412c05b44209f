section
-- ===== PART A: goes FIRST, ahead of the names: the tables' words, and 'selects' of the private methods out of them =====
/-- a private method of a class that the tables say can be made, by its rows of tables_1 -/
def lw_okq (q : MethodName × Nat) : Prop := (q.1.cls ≠ "java/lang/invoke/MethodHandle" ∧ q.1.cls ≠ "java/lang/invoke/VarHandle") ∧ Cond.instantiable q.1.cls q.2 ∈ tables_1 ∧ Cond.privateMethod q.1 ∈ tables_1 ∧ Cond.instanceMethod q.1 ∈ tables_1
theorem lw_p0 : lw_okq (⟨"java/lang/Throwable", "fillInStackTrace", "(I)Ljava/lang/Throwable;"⟩, 6) := ⟨⟨by decide +kernel, by decide +kernel⟩, List.mem_of_getElem? (i := 82) (by decide +kernel), List.mem_of_getElem? (i := 80) (by decide +kernel), List.mem_of_getElem? (i := 81) (by decide +kernel)⟩
theorem lw_p1 : lw_okq (⟨"KeccakLanes", "takeIn", "(II)V"⟩, 4) := ⟨⟨by decide +kernel, by decide +kernel⟩, List.mem_of_getElem? (i := 10) (by decide +kernel), List.mem_of_getElem? (i := 119) (by decide +kernel), List.mem_of_getElem? (i := 120) (by decide +kernel)⟩
theorem lw_p2 : lw_okq (⟨"KeccakLanes", "mixLanes", "([J)V"⟩, 4) := ⟨⟨by decide +kernel, by decide +kernel⟩, List.mem_of_getElem? (i := 10) (by decide +kernel), List.mem_of_getElem? (i := 127) (by decide +kernel), List.mem_of_getElem? (i := 128) (by decide +kernel)⟩
theorem lw_p3 : lw_okq (⟨"KeccakLanes", "sumColumns", "([J)V"⟩, 4) := ⟨⟨by decide +kernel, by decide +kernel⟩, List.mem_of_getElem? (i := 10) (by decide +kernel), List.mem_of_getElem? (i := 131) (by decide +kernel), List.mem_of_getElem? (i := 132) (by decide +kernel)⟩
theorem lw_p4 : lw_okq (⟨"KeccakLanes", "turnAndMove", "([J)V"⟩, 4) := ⟨⟨by decide +kernel, by decide +kernel⟩, List.mem_of_getElem? (i := 10) (by decide +kernel), List.mem_of_getElem? (i := 141) (by decide +kernel), List.mem_of_getElem? (i := 142) (by decide +kernel)⟩
theorem lw_p5 : lw_okq (⟨"KeccakLanes", "combineRows", "([J)V"⟩, 4) := ⟨⟨by decide +kernel, by decide +kernel⟩, List.mem_of_getElem? (i := 10) (by decide +kernel), List.mem_of_getElem? (i := 149) (by decide +kernel), List.mem_of_getElem? (i := 150) (by decide +kernel)⟩
theorem lw_p6 : lw_okq (⟨"KeccakLanes", "copyState", "(II)V"⟩, 4) := ⟨⟨by decide +kernel, by decide +kernel⟩, List.mem_of_getElem? (i := 10) (by decide +kernel), List.mem_of_getElem? (i := 170) (by decide +kernel), List.mem_of_getElem? (i := 171) (by decide +kernel)⟩
theorem lw_p7 : lw_okq (⟨"KeccakLanesModel", "out", "(I)Z"⟩, 7) := ⟨⟨by decide +kernel, by decide +kernel⟩, List.mem_of_getElem? (i := 201) (by decide +kernel), List.mem_of_getElem? (i := 241) (by decide +kernel), List.mem_of_getElem? (i := 242) (by decide +kernel)⟩
theorem lw_p8 : lw_okq (⟨"KeccakLanesModel", "fail", "(I)I"⟩, 7) := ⟨⟨by decide +kernel, by decide +kernel⟩, List.mem_of_getElem? (i := 201) (by decide +kernel), List.mem_of_getElem? (i := 249) (by decide +kernel), List.mem_of_getElem? (i := 250) (by decide +kernel)⟩
theorem lw_p9 : lw_okq (⟨"KeccakLanesModel", "get", "(I)V"⟩, 7) := ⟨⟨by decide +kernel, by decide +kernel⟩, List.mem_of_getElem? (i := 201) (by decide +kernel), List.mem_of_getElem? (i := 253) (by decide +kernel), List.mem_of_getElem? (i := 254) (by decide +kernel)⟩
theorem lw_p10 : lw_okq (⟨"KeccakLanesModel", "taken", "(II)V"⟩, 7) := ⟨⟨by decide +kernel, by decide +kernel⟩, List.mem_of_getElem? (i := 201) (by decide +kernel), List.mem_of_getElem? (i := 257) (by decide +kernel), List.mem_of_getElem? (i := 258) (by decide +kernel)⟩
theorem lw_p11 : lw_okq (⟨"KeccakLanesModel", "permute", "()V"⟩, 7) := ⟨⟨by decide +kernel, by decide +kernel⟩, List.mem_of_getElem? (i := 201) (by decide +kernel), List.mem_of_getElem? (i := 261) (by decide +kernel), List.mem_of_getElem? (i := 262) (by decide +kernel)⟩
theorem lw_p12 : lw_okq (⟨"KeccakLanesModel", "put", "(I)V"⟩, 7) := ⟨⟨by decide +kernel, by decide +kernel⟩, List.mem_of_getElem? (i := 201) (by decide +kernel), List.mem_of_getElem? (i := 269) (by decide +kernel), List.mem_of_getElem? (i := 270) (by decide +kernel)⟩
def lw_privs_1 : List (MethodName × Nat) := [(⟨"java/lang/Throwable", "fillInStackTrace", "(I)Ljava/lang/Throwable;"⟩, 6), (⟨"KeccakLanes", "takeIn", "(II)V"⟩, 4), (⟨"KeccakLanes", "mixLanes", "([J)V"⟩, 4), (⟨"KeccakLanes", "sumColumns", "([J)V"⟩, 4), (⟨"KeccakLanes", "turnAndMove", "([J)V"⟩, 4), (⟨"KeccakLanes", "combineRows", "([J)V"⟩, 4), (⟨"KeccakLanes", "copyState", "(II)V"⟩, 4), (⟨"KeccakLanesModel", "out", "(I)Z"⟩, 7), (⟨"KeccakLanesModel", "fail", "(I)I"⟩, 7), (⟨"KeccakLanesModel", "get", "(I)V"⟩, 7), (⟨"KeccakLanesModel", "taken", "(II)V"⟩, 7), (⟨"KeccakLanesModel", "permute", "()V"⟩, 7), (⟨"KeccakLanesModel", "put", "(I)V"⟩, 7)]
theorem lw_r1 : ∀ q ∈ lw_privs_1, lw_okq q := List.forall_mem_cons.mpr ⟨lw_p0, List.forall_mem_cons.mpr ⟨lw_p1, List.forall_mem_cons.mpr ⟨lw_p2, List.forall_mem_cons.mpr ⟨lw_p3, List.forall_mem_cons.mpr ⟨lw_p4, List.forall_mem_cons.mpr ⟨lw_p5, List.forall_mem_cons.mpr ⟨lw_p6, List.forall_mem_cons.mpr ⟨lw_p7, List.forall_mem_cons.mpr ⟨lw_p8, List.forall_mem_cons.mpr ⟨lw_p9, List.forall_mem_cons.mpr ⟨lw_p10, List.forall_mem_cons.mpr ⟨lw_p11, List.forall_mem_cons.mpr ⟨lw_p12, fun _ h => absurd h List.not_mem_nil⟩⟩⟩⟩⟩⟩⟩⟩⟩⟩⟩⟩⟩
def lw_privs : List (MethodName × Nat) := lw_privs_1
def lw_tbl : List Cond := k2_sels lw_privs ++ tables_1
theorem lw_privs_ok : ∀ q ∈ lw_privs, lw_okq q := lw_r1
/-! the names' row for new T[n][m] speaks of va_AOA (an array class over an array class): the kit as laid here has it not, so it stands here -/
def va_AOA (t : FieldType) (U : State) : Prop := (Cond.arrayOver (.array t)).before #[] U = true
theorem va_AOA.use {t : FieldType} {A : Array Value} {U : State} (h : va_AOA t U) : (Cond.arrayOver (.array t)).before A U = true := h
end
section
/-! ===== BEGIN words of one list among another's, by their places ===== -/
theorem goodIn_r {big : List Cond} (ws : List Cond) (ps : List Nat) (hp : ws = ps.filterMap (fun i => big[i]?)) (h : ws.all goodWord = true) : GoodIn big ws := by
  intro w hw
  have h1 := List.all_eq_true.mp h w hw
  rw [hp] at hw
  obtain ⟨i, -, hi⟩ := List.mem_filterMap.mp hw
  have hm : w ∈ big := by first | exact List.mem_of_getElem? hi | exact List.getElem?_mem hi
  exact ⟨hm, good_of_word h1⟩
theorem goodIn_app {big a b : List Cond} (ha : GoodIn big a) (hb : GoodIn big b) : GoodIn big (a ++ b) := fun w h => (List.mem_append.mp h).elim (ha w) (hb w)
theorem goodIn_ca {big a b : List Cond} {c : Cond} (ha : GoodIn big (c :: a)) (hb : GoodIn big b) : GoodIn big (c :: (a ++ b)) := fun w h => (List.mem_cons.mp h).elim (fun e => ha w (List.mem_cons.mpr (Or.inl e))) (fun h => (List.mem_append.mp h).elim (fun h => ha w (List.mem_cons.mpr (Or.inr h))) (hb w))
theorem goodIn_sub {big ws : List Cond} (hm : ∀ w ∈ ws, w ∈ big) (h : ws.all goodWord = true) : GoodIn big ws := fun w hw => ⟨hm w hw, good_of_word (List.all_eq_true.mp h w hw)⟩
/-! ===== END ===== -/

/-! ===== BEGIN new T[n][m]: the outer array a place, the inner ones among the pooled ===== -/
/-- f, but v at every address of l -/
def vr_up {α : Type} (f : Nat → α) (l : List Nat) (v : α) : Nat → α := fun a => if a ∈ l then v else f a
theorem vr_up_in {α : Type} {f : Nat → α} {l : List Nat} {v : α} {a : Nat} (h : a ∈ l) : vr_up f l v a = v := if_pos h
theorem vr_up_ne {α : Type} {f : Nat → α} {l : List Nat} {v : α} {a : Nat} (h : a ∉ l) : vr_up f l v a = f a := if_neg h
theorem vr_rows {L l : List Nat} {f : Nat → va_E} {e : va_E} (h : ∀ a, a ∈ l → a ∉ L) : va_pl L f ++ l.map (fun a => (a, e)) = va_pl (L ++ l) (vr_up f l e) := by
  unfold va_pl
  rw [List.map_append]
  congr 1
  · apply List.map_congr_left
    intro a ha
    rw [vr_up_ne (fun q => h a q ha)]
  · apply List.map_congr_left
    intro a ha
    rw [vr_up_in ha]
theorem vr_lay {X rows : va_W} {x : Nat × va_E} {pl : va_W} {D : va_G} {cl : List vw_C} {H : Heap} (hP : va_P D cl (((X ++ pl) ++ [x]) ++ rows) H) : va_P D cl ((X ++ [x]) ++ (pl ++ rows)) H := by
  rw [List.append_assoc (X ++ pl)] at hP
  have h := va_P.swap hP
  rw [← List.append_assoc X] at h
  have h2 := va_P.swap h
  rw [List.append_assoc (X ++ [x])] at h2
  exact h2
theorem vr_layD {X rows : va_W} {x : Nat × va_E} {pl : va_W} {A : Nat → Prop} (hD : va_D A (((X ++ pl) ++ [x]) ++ rows)) : va_D A ((X ++ [x]) ++ (pl ++ rows)) := by
  rw [List.append_assoc (X ++ pl)] at hD
  have h := va_D.swap hD
  rw [← List.append_assoc X] at h
  have h2 := va_D.swap h
  rw [List.append_assoc (X ++ [x])] at h2
  exact h2
theorem vr_outer (c : ClassId) (N h0 : Nat) : ∀ i : Nat, Jvm.Free.Multi.outerC c N h0 i = arrV c N (fun j => va_rf (if j < i then some (h0 + 1 + j) else none))
  | 0 => by
    show ({ cls := c, slots := Array.replicate N .null, vm := .none } : Cell) = _
    rw [arrV_new]
    refine congrArg (arrV c N) (funext fun j => ?_)
    simp [va_rf]
  | i + 1 => by
    show (Jvm.Free.Multi.outerC c N h0 i).setSlot i (.ref (h0 + 1 + i)) = _
    rw [vr_outer c N h0 i, arrV_store]
    refine congrArg (arrV c N) (funext fun j => ?_)
    by_cases e : j = i
    · subst e
      simp [updV, va_rf]
    · by_cases h : j < i
      · simp [updV, e, h, Nat.lt_succ_of_lt h]
      · simp [updV, e, h, show ¬ j < i + 1 by omega]
section VGM
variable {p : Program} {l : Launch} {e : Env} {R : Room} {s : State} {m : MethodId} {args : Array Value} {below : List Frame} {meth : Method} {c : Code} {H : Heap} {locs : List Loc} {cells slots : Nat} {Q : State → Prop}
variable {cc : ByteArray} {pc : Nat} {ls : Array Slot} {rest : List Value} {D : va_G} {cl : List vw_C} {A : Nat → Prop} {a : Nat} {tys : List (ClassId × FieldType)} {ws : va_W} {H0 : Heap}
theorem va_mna {X : va_W} {L : List Nat} {f : Nat → va_E} {cc : ByteArray} (hexec : p.tables.exec = Jvm.exec) (hb : c.code = cc) {own : String} {index : Nat} {ty : FieldType} {cy : ClassId} (hown : s.vm.findClass own = some m.cls) (hclink : (Cond.classLink own index ("[" ++ (FieldType.array ty).toString)).before args s = true) (hover : va_AOA ty s) (harr : (Cond.arrayClass ty).before args s = true) (hcy : s.vm.findClass (FieldType.array ty).toString = some cy)
    (hK : va_K D cl tys s) (hP : va_P D cl (X ++ va_pl L f) H) (hD : va_D A (X ++ va_pl L f)) (hS : va_S A H0 H locs) (hA : ∀ q, H0.size ≤ q → A q) {n k : Int32} {N' K' : Nat} {z : vp_A} (hn : ¬ n < 0) (hk : ¬ k < 0) (hN : n.toNatClampNeg = N') (hM : k.toNatClampNeg = K')
    (hb1 : N' * 4 ≤ 536870912) (hb2 : K' * componentBytes ty ≤ 536870912) (hb3 : K' ≤ 536870912) (hdf : fits ty (defaultValue ty) = true) (hdd : (defaultValue ty).isDefault = true) (hcells : cells + (1 + N') ≤ R.cells) (hslots : slots + (N' + N' * K') ≤ R.slots) (hz : ∀ c : ClassId, Jvm.Free.Multi.innerC c K' (defaultValue ty) = vp_cell c z) (hdg : decode cc pc = .ok (.multianewarray index 2, 4))
    (kk : ∀ (q : Nat) (r : Nat → Nat) (cA : ClassId) (H1 : Heap), (∀ i j : Nat, i < N' → j < N' → r i = r j → i = j) → (∀ i : Nat, i < N' → r i ∉ L) → va_K D cl (tys ++ [(cA, .array ty)]) s →
      va_P D cl ((X ++ [(q, .inl (cA, N', .inr (.inr (.inr (.inr (fun i => if i < N' then some (r i) else none))))))]) ++ va_pl (L ++ (List.range N').map r) (vr_up f ((List.range N').map r) (.inl (cy, z)))) H1 → va_D A ((X ++ [(q, .inl (cA, N', .inr (.inr (.inr (.inr (fun i => if i < N' then some (r i) else none))))))]) ++ va_pl (L ++ (List.range N').map r) (vr_up f ((List.range N').map r) (.inl (cy, z)))) → va_S A H0 H1 locs →
      W p l e R s m args below meth c H1 locs (cells + 1 + N') (slots + N' + N' * K') Q (F0 m (pc + 4) ls (.ref q :: rest))) : W p l e R s m args below meth c H locs cells slots Q (F0 m pc ls (.int k :: .int n :: rest)) := by
  subst hN
  subst hM
  intro T hT Xs
  obtain ⟨vm₁, cA, comp, -, fA, fC, hO, -, X', step⟩ := Xs.multianewarray2F hexec hown hclink (va_AOA.use hover) harr (g := F0 m pc ls (.int k :: .int n :: rest)) rfl (by rw [hb]; exact hdg) rfl hn hk hb1 hb2 hb3 hdf hdd hcells hslots
  have ec : some cy = some comp := hcy.symm.trans fC
  cases ec
  generalize hF : Jvm.Free.Multi.fill (T.setVm vm₁) cA cy n.toNatClampNeg k.toNatClampNeg (defaultValue ty) n.toNatClampNeg = F at X' step
  have hTh : (T.setVm vm₁).heap = H := hT
  obtain ⟨f1, f2, -, -⟩ := Jvm.Free.Multi.fill_facts (T.setVm vm₁) cA cy n.toNatClampNeg k.toNatClampNeg (defaultValue ty) n.toNatClampNeg
  rw [hF, hTh] at f1 f2
  have hold : ∀ x : Nat, x < H.size → F.heap[x]? = H[x]? := fun x hx => by
    have := Jvm.Free.Multi.fill_old (T.setVm vm₁) cA cy n.toNatClampNeg k.toNatClampNeg (defaultValue ty) (a := x) (by rw [hTh]; exact hx) n.toNatClampNeg
    rw [hF, hTh] at this
    exact this
  have hrow : ∀ j : Nat, j < n.toNatClampNeg → F.heap[H.size + 1 + j]? = some (vp_cell cy z) := fun j hj => by
    have := Jvm.Free.Multi.fill_inner (T.setVm vm₁) cA cy n.toNatClampNeg k.toNatClampNeg (defaultValue ty) n.toNatClampNeg j hj
    rw [hF, hTh, hz] at this
    exact this
  have hout : Jvm.Free.Multi.outerC cA n.toNatClampNeg H.size n.toNatClampNeg = vp_cell cA (n.toNatClampNeg, .inr (.inr (.inr (.inr (fun i => if i < n.toNatClampNeg then some (H.size + 1 + i) else none))))) := by
    rw [vp_cell_q]
    exact vr_outer cA n.toNatClampNeg H.size n.toNatClampNeg
  rw [hout] at f2
  have hlt : ∀ a, a ∈ L → a < H.size := fun a ha => by
    obtain ⟨k9, hk9⟩ := va_pl_get (X := X) (f := f) ha
    exact (hP k9 _ hk9).lt
  have hnl : ∀ i : Nat, i < n.toNatClampNeg → H.size + 1 + i ∉ L := fun i _ h => by
    have := hlt _ h
    omega
  have hnm : ∀ a, a ∈ (List.range n.toNatClampNeg).map (fun i => H.size + 1 + i) → a ∉ L := fun a ha h => by
    obtain ⟨i, -, rfl⟩ := List.mem_map.mp ha
    have := hlt _ h
    omega
  have hP0 : va_P D cl (X ++ va_pl L f) F.heap := hP.kept (fun k9 x hx => hold x.1 ((hP k9 x hx).lt))
  have hP1 : va_P D cl ((X ++ va_pl L f) ++ [(H.size, .inl (cA, n.toNatClampNeg, .inr (.inr (.inr (.inr (fun i => if i < n.toNatClampNeg then some (H.size + 1 + i) else none))))))]) F.heap := hP0.app (fun k9 x hx => by
    have h0 : k9 < 1 := (List.getElem?_eq_some_iff.mp hx).1
    rw [show k9 = 0 by omega] at hx
    cases hx
    exact f2)
  have hP2 : va_P D cl (((X ++ va_pl L f) ++ [(H.size, .inl (cA, n.toNatClampNeg, .inr (.inr (.inr (.inr (fun i => if i < n.toNatClampNeg then some (H.size + 1 + i) else none))))))]) ++ ((List.range n.toNatClampNeg).map (fun i => H.size + 1 + i)).map (fun a => (a, .inl (cy, z)))) F.heap := hP1.app (fun k9 x hx => by
    obtain ⟨a, ha, rfl⟩ := List.mem_map.mp (List.mem_of_getElem? hx)
    obtain ⟨i, hi, rfl⟩ := List.mem_map.mp ha
    exact hrow i (List.mem_range.mp hi))
  have hD2 : va_D A (((X ++ va_pl L f) ++ [(H.size, .inl (cA, n.toNatClampNeg, .inr (.inr (.inr (.inr (fun i => if i < n.toNatClampNeg then some (H.size + 1 + i) else none))))))]) ++ ((List.range n.toNatClampNeg).map (fun i => H.size + 1 + i)).map (fun a => (a, .inl (cy, z)))) := by
    have hD1 := hD.push (e := .inl (cA, n.toNatClampNeg, .inr (.inr (.inr (.inr (fun i => if i < n.toNatClampNeg then some (H.size + 1 + i) else none)))))) hP rfl (hA _ hS.1)
    generalize hW1 : (X ++ va_pl L f) ++ [(H.size, .inl (cA, n.toNatClampNeg, .inr (.inr (.inr (.inr (fun i => if i < n.toNatClampNeg then some (H.size + 1 + i) else none))))))] = W1 at hD1 hP1 ⊢
    have hle : ∀ (k9 : Nat) (x : Nat × va_E), W1[k9]? = some x → x.1 ≤ H.size := fun k9 x hx => by
      rw [← hW1] at hx
      by_cases hl : k9 < (X ++ va_pl L f).length
      · rw [List.getElem?_append_left hl] at hx
        exact Nat.le_of_lt ((hP k9 x hx).lt)
      · rw [List.getElem?_append_right (by omega)] at hx
        have h0 : k9 - (X ++ va_pl L f).length < 1 := (List.getElem?_eq_some_iff.mp hx).1
        rw [show k9 - (X ++ va_pl L f).length = 0 by omega] at hx
        cases hx
        exact Nat.le_refl _
    have hr : ∀ (k9 : Nat) (x : Nat × va_E), (((List.range n.toNatClampNeg).map (fun i => H.size + 1 + i)).map (fun a => ((a, .inl (cy, z)) : Nat × va_E)))[k9]? = some x → x.1 = H.size + 1 + k9 := fun k9 x hx => by
      rw [List.getElem?_map, List.getElem?_map] at hx
      by_cases h9 : k9 < n.toNatClampNeg
      · rw [List.getElem?_range h9] at hx
        cases hx
        rfl
      · have hn0 : (List.range n.toNatClampNeg)[k9]? = none := List.getElem?_eq_none (by rw [List.length_range]; omega)
        rw [hn0] at hx
        cases hx
    refine ⟨fun i j x y hi hj hxy => ?_, fun k9 x hx => ?_⟩
    · by_cases h1 : i < W1.length <;> by_cases h2 : j < W1.length
      · rw [List.getElem?_append_left h1] at hi
        rw [List.getElem?_append_left h2] at hj
        exact hD1.1 i j x y hi hj hxy
      · rw [List.getElem?_append_left h1] at hi
        rw [List.getElem?_append_right (by omega)] at hj
        have := hle _ _ hi
        have := hr _ _ hj
        omega
      · rw [List.getElem?_append_right (by omega)] at hi
        rw [List.getElem?_append_left h2] at hj
        have := hle _ _ hj
        have := hr _ _ hi
        omega
      · rw [List.getElem?_append_right (by omega)] at hi hj
        have := hr _ _ hi
        have := hr _ _ hj
        omega
    · by_cases h1 : k9 < W1.length
      · rw [List.getElem?_append_left h1] at hx
        exact hD1.2 k9 x hx
      · rw [List.getElem?_append_right (by omega)] at hx
        have := hr _ _ hx
        exact hA _ (by have := hS.1; omega)
  have hAr : ArrOfT s cA (.array ty) := fun N9 z9 => by
    obtain ⟨-, k9, hk9, cm9, hkk9⟩ := (hO 0 0 0).1
    exact ⟨(fun q hq => by cases hq), k9, hk9, cm9, hkk9⟩
  have hK2 : va_K D cl (tys ++ [(cA, .array ty)]) s := ⟨hK.1, fun k9 x hx => by
    by_cases hl : k9 < tys.length
    · rw [List.getElem?_append_left hl] at hx
      exact hK.2 k9 x hx
    · rw [List.getElem?_append_right (by omega)] at hx
      have h0 : k9 - tys.length < 1 := (List.getElem?_eq_some_iff.mp hx).1
      rw [show k9 - tys.length = 0 by omega] at hx
      cases hx
      exact ⟨hAr, fA⟩⟩
  obtain ⟨t, a1, b1⟩ := kk H.size (fun i => H.size + 1 + i) cA F.heap (fun i j _ _ h => by have h9 : H.size + 1 + i = H.size + 1 + j := h; omega) hnl hK2 (by rw [← vr_rows hnm]; exact vr_lay hP2) (by rw [← vr_rows hnm]; exact vr_layD hD2) ⟨by rw [f1]; have := hS.1; omega, fun x h1 h2 => (hold x (Nat.lt_of_lt_of_le h1 hS.1)).trans (hS.2.1 x h1 h2), hS.2.2⟩ F rfl X'
  refine ⟨t, step t ?_, b1⟩
  have e : T.heap.size = H.size := by rw [hT]
  rw [e]
  exact a1
end VGM
/-! ===== END ===== -/

/-! ===== BEGIN exceptions that leave a method, and their catching by the caller (launches without stack traces) ===== -/
section VXA
/-! The laws vx_back, vx_callV, vx_callS, vx_callSW, vx_throw0, vx_throwS follow proofs of the library, with one case more: JvmDerived/Free/Laws.lean (Back.of_free), Shelf42/LK1.lean (callV, callS), Shelf/KitTraced.lean (throwNew0V, throwNewS). -/
/-- where a method has thrown q: the class by its name, the cell, what was written, the world -/
def vx_T (XC : String → State → State → Prop) (st : State) (q : Addr) (t : State) (mc ms : Nat) (free : Addr → Prop) : Prop :=
  ∃ (E : String) (ce : Cell) (L : List Loc), XC E st t ∧ t.heap[q]? = some ce ∧ ce.vm = .none ∧ st.vm.findClass E = some ce.cls ∧ st.WarmedH t.vm ∧ st.sameButNew ({ t with vm := st.vm } : State) L mc ms ∧ ∀ z ∈ L, free z.base
def vx_Q (Qc : Array Value → State → Outcome → State → Prop) (XC : String → State → State → Prop) (mc ms : Nat) (free : Addr → Prop) : Array Value → State → Outcome → State → Prop := fun a st o t =>
  (Qc a st o t ∧ ∃ L, FrameEnd st o t L mc ms ∧ ∀ q ∈ L, free q.base) ∨ ∃ q, o = .threw q ∧ vx_T XC st q t mc ms free
/-- a callee that returns or throws -/
def vx_Met (l : Launch) (y : MethodName) (ws : List Cond) (rm : Room) (Pc : Array Value → State → Prop) (Qc : Array Value → State → Outcome → State → Prop) (XC : String → State → State → Prop) (mc ms : Nat) (free : Addr → Prop) : Prop :=
  MetFree l y (headSpec ws rm) Pc (fun _ _ _ _ _ => True) (vx_Q Qc XC mc ms free)
def vx_Post (XC : String → State → State → Prop) (mc ms : Nat) (free : Addr → Prop) : Pt → Array Value → Addr → Pt → Prop := fun A a q B =>
  ∃ (g : JFrame) (mk : MethodId) (t : State) (L : List Loc) (E : String) (ce : Cell), B.U.heap = t.heap ∧ B.U.vm = t.vm ∧ XC E (A.U.calling g mk a) t ∧ t.heap[q]? = some ce ∧ ce.vm = .none ∧ A.U.vm.findClass E = some ce.cls ∧ B.locs = A.locs ++ L ∧ (∀ z ∈ L, free z.base) ∧ B.cells = A.cells + mc ∧ B.slots = A.slots + ms
def vx_Back (l : Launch) (R : Room) (p : Program) (e : Env) (below : List Frame) (s : State) (sargs : Array Value) (y : MethodName) (len W9 : Nat)
    (Pre : Pt → Array Value → Prop) (Post : Pt → Array Value → Option Value → Pt → Prop) (PostX : Pt → Array Value → Addr → Pt → Prop) : Prop :=
  ∀ (m : MethodId) (meth : Method) (c : Code) (A : Pt) (g : JFrame) (ig : Instr) (mk : MethodId) (a : Array Value),
    Stand p l e R s m sargs below meth c A.U A.locs A.cells A.slots → g.method = m → g.locals.size = c.maxLocals → decode c.code g.pc = .ok (ig, len) →
    2 * g.monitorRoom + (g.stack.map fun v => v.category).sum ≤ W9 → A.U.methodNamed? y = some mk → Pre A a →
    (∃ (v : Option Value) (B : Pt), Stand p l e R s m sargs below meth c B.U B.locs B.cells B.slots ∧ Post A a v B ∧
      Steps p.tables e below (doInvoke e (A.U.setTop g) [] mk a).1 (B.U.setTop { g with pc := g.pc + len, stack := v.toList ++ g.stack })) ∨
    (∃ (q : Addr) (B : Pt), Stand p l e R s m sargs below meth c B.U B.locs B.cells B.slots ∧ PostX A a q B ∧
      Steps p.tables e below (doInvoke e (A.U.setTop g) [] mk a).1 ((B.U.setTop g).pushFrame (.throwing q)))
section Payer
variable {l : Launch} {R : Room} {p : Program} {e : Env} {below : List Frame} {s : State} {sargs : Array Value} {y : MethodName} {len W9 : Nat}
theorem vx_back {ws : List Cond} {rm : Room} {Pc : Array Value → State → Prop} {Qc : Array Value → State → Outcome → State → Prop} {XC : String → State → State → Prop} {mc ms : Nat} {free : Addr → Prop} {bytes : ByteArray} {maxL : Nat} {ret : Option FieldType}
    (hM : vx_Met l y ws rm Pc Qc XC mc ms free) (hblind : FrameBlind Pc) (hrc : rm.cells = mc) (hrs : rm.slots = ms)
    (hframes : rm.frames + 1 ≤ R.frames) (hlocals : W9 + (maxL + 11) + rm.locals ≤ R.locals)
    (hws : ∀ w ∈ ws, ∀ a' U, s.WarmedH U.vm → w.before a' U = true) (hcode : Cond.code y bytes maxL ret ∈ ws) (hinit : ∀ a' U, s.WarmedH U.vm → (Cond.initialized y.cls).before a' U = true) :
    vx_Back l R p e below s sargs y len W9 (PreOf R mc ms Pc) (PostOf Qc mc ms free) (vx_Post XC mc ms free) := by
  intro m meth c A g ig mk a X hg hsize hdg hW hn hp
  have h1 : (headSpec ws rm).pre.before a A.U = true := atoms_intro fun w hw => hws w hw _ _ X.warmed
  have h2 : (Cond.code y bytes maxL ret).before a A.U = true := hws _ hcode _ _ X.warmed
  have h3 : (Cond.initialized y.cls).before a A.U = true := hinit _ _ X.warmed
  have h4 : A.cells + (headSpec ws rm).room.cells ≤ R.cells := by rw [show (headSpec ws rm).room.cells = mc from hrc]; exact hp.1
  have h5 : A.slots + (headSpec ws rm).room.slots ≤ R.slots := by rw [show (headSpec ws rm).room.slots = ms from hrs]; exact hp.2.1
  have hPc : Pc a (A.U.calling g mk a) := hblind _ _ _ _ hp.2.2
  obtain ⟨U, Ls, c0, s0⟩ := A
  dsimp only [Pt.U, Pt.locs, Pt.cells, Pt.slots] at h1 h2 h3 h4 h5 X hn hPc ⊢
  obtain ⟨methY, cY, hmY, hcY, -, hlY, -, -, -, -⟩ := Cond.code_spec hn h2
  obtain ⟨kY, hkY, -⟩ := className_of_methodNamed hn
  have hinitY : kY.init = .initialized := Cond.initialized_spec (findClass_of_methodNamed hn) hkY h3
  have h : At U g.method c below := by rw [hg]; exact X.here
  have hlocals9 : W9 + (maxL + 11) + (headSpec ws rm).room.locals ≤ R.locals := hlocals
  have happ : (headSpec ws rm).appliesLoose y e.platform (U.calling g mk a) = true :=
    Spec.appliesLoose_calling (g := g) h hdg hn hkY hinitY
      (X.room_calling (g := g) (R' := (headSpec ws rm).room) hsize hmY hcY hframes (by rw [hlY]; omega) h4 h5) h1
  obtain ⟨mid, hmid⟩ := h.above
  have hfr : (U.setTop g).frames = (.java g :: mid) ++ below := by rw [State.frames_setTop' g h.top, hmid]; rfl
  obtain ⟨o, s₂, hsteps, -, hend, hq⟩ := Steps.callFree hM p X.admits X.cas X.clock (acts := []) hfr happ hPc trivial
  have hq' : vx_Q Qc XC mc ms free a (U.calling g mk a) o s₂ := hq
  rw [State.frames_setTop' g h.top] at hend
  obtain ⟨g₀, hg0⟩ := Option.isSome_iff_exists.mp h.top
  obtain ⟨r, hr⟩ := State.topJava?_eq_some.mp hg0
  have hr' : (({ U with heap := s₂.heap, slotsUsed := s₂.slotsUsed } : State).setVm s₂.vm).frames = .java g₀ :: r := hr
  rcases hq' with ⟨hqc, L, hfe, hL⟩ | ⟨q, rfl, E, ce, L, hx, hce, hcv, hcl, hW₂, hsm, hL⟩
  · obtain ⟨⟨v, rfl⟩, hW₂, e2, q2, q3, q4, q5, q6⟩ := id hfe
    have e3 : s₂ = ({ (U.calling g mk a).setFrames s₂.frames with heap := s₂.heap, slotsUsed := s₂.slotsUsed } : State).setVm s₂.vm := by
      have : s₂ = ({ s₂ with vm := (U.calling g mk a).vm } : State).setVm s₂.vm := rfl
      rw [e2] at this
      exact this
    obtain ⟨c₂, i₂, len₂, hc₂, hd₂, hf₂⟩ := hend
    have hW' : U.WarmedH s₂.vm := hW₂
    have hcc : c₂ = c := by
      have h1 : s₂.code? g.method = U.code? g.method := by
        rw [State.code?_eq, State.code?_eq, hW'.alike.method?]
      exact Option.some.inj (hc₂.symm.trans (h1.trans h.code))
    subst hcc
    have hlen : len₂ = len := by rw [hdg] at hd₂; cases hd₂; rfl
    subst hlen
    have hs₂ : s₂ = (({ U with heap := s₂.heap, slotsUsed := s₂.slotsUsed } : State).setVm s₂.vm).setTop { g with pc := g.pc + len₂, stack := v.toList ++ g.stack } := by
      refine e3.trans ?_
      rw [hf₂, State.calling_eq h.top, State.setFrames_setFrames, State.setTop_of_frames _ hr', hr]
      rfl
    have hsame : U.sameButNew ({ U with heap := s₂.heap, slotsUsed := s₂.slotsUsed } : State) L mc ms := by
      refine ⟨?_, q2, q3, q4, q5, q6⟩
      obtain ⟨t, ht, -⟩ := State.frames_cons hr
      show ({ U with heap := s₂.heap, slotsUsed := s₂.slotsUsed } : State) = { U.setFrames U.frames with heap := s₂.heap, slotsUsed := s₂.slotsUsed }
      rw [State.setFrames_self ht]
    subst hg
    refine Or.inl ⟨v, ⟨(({ U with heap := s₂.heap, slotsUsed := s₂.slotsUsed } : State).setVm s₂.vm), Ls ++ L, c0 + mc, s0 + ms⟩,
      ⟨X.admits, X.cas, X.clock, X.frames, X.room, X.hears, X.method, X.code, (X.here.setHeapUsed s₂.heap s₂.slotsUsed).setVm hW'.alike, X.tail, State.WarmedH.trans X.warmed hW', X.limits, X.bytes, X.same.trans (hsame.setVm s.vm)⟩,
      ⟨g, mk, s₂, L, rfl, rfl, hqc, rfl, hL, rfl, rfl⟩, ?_⟩
    show Steps p.tables e below _ ((({ U with heap := s₂.heap, slotsUsed := s₂.slotsUsed } : State).setVm s₂.vm).setTop { g with pc := g.pc + len₂, stack := v.toList ++ g.stack })
    rw [← hs₂]
    exact hsteps
  · obtain ⟨e2, q2, q3, q4, q5, q6⟩ := id hsm
    have e3 : s₂ = ({ (U.calling g mk a).setFrames s₂.frames with heap := s₂.heap, slotsUsed := s₂.slotsUsed } : State).setVm s₂.vm := by
      have : s₂ = ({ s₂ with vm := (U.calling g mk a).vm } : State).setVm s₂.vm := rfl
      rw [e2] at this
      exact this
    have hf₂ : s₂.frames = .throwing q :: .java g :: U.frames.tail := hend
    have hW' : U.WarmedH s₂.vm := hW₂
    have hs₂ : s₂ = ((({ U with heap := s₂.heap, slotsUsed := s₂.slotsUsed } : State).setVm s₂.vm).setTop g).pushFrame (.throwing q) := by
      refine e3.trans ?_
      rw [hf₂, State.calling_eq h.top, State.setFrames_setFrames, State.pushFrame, State.frames_setTop _ hr', State.setTop_of_frames _ hr', State.setFrames_setFrames, hr]
      rfl
    have hsame : U.sameButNew ({ U with heap := s₂.heap, slotsUsed := s₂.slotsUsed } : State) L mc ms := by
      refine ⟨?_, q2, q3, q4, q5, q6⟩
      obtain ⟨t, ht, -⟩ := State.frames_cons hr
      show ({ U with heap := s₂.heap, slotsUsed := s₂.slotsUsed } : State) = { U.setFrames U.frames with heap := s₂.heap, slotsUsed := s₂.slotsUsed }
      rw [State.setFrames_self ht]
    subst hg
    refine Or.inr ⟨q, ⟨(({ U with heap := s₂.heap, slotsUsed := s₂.slotsUsed } : State).setVm s₂.vm), Ls ++ L, c0 + mc, s0 + ms⟩,
      ⟨X.admits, X.cas, X.clock, X.frames, X.room, X.hears, X.method, X.code, (X.here.setHeapUsed s₂.heap s₂.slotsUsed).setVm hW'.alike, X.tail, State.WarmedH.trans X.warmed hW', X.limits, X.bytes, X.same.trans (hsame.setVm s.vm)⟩,
      ⟨g, mk, s₂, L, E, ce, rfl, rfl, hx, hce, hcv, hcl, rfl, hL, rfl, rfl⟩, ?_⟩
    show Steps p.tables e below _ (((({ U with heap := s₂.heap, slotsUsed := s₂.slotsUsed } : State).setVm s₂.vm).setTop g).pushFrame (.throwing q))
    rw [← hs₂]
    exact hsteps
end Payer
section Calls
variable {p : Program} {l : Launch} {e : Env} {R : Room} {s : State} {m : MethodId} {args : Array Value} {below : List Frame} {meth : Method} {c : Code} {T : State} {locs : List Loc} {cells slots : Nat}
theorem vx_callV (X : Stand p l e R s m args below meth c T locs cells slots) (hexec : p.tables.exec = Jvm.exec) {own C : String} {index : Nat} {y : MethodName} {bytes : ByteArray} {maxL : Nat} {ret : Option FieldType}
    (hown : s.vm.findClass own = some m.cls) (hlink : (Cond.methodLink own index y).before args s = true) (hinst : (Cond.instanceMethod y).before args s = true) (hsel : (Cond.selects C y y).before args s = true)
    (hcode : (Cond.code y bytes maxL ret).before args s = true) (hy : y.cls ≠ "java/lang/invoke/MethodHandle" ∧ y.cls ≠ "java/lang/invoke/VarHandle")
    {W9 : Nat} {Pre : Pt → Array Value → Prop} {Post : Pt → Array Value → Option Value → Pt → Prop} {PostX : Pt → Array Value → Addr → Pt → Prop} (hK : vx_Back l R p e below s args y 3 W9 Pre Post PostX)
    {b : Addr} {cellB : Cell} (hcell : T.heap[b]? = some cellB) (hobj : cellB.vm.isStatics = false) (hcls : s.vm.findClass C = some cellB.cls)
    {g : JFrame} (hg : g.method = m) (hsize : g.locals.size = c.maxLocals) {argsL rest : List Value} (hlen : ∀ sig, parseMethodDescriptor y.desc = some sig → argsL.length = sig.parameters.length)
    (hstack : g.stack = argsL.reverse ++ .ref b :: rest) (hW : 2 * g.monitorRoom + (rest.map fun v => v.category).sum ≤ W9) (hdg : decode c.code g.pc = .ok (.invokevirtual index, 3))
    (hpre : ∀ vm₁, s.WarmedH vm₁ → Pre ⟨T.setVm vm₁, locs, cells, slots⟩ (Value.ref b :: argsL).toArray) :
    (∃ (v : Option Value) (vm₁ : Vm) (B : Pt), s.WarmedH vm₁ ∧ Stand p l e R s m args below meth c B.U B.locs B.cells B.slots ∧ Post ⟨T.setVm vm₁, locs, cells, slots⟩ (Value.ref b :: argsL).toArray v B ∧
      ∀ target, Steps p.tables e below (B.U.setTop { g with pc := g.pc + 3, stack := v.toList ++ rest }) target → Steps p.tables e below (T.setTop g) target) ∨
    (∃ (q : Addr) (vm₁ : Vm) (B : Pt), s.WarmedH vm₁ ∧ Stand p l e R s m args below meth c B.U B.locs B.cells B.slots ∧ PostX ⟨T.setVm vm₁, locs, cells, slots⟩ (Value.ref b :: argsL).toArray q B ∧
      Steps p.tables e below (T.setTop g) ((B.U.setTop { g with stack := rest }).pushFrame (.throwing q))) := by
  obtain ⟨mk, methM, hnamed, hmethM, hstM, habM⟩ := Cond.instanceMethod_spec hinst
  obtain ⟨methM', cM, hmethM', -, -, -, -, -, -, hsigM⟩ := Cond.code_spec hnamed hcode
  cases hmethM.symm.trans hmethM'
  obtain ⟨c2, r2, m2, q1, q2, q3, q4, kP, hkP, hkPi⟩ := Cond.selects_spec hsel
  cases hcls.symm.trans q1
  cases (State.methodFound?_of_named hnamed hy).symm.trans q2
  cases hnamed.symm.trans q3
  have hselP : selectMethod e.platform s.vm cellB.cls mk = .method mk := by rw [Launch.admits_selectMethod X.admits]; exact q4
  obtain ⟨vm₁, X₁, hstep₁⟩ := X.invokevirtual hexec hown hlink hnamed hmethM hstM hkP hkPi hy (a := b) (cell := cellB) hcell
    (fun z h => by rw [h] at hobj; cases hobj) hselP hmethM habM hkP hkPi (g := g) hg (argsL := argsL) (rest := rest) (hlen _ hsigM) hstack hdg
  rcases hK m meth c ⟨T.setVm vm₁, locs, cells, slots⟩ { g with stack := rest } (.invokevirtual index) mk (Value.ref b :: argsL).toArray X₁ hg hsize hdg hW (X₁.named hnamed) (hpre vm₁ X₁.warmed) with ⟨v, B, X', hpost, hsteps⟩ | ⟨q, B, X', hpost, hsteps⟩
  · exact Or.inl ⟨v, vm₁, B, X₁.warmed, X', hpost, fun target h => hstep₁ _ fun acts => by rw [doInvoke_state]; exact hsteps.trans h⟩
  · exact Or.inr ⟨q, vm₁, B, X₁.warmed, X', hpost, hstep₁ _ fun acts => by rw [doInvoke_state]; exact hsteps⟩
theorem vx_callS (X : Stand p l e R s m args below meth c T locs cells slots) (hexec : p.tables.exec = Jvm.exec) {own : String} {index : Nat} {y : MethodName} {bytes : ByteArray} {maxL : Nat} {ret : Option FieldType}
    (hown : s.vm.findClass own = some m.cls) (hlink : (Cond.methodLink own index y).before args s = true) (hstat : (Cond.static y).before args s = true) (hinit : (Cond.initialized y.cls).before args s = true)
    (hcode : (Cond.code y bytes maxL ret).before args s = true) (hy : y.cls ≠ "java/lang/invoke/MethodHandle" ∧ y.cls ≠ "java/lang/invoke/VarHandle")
    {W9 : Nat} {Pre : Pt → Array Value → Prop} {Post : Pt → Array Value → Option Value → Pt → Prop} {PostX : Pt → Array Value → Addr → Pt → Prop} (hK : vx_Back l R p e below s args y 3 W9 Pre Post PostX)
    {g : JFrame} (hg : g.method = m) (hsize : g.locals.size = c.maxLocals) {argsL rest : List Value} (hlen : ∀ sig, parseMethodDescriptor y.desc = some sig → argsL.length = sig.parameters.length)
    (hstack : g.stack = argsL.reverse ++ rest) (hW : 2 * g.monitorRoom + (rest.map fun v => v.category).sum ≤ W9) (hdg : decode c.code g.pc = .ok (.invokestatic index, 3))
    (hpre : ∀ vm₁, s.WarmedH vm₁ → Pre ⟨T.setVm vm₁, locs, cells, slots⟩ argsL.toArray) :
    (∃ (v : Option Value) (vm₁ : Vm) (B : Pt), s.WarmedH vm₁ ∧ Stand p l e R s m args below meth c B.U B.locs B.cells B.slots ∧ Post ⟨T.setVm vm₁, locs, cells, slots⟩ argsL.toArray v B ∧
      ∀ target, Steps p.tables e below (B.U.setTop { g with pc := g.pc + 3, stack := v.toList ++ rest }) target → Steps p.tables e below (T.setTop g) target) ∨
    (∃ (q : Addr) (vm₁ : Vm) (B : Pt), s.WarmedH vm₁ ∧ Stand p l e R s m args below meth c B.U B.locs B.cells B.slots ∧ PostX ⟨T.setVm vm₁, locs, cells, slots⟩ argsL.toArray q B ∧
      Steps p.tables e below (T.setTop g) ((B.U.setTop { g with stack := rest }).pushFrame (.throwing q))) := by
  obtain ⟨mk, hnamed⟩ := Cond.code_named hcode
  obtain ⟨methM, cM, hmethM, -, -, -, -, -, -, hsigM⟩ := Cond.code_spec hnamed hcode
  have hstatic : methM.isStatic = true := Cond.static_spec hnamed hmethM hstat
  obtain ⟨kP, hkP, -⟩ := className_of_methodNamed hnamed
  have hinitP : kP.init = .initialized := Cond.initialized_spec (findClass_of_methodNamed hnamed) hkP hinit
  obtain ⟨vm₁, X₁, hstep₁⟩ := X.invokestatic hexec hown hlink hnamed hmethM hstatic hkP hinitP hy (g := g) hg (argsL := argsL) (rest := rest) (hlen _ hsigM) hstack hdg
  rcases hK m meth c ⟨T.setVm vm₁, locs, cells, slots⟩ { g with stack := rest } (.invokestatic index) mk argsL.toArray X₁ hg hsize hdg hW (X₁.named hnamed) (hpre vm₁ X₁.warmed) with ⟨v, B, X', hpost, hsteps⟩ | ⟨q, B, X', hpost, hsteps⟩
  · exact Or.inl ⟨v, vm₁, B, X₁.warmed, X', hpost, fun target h => hstep₁ _ fun acts => by rw [doInvoke_state]; exact hsteps.trans h⟩
  · exact Or.inr ⟨q, vm₁, B, X₁.warmed, X', hpost, hstep₁ _ fun acts => by rw [doInvoke_state]; exact hsteps⟩
end Calls
theorem vx_cls {s : State} {T : State} {vm₁ : Vm} {E : String} {k : ClassId} (hW : s.WarmedH vm₁) (h : (T.setVm vm₁).vm.findClass E = some k) : s.vm.findClass E = some k := by
  have h1 : vm₁.findClass E = some k := h
  rw [hW.alike.findClass] at h1
  exact h1
/-- the method's frame g, with q thrown over it -/
def vx_W (p : Program) (l : Launch) (e : Env) (R : Room) (s : State) (m : MethodId) (args : Array Value) (below : List Frame) (meth : Method) (c : Code) (H : Heap) (locs : List Loc) (cells slots : Nat) (Q : State → Prop) (g : JFrame) (q : Addr) : Prop :=
  ∀ T : State, T.heap = H → Stand p l e R s m args below meth c T locs cells slots → ∃ t, Steps p.tables e below ((T.setTop g).pushFrame (.throwing q)) t ∧ Q t
def vx_Run (p : Program) (l : Launch) (e : Env) (R : Room) (s : State) (m : MethodId) (args : Array Value) (below : List Frame) (meth : Method) (c : Code) (H : Heap) (locs : List Loc) (cells slots mc ms : Nat) (g : JFrame) (rest : List Value) (Qa : State → Outcome → State → Prop) (XC : String → State → State → Prop) (free : Addr → Prop) : Prop :=
  ∀ T : State, T.heap = H → Stand p l e R s m args below meth c T locs cells slots →
    (∃ (v : Option Value) (st₀ t T' : State) (L : List Loc), st₀.heap = H ∧ Stand p l e R s m args below meth c T' (locs ++ L) (cells + mc) (slots + ms) ∧ (∀ q ∈ L, free q.base) ∧ T'.heap = t.heap ∧ T'.vm = t.vm ∧ Qa st₀ (.returned v) t ∧
      Goes p e below T g T' { g with pc := g.pc + 3, stack := v.toList ++ rest }) ∨
    (∃ (q : Addr) (st₀ t T' : State) (L : List Loc) (E : String) (ce : Cell), st₀.heap = H ∧ Stand p l e R s m args below meth c T' (locs ++ L) (cells + mc) (slots + ms) ∧ (∀ z ∈ L, free z.base) ∧ T'.heap = t.heap ∧ T'.vm = t.vm ∧ XC E st₀ t ∧ t.heap[q]? = some ce ∧ ce.vm = .none ∧ s.vm.findClass E = some ce.cls ∧
      Steps p.tables e below (T.setTop g) ((T'.setTop { g with stack := rest }).pushFrame (.throwing q)))
def vx_X {S : Type} (px : S → Prop) (B : String → S → State → Prop) (A : Nat → Prop) : String → State → State → Prop := fun E st t => ∃ u : S, px u ∧ B E u t ∧ va_F A st t
section Runs
variable {p : Program} {l : Launch} {e : Env} {R : Room} {s : State} {m : MethodId} {args : Array Value} {below : List Frame} {meth : Method} {c : Code} {H : Heap} {locs : List Loc} {cells slots : Nat}
variable {y : MethodName} {bytes cc : ByteArray} {maxL nL mc ms n index : Nat} {ret : Option FieldType} {ws : List Cond} {rm : Room} {Pc : Array Value → State → Prop} {Qc : Array Value → State → Outcome → State → Prop} {XC : String → State → State → Prop} {free : Addr → Prop} {Ts : List Cond} {own C : String} {b : Addr} {As rest : List Value} {g : JFrame}
theorem vx_callBack (cb : CallB R s args own index y bytes maxL ret ws rm mc ms n) (hM : vx_Met l y ws rm Pc Qc XC mc ms free) (hbl : FrameBlind Pc) : vx_Back l R p e below s args y 3 8 (PreOf R mc ms Pc) (PostOf Qc mc ms free) (vx_Post XC mc ms free) := by
  obtain ⟨hrc, hrs, hfr, hlo, hws, hcw, -, hini, -⟩ := cb
  exact vx_back (bytes := bytes) (maxL := maxL) (ret := ret) hM hbl hrc hrs hfr hlo hws hcw (fun a' U hW => word_at hW (Or.inl (by first | rfl | simp [Cond.onTables, Cond.keeps, Cond.steady])) hini)
theorem vx_runV (S : CallFix p m c cc nL s args Ts own) (hM : vx_Met l y ws rm Pc Qc XC mc ms free) (cw : CallW R s args own C index y bytes maxL ret ws rm mc ms n) (hp : PreV s H C b Pc As)
    (hg : g.method = m) (hn : As.length = n) (hsize : g.locals.size = nL) (hstack : g.stack = As.reverse ++ .ref b :: rest) (hW : 2 * g.monitorRoom + (rest.map fun v => v.category).sum ≤ 8) (hdg : decode cc g.pc = .ok (.invokevirtual index, 3)) (hf : cells + mc ≤ R.cells ∧ slots + ms ≤ R.slots) :
    vx_Run p l e R s m args below meth c H locs cells slots mc ms g rest (Qc (Value.ref b :: As).toArray) XC free := by
  have hK : vx_Back l R p e below s args y 3 8 (PreOf R mc ms Pc) (PostOf Qc mc ms free) (vx_Post XC mc ms free) := vx_callBack cw.1 hM hp.1
  obtain ⟨⟨-, -, -, -, -, -, hcode, -, hy, hlen, hl⟩, hin, hse⟩ := cw
  obtain ⟨hx, hb, hml, ho, -⟩ := S
  obtain ⟨-, ⟨cellB, hcB, hoB, hclB⟩, hPc⟩ := hp
  intro T hT X
  rcases vx_callV X hx (C := C) (bytes := bytes) (maxL := maxL) (ret := ret) ho hl hin hse hcode hy hK (by rw [hT]; exact hcB) hoB hclB hg (hsize.trans hml.symm) (argsL := As) (rest := rest) (fun sig h => hn.trans (hlen sig h)) hstack hW (by rw [hb]; exact hdg)
    (fun vm₁ hW₁ => ⟨hf.1, hf.2, hPc (T.setVm vm₁) hT hW₁⟩) with ⟨v, vm₁, ⟨U', l2, c2, s2⟩, hW₁, X', ⟨g', mk, t, L, e1, e2, hq, h1, hL, h2, h3⟩, st⟩ | ⟨q, vm₁, ⟨U', l2, c2, s2⟩, hW₁, X', ⟨g', mk, t, L, E, ce, e1, e2, hq, hce, hcv, hcl, h1, hL, h2, h3⟩, st⟩
  · dsimp only [Pt.U, Pt.locs, Pt.cells, Pt.slots] at X' e1 e2 h1 h2 h3 st
    subst h1; subst h2; subst h3
    exact Or.inl ⟨v, (T.setVm vm₁).calling g' mk (Value.ref b :: As).toArray, t, U', L, hT, X', hL, e1, e2, hq, st⟩
  · dsimp only [Pt.U, Pt.locs, Pt.cells, Pt.slots] at X' e1 e2 h1 h2 h3 st hcl
    subst h1; subst h2; subst h3
    exact Or.inr ⟨q, (T.setVm vm₁).calling g' mk (Value.ref b :: As).toArray, t, U', L, E, ce, hT, X', hL, e1, e2, hq, hce, hcv, vx_cls hW₁ hcl, st⟩
theorem vx_runS (S : CallFix p m c cc nL s args Ts own) (hM : vx_Met l y ws rm Pc Qc XC mc ms free) (cw : CallB R s args own index y bytes maxL ret ws rm mc ms n ∧ (Cond.static y).before args s = true) (hp : PreS s H Pc As)
    (hg : g.method = m) (hn : As.length = n) (hsize : g.locals.size = nL) (hstack : g.stack = As.reverse ++ rest) (hW : 2 * g.monitorRoom + (rest.map fun v => v.category).sum ≤ 8) (hdg : decode cc g.pc = .ok (.invokestatic index, 3)) (hf : cells + mc ≤ R.cells ∧ slots + ms ≤ R.slots) :
    vx_Run p l e R s m args below meth c H locs cells slots mc ms g rest (Qc As.toArray) XC free := by
  have hK : vx_Back l R p e below s args y 3 8 (PreOf R mc ms Pc) (PostOf Qc mc ms free) (vx_Post XC mc ms free) := vx_callBack cw.1 hM hp.1
  obtain ⟨⟨-, -, -, -, -, -, hcode, hini, hy, hlen, hl⟩, hstt⟩ := cw
  obtain ⟨hx, hb, hml, ho, -⟩ := S
  intro T hT X
  rcases vx_callS X hx (bytes := bytes) (maxL := maxL) (ret := ret) ho hl hstt hini hcode hy hK hg (hsize.trans hml.symm) (argsL := As) (rest := rest) (fun sig h => hn.trans (hlen sig h)) hstack hW (by rw [hb]; exact hdg)
    (fun vm₁ hW₁ => ⟨hf.1, hf.2, hp.2 (T.setVm vm₁) hT hW₁⟩) with ⟨v, vm₁, ⟨U', l2, c2, s2⟩, hW₁, X', ⟨g', mk, t, L, e1, e2, hq, h1, hL, h2, h3⟩, st⟩ | ⟨q, vm₁, ⟨U', l2, c2, s2⟩, hW₁, X', ⟨g', mk, t, L, E, ce, e1, e2, hq, hce, hcv, hcl, h1, hL, h2, h3⟩, st⟩
  · dsimp only [Pt.U, Pt.locs, Pt.cells, Pt.slots] at X' e1 e2 h1 h2 h3 st
    subst h1; subst h2; subst h3
    exact Or.inl ⟨v, (T.setVm vm₁).calling g' mk As.toArray, t, U', L, hT, X', hL, e1, e2, hq, st⟩
  · dsimp only [Pt.U, Pt.locs, Pt.cells, Pt.slots] at X' e1 e2 h1 h2 h3 st hcl
    subst h1; subst h2; subst h3
    exact Or.inr ⟨q, (T.setVm vm₁).calling g' mk As.toArray, t, U', L, E, ce, hT, X', hL, e1, e2, hq, hce, hcv, vx_cls hW₁ hcl, st⟩
end Runs
section Rows
variable {p : Program} {l : Launch} {e : Env} {R : Room} {s : State} {m : MethodId} {args : Array Value} {below : List Frame} {meth : Method} {c : Code} {H : Heap} {locs : List Loc} {cells slots : Nat} {Q : State → Prop}
variable {mc ms : Nat} {free : Addr → Prop} {A0 A1 : Nat → Prop} {H0 : Heap} {a : Array Value} {pc : Nat} {ls : Array Slot} {st0 rest : List Value}
theorem vx_keep {st₀ t T' : State} {L : List Loc} (h0 : st₀.heap = H) (e1 : T'.heap = t.heap) (hS : va_S A0 H0 H locs) (hA : ∀ q, q < H.size → A1 q → A0 q) (hf : ∀ q, free q → A0 q) (hL : ∀ q ∈ L, free q.base) (hF : va_F A1 st₀ t) :
    H.size ≤ T'.heap.size ∧ (∀ q : Nat, q < H.size → ¬ A1 q → T'.heap[q]? = H[q]?) ∧ va_S A0 H0 T'.heap (locs ++ L) := by
  obtain ⟨hz, hk⟩ := hF
  rw [h0] at hz hk
  exact ⟨by rw [e1]; exact hz, fun q h1 h2 => by rw [e1]; exact hk q h1 h2,
    ⟨Nat.le_trans hS.1 (by rw [e1]; exact hz), fun q h1 h2 => by rw [e1, hk q (Nat.lt_of_lt_of_le h1 hS.1) (fun z => h2 (hA q (Nat.lt_of_lt_of_le h1 hS.1) z))]; exact hS.2.1 q h1 h2, fun q hq => by
      rcases List.mem_append.mp hq with h | h
      · exact hS.2.2 q h
      · exact hf _ (hL q h)⟩⟩
theorem vx_calli {S SX : Type} {post : Int32 → S → Prop} {px : SX → Prop} {B : S → State → Prop} {BX : String → SX → State → Prop} {AX : Nat → Prop} (hr : vx_Run p l e R s m args below meth c H locs cells slots mc ms (F0 m pc ls st0) rest (va_Qi post B A1 a) (vx_X px BX AX) free) (hS : va_S A0 H0 H locs) (hA : ∀ q, q < H.size → A1 q → A0 q) (hf : ∀ q, free q → A0 q) (hAX : ∀ q, q < H.size → AX q → A0 q)
    (kx : ∀ (E : String) (ce : Cell) (q9 : Addr) (u : SX) (t : State) (H1 : Heap) (locs1 : List Loc), t.heap = H1 → s.vm.Alike t.vm → px u → BX E u t → H.size ≤ H1.size → (∀ q : Nat, q < H.size → ¬ AX q → H1[q]? = H[q]?) → va_S A0 H0 H1 locs1 → H1[q9]? = some ce → ce.vm = .none → s.vm.findClass E = some ce.cls → vx_W p l e R s m args below meth c H1 locs1 (cells + mc) (slots + ms) Q (F0 m pc ls rest) q9)
    (kk : ∀ (r : Int32) (u : S) (t : State) (H1 : Heap) (locs1 : List Loc), t.heap = H1 → s.vm.Alike t.vm → post r u → B u t → H.size ≤ H1.size → (∀ q : Nat, q < H.size → ¬ A1 q → H1[q]? = H[q]?) → va_S A0 H0 H1 locs1 → W p l e R s m args below meth c H1 locs1 (cells + mc) (slots + ms) Q (F0 m (pc + 3) ls (.int r :: rest))) : W p l e R s m args below meth c H locs cells slots Q (F0 m pc ls st0) := by
  intro T hT X
  rcases hr T hT X with ⟨v, st₀, t, T', L, h0, X', hL, e1, e2, ⟨⟨r, u, hv, hp, hb⟩, hF⟩, st⟩ | ⟨q, st₀, t, T', L, E, ce, h0, X', hL, e1, e2, ⟨u, hp, hb, hF⟩, hce, hcv, hcl, st⟩
  · cases hv
    obtain ⟨k1, k2, k3⟩ := vx_keep h0 e1 hS hA hf hL hF
    obtain ⟨t2, a1, b1⟩ := kk r u t T'.heap (locs ++ L) e1.symm (by rw [← e2]; exact X'.warmed.alike) hp hb k1 k2 k3 T' rfl X'
    exact ⟨t2, st t2 a1, b1⟩
  · obtain ⟨k1, k2, k3⟩ := vx_keep h0 e1 hS hAX hf hL hF
    obtain ⟨t2, a1, b1⟩ := kx E ce q u t T'.heap (locs ++ L) e1.symm (by rw [← e2]; exact X'.warmed.alike) hp hb k1 k2 k3 (by rw [e1]; exact hce) hcv hcl T' rfl X'
    exact ⟨t2, st.trans a1, b1⟩
theorem vx_calll {S SX : Type} {post : Int64 → S → Prop} {px : SX → Prop} {B : S → State → Prop} {BX : String → SX → State → Prop} {AX : Nat → Prop} (hr : vx_Run p l e R s m args below meth c H locs cells slots mc ms (F0 m pc ls st0) rest (va_Ql post B A1 a) (vx_X px BX AX) free) (hS : va_S A0 H0 H locs) (hA : ∀ q, q < H.size → A1 q → A0 q) (hf : ∀ q, free q → A0 q) (hAX : ∀ q, q < H.size → AX q → A0 q)
    (kx : ∀ (E : String) (ce : Cell) (q9 : Addr) (u : SX) (t : State) (H1 : Heap) (locs1 : List Loc), t.heap = H1 → s.vm.Alike t.vm → px u → BX E u t → H.size ≤ H1.size → (∀ q : Nat, q < H.size → ¬ AX q → H1[q]? = H[q]?) → va_S A0 H0 H1 locs1 → H1[q9]? = some ce → ce.vm = .none → s.vm.findClass E = some ce.cls → vx_W p l e R s m args below meth c H1 locs1 (cells + mc) (slots + ms) Q (F0 m pc ls rest) q9)
    (kk : ∀ (r : Int64) (u : S) (t : State) (H1 : Heap) (locs1 : List Loc), t.heap = H1 → s.vm.Alike t.vm → post r u → B u t → H.size ≤ H1.size → (∀ q : Nat, q < H.size → ¬ A1 q → H1[q]? = H[q]?) → va_S A0 H0 H1 locs1 → W p l e R s m args below meth c H1 locs1 (cells + mc) (slots + ms) Q (F0 m (pc + 3) ls (.long r :: rest))) : W p l e R s m args below meth c H locs cells slots Q (F0 m pc ls st0) := by
  intro T hT X
  rcases hr T hT X with ⟨v, st₀, t, T', L, h0, X', hL, e1, e2, ⟨⟨r, u, hv, hp, hb⟩, hF⟩, st⟩ | ⟨q, st₀, t, T', L, E, ce, h0, X', hL, e1, e2, ⟨u, hp, hb, hF⟩, hce, hcv, hcl, st⟩
  · cases hv
    obtain ⟨k1, k2, k3⟩ := vx_keep h0 e1 hS hA hf hL hF
    obtain ⟨t2, a1, b1⟩ := kk r u t T'.heap (locs ++ L) e1.symm (by rw [← e2]; exact X'.warmed.alike) hp hb k1 k2 k3 T' rfl X'
    exact ⟨t2, st t2 a1, b1⟩
  · obtain ⟨k1, k2, k3⟩ := vx_keep h0 e1 hS hAX hf hL hF
    obtain ⟨t2, a1, b1⟩ := kx E ce q u t T'.heap (locs ++ L) e1.symm (by rw [← e2]; exact X'.warmed.alike) hp hb k1 k2 k3 (by rw [e1]; exact hce) hcv hcl T' rfl X'
    exact ⟨t2, st.trans a1, b1⟩
theorem vx_callf {S SX : Type} {post : UInt32 → S → Prop} {px : SX → Prop} {B : S → State → Prop} {BX : String → SX → State → Prop} {AX : Nat → Prop} (hr : vx_Run p l e R s m args below meth c H locs cells slots mc ms (F0 m pc ls st0) rest (va_Qf post B A1 a) (vx_X px BX AX) free) (hS : va_S A0 H0 H locs) (hA : ∀ q, q < H.size → A1 q → A0 q) (hf : ∀ q, free q → A0 q) (hAX : ∀ q, q < H.size → AX q → A0 q)
    (kx : ∀ (E : String) (ce : Cell) (q9 : Addr) (u : SX) (t : State) (H1 : Heap) (locs1 : List Loc), t.heap = H1 → s.vm.Alike t.vm → px u → BX E u t → H.size ≤ H1.size → (∀ q : Nat, q < H.size → ¬ AX q → H1[q]? = H[q]?) → va_S A0 H0 H1 locs1 → H1[q9]? = some ce → ce.vm = .none → s.vm.findClass E = some ce.cls → vx_W p l e R s m args below meth c H1 locs1 (cells + mc) (slots + ms) Q (F0 m pc ls rest) q9)
    (kk : ∀ (r : UInt32) (u : S) (t : State) (H1 : Heap) (locs1 : List Loc), t.heap = H1 → s.vm.Alike t.vm → post r u → B u t → H.size ≤ H1.size → (∀ q : Nat, q < H.size → ¬ A1 q → H1[q]? = H[q]?) → va_S A0 H0 H1 locs1 → W p l e R s m args below meth c H1 locs1 (cells + mc) (slots + ms) Q (F0 m (pc + 3) ls (.float r :: rest))) : W p l e R s m args below meth c H locs cells slots Q (F0 m pc ls st0) := by
  intro T hT X
  rcases hr T hT X with ⟨v, st₀, t, T', L, h0, X', hL, e1, e2, ⟨⟨r, u, hv, hp, hb⟩, hF⟩, st⟩ | ⟨q, st₀, t, T', L, E, ce, h0, X', hL, e1, e2, ⟨u, hp, hb, hF⟩, hce, hcv, hcl, st⟩
  · cases hv
    obtain ⟨k1, k2, k3⟩ := vx_keep h0 e1 hS hA hf hL hF
    obtain ⟨t2, a1, b1⟩ := kk r u t T'.heap (locs ++ L) e1.symm (by rw [← e2]; exact X'.warmed.alike) hp hb k1 k2 k3 T' rfl X'
    exact ⟨t2, st t2 a1, b1⟩
  · obtain ⟨k1, k2, k3⟩ := vx_keep h0 e1 hS hAX hf hL hF
    obtain ⟨t2, a1, b1⟩ := kx E ce q u t T'.heap (locs ++ L) e1.symm (by rw [← e2]; exact X'.warmed.alike) hp hb k1 k2 k3 (by rw [e1]; exact hce) hcv hcl T' rfl X'
    exact ⟨t2, st.trans a1, b1⟩
theorem vx_calld {S SX : Type} {post : UInt64 → S → Prop} {px : SX → Prop} {B : S → State → Prop} {BX : String → SX → State → Prop} {AX : Nat → Prop} (hr : vx_Run p l e R s m args below meth c H locs cells slots mc ms (F0 m pc ls st0) rest (va_Qd post B A1 a) (vx_X px BX AX) free) (hS : va_S A0 H0 H locs) (hA : ∀ q, q < H.size → A1 q → A0 q) (hf : ∀ q, free q → A0 q) (hAX : ∀ q, q < H.size → AX q → A0 q)
    (kx : ∀ (E : String) (ce : Cell) (q9 : Addr) (u : SX) (t : State) (H1 : Heap) (locs1 : List Loc), t.heap = H1 → s.vm.Alike t.vm → px u → BX E u t → H.size ≤ H1.size → (∀ q : Nat, q < H.size → ¬ AX q → H1[q]? = H[q]?) → va_S A0 H0 H1 locs1 → H1[q9]? = some ce → ce.vm = .none → s.vm.findClass E = some ce.cls → vx_W p l e R s m args below meth c H1 locs1 (cells + mc) (slots + ms) Q (F0 m pc ls rest) q9)
    (kk : ∀ (r : UInt64) (u : S) (t : State) (H1 : Heap) (locs1 : List Loc), t.heap = H1 → s.vm.Alike t.vm → post r u → B u t → H.size ≤ H1.size → (∀ q : Nat, q < H.size → ¬ A1 q → H1[q]? = H[q]?) → va_S A0 H0 H1 locs1 → W p l e R s m args below meth c H1 locs1 (cells + mc) (slots + ms) Q (F0 m (pc + 3) ls (.double r :: rest))) : W p l e R s m args below meth c H locs cells slots Q (F0 m pc ls st0) := by
  intro T hT X
  rcases hr T hT X with ⟨v, st₀, t, T', L, h0, X', hL, e1, e2, ⟨⟨r, u, hv, hp, hb⟩, hF⟩, st⟩ | ⟨q, st₀, t, T', L, E, ce, h0, X', hL, e1, e2, ⟨u, hp, hb, hF⟩, hce, hcv, hcl, st⟩
  · cases hv
    obtain ⟨k1, k2, k3⟩ := vx_keep h0 e1 hS hA hf hL hF
    obtain ⟨t2, a1, b1⟩ := kk r u t T'.heap (locs ++ L) e1.symm (by rw [← e2]; exact X'.warmed.alike) hp hb k1 k2 k3 T' rfl X'
    exact ⟨t2, st t2 a1, b1⟩
  · obtain ⟨k1, k2, k3⟩ := vx_keep h0 e1 hS hAX hf hL hF
    obtain ⟨t2, a1, b1⟩ := kx E ce q u t T'.heap (locs ++ L) e1.symm (by rw [← e2]; exact X'.warmed.alike) hp hb k1 k2 k3 (by rw [e1]; exact hce) hcv hcl T' rfl X'
    exact ⟨t2, st.trans a1, b1⟩
theorem vx_callv {S SX : Type} {post : S → Prop} {px : SX → Prop} {B : S → State → Prop} {BX : String → SX → State → Prop} {AX : Nat → Prop} (hr : vx_Run p l e R s m args below meth c H locs cells slots mc ms (F0 m pc ls st0) rest (va_Qv post B A1 a) (vx_X px BX AX) free) (hS : va_S A0 H0 H locs) (hA : ∀ q, q < H.size → A1 q → A0 q) (hf : ∀ q, free q → A0 q) (hAX : ∀ q, q < H.size → AX q → A0 q)
    (kx : ∀ (E : String) (ce : Cell) (q9 : Addr) (u : SX) (t : State) (H1 : Heap) (locs1 : List Loc), t.heap = H1 → s.vm.Alike t.vm → px u → BX E u t → H.size ≤ H1.size → (∀ q : Nat, q < H.size → ¬ AX q → H1[q]? = H[q]?) → va_S A0 H0 H1 locs1 → H1[q9]? = some ce → ce.vm = .none → s.vm.findClass E = some ce.cls → vx_W p l e R s m args below meth c H1 locs1 (cells + mc) (slots + ms) Q (F0 m pc ls rest) q9)
    (kk : ∀ (u : S) (t : State) (H1 : Heap) (locs1 : List Loc), t.heap = H1 → s.vm.Alike t.vm → post u → B u t → H.size ≤ H1.size → (∀ q : Nat, q < H.size → ¬ A1 q → H1[q]? = H[q]?) → va_S A0 H0 H1 locs1 → W p l e R s m args below meth c H1 locs1 (cells + mc) (slots + ms) Q (F0 m (pc + 3) ls (rest))) : W p l e R s m args below meth c H locs cells slots Q (F0 m pc ls st0) := by
  intro T hT X
  rcases hr T hT X with ⟨v, st₀, t, T', L, h0, X', hL, e1, e2, ⟨⟨u, hv, hp, hb⟩, hF⟩, st⟩ | ⟨q, st₀, t, T', L, E, ce, h0, X', hL, e1, e2, ⟨u, hp, hb, hF⟩, hce, hcv, hcl, st⟩
  · cases hv
    obtain ⟨k1, k2, k3⟩ := vx_keep h0 e1 hS hA hf hL hF
    obtain ⟨t2, a1, b1⟩ := kk u t T'.heap (locs ++ L) e1.symm (by rw [← e2]; exact X'.warmed.alike) hp hb k1 k2 k3 T' rfl X'
    exact ⟨t2, st t2 a1, b1⟩
  · obtain ⟨k1, k2, k3⟩ := vx_keep h0 e1 hS hAX hf hL hF
    obtain ⟨t2, a1, b1⟩ := kx E ce q u t T'.heap (locs ++ L) e1.symm (by rw [← e2]; exact X'.warmed.alike) hp hb k1 k2 k3 (by rw [e1]; exact hce) hcv hcl T' rfl X'
    exact ⟨t2, st.trans a1, b1⟩
/-- caught by the row x of this method's table; the rows ahead don't take it -/
theorem vx_catch {own name : String} {E : String} {ce : Cell} {q : Addr} (hown : s.vm.findClass own = some m.cls) (pre : List ExceptionTableEntry) (x : ExceptionTableEntry) (suf : List ExceptionTableEntry) (hsplit : c.exceptionTable.toList = pre ++ x :: suf)
    (hpass : ∀ z ∈ pre, covers z pc = false ∨ (z.catchType ≠ 0 ∧ ∃ nm : String, (Cond.classLink own z.catchType nm).before args s = true ∧ va_Nc E nm s)) (hx : covers x pc = true) (h0 : x.catchType ≠ 0)
    (hlink : (Cond.classLink own x.catchType name).before args s = true) (hcast : (Cond.castable E name).before args s = true) (hcell : H[q]? = some ce) (hv : ce.vm = .none) (hcl : s.vm.findClass E = some ce.cls)
    (kk : W p l e R s m args below meth c H locs cells slots Q (F0 m x.handlerPc ls [.ref q])) : vx_W p l e R s m args below meth c H locs cells slots Q (F0 m pc ls rest) q := by
  intro T hT X
  have hpl : e.platform.magicAccessors = ({} : Platform).magicAccessors := by rw [X.admits.platform]
  obtain ⟨c3, c4, hc3, hc4, hasg⟩ := Cond.castable_spec hcast
  cases Option.some.inj (hc3.symm.trans hcl)
  obtain ⟨c5, hc5, hcl5⟩ := Cond.classLink_spec hown hlink e.platform hpl
  cases Option.some.inj (hc4.symm.trans hc5)
  obtain ⟨vm', X', st⟩ := X.thenCaughtThrough q (g := F0 m pc ls rest) rfl (Steps.refl _) (by rw [hT]; exact hcell) (by rw [hv]; rfl) (by obtain ⟨k9, h9, -⟩ := Vm.findClass_spec hcl; exact ⟨k9, h9⟩) pre x suf hsplit
    (fun z hz => by
      rcases hpass z hz with h | ⟨hz0, nm, hl1, hn1⟩
      · exact Or.inl h
      · obtain ⟨c6, hc6, hcl6⟩ := Cond.classLink_spec hown hl1 e.platform hpl
        obtain ⟨a8, b8, h1, h2, h3⟩ := hn1
        cases Option.some.inj (h1.symm.trans hcl)
        cases Option.some.inj (h2.symm.trans hc6)
        exact Or.inr ⟨hz0, _, hcl6, h3⟩) hx (Or.inr ⟨h0, c4, hcl5, hasg⟩)
  obtain ⟨t, a1, b1⟩ := kk (T.setVm vm') hT X'
  exact ⟨t, st.trans a1, b1⟩
end Rows
section Ends
variable {p : Program} {l : Launch} {e : Env} {R : Room} {s : State} {m : MethodId} {args : Array Value} {below : List Frame} {meth : Method} {c : Code} {H : Heap} {locs : List Loc} {cells slots : Nat} {Q : State → Prop}
variable {mc ms : Nat} {free : Addr → Prop} {A0 A1 : Nat → Prop} {H0 : Heap} {a : Array Value} {ls : Array Slot} {st0 rest : List Value}
variable {Qc : Array Value → State → Outcome → State → Prop} {XC : String → State → State → Prop}
/-- what a body that may throw owes at its end -/
def vx_MQ (below : List Frame) (Qc : Array Value → State → Outcome → State → Prop) (XC : String → State → State → Prop) (a : Array Value) (s : State) (mc ms : Nat) (free : Addr → Prop) : State → Prop := fun t =>
  ∃ o, t.status = .running ∧ Ended t below o ∧ vx_Q Qc XC mc ms free a s o t
theorem vx_ret {g : JFrame} {mc ms : Nat} (k : W p l e R s m args below meth c H locs cells slots (MQ below Qc args s mc ms free) g) : W p l e R s m args below meth c H locs cells slots (vx_MQ below Qc XC args s mc ms free) g := by
  intro T hT X
  obtain ⟨t, a1, o, b1, b2, b3, b4⟩ := k T hT X
  exact ⟨t, a1, o, b1, b2, Or.inl ⟨b3, b4⟩⟩
/-- not caught here: it goes on to the caller -/
theorem vx_widen {g : JFrame} {q : Addr} {k n : Nat} (h1 : cells ≤ k) (h2 : slots ≤ n) (kk : vx_W p l e R s m args below meth c H locs k n Q g q) : vx_W p l e R s m args below meth c H locs cells slots Q g q := fun T hT X => kk T hT (stand_widen X h1 h2)
theorem vx_out {pc : Nat} {E : String} {ce : Cell} {q : Addr} {mc ms : Nat} (hout : ∀ x ∈ c.exceptionTable.toList, covers x pc = false) (hlocks : meth.locks = false) (hcell : H[q]? = some ce) (hv : ce.vm = .none) (hcl : s.vm.findClass E = some ce.cls)
    (hx : ∀ t : State, t.heap = H → s.vm.Alike t.vm → XC E s t) (hf : ∀ z ∈ locs, free z.base) (hc : cells ≤ mc) (hs : slots ≤ ms) :
    vx_W p l e R s m args below meth c H locs cells slots (vx_MQ below Qc XC args s mc ms free) (F0 m pc ls rest) q := by
  intro T hT X
  obtain ⟨st1, hrun, hend, hW, hsm⟩ := X.leaveThrown q (g := F0 m pc ls rest) rfl rfl rfl hout hlocks
  have hcell9 : (T.setFrames (.throwing q :: below)).heap[q]? = some ce := by
    show T.heap[q]? = some ce
    rw [hT]; exact hcell
  exact ⟨_, st1, .threw q, hrun, hend, Or.inr ⟨q, rfl, E, ce, locs, hx _ hT hW.alike, hcell9, hv, hcl, hW, hsm.mono hc hs, hf⟩⟩
theorem vx_frame {U : State} {k n : Nat} (h : s.sameButNew ({ U with vm := s.vm } : State) locs k n) : s.heap.size ≤ U.heap.size ∧ ∀ q : Nat, q < s.heap.size → (∀ z ∈ locs, z.base ≠ q) → U.heap[q]? = s.heap[q]? := by
  obtain ⟨-, h2, -, -, -, h6⟩ := h
  refine ⟨h2, fun q hq hz => ?_⟩
  obtain ⟨c9, e1, e2, e3, e4⟩ := h6 q _ (Array.getElem?_eq_getElem hq)
  have hs : c9.slots = (s.heap[q]).slots := Array.ext_getElem? fun i => e4 i fun hm => hz _ hm rfl
  have h9 : c9 = s.heap[q] := by
    rw [hs] at e2
    exact e2
  have e5 : U.heap[q]? = some c9 := e1
  rw [e5, h9, Array.getElem?_eq_getElem hq]
/-- the words of a throw but the four that speak of the heap -/
def vx_no (w : Cond) : Bool := decide (w ≠ .isRef (.static Bundle.tN "UNASSIGNED_STACK" Bundle.steD)) && decide (w ≠ .isRef (.static Bundle.tN "SUPPRESSED_SENTINEL" Bundle.listD)) && decide (w ≠ .laysStatic Bundle.tN "UNASSIGNED_STACK" Bundle.steD) && decide (w ≠ .laysStatic Bundle.tN "SUPPRESSED_SENTINEL" Bundle.listD)
def vx_at0 (own : String) (ic : Nat) (X : String) (names : List String) : List Cond := (Bundle.ownAtoms0 own ic X names).filter vx_no
def vx_atS (own : String) (ic : Nat) (X : String) (names : List String) : List Cond := (Bundle.ownAtoms own ic X names).filter vx_no
/-- a word that the tables alone decide, or a good one -/
def vx_ot (w : Cond) : Bool := w.onTables || goodWord w
theorem vx_ot_at {args a' : Array Value} {s U : State} {w : Cond} (hW : s.WarmedH U.vm) (hvm : s.vm = U.vm) (hg : vx_ot w = true) (h : w.before args s = true) : w.before a' U = true := by
  simp only [vx_ot, Bool.or_eq_true] at hg
  rcases hg with hg | hg
  · exact va_tabs hg hvm h
  · exact word_at hW (good_of_word hg) h
/-- a list's words: the good ones out of the method's own list, the others by premises of their own -/
theorem vx_hat {args : Array Value} {s : State} {L B : List Cond} (h1 : ∀ w ∈ L.filter goodWord, w.before args s = true) (h2 : ∀ w ∈ L.filter (fun w => !goodWord w), w ∈ B) (h3 : ∀ w ∈ B, w.before args s = true) : ∀ w ∈ L, w.before args s = true := by
  intro w hw
  by_cases g : goodWord w = true
  · exact h1 w (List.mem_filter.mpr ⟨hw, g⟩)
  · refine h3 w (h2 w (List.mem_filter.mpr ⟨hw, ?_⟩))
    show (!goodWord w) = true
    cases hgw : goodWord w
    · rfl
    · exact absurd hgw g
theorem vx_c {args : Array Value} {s : State} {w : Cond} {B : List Cond} (h : w.before args s = true) (t : ∀ w ∈ B, w.before args s = true) : ∀ w' ∈ w :: B, w'.before args s = true := fun w' h' => (List.mem_cons.mp h').elim (fun e => by rw [e]; exact h) (t w')
theorem vx_n {args : Array Value} {s : State} : ∀ w ∈ ([] : List Cond), w.before args s = true := fun _ h => nomatch h
theorem vx_own {args : Array Value} {s : State} {L : List Cond} (h1 : ∀ w ∈ L.filter vx_no, w.before args s = true)
    (hU : (Cond.isRef (.static Bundle.tN "UNASSIGNED_STACK" Bundle.steD)).before args s = true) (hN : (Cond.isRef (.static Bundle.tN "SUPPRESSED_SENTINEL" Bundle.listD)).before args s = true)
    (lU : (Cond.laysStatic Bundle.tN "UNASSIGNED_STACK" Bundle.steD).before args s = true) (lN : (Cond.laysStatic Bundle.tN "SUPPRESSED_SENTINEL" Bundle.listD).before args s = true) : ∀ w ∈ L, w.before args s = true := by
  intro w hw
  by_cases e1 : w = .isRef (.static Bundle.tN "UNASSIGNED_STACK" Bundle.steD)
  · rw [e1]; exact hU
  · by_cases e2 : w = .isRef (.static Bundle.tN "SUPPRESSED_SENTINEL" Bundle.listD)
    · rw [e2]; exact hN
    · by_cases e3 : w = .laysStatic Bundle.tN "UNASSIGNED_STACK" Bundle.steD
      · rw [e3]; exact lU
      · by_cases e4 : w = .laysStatic Bundle.tN "SUPPRESSED_SENTINEL" Bundle.listD
        · rw [e4]; exact lN
        · exact h1 w (List.mem_filter.mpr ⟨hw, by unfold vx_no; rw [decide_eq_true e1, decide_eq_true e2, decide_eq_true e3, decide_eq_true e4]; rfl⟩)
/-- where a static field lies, its class's statics cell in H -/
def vx_L (C n d : String) (A : Nat → Prop) (U : State) (H : Heap) : Prop := ∃ (c : ClassId) (k : Class) (i : Nat) (f : Field) (a : Nat) (cell : Cell), U.vm.findClass C = some c ∧ U.fieldFound? C n d = some (c, k, i, f) ∧ f.isStatic = true ∧ k.statics = some a ∧ H[a]? = some cell ∧ cell.vm.isStatics = true ∧ cell.cls = c ∧ f.slot < cell.slots.size ∧ k.staticTypes[f.slot]? = some f.type ∧ ¬ A a
theorem vx_L.moved {C n d : String} {A : Nat → Prop} {u U : State} {H : Heap} (hvm : u.vm.Alike U.vm) (h : vx_L C n d A u H) : vx_L C n d A U H := by
  obtain ⟨c, k, i, f, a, cell, h1, h2, h3, h4, h5, h6, h7, h8, h9, h10⟩ := h
  obtain ⟨k', hi', he⟩ := State.fieldFound?_setVm hvm h2
  exact ⟨c, k', i, f, a, cell, by rw [hvm.findClass]; exact h1, hi', h3, by rw [he]; exact h4, h5, h6, h7, h8, by rw [he]; exact h9, h10⟩
theorem vx_L.kept {C n d : String} {A : Nat → Prop} {U : State} {H H1 : Heap} (h : vx_L C n d A U H) (hq : ∀ a : Nat, a < H.size → ¬ A a → H1[a]? = H[a]?) : vx_L C n d A U H1 := by
  obtain ⟨c, k, i, f, a, cell, h1, h2, h3, h4, h5, h6, h7, h8, h9, h10⟩ := h
  exact ⟨c, k, i, f, a, cell, h1, h2, h3, h4, by rw [hq a (Array.getElem?_eq_some_iff.mp h5).1 h10]; exact h5, h6, h7, h8, h9, h10⟩
theorem vx_L.narrow {C n d : String} {A B : Nat → Prop} {U : State} {H : Heap} (h : vx_L C n d A U H) (hAB : ∀ q, B q → A q) : vx_L C n d B U H := by
  obtain ⟨c, k, i, f, a, cell, h1, h2, h3, h4, h5, h6, h7, h8, h9, h10⟩ := h
  exact ⟨c, k, i, f, a, cell, h1, h2, h3, h4, h5, h6, h7, h8, h9, fun z => h10 (hAB _ z)⟩
theorem vx_L.word {C n d : String} {A : Nat → Prop} {s : State} {args : Array Value} (h : vx_L C n d A s s.heap) : (Cond.laysStatic C n d).before args s = true := by
  obtain ⟨c, k, i, f, a, cell, h1, h2, h3, h4, h5, h6, h7, h8, h9, -⟩ := h
  show (Cond.laysStatic C n d).holds args s none s [] = true
  exact Cond.laysStatic_of h1 h2 h3 h4 h5 h6 h7 h8 h9
/-- .. and what it holds: null or some reference -/
def vx_Zq (C n d : String) (A : Nat → Prop) (U : State) (H : Heap) : Prop := va_Zq C n d A U H ∧ vx_L C n d A U H
theorem vx_Zq.moved {C n d : String} {A : Nat → Prop} {u U : State} {H : Heap} (hvm : u.vm.Alike U.vm) (h : vx_Zq C n d A u H) : vx_Zq C n d A U H := ⟨va_Zq.moved hvm h.1, vx_L.moved hvm h.2⟩
theorem vx_Zq.kept {C n d : String} {A : Nat → Prop} {U : State} {H H1 : Heap} (h : vx_Zq C n d A U H) (hq : ∀ a : Nat, a < H.size → ¬ A a → H1[a]? = H[a]?) : vx_Zq C n d A U H1 := ⟨va_Zq.kept h.1 hq, vx_L.kept h.2 hq⟩
theorem vx_Zq.narrow {C n d : String} {A B : Nat → Prop} {U : State} {H : Heap} (h : vx_Zq C n d A U H) (hAB : ∀ q, B q → A q) : vx_Zq C n d B U H := ⟨va_Zq.narrow h.1 hAB, vx_L.narrow h.2 hAB⟩
theorem vx_Zqof {args : Array Value} {s : State} {C n d : String} {A : Nat → Prop} (hl : (Cond.laysStatic C n d).before args s = true) (hini : (Cond.initialized C).before args s = true) (h : (Cond.isRef (.static C n d)).before args s = true) (hA : ∀ a : Nat, a < s.heap.size → ¬ A a) : vx_Zq C n d A s s.heap := by
  refine ⟨va_Zqof hl hini h hA, ?_⟩
  obtain ⟨c, k, i, f, a, cell, h1, h2, h3, h4, h5, h6, h7, h8, h9⟩ := Cond.laysStatic_spec hl
  exact ⟨c, k, i, f, a, cell, h1, h2, h3, h4, h5, h6, h7, h8, h9, hA a (Array.getElem?_eq_some_iff.mp h5).1⟩
theorem vx_isRef {C n d : String} {v : Value} {A : Nat → Prop} {s : State} {args : Array Value} (h : va_Z C n d v A s s.heap) (hv : v.isRef = true) : (Cond.isRef (.static C n d)).before args s = true := by
  obtain ⟨cf, kf, fi, f, a, cell, h1, h2, h3, h4, h5, h6, h7, -⟩ := h
  have he : (Term.static C n d).eval args s none [] s = some v := by
    simp [Term.eval, State.fieldNamed?, h1, h2, h4, h5, h6, h7]
  simp only [Cond.before, Cond.holds, Cond.value, he]
  cases v <;> simp_all [Value.isRef]
theorem vx_isRefq {C n d : String} {A : Nat → Prop} {s : State} {args : Array Value} (h : va_Zq C n d A s s.heap) : (Cond.isRef (.static C n d)).before args s = true := by
  rcases h with h | ⟨t, h⟩
  · exact vx_isRef h rfl
  · exact vx_isRef h rfl
/-- the same frame, seen from here: as if the method were called anew in this heap -/
theorem vx_rebase {T : State} (X : Stand p l e R s m args below meth c T locs cells slots) {R' : Room} (hf : R'.frames ≤ R.frames) (hl : R'.locals ≤ R.locals) (hc : cells + R'.cells ≤ R.cells) (hs : slots + R'.slots ≤ R.slots) :
    Stand p l e R' ((T.setVm s.vm).setFrames (.invoking m args :: below)) m args below meth c T [] 0 0 := by
  have htop : (T.setVm s.vm).topJava?.isSome := X.here.top
  have hF : ((T.setVm s.vm).setFrames (.invoking m args :: below)).frames = .invoking m args :: below := State.frames_setFrames _ (State.cur_lt_of_top htop)
  obtain ⟨g₀, hg0⟩ := Option.isSome_iff_exists.mp htop
  obtain ⟨r, hr⟩ := State.topJava?_eq_some.mp hg0
  have hl9 : e.platform.stackLimits (T.setVm s.vm).me = e.platform.stackLimits s.me := X.limits
  have hb9 : (T.setVm s.vm).me.stackBytes = s.me.stackBytes := X.bytes
  refine ⟨X.admits, X.cas, X.clock, hF, ?_, X.hears, X.method, X.code, X.here, X.tail, X.warmed, ?_, ?_, ?_⟩
  · have h := X.room
    have hU : ((T.setVm s.vm).setFrames (.invoking m args :: below)).localsInUse = s.localsInUse := by
      rw [State.localsInUse_invoking hF (meth := meth) (c := c) X.method X.code, State.localsInUse_invoking X.frames X.method X.code]
    simp only [State.hasRoom, Bool.and_eq_true, decide_eq_true_eq] at h ⊢
    obtain ⟨⟨⟨⟨h1, h2, h3, h4, h5, h6⟩, h7⟩, h8⟩, h9⟩ := h
    rw [X.frames, List.length_cons] at h2 h3
    have q1 := X.heapSize
    have q2 := X.used
    simp only [hF, hU, List.length_cons, State.stackLimits_setFrames, State.stackBytes_setFrames, hl9, hb9]
    refine ⟨⟨⟨⟨by omega, by omega, by omega, by omega, by omega, h6⟩, ?_⟩, ?_⟩, X.book⟩
    · show T.heap.size + R'.cells ≤ e.platform.maxCells
      omega
    · show T.slotsUsed + R'.slots ≤ e.platform.maxSlots
      omega
  · rw [State.stackLimits_setFrames]; rfl
  · rw [State.stackBytes_setFrames]; rfl
  · refine ⟨?_, Nat.le_refl _, Nat.le_refl _, ?_, ?_, fun a c9 h9 => ⟨c9, h9, rfl, rfl, fun _ _ => rfl⟩⟩
    · obtain ⟨t, ht, -⟩ := State.frames_cons hr
      show T.setVm s.vm = { ((T.setVm s.vm).setFrames (.invoking m args :: below)).setFrames (T.setVm s.vm).frames with heap := T.heap, slotsUsed := T.slotsUsed }
      rw [State.setFrames_setFrames, State.setFrames_self ht]
      rfl
    · show T.slotsUsed = T.slotsUsed + ((T.heap.toList.drop T.heap.size).map (·.slots.size)).sum
      rw [List.drop_eq_nil_of_le (Nat.le_of_eq Array.length_toList)]
      rfl
    · show ((T.heap.toList.drop T.heap.size).map (·.slots.size)).sum ≤ 0
      rw [List.drop_eq_nil_of_le (Nat.le_of_eq Array.length_toList)]
      exact Nat.le_refl _
/-- 'throw new E()': new; dup; invokespecial; athrow -/
theorem vx_throw0 {cc : ByteArray} {pc : Nat} (hexec : p.tables.exec = Jvm.exec) (hb : c.code = cc) (hl : l.stackTraces = false) {own cls : String} {names : List String} {ik ic mc ms : Nat} {A : Nat → Prop}
    (hown : s.vm.findClass own = some m.cls) (hcls : Bundle.fit cls = true) (hnames : ∀ n ∈ names, Bundle.fit n = true)
    (hk : (Cond.classLink own ik cls).before args s = true) (hini : (Cond.initialized cls).before args s = true) (hat : ∀ w ∈ vx_at0 own ic cls names, w.before args s = true)
    (hgood : ∀ w ∈ Cond.classLink own ik cls :: Cond.initialized cls :: vx_at0 own ic cls names, vx_ot w = true)
    (hU : vx_Zq Bundle.tN "UNASSIGNED_STACK" Bundle.steD A s s.heap) (hN : vx_Zq Bundle.tN "SUPPRESSED_SENTINEL" Bundle.listD A s s.heap) (hS : va_S A s.heap H locs) (hsize : ls.size = c.maxLocals)
    (d0 : decode cc pc = .ok (.new ik, 3)) (d3 : decode cc (pc + 3) = .ok (.dup, 1)) (d4 : decode cc (pc + 4) = .ok (.invokespecial ic, 3)) (d7 : decode cc (pc + 7) = .ok (.athrow, 1))
    (hout : ∀ x ∈ c.exceptionTable.toList, covers x (pc + 7) = false)
    (hRframes : names.length + 3 < R.frames) (hRlocals : (rest.map fun v => v.category).sum + (13 * (names.length + 1) + 42) ≤ R.locals) (hRcells : cells + 1 ≤ R.cells) (hRslots : slots + 6 ≤ R.slots) (hlocks : meth.locks = false)
    (hx : ∀ t : State, s.vm.Alike t.vm → H.size ≤ t.heap.size → (∀ q : Nat, q < H.size → t.heap[q]? = H[q]?) → XC cls s t)
    (hf : ∀ z ∈ locs, free z.base) (hc : cells + 1 ≤ mc) (hs : slots + 6 ≤ ms) :
    W p l e R s m args below meth c H locs cells slots (vx_MQ below Qc XC args s mc ms free) (F0 m pc ls rest) := by
  intro T hT X
  have htr : e.platform.stackTraces = false := (show e.platform.stackTraces = l.stackTraces by rw [X.admits.platform]).trans hl
  have Y := vx_rebase X (R' := { frames := R.frames, locals := R.locals, cells := 1, slots := 6 }) (Nat.le_refl _) (Nat.le_refl _) hRcells hRslots
  obtain ⟨s', hA⟩ : ∃ z, z = (T.setVm s.vm).setFrames (.invoking m args :: below) := ⟨_, rfl⟩
  rw [← hA] at Y
  have hvm : s'.vm = s.vm := by rw [hA]; rfl
  have hhp : s'.heap = H := by rw [hA]; exact hT
  have hW0 : s.WarmedH s'.vm := by rw [hvm]; exact State.WarmedH.refl s
  have hat' : ∀ w ∈ vx_at0 own ic cls names, w.before args s' = true := fun w hw => vx_ot_at hW0 hvm.symm (hgood w (List.mem_cons_of_mem _ (List.mem_cons_of_mem _ hw))) (hat w hw)
  have hk' : (Cond.classLink own ik cls).before args s' = true := vx_ot_at hW0 hvm.symm (hgood _ List.mem_cons_self) hk
  have hini' : (Cond.initialized cls).before args s' = true := vx_ot_at hW0 hvm.symm (hgood _ (List.mem_cons_of_mem _ List.mem_cons_self)) hini
  have hU' : vx_Zq Bundle.tN "UNASSIGNED_STACK" Bundle.steD A s' s'.heap := by rw [hhp]; exact vx_Zq.moved hW0.alike (hU.kept hS.2.1)
  have hN' : vx_Zq Bundle.tN "SUPPRESSED_SENTINEL" Bundle.listD A s' s'.heap := by rw [hhp]; exact vx_Zq.moved hW0.alike (hN.kept hS.2.1)
  have h : ∀ w ∈ Bundle.ownAtoms0 own ic cls names, w.before args s' = true := vx_own hat' (vx_isRefq hU'.1) (vx_isRefq hN'.1) hU'.2.word hN'.2.word
  have hown' : s'.vm.findClass own = some m.cls := by rw [hvm]; exact hown
  have hins : (Cond.instantiable cls 6).before args s' = true := h _ (by simp [Bundle.ownAtoms0])
  obtain ⟨vm₁, cX, kX, hfX, hkX, -, -, X₁, st1⟩ := Y.newCold hexec (own := own) (C := cls) (index := ik) (n := 6) hown' hk' hins hini'
    (g := F0 m pc ls rest) rfl (by rw [hb]; exact d0) (Nat.le_refl _) (Nat.le_refl _)
  generalize hT1 : (T.setVm vm₁).pushCell { cls := cX, slots := kX.instanceTypes.map defaultValue, vm := .none } = T1 at X₁ st1
  have hcat : (Value.ref T.heap.size).category = 1 := rfl
  have hcellA : T1.heap[T.heap.size]? = some (freshCell cX kX) := by rw [← hT1]; exact State.heap_pushCell_size _ _
  have d3' : decode c.code (pc + 3) = .ok (.dup, 1) := by rw [hb]; exact d3
  obtain ⟨U, hsteps, hrun, hend, hW, hsame, ce, hce, hO⟩ := X₁.ctorThrow0 hexec htr (own := own) (cls := cls) (names := names) (ic := ic) hown' hcls hnames h (fun x hx => nomatch hx) hfX hkX hcellA (by rw [hhp, hT]; exact Nat.le_refl _)
    (g := { method := m, pc := pc + 4, locals := ls, stack := .ref T.heap.size :: .ref T.heap.size :: rest, locked := none }) rfl hsize rfl rfl (rest := rest) rfl
    (by rw [hb]; exact d4) (by rw [hb]; exact d7) hout hRframes (by simp only [List.map_cons, List.sum_cons, hcat]; omega) hlocks
  obtain ⟨f1, f2⟩ := vx_frame hsame
  rw [hhp] at f1 f2
  have hWs : s.WarmedH U.vm := State.WarmedH.trans hW0 hW
  have hcl : s.vm.findClass cls = some ce.cls := by
    have h9 := hO.cls
    rw [hvm] at h9
    exact h9
  have hall : s.sameButNew ({ U with vm := s.vm } : State) locs mc ms := by
    subst hA
    obtain ⟨e1, e2⟩ := hsame
    rw [State.setFrames_setFrames] at e1
    have h2 : (T.setVm s.vm).sameButNew ({ U with vm := s.vm } : State) [] (0 + 1) (0 + 6) := ⟨e1, e2⟩
    have h3 := X.same.trans h2
    rw [List.append_nil] at h3
    exact h3.mono hc hs
  refine ⟨U, ?_, .threw T.heap.size, hrun, hend, Or.inr ⟨T.heap.size, rfl, cls, ce, locs, hx U hWs.alike f1 (fun q hq => f2 q hq (fun z hz => nomatch hz)), hce, hO.vm, hcl, hWs, hall, hf⟩⟩
  refine st1 _ ?_
  show Steps p.tables e below (T1.setTop { method := m, pc := pc + 3, locals := ls, stack := .ref T.heap.size :: rest, locked := none }) _
  jvm_step X₁.here [X₁.here.top, hexec, d3', Value.category]
  exact hsteps
/-- 'throw new E("text")': new; dup; ldc; invokespecial; athrow -/
theorem vx_throwS {cc : ByteArray} {pc : Nat} (hexec : p.tables.exec = Jvm.exec) (hb : c.code = cc) (hl : l.stackTraces = false) {own cls text : String} {names : List String} {ik is ic mc ms sa : Nat} {A : Nat → Prop}
    (hown : s.vm.findClass own = some m.cls) (hcls : Bundle.fit cls = true) (hnames : ∀ n ∈ names, Bundle.fit n = true)
    (hk : (Cond.classLink own ik cls).before args s = true) (hini : (Cond.initialized cls).before args s = true) (hstr : vk_R own is text sa s) (hat : ∀ w ∈ vx_atS own ic cls names, w.before args s = true)
    (hgood : ∀ w ∈ Cond.classLink own ik cls :: Cond.initialized cls :: vx_atS own ic cls names, vx_ot w = true)
    (hU : vx_Zq Bundle.tN "UNASSIGNED_STACK" Bundle.steD A s s.heap) (hN : vx_Zq Bundle.tN "SUPPRESSED_SENTINEL" Bundle.listD A s s.heap) (hS : va_S A s.heap H locs) (hsize : ls.size = c.maxLocals)
    (d0 : decode cc pc = .ok (.new ik, 3)) (d3 : decode cc (pc + 3) = .ok (.dup, 1)) (d4 : decode cc (pc + 4) = .ok (.ldc is, 2)) (d6 : decode cc (pc + 6) = .ok (.invokespecial ic, 3)) (d9 : decode cc (pc + 9) = .ok (.athrow, 1))
    (hout : ∀ x ∈ c.exceptionTable.toList, covers x (pc + 9) = false)
    (hRframes : names.length + 3 < R.frames) (hRlocals : (rest.map fun v => v.category).sum + (13 * (names.length + 1) + 43) ≤ R.locals) (hRcells : cells + 1 ≤ R.cells) (hRslots : slots + 6 ≤ R.slots) (hlocks : meth.locks = false)
    (hx : ∀ t : State, s.vm.Alike t.vm → H.size ≤ t.heap.size → (∀ q : Nat, q < H.size → t.heap[q]? = H[q]?) → XC cls s t)
    (hf : ∀ z ∈ locs, free z.base) (hc : cells + 1 ≤ mc) (hs : slots + 6 ≤ ms) :
    W p l e R s m args below meth c H locs cells slots (vx_MQ below Qc XC args s mc ms free) (F0 m pc ls rest) := by
  intro T hT X
  have htr : e.platform.stackTraces = false := (show e.platform.stackTraces = l.stackTraces by rw [X.admits.platform]).trans hl
  have Y := vx_rebase X (R' := { frames := R.frames, locals := R.locals, cells := 1, slots := 6 }) (Nat.le_refl _) (Nat.le_refl _) hRcells hRslots
  obtain ⟨s', hA⟩ : ∃ z, z = (T.setVm s.vm).setFrames (.invoking m args :: below) := ⟨_, rfl⟩
  rw [← hA] at Y
  have hvm : s'.vm = s.vm := by rw [hA]; rfl
  have hhp : s'.heap = H := by rw [hA]; exact hT
  have hW0 : s.WarmedH s'.vm := by rw [hvm]; exact State.WarmedH.refl s
  have hat' : ∀ w ∈ vx_atS own ic cls names, w.before args s' = true := fun w hw => vx_ot_at hW0 hvm.symm (hgood w (List.mem_cons_of_mem _ (List.mem_cons_of_mem _ hw))) (hat w hw)
  have hk' : (Cond.classLink own ik cls).before args s' = true := vx_ot_at hW0 hvm.symm (hgood _ List.mem_cons_self) hk
  have hini' : (Cond.initialized cls).before args s' = true := vx_ot_at hW0 hvm.symm (hgood _ (List.mem_cons_of_mem _ List.mem_cons_self)) hini
  have hU' : vx_Zq Bundle.tN "UNASSIGNED_STACK" Bundle.steD A s' s'.heap := by rw [hhp]; exact vx_Zq.moved hW0.alike (hU.kept hS.2.1)
  have hN' : vx_Zq Bundle.tN "SUPPRESSED_SENTINEL" Bundle.listD A s' s'.heap := by rw [hhp]; exact vx_Zq.moved hW0.alike (hN.kept hS.2.1)
  have h : ∀ w ∈ Bundle.ownAtoms own ic cls names, w.before args s' = true := vx_own hat' (vx_isRefq hU'.1) (vx_isRefq hN'.1) hU'.2.word hN'.2.word
  have hown' : s'.vm.findClass own = some m.cls := by rw [hvm]; exact hown
  have hins : (Cond.instantiable cls 6).before args s' = true := h _ (by simp [Bundle.ownAtoms])
  obtain ⟨vm₁, cX, kX, hfX, hkX, -, -, X₁, st1⟩ := Y.newCold hexec (own := own) (C := cls) (index := ik) (n := 6) hown' hk' hins hini'
    (g := F0 m pc ls rest) rfl (by rw [hb]; exact d0) (Nat.le_refl _) (Nat.le_refl _)
  generalize hT1 : (T.setVm vm₁).pushCell { cls := cX, slots := kX.instanceTypes.map defaultValue, vm := .none } = T1 at X₁ st1
  have hcat : (Value.ref T.heap.size).category = 1 := rfl
  have hcellA : T1.heap[T.heap.size]? = some (freshCell cX kX) := by rw [← hT1]; exact State.heap_pushCell_size _ _
  have d3' : decode c.code (pc + 3) = .ok (.dup, 1) := by rw [hb]; exact d3
  have d4' : decode c.code (pc + 4) = .ok (.ldc is, 2) := by rw [hb]; exact d4
  have hstr' : vk_R own is text sa s' := vk_R.warm hW0 hstr
  obtain ⟨U, hsteps, hrun, hend, hW, hsame, ce, hce, hO⟩ := X₁.ctorThrowS hexec htr (own := own) (cls := cls) (names := names) (ic := ic) hown' hcls hnames h (fun x hx => nomatch hx) hfX hkX hcellA (by rw [hhp, hT]; exact Nat.le_refl _) (msg := .ref sa) rfl
    (g := { method := m, pc := pc + 6, locals := ls, stack := .ref sa :: .ref T.heap.size :: .ref T.heap.size :: rest, locked := none }) rfl hsize rfl rfl (rest := rest) rfl
    (by rw [hb]; exact d6) (by rw [hb]; exact d9) hout hRframes (by simp only [List.map_cons, List.sum_cons, hcat]; omega) hlocks
  obtain ⟨f1, f2⟩ := vx_frame hsame
  rw [hhp] at f1 f2
  have hWs : s.WarmedH U.vm := State.WarmedH.trans hW0 hW
  have hcl : s.vm.findClass cls = some ce.cls := by
    have h9 := hO.cls
    rw [hvm] at h9
    exact h9
  have hall : s.sameButNew ({ U with vm := s.vm } : State) locs mc ms := by
    subst hA
    obtain ⟨e1, e2⟩ := hsame
    rw [State.setFrames_setFrames] at e1
    have h2 : (T.setVm s.vm).sameButNew ({ U with vm := s.vm } : State) [] (0 + 1) (0 + 6) := ⟨e1, e2⟩
    have h3 := X.same.trans h2
    rw [List.append_nil] at h3
    exact h3.mono hc hs
  refine ⟨U, ?_, .threw T.heap.size, hrun, hend, Or.inr ⟨T.heap.size, rfl, cls, ce, locs, hx U hWs.alike f1 (fun q hq => f2 q hq (fun z hz => nomatch hz)), hce, hO.vm, hcl, hWs, hall, hf⟩⟩
  refine st1 _ ?_
  show Steps p.tables e below (T1.setTop { method := m, pc := pc + 3, locals := ls, stack := .ref T.heap.size :: rest, locked := none }) _
  jvm_step X₁.here [X₁.here.top, hexec, d3', Value.category]
  exact X₁.ldcString hexec (own := own) (text := text) (index := is) (a := sa) hown' hstr'.1 hstr'.2
    (g := { method := m, pc := pc + 4, locals := ls, stack := .ref T.heap.size :: .ref T.heap.size :: rest, locked := none }) rfl d4' _ hsteps
/-- 'throw new E("text")', the text by a wide index -/
theorem vx_throwSW {cc : ByteArray} {pc : Nat} (hexec : p.tables.exec = Jvm.exec) (hb : c.code = cc) (hl : l.stackTraces = false) {own cls text : String} {names : List String} {ik is ic mc ms sa : Nat} {A : Nat → Prop}
    (hown : s.vm.findClass own = some m.cls) (hcls : Bundle.fit cls = true) (hnames : ∀ n ∈ names, Bundle.fit n = true)
    (hk : (Cond.classLink own ik cls).before args s = true) (hini : (Cond.initialized cls).before args s = true) (hstr : vk_R own is text sa s) (hat : ∀ w ∈ vx_atS own ic cls names, w.before args s = true)
    (hgood : ∀ w ∈ Cond.classLink own ik cls :: Cond.initialized cls :: vx_atS own ic cls names, vx_ot w = true)
    (hU : vx_Zq Bundle.tN "UNASSIGNED_STACK" Bundle.steD A s s.heap) (hN : vx_Zq Bundle.tN "SUPPRESSED_SENTINEL" Bundle.listD A s s.heap) (hS : va_S A s.heap H locs) (hsize : ls.size = c.maxLocals)
    (d0 : decode cc pc = .ok (.new ik, 3)) (d3 : decode cc (pc + 3) = .ok (.dup, 1)) (d4 : decode cc (pc + 4) = .ok (.ldc_w is, 3)) (d7 : decode cc (pc + 7) = .ok (.invokespecial ic, 3)) (d10 : decode cc (pc + 10) = .ok (.athrow, 1))
    (hout : ∀ x ∈ c.exceptionTable.toList, covers x (pc + 10) = false)
    (hRframes : names.length + 3 < R.frames) (hRlocals : (rest.map fun v => v.category).sum + (13 * (names.length + 1) + 43) ≤ R.locals) (hRcells : cells + 1 ≤ R.cells) (hRslots : slots + 6 ≤ R.slots) (hlocks : meth.locks = false)
    (hx : ∀ t : State, s.vm.Alike t.vm → H.size ≤ t.heap.size → (∀ q : Nat, q < H.size → t.heap[q]? = H[q]?) → XC cls s t)
    (hf : ∀ z ∈ locs, free z.base) (hc : cells + 1 ≤ mc) (hs : slots + 6 ≤ ms) :
    W p l e R s m args below meth c H locs cells slots (vx_MQ below Qc XC args s mc ms free) (F0 m pc ls rest) := by
  intro T hT X
  have htr : e.platform.stackTraces = false := (show e.platform.stackTraces = l.stackTraces by rw [X.admits.platform]).trans hl
  have Y := vx_rebase X (R' := { frames := R.frames, locals := R.locals, cells := 1, slots := 6 }) (Nat.le_refl _) (Nat.le_refl _) hRcells hRslots
  obtain ⟨s', hA⟩ : ∃ z, z = (T.setVm s.vm).setFrames (.invoking m args :: below) := ⟨_, rfl⟩
  rw [← hA] at Y
  have hvm : s'.vm = s.vm := by rw [hA]; rfl
  have hhp : s'.heap = H := by rw [hA]; exact hT
  have hW0 : s.WarmedH s'.vm := by rw [hvm]; exact State.WarmedH.refl s
  have hat' : ∀ w ∈ vx_atS own ic cls names, w.before args s' = true := fun w hw => vx_ot_at hW0 hvm.symm (hgood w (List.mem_cons_of_mem _ (List.mem_cons_of_mem _ hw))) (hat w hw)
  have hk' : (Cond.classLink own ik cls).before args s' = true := vx_ot_at hW0 hvm.symm (hgood _ List.mem_cons_self) hk
  have hini' : (Cond.initialized cls).before args s' = true := vx_ot_at hW0 hvm.symm (hgood _ (List.mem_cons_of_mem _ List.mem_cons_self)) hini
  have hU' : vx_Zq Bundle.tN "UNASSIGNED_STACK" Bundle.steD A s' s'.heap := by rw [hhp]; exact vx_Zq.moved hW0.alike (hU.kept hS.2.1)
  have hN' : vx_Zq Bundle.tN "SUPPRESSED_SENTINEL" Bundle.listD A s' s'.heap := by rw [hhp]; exact vx_Zq.moved hW0.alike (hN.kept hS.2.1)
  have h : ∀ w ∈ Bundle.ownAtoms own ic cls names, w.before args s' = true := vx_own hat' (vx_isRefq hU'.1) (vx_isRefq hN'.1) hU'.2.word hN'.2.word
  have hown' : s'.vm.findClass own = some m.cls := by rw [hvm]; exact hown
  have hins : (Cond.instantiable cls 6).before args s' = true := h _ (by simp [Bundle.ownAtoms])
  obtain ⟨vm₁, cX, kX, hfX, hkX, -, -, X₁, st1⟩ := Y.newCold hexec (own := own) (C := cls) (index := ik) (n := 6) hown' hk' hins hini'
    (g := F0 m pc ls rest) rfl (by rw [hb]; exact d0) (Nat.le_refl _) (Nat.le_refl _)
  generalize hT1 : (T.setVm vm₁).pushCell { cls := cX, slots := kX.instanceTypes.map defaultValue, vm := .none } = T1 at X₁ st1
  have hcat : (Value.ref T.heap.size).category = 1 := rfl
  have hcellA : T1.heap[T.heap.size]? = some (freshCell cX kX) := by rw [← hT1]; exact State.heap_pushCell_size _ _
  have d3' : decode c.code (pc + 3) = .ok (.dup, 1) := by rw [hb]; exact d3
  have d4' : decode c.code (pc + 4) = .ok (.ldc_w is, 3) := by rw [hb]; exact d4
  have hstr' : vk_R own is text sa s' := vk_R.warm hW0 hstr
  obtain ⟨U, hsteps, hrun, hend, hW, hsame, ce, hce, hO⟩ := X₁.ctorThrowS hexec htr (own := own) (cls := cls) (names := names) (ic := ic) hown' hcls hnames h (fun x hx => nomatch hx) hfX hkX hcellA (by rw [hhp, hT]; exact Nat.le_refl _) (msg := .ref sa) rfl
    (g := { method := m, pc := pc + 7, locals := ls, stack := .ref sa :: .ref T.heap.size :: .ref T.heap.size :: rest, locked := none }) rfl hsize rfl rfl (rest := rest) rfl
    (by rw [hb]; exact d7) (by rw [hb]; exact d10) hout hRframes (by simp only [List.map_cons, List.sum_cons, hcat]; omega) hlocks
  obtain ⟨f1, f2⟩ := vx_frame hsame
  rw [hhp] at f1 f2
  have hWs : s.WarmedH U.vm := State.WarmedH.trans hW0 hW
  have hcl : s.vm.findClass cls = some ce.cls := by
    have h9 := hO.cls
    rw [hvm] at h9
    exact h9
  have hall : s.sameButNew ({ U with vm := s.vm } : State) locs mc ms := by
    subst hA
    obtain ⟨e1, e2⟩ := hsame
    rw [State.setFrames_setFrames] at e1
    have h2 : (T.setVm s.vm).sameButNew ({ U with vm := s.vm } : State) [] (0 + 1) (0 + 6) := ⟨e1, e2⟩
    have h3 := X.same.trans h2
    rw [List.append_nil] at h3
    exact h3.mono hc hs
  refine ⟨U, ?_, .threw T.heap.size, hrun, hend, Or.inr ⟨T.heap.size, rfl, cls, ce, locs, hx U hWs.alike f1 (fun q hq => f2 q hq (fun z hz => nomatch hz)), hce, hO.vm, hcl, hWs, hall, hf⟩⟩
  refine st1 _ ?_
  show Steps p.tables e below (T1.setTop { method := m, pc := pc + 3, locals := ls, stack := .ref T.heap.size :: rest, locked := none }) _
  jvm_step X₁.here [X₁.here.top, hexec, d3', Value.category]
  exact X₁.ldcStringW hexec (own := own) (text := text) (index := is) (a := sa) hown' hstr'.1 hstr'.2
    (g := { method := m, pc := pc + 4, locals := ls, stack := .ref T.heap.size :: .ref T.heap.size :: rest, locked := none }) rfl d4' _ hsteps
end Ends
section Bodies
variable {l : Launch}
theorem vx_ofW {y : MethodName} {ws ws' : List Cond} {rm : Room} {Pc : Array Value → State → Prop} {Qc : Array Value → State → Outcome → State → Prop} {XC : String → State → State → Prop} {mc ms : Nat} {free : Addr → Prop} {cc : ByteArray} {maxL : Nat} {ret : Option FieldType}
    (hy : plainName y.cls = true) (hw : ws = Cond.code y cc maxL ret :: ws')
    (body : ∀ p e s m args below meth c s₁, BodyLoose p l y (headSpec ws rm) cc maxL ret e s m args below meth c s₁ → c.maxLocals = maxL → (∀ x ∈ c.exceptionTable.toList, False) → Pc args s →
      W p l e (headSpec ws rm).room s m args below meth c s.heap [] 0 0 (vx_MQ below Qc XC args s mc ms free) (entryFrame m args maxL)) : vx_Met l y ws rm Pc Qc XC mc ms free := by
  refine MetFree.of_bodyS (code := cc) (maxLocals := maxL) (ret := ret) hy ?_ ?_
  · intro args s m h hn
    obtain ⟨meth, c, h1, h2, h3, h4, h5, h6, -, -⟩ := Cond.code_spec hn (atoms_spec (ws := ws) h _ (by rw [hw]; exact List.mem_cons_self))
    exact ⟨meth, c, h1, h2, h3, h4, h5, h6⟩
  · intro p e s m args below meth c s₁ B hml hP _
    have hh0 : s₁.heap = s.heap := by rw [B.state]; rfl
    have ht : ∀ x ∈ c.exceptionTable.toList, False := by
      obtain ⟨meth9, c9, h1, h2, -, -, -, -, h7, -⟩ := Cond.code_spec B.named (atoms_spec (ws := ws) B.pre _ (by rw [hw]; exact List.mem_cons_self))
      cases Option.some.inj (h1.symm.trans B.method)
      cases Option.some.inj (h2.symm.trans (Stand.of_body B).code)
      intro x hx
      rw [Array.isEmpty_iff.mp h7] at hx
      cases hx
    obtain ⟨t, a1, o, b1, b2, b3⟩ := body p e s m args below meth c s₁ B hml ht hP s₁ hh0 (Stand.of_body B)
    exact ⟨t, o, a1, b1, b2, b3⟩
/-- the table of a body with handlers -/
theorem vx_table {p : Program} {x y : MethodName} {S : Spec} {cc bytes : ByteArray} {maxL maxL' : Nat} {ret ret' : Option FieldType} {e : Env} {s s₁ : State} {m : MethodId} {args : Array Value} {below : List Frame} {meth : Method} {c : Code} {hh : List (Nat × Nat × Nat × Nat)}
    (B : BodyLoose p l y S cc maxL ret e s m args below meth c s₁) (h : (Cond.codeWith y bytes maxL' ret' hh).before args s = true) : c.exceptionTable.toList = tableOf hh := by
  obtain ⟨m9, meth9, c9, hn9, h1, h2, -, -, h6, -⟩ := Cond.codeWith_spec h
  cases Option.some.inj (hn9.symm.trans B.named)
  cases Option.some.inj (h1.symm.trans B.method)
  cases Option.some.inj (h2.symm.trans (Stand.of_body B).code)
  rw [← h6, table_eq]
end Bodies
end VXA
/-! ===== END ===== -/
/-! ===== BEGIN a static call of a method with an exception table ===== -/
section VXS
variable {p : Program} {l : Launch} {e : Env} {R : Room} {s : State} {m : MethodId} {args : Array Value} {below : List Frame} {meth : Method} {c : Code} {T : State} {H : Heap} {locs : List Loc} {cells slots : Nat}
abbrev vx_CSW (R : Room) (s : State) (args : Array Value) (own : String) (index : Nat) (y : MethodName) (bytes : ByteArray) (maxL : Nat) (ret : Option FieldType) (hh : List (Nat × Nat × Nat × Nat)) (ws : List Cond) (rm : Room) (mc ms n : Nat) : Prop :=
  (rm.cells = mc ∧ rm.slots = ms ∧ rm.frames + 1 ≤ R.frames ∧ 8 + (maxL + 11) + rm.locals ≤ R.locals ∧ (∀ w ∈ ws, ∀ (a' : Array Value) (U : State), s.WarmedH U.vm → w.before a' U = true) ∧ Cond.codeWith y bytes maxL ret hh ∈ ws) ∧
  (Cond.codeWith y bytes maxL ret hh).before args s = true ∧ (Cond.initialized y.cls).before args s = true ∧ (y.cls ≠ "java/lang/invoke/MethodHandle" ∧ y.cls ≠ "java/lang/invoke/VarHandle") ∧
  (∀ sig, parseMethodDescriptor y.desc = some sig → n = sig.parameters.length) ∧ (Cond.methodLink own index y).before args s = true ∧ (Cond.static y).before args s = true
theorem vx_cwSW {own : String} {index maxL mc ms : Nat} {y : MethodName} {bytes : ByteArray} {ret : Option FieldType} {hh : List (Nat × Nat × Nat × Nat)} {Ts ws ws' : List Cond} {rm : Room} (n : Nat) (ht : ∀ w ∈ Ts, w.before args s = true) (hT : GoodIn Ts (va_wsS own index y ws)) (hw : ws = Cond.codeWith y bytes maxL ret hh :: ws') (hrc : rm.cells = mc) (hrs : rm.slots = ms)
    (hd : y.cls ≠ "java/lang/invoke/MethodHandle" ∧ y.cls ≠ "java/lang/invoke/VarHandle" ∧ (parseMethodDescriptor y.desc).map (fun d => d.parameters.length) = some n) (hR : rm.frames + 1 ≤ R.frames ∧ 8 + (maxL + 11) + rm.locals ≤ R.locals) :
    vx_CSW R s args own index y bytes maxL ret hh ws rm mc ms n := by
  have ok : ∀ w ∈ va_wsS own index y ws, w.before args s = true := fun w h => ht w (hT w h).1
  have hG : GoodIn Ts ws := fun w h => hT w (by unfold va_wsS; exact List.mem_append_right _ h)
  have hc : Cond.codeWith y bytes maxL ret hh ∈ ws := by rw [hw]; exact List.mem_cons_self
  refine ⟨⟨hrc, hrs, hR.1, hR.2, pay_in ht hG, hc⟩, ht _ (hG _ hc).1, ok _ (by simp [va_wsS]), ⟨hd.1, hd.2.1⟩, fun sig h => ?_, ok _ (by simp [va_wsS]), ok _ (by simp [va_wsS])⟩
  have h2 := hd.2.2
  rw [h] at h2
  exact (Option.some.inj h2).symm
theorem vx_callSW (X : Stand p l e R s m args below meth c T locs cells slots) (hexec : p.tables.exec = Jvm.exec) {own : String} {index : Nat} {y : MethodName} {bytes : ByteArray} {maxL : Nat} {ret : Option FieldType} {hh : List (Nat × Nat × Nat × Nat)}
    (hown : s.vm.findClass own = some m.cls) (hlink : (Cond.methodLink own index y).before args s = true) (hstat : (Cond.static y).before args s = true) (hinit : (Cond.initialized y.cls).before args s = true)
    (hcode : (Cond.codeWith y bytes maxL ret hh).before args s = true) (hy : y.cls ≠ "java/lang/invoke/MethodHandle" ∧ y.cls ≠ "java/lang/invoke/VarHandle")
    {W9 : Nat} {Pre : Pt → Array Value → Prop} {Post : Pt → Array Value → Option Value → Pt → Prop} (hK : Back l R p e below s args y 3 W9 Pre Post)
    {g : JFrame} (hg : g.method = m) (hsize : g.locals.size = c.maxLocals) {argsL rest : List Value} (hlen : ∀ sig, parseMethodDescriptor y.desc = some sig → argsL.length = sig.parameters.length)
    (hstack : g.stack = argsL.reverse ++ rest) (hW : 2 * g.monitorRoom + (rest.map fun v => v.category).sum ≤ W9) (hdg : decode c.code g.pc = .ok (.invokestatic index, 3))
    (hpre : ∀ vm₁, s.WarmedH vm₁ → Pre ⟨T.setVm vm₁, locs, cells, slots⟩ argsL.toArray) :
    ∃ (v : Option Value) (vm₁ : Vm) (B : Pt), s.WarmedH vm₁ ∧ Stand p l e R s m args below meth c B.U B.locs B.cells B.slots ∧ Post ⟨T.setVm vm₁, locs, cells, slots⟩ argsL.toArray v B ∧
      ∀ target, Steps p.tables e below (B.U.setTop { g with pc := g.pc + 3, stack := v.toList ++ rest }) target → Steps p.tables e below (T.setTop g) target := by
  obtain ⟨mk, methM, cM, hnamed, hmethM, -, -, -, -, -, -, hsigM⟩ := Cond.codeWith_spec hcode
  have hstatic : methM.isStatic = true := Cond.static_spec hnamed hmethM hstat
  obtain ⟨kP, hkP, -⟩ := className_of_methodNamed hnamed
  have hinitP : kP.init = .initialized := Cond.initialized_spec (findClass_of_methodNamed hnamed) hkP hinit
  obtain ⟨vm₁, X₁, hstep₁⟩ := X.invokestatic hexec hown hlink hnamed hmethM hstatic hkP hinitP hy (g := g) hg (argsL := argsL) (rest := rest) (hlen _ hsigM) hstack hdg
  obtain ⟨v, B, X', hpost, hsteps⟩ := hK m meth c ⟨T.setVm vm₁, locs, cells, slots⟩ { g with stack := rest } (.invokestatic index) mk argsL.toArray X₁ hg hsize hdg hW (X₁.named hnamed) (hpre vm₁ X₁.warmed)
  exact ⟨v, vm₁, B, X₁.warmed, X', hpost, fun target h => hstep₁ _ fun acts => by rw [doInvoke_state]; exact hsteps.trans h⟩
theorem vx_runSW {y : MethodName} {bytes cc : ByteArray} {maxL nL mc ms n index : Nat} {ret : Option FieldType} {hh : List (Nat × Nat × Nat × Nat)} {ws : List Cond} {rm : Room} {Pc : Array Value → State → Prop} {Qc : Array Value → State → Outcome → State → Prop} {free : Addr → Prop} {Ts : List Cond} {own : String} {As rest : List Value} {g : JFrame}
    (S : CallFix p m c cc nL s args Ts own) (hM : Met l y ws rm Pc Qc mc ms free) (cw : vx_CSW R s args own index y bytes maxL ret hh ws rm mc ms n) (hp : PreS s H Pc As)
    (hg : g.method = m) (hn : As.length = n) (hsize : g.locals.size = nL) (hstack : g.stack = As.reverse ++ rest) (hW : 2 * g.monitorRoom + (rest.map fun v => v.category).sum ≤ 8) (hdg : decode cc g.pc = .ok (.invokestatic index, 3)) (hf : cells + mc ≤ R.cells ∧ slots + ms ≤ R.slots) :
    va_Run p l e R s m args below meth c H locs cells slots mc ms g rest (Qc As.toArray) (free) := by
  obtain ⟨⟨hrc, hrs, hfr, hlo, hws, hcw⟩, hcode, hini, hy, hlen, hl, hstt⟩ := cw
  have hK : Back l R p e below s args y 3 8 (PreOf R mc ms Pc) (PostOf Qc mc ms free) := va_backW (hh := hh) (bytes := bytes) (maxL := maxL) (ret := ret) hM hp.1 hrc hrs hfr hlo hws hcw (fun a' U hW => word_at hW (Or.inl (by first | rfl | simp [Cond.onTables, Cond.keeps, Cond.steady])) hini)
  obtain ⟨hx, hb, hml, ho, -⟩ := S
  intro T hT X
  obtain ⟨v, vm₁, ⟨U', l2, c2, s2⟩, hW₁, X', ⟨g', mk, t, L, e1, e2, hq, h1, hL, h2, h3⟩, st⟩ := vx_callSW X hx (hh := hh) (bytes := bytes) (maxL := maxL) (ret := ret) ho hl hstt hini hcode hy hK hg (hsize.trans hml.symm) (argsL := As) (rest := rest) (fun sig h => hn.trans (hlen sig h)) hstack hW (by rw [hb]; exact hdg)
    (fun vm₁ hW₁ => ⟨hf.1, hf.2, hp.2 (T.setVm vm₁) hT hW₁⟩)
  dsimp only [Pt.U, Pt.locs, Pt.cells, Pt.slots] at X' e1 e2 h1 h2 h3 st
  subst h1; subst h2; subst h3
  exact ⟨v, (T.setVm vm₁).calling g' mk As.toArray, t, U', L, hT, X', hL, e1, e2, hq, st⟩
/-- not caught here, past rows that name other classes: it goes on to the caller -/
theorem vx_outP {p : Program} {l : Launch} {e : Env} {R : Room} {s : State} {m : MethodId} {args : Array Value} {below : List Frame} {meth : Method} {c : Code} {H : Heap} {locs : List Loc} {cells slots : Nat} {free : Addr → Prop} {ls : Array Slot} {rest : List Value} {Qc : Array Value → State → Outcome → State → Prop} {XC : String → State → State → Prop}
    {pc : Nat} {own E : String} {ce : Cell} {q : Addr} {mc ms : Nat} (hown : s.vm.findClass own = some m.cls) (hlocks : meth.locks = false)
    (hpass : ∀ z ∈ c.exceptionTable.toList, covers z pc = false ∨ (z.catchType ≠ 0 ∧ ∃ nm : String, (Cond.classLink own z.catchType nm).before args s = true ∧ va_Nc E nm s)) (hcell : H[q]? = some ce) (hv : ce.vm = .none) (hcl : s.vm.findClass E = some ce.cls)
    (hx : ∀ t : State, t.heap = H → s.vm.Alike t.vm → XC E s t) (hf : ∀ z ∈ locs, free z.base) (hc : cells ≤ mc) (hs : slots ≤ ms) :
    vx_W p l e R s m args below meth c H locs cells slots (vx_MQ below Qc XC args s mc ms free) (F0 m pc ls rest) q := by
  intro T hT X
  have hpl : e.platform.magicAccessors = ({} : Platform).magicAccessors := by rw [X.admits.platform]
  obtain ⟨vm', hW', X', st⟩ := X.outThrough hlocks q (g := F0 m pc ls rest) rfl rfl rfl (cell := ce) (by rw [hT]; exact hcell) (by rw [hv]; rfl)
    (by obtain ⟨k9, h9, -⟩ := Vm.findClass_spec hcl; exact ⟨k9, h9⟩) (fun z hz => by
      rcases hpass z hz with h | ⟨hz0, nm, hl1, hn1⟩
      · exact Or.inl h
      · obtain ⟨c6, hc6, hcl6⟩ := Cond.classLink_spec hown hl1 e.platform hpl
        obtain ⟨a8, b8, h1, h2, h3⟩ := hn1
        cases Option.some.inj (h1.symm.trans hcl)
        cases Option.some.inj (h2.symm.trans hc6)
        exact Or.inr ⟨hz0, _, hcl6, h3⟩)
  obtain ⟨g₀, hfr⟩ := X'.frames_eq
  have hcell9 : ((T.setVm vm').setFrames (.throwing q :: below)).heap[q]? = some ce := by
    show T.heap[q]? = some ce
    rw [hT]; exact hcell
  have hend : Ended ((T.setVm vm').setFrames (.throwing q :: below)) below (.threw q) := State.frames_setFrames _ (State.cur_lt_of_frames hfr)
  refine ⟨(T.setVm vm').setFrames (.throwing q :: below), ?_, .threw q, X'.here.running, hend, Or.inr ⟨q, rfl, E, ce, locs, hx _ hT (X'.ends _).1.alike, hcell9, hv, hcl, (X'.ends _).1, (X'.ends _).2.mono hc hs, hf⟩⟩
  rw [X.pushThrowing_eq]
  exact st
/-- a thing of a world lies in the heap -/
theorem vx_lt {D : va_G} {cl : List vw_C} {ws : va_W} {H1 : Heap} (h : va_P D cl ws H1) {k : Nat} {q : Nat × va_E} (hk : ws[k]? = some q) : q.1 < H1.size := (h k q hk).lt
end VXS
/-! ===== END ===== -/
/-! ===== BEGIN methods with a table of their own: called by a name, returning or throwing ===== -/
section VXH
/-! vx_backW, vx_callVX, vx_callSX, vx_callVW, vx_runVW, vx_runVX, vx_runSX, vx_ofWH follow the same proofs as their sisters above (Free/Laws.lean, Shelf42/LK1.lean); vx_outP calls Shelf42/NT130.lean (outThrough). -/
section
variable {l : Launch} {R : Room} {p : Program} {e : Env} {below : List Frame} {s : State} {sargs : Array Value} {y : MethodName} {len W9 : Nat}
theorem vx_backW {ws : List Cond} {rm : Room} {Pc : Array Value → State → Prop} {Qc : Array Value → State → Outcome → State → Prop} {XC : String → State → State → Prop} {mc ms : Nat} {free : Addr → Prop} {bytes : ByteArray} {maxL : Nat} {ret : Option FieldType} {hh : List (Nat × Nat × Nat × Nat)}
    (hM : vx_Met l y ws rm Pc Qc XC mc ms free) (hblind : FrameBlind Pc) (hrc : rm.cells = mc) (hrs : rm.slots = ms)
    (hframes : rm.frames + 1 ≤ R.frames) (hlocals : W9 + (maxL + 11) + rm.locals ≤ R.locals)
    (hws : ∀ w ∈ ws, ∀ a' U, s.WarmedH U.vm → w.before a' U = true) (hcode : Cond.codeWith y bytes maxL ret hh ∈ ws) (hinit : ∀ a' U, s.WarmedH U.vm → (Cond.initialized y.cls).before a' U = true) :
    vx_Back l R p e below s sargs y len W9 (PreOf R mc ms Pc) (PostOf Qc mc ms free) (vx_Post XC mc ms free) := by
  intro m meth c A g ig mk a X hg hsize hdg hW hn hp
  have h1 : (headSpec ws rm).pre.before a A.U = true := atoms_intro fun w hw => hws w hw _ _ X.warmed
  have h2 : (Cond.codeWith y bytes maxL ret hh).before a A.U = true := hws _ hcode _ _ X.warmed
  have h3 : (Cond.initialized y.cls).before a A.U = true := hinit _ _ X.warmed
  have h4 : A.cells + (headSpec ws rm).room.cells ≤ R.cells := by rw [show (headSpec ws rm).room.cells = mc from hrc]; exact hp.1
  have h5 : A.slots + (headSpec ws rm).room.slots ≤ R.slots := by rw [show (headSpec ws rm).room.slots = ms from hrs]; exact hp.2.1
  have hPc : Pc a (A.U.calling g mk a) := hblind _ _ _ _ hp.2.2
  obtain ⟨U, Ls, c0, s0⟩ := A
  dsimp only [Pt.U, Pt.locs, Pt.cells, Pt.slots] at h1 h2 h3 h4 h5 X hn hPc ⊢
  obtain ⟨m9, methY, cY, hn9, hmY, hcY, -, hlY, -⟩ := Cond.codeWith_spec h2
  cases Option.some.inj (hn9.symm.trans hn)
  obtain ⟨kY, hkY, -⟩ := className_of_methodNamed hn
  have hinitY : kY.init = .initialized := Cond.initialized_spec (findClass_of_methodNamed hn) hkY h3
  have h : At U g.method c below := by rw [hg]; exact X.here
  have hlocals9 : W9 + (maxL + 11) + (headSpec ws rm).room.locals ≤ R.locals := hlocals
  have happ : (headSpec ws rm).appliesLoose y e.platform (U.calling g mk a) = true :=
    Spec.appliesLoose_calling (g := g) h hdg hn hkY hinitY
      (X.room_calling (g := g) (R' := (headSpec ws rm).room) hsize hmY hcY hframes (by rw [hlY]; omega) h4 h5) h1
  obtain ⟨mid, hmid⟩ := h.above
  have hfr : (U.setTop g).frames = (.java g :: mid) ++ below := by rw [State.frames_setTop' g h.top, hmid]; rfl
  obtain ⟨o, s₂, hsteps, -, hend, hq⟩ := Steps.callFree hM p X.admits X.cas X.clock (acts := []) hfr happ hPc trivial
  have hq' : vx_Q Qc XC mc ms free a (U.calling g mk a) o s₂ := hq
  rw [State.frames_setTop' g h.top] at hend
  obtain ⟨g₀, hg0⟩ := Option.isSome_iff_exists.mp h.top
  obtain ⟨r, hr⟩ := State.topJava?_eq_some.mp hg0
  have hr' : (({ U with heap := s₂.heap, slotsUsed := s₂.slotsUsed } : State).setVm s₂.vm).frames = .java g₀ :: r := hr
  rcases hq' with ⟨hqc, L, hfe, hL⟩ | ⟨q, rfl, E, ce, L, hx, hce, hcv, hcl, hW₂, hsm, hL⟩
  · obtain ⟨⟨v, rfl⟩, hW₂, e2, q2, q3, q4, q5, q6⟩ := id hfe
    have e3 : s₂ = ({ (U.calling g mk a).setFrames s₂.frames with heap := s₂.heap, slotsUsed := s₂.slotsUsed } : State).setVm s₂.vm := by
      have : s₂ = ({ s₂ with vm := (U.calling g mk a).vm } : State).setVm s₂.vm := rfl
      rw [e2] at this
      exact this
    obtain ⟨c₂, i₂, len₂, hc₂, hd₂, hf₂⟩ := hend
    have hW' : U.WarmedH s₂.vm := hW₂
    have hcc : c₂ = c := by
      have h1 : s₂.code? g.method = U.code? g.method := by
        rw [State.code?_eq, State.code?_eq, hW'.alike.method?]
      exact Option.some.inj (hc₂.symm.trans (h1.trans h.code))
    subst hcc
    have hlen : len₂ = len := by rw [hdg] at hd₂; cases hd₂; rfl
    subst hlen
    have hs₂ : s₂ = (({ U with heap := s₂.heap, slotsUsed := s₂.slotsUsed } : State).setVm s₂.vm).setTop { g with pc := g.pc + len₂, stack := v.toList ++ g.stack } := by
      refine e3.trans ?_
      rw [hf₂, State.calling_eq h.top, State.setFrames_setFrames, State.setTop_of_frames _ hr', hr]
      rfl
    have hsame : U.sameButNew ({ U with heap := s₂.heap, slotsUsed := s₂.slotsUsed } : State) L mc ms := by
      refine ⟨?_, q2, q3, q4, q5, q6⟩
      obtain ⟨t, ht, -⟩ := State.frames_cons hr
      show ({ U with heap := s₂.heap, slotsUsed := s₂.slotsUsed } : State) = { U.setFrames U.frames with heap := s₂.heap, slotsUsed := s₂.slotsUsed }
      rw [State.setFrames_self ht]
    subst hg
    refine Or.inl ⟨v, ⟨(({ U with heap := s₂.heap, slotsUsed := s₂.slotsUsed } : State).setVm s₂.vm), Ls ++ L, c0 + mc, s0 + ms⟩,
      ⟨X.admits, X.cas, X.clock, X.frames, X.room, X.hears, X.method, X.code, (X.here.setHeapUsed s₂.heap s₂.slotsUsed).setVm hW'.alike, X.tail, State.WarmedH.trans X.warmed hW', X.limits, X.bytes, X.same.trans (hsame.setVm s.vm)⟩,
      ⟨g, mk, s₂, L, rfl, rfl, hqc, rfl, hL, rfl, rfl⟩, ?_⟩
    show Steps p.tables e below _ ((({ U with heap := s₂.heap, slotsUsed := s₂.slotsUsed } : State).setVm s₂.vm).setTop { g with pc := g.pc + len₂, stack := v.toList ++ g.stack })
    rw [← hs₂]
    exact hsteps
  · obtain ⟨e2, q2, q3, q4, q5, q6⟩ := id hsm
    have e3 : s₂ = ({ (U.calling g mk a).setFrames s₂.frames with heap := s₂.heap, slotsUsed := s₂.slotsUsed } : State).setVm s₂.vm := by
      have : s₂ = ({ s₂ with vm := (U.calling g mk a).vm } : State).setVm s₂.vm := rfl
      rw [e2] at this
      exact this
    have hf₂ : s₂.frames = .throwing q :: .java g :: U.frames.tail := hend
    have hW' : U.WarmedH s₂.vm := hW₂
    have hs₂ : s₂ = ((({ U with heap := s₂.heap, slotsUsed := s₂.slotsUsed } : State).setVm s₂.vm).setTop g).pushFrame (.throwing q) := by
      refine e3.trans ?_
      rw [hf₂, State.calling_eq h.top, State.setFrames_setFrames, State.pushFrame, State.frames_setTop _ hr', State.setTop_of_frames _ hr', State.setFrames_setFrames, hr]
      rfl
    have hsame : U.sameButNew ({ U with heap := s₂.heap, slotsUsed := s₂.slotsUsed } : State) L mc ms := by
      refine ⟨?_, q2, q3, q4, q5, q6⟩
      obtain ⟨t, ht, -⟩ := State.frames_cons hr
      show ({ U with heap := s₂.heap, slotsUsed := s₂.slotsUsed } : State) = { U.setFrames U.frames with heap := s₂.heap, slotsUsed := s₂.slotsUsed }
      rw [State.setFrames_self ht]
    subst hg
    refine Or.inr ⟨q, ⟨(({ U with heap := s₂.heap, slotsUsed := s₂.slotsUsed } : State).setVm s₂.vm), Ls ++ L, c0 + mc, s0 + ms⟩,
      ⟨X.admits, X.cas, X.clock, X.frames, X.room, X.hears, X.method, X.code, (X.here.setHeapUsed s₂.heap s₂.slotsUsed).setVm hW'.alike, X.tail, State.WarmedH.trans X.warmed hW', X.limits, X.bytes, X.same.trans (hsame.setVm s.vm)⟩,
      ⟨g, mk, s₂, L, E, ce, rfl, rfl, hx, hce, hcv, hcl, rfl, hL, rfl, rfl⟩, ?_⟩
    show Steps p.tables e below _ (((({ U with heap := s₂.heap, slotsUsed := s₂.slotsUsed } : State).setVm s₂.vm).setTop g).pushFrame (.throwing q))
    rw [← hs₂]
    exact hsteps
end
variable {p : Program} {l : Launch} {e : Env} {R : Room} {s : State} {m : MethodId} {args : Array Value} {below : List Frame} {meth : Method} {c : Code} {T : State} {H : Heap} {locs : List Loc} {cells slots : Nat}
theorem vx_callVX (X : Stand p l e R s m args below meth c T locs cells slots) (hexec : p.tables.exec = Jvm.exec) {own C : String} {index : Nat} {y : MethodName} {bytes : ByteArray} {maxL : Nat} {ret : Option FieldType} {hh : List (Nat × Nat × Nat × Nat)}
    (hown : s.vm.findClass own = some m.cls) (hlink : (Cond.methodLink own index y).before args s = true) (hinst : (Cond.instanceMethod y).before args s = true) (hsel : (Cond.selects C y y).before args s = true)
    (hcode : (Cond.codeWith y bytes maxL ret hh).before args s = true) (hy : y.cls ≠ "java/lang/invoke/MethodHandle" ∧ y.cls ≠ "java/lang/invoke/VarHandle")
    {W9 : Nat} {Pre : Pt → Array Value → Prop} {Post : Pt → Array Value → Option Value → Pt → Prop} {PostX : Pt → Array Value → Addr → Pt → Prop} (hK : vx_Back l R p e below s args y 3 W9 Pre Post PostX)
    {b : Addr} {cellB : Cell} (hcell : T.heap[b]? = some cellB) (hobj : cellB.vm.isStatics = false) (hcls : s.vm.findClass C = some cellB.cls)
    {g : JFrame} (hg : g.method = m) (hsize : g.locals.size = c.maxLocals) {argsL rest : List Value} (hlen : ∀ sig, parseMethodDescriptor y.desc = some sig → argsL.length = sig.parameters.length)
    (hstack : g.stack = argsL.reverse ++ .ref b :: rest) (hW : 2 * g.monitorRoom + (rest.map fun v => v.category).sum ≤ W9) (hdg : decode c.code g.pc = .ok (.invokevirtual index, 3))
    (hpre : ∀ vm₁, s.WarmedH vm₁ → Pre ⟨T.setVm vm₁, locs, cells, slots⟩ (Value.ref b :: argsL).toArray) :
    (∃ (v : Option Value) (vm₁ : Vm) (B : Pt), s.WarmedH vm₁ ∧ Stand p l e R s m args below meth c B.U B.locs B.cells B.slots ∧ Post ⟨T.setVm vm₁, locs, cells, slots⟩ (Value.ref b :: argsL).toArray v B ∧
      ∀ target, Steps p.tables e below (B.U.setTop { g with pc := g.pc + 3, stack := v.toList ++ rest }) target → Steps p.tables e below (T.setTop g) target) ∨
    (∃ (q : Addr) (vm₁ : Vm) (B : Pt), s.WarmedH vm₁ ∧ Stand p l e R s m args below meth c B.U B.locs B.cells B.slots ∧ PostX ⟨T.setVm vm₁, locs, cells, slots⟩ (Value.ref b :: argsL).toArray q B ∧
      Steps p.tables e below (T.setTop g) ((B.U.setTop { g with stack := rest }).pushFrame (.throwing q))) := by
  obtain ⟨mk, methM, hnamed, hmethM, hstM, habM⟩ := Cond.instanceMethod_spec hinst
  obtain ⟨m8, methM', cM, hn8, hmethM', -, -, -, -, -, -, hsigM⟩ := Cond.codeWith_spec hcode
  cases Option.some.inj (hn8.symm.trans hnamed)
  cases hmethM.symm.trans hmethM'
  obtain ⟨c2, r2, m2, q1, q2, q3, q4, kP, hkP, hkPi⟩ := Cond.selects_spec hsel
  cases hcls.symm.trans q1
  cases (State.methodFound?_of_named hnamed hy).symm.trans q2
  cases hnamed.symm.trans q3
  have hselP : selectMethod e.platform s.vm cellB.cls mk = .method mk := by rw [Launch.admits_selectMethod X.admits]; exact q4
  obtain ⟨vm₁, X₁, hstep₁⟩ := X.invokevirtual hexec hown hlink hnamed hmethM hstM hkP hkPi hy (a := b) (cell := cellB) hcell
    (fun z h => by rw [h] at hobj; cases hobj) hselP hmethM habM hkP hkPi (g := g) hg (argsL := argsL) (rest := rest) (hlen _ hsigM) hstack hdg
  rcases hK m meth c ⟨T.setVm vm₁, locs, cells, slots⟩ { g with stack := rest } (.invokevirtual index) mk (Value.ref b :: argsL).toArray X₁ hg hsize hdg hW (X₁.named hnamed) (hpre vm₁ X₁.warmed) with ⟨v, B, X', hpost, hsteps⟩ | ⟨q, B, X', hpost, hsteps⟩
  · exact Or.inl ⟨v, vm₁, B, X₁.warmed, X', hpost, fun target h => hstep₁ _ fun acts => by rw [doInvoke_state]; exact hsteps.trans h⟩
  · exact Or.inr ⟨q, vm₁, B, X₁.warmed, X', hpost, hstep₁ _ fun acts => by rw [doInvoke_state]; exact hsteps⟩
theorem vx_callSX (X : Stand p l e R s m args below meth c T locs cells slots) (hexec : p.tables.exec = Jvm.exec) {own : String} {index : Nat} {y : MethodName} {bytes : ByteArray} {maxL : Nat} {ret : Option FieldType} {hh : List (Nat × Nat × Nat × Nat)}
    (hown : s.vm.findClass own = some m.cls) (hlink : (Cond.methodLink own index y).before args s = true) (hstat : (Cond.static y).before args s = true) (hinit : (Cond.initialized y.cls).before args s = true)
    (hcode : (Cond.codeWith y bytes maxL ret hh).before args s = true) (hy : y.cls ≠ "java/lang/invoke/MethodHandle" ∧ y.cls ≠ "java/lang/invoke/VarHandle")
    {W9 : Nat} {Pre : Pt → Array Value → Prop} {Post : Pt → Array Value → Option Value → Pt → Prop} {PostX : Pt → Array Value → Addr → Pt → Prop} (hK : vx_Back l R p e below s args y 3 W9 Pre Post PostX)
    {g : JFrame} (hg : g.method = m) (hsize : g.locals.size = c.maxLocals) {argsL rest : List Value} (hlen : ∀ sig, parseMethodDescriptor y.desc = some sig → argsL.length = sig.parameters.length)
    (hstack : g.stack = argsL.reverse ++ rest) (hW : 2 * g.monitorRoom + (rest.map fun v => v.category).sum ≤ W9) (hdg : decode c.code g.pc = .ok (.invokestatic index, 3))
    (hpre : ∀ vm₁, s.WarmedH vm₁ → Pre ⟨T.setVm vm₁, locs, cells, slots⟩ argsL.toArray) :
    (∃ (v : Option Value) (vm₁ : Vm) (B : Pt), s.WarmedH vm₁ ∧ Stand p l e R s m args below meth c B.U B.locs B.cells B.slots ∧ Post ⟨T.setVm vm₁, locs, cells, slots⟩ argsL.toArray v B ∧
      ∀ target, Steps p.tables e below (B.U.setTop { g with pc := g.pc + 3, stack := v.toList ++ rest }) target → Steps p.tables e below (T.setTop g) target) ∨
    (∃ (q : Addr) (vm₁ : Vm) (B : Pt), s.WarmedH vm₁ ∧ Stand p l e R s m args below meth c B.U B.locs B.cells B.slots ∧ PostX ⟨T.setVm vm₁, locs, cells, slots⟩ argsL.toArray q B ∧
      Steps p.tables e below (T.setTop g) ((B.U.setTop { g with stack := rest }).pushFrame (.throwing q))) := by
  obtain ⟨mk, methM, cM, hnamed, hmethM, -, -, -, -, -, -, hsigM⟩ := Cond.codeWith_spec hcode
  have hstatic : methM.isStatic = true := Cond.static_spec hnamed hmethM hstat
  obtain ⟨kP, hkP, -⟩ := className_of_methodNamed hnamed
  have hinitP : kP.init = .initialized := Cond.initialized_spec (findClass_of_methodNamed hnamed) hkP hinit
  obtain ⟨vm₁, X₁, hstep₁⟩ := X.invokestatic hexec hown hlink hnamed hmethM hstatic hkP hinitP hy (g := g) hg (argsL := argsL) (rest := rest) (hlen _ hsigM) hstack hdg
  rcases hK m meth c ⟨T.setVm vm₁, locs, cells, slots⟩ { g with stack := rest } (.invokestatic index) mk argsL.toArray X₁ hg hsize hdg hW (X₁.named hnamed) (hpre vm₁ X₁.warmed) with ⟨v, B, X', hpost, hsteps⟩ | ⟨q, B, X', hpost, hsteps⟩
  · exact Or.inl ⟨v, vm₁, B, X₁.warmed, X', hpost, fun target h => hstep₁ _ fun acts => by rw [doInvoke_state]; exact hsteps.trans h⟩
  · exact Or.inr ⟨q, vm₁, B, X₁.warmed, X', hpost, hstep₁ _ fun acts => by rw [doInvoke_state]; exact hsteps⟩
theorem vx_callVW (X : Stand p l e R s m args below meth c T locs cells slots) (hexec : p.tables.exec = Jvm.exec) {own C : String} {index : Nat} {y : MethodName} {bytes : ByteArray} {maxL : Nat} {ret : Option FieldType} {hh : List (Nat × Nat × Nat × Nat)}
    (hown : s.vm.findClass own = some m.cls) (hlink : (Cond.methodLink own index y).before args s = true) (hinst : (Cond.instanceMethod y).before args s = true) (hsel : (Cond.selects C y y).before args s = true)
    (hcode : (Cond.codeWith y bytes maxL ret hh).before args s = true) (hy : y.cls ≠ "java/lang/invoke/MethodHandle" ∧ y.cls ≠ "java/lang/invoke/VarHandle")
    {W9 : Nat} {Pre : Pt → Array Value → Prop} {Post : Pt → Array Value → Option Value → Pt → Prop} (hK : Back l R p e below s args y 3 W9 Pre Post)
    {b : Addr} {cellB : Cell} (hcell : T.heap[b]? = some cellB) (hobj : cellB.vm.isStatics = false) (hcls : s.vm.findClass C = some cellB.cls)
    {g : JFrame} (hg : g.method = m) (hsize : g.locals.size = c.maxLocals) {argsL rest : List Value} (hlen : ∀ sig, parseMethodDescriptor y.desc = some sig → argsL.length = sig.parameters.length)
    (hstack : g.stack = argsL.reverse ++ .ref b :: rest) (hW : 2 * g.monitorRoom + (rest.map fun v => v.category).sum ≤ W9) (hdg : decode c.code g.pc = .ok (.invokevirtual index, 3))
    (hpre : ∀ vm₁, s.WarmedH vm₁ → Pre ⟨T.setVm vm₁, locs, cells, slots⟩ (Value.ref b :: argsL).toArray) :
    ∃ (v : Option Value) (vm₁ : Vm) (B : Pt), s.WarmedH vm₁ ∧ Stand p l e R s m args below meth c B.U B.locs B.cells B.slots ∧ Post ⟨T.setVm vm₁, locs, cells, slots⟩ (Value.ref b :: argsL).toArray v B ∧
      ∀ target, Steps p.tables e below (B.U.setTop { g with pc := g.pc + 3, stack := v.toList ++ rest }) target → Steps p.tables e below (T.setTop g) target := by
  obtain ⟨mk, methM, hnamed, hmethM, hstM, habM⟩ := Cond.instanceMethod_spec hinst
  obtain ⟨m8, methM', cM, hn8, hmethM', -, -, -, -, -, -, hsigM⟩ := Cond.codeWith_spec hcode
  cases Option.some.inj (hn8.symm.trans hnamed)
  cases hmethM.symm.trans hmethM'
  obtain ⟨c2, r2, m2, q1, q2, q3, q4, kP, hkP, hkPi⟩ := Cond.selects_spec hsel
  cases hcls.symm.trans q1
  cases (State.methodFound?_of_named hnamed hy).symm.trans q2
  cases hnamed.symm.trans q3
  have hselP : selectMethod e.platform s.vm cellB.cls mk = .method mk := by rw [Launch.admits_selectMethod X.admits]; exact q4
  obtain ⟨vm₁, X₁, hstep₁⟩ := X.invokevirtual hexec hown hlink hnamed hmethM hstM hkP hkPi hy (a := b) (cell := cellB) hcell
    (fun z h => by rw [h] at hobj; cases hobj) hselP hmethM habM hkP hkPi (g := g) hg (argsL := argsL) (rest := rest) (hlen _ hsigM) hstack hdg
  obtain ⟨v, B, X', hpost, hsteps⟩ := hK m meth c ⟨T.setVm vm₁, locs, cells, slots⟩ { g with stack := rest } (.invokevirtual index) mk (Value.ref b :: argsL).toArray X₁ hg hsize hdg hW (X₁.named hnamed) (hpre vm₁ X₁.warmed)
  exact ⟨v, vm₁, B, X₁.warmed, X', hpost, fun target h => hstep₁ _ fun acts => by rw [doInvoke_state]; exact hsteps.trans h⟩
abbrev vx_CVW (R : Room) (s : State) (args : Array Value) (own C : String) (index : Nat) (y : MethodName) (bytes : ByteArray) (maxL : Nat) (ret : Option FieldType) (hh : List (Nat × Nat × Nat × Nat)) (ws : List Cond) (rm : Room) (mc ms n : Nat) : Prop :=
  (rm.cells = mc ∧ rm.slots = ms ∧ rm.frames + 1 ≤ R.frames ∧ 8 + (maxL + 11) + rm.locals ≤ R.locals ∧ (∀ w ∈ ws, ∀ (a' : Array Value) (U : State), s.WarmedH U.vm → w.before a' U = true) ∧ Cond.codeWith y bytes maxL ret hh ∈ ws) ∧
  (Cond.codeWith y bytes maxL ret hh).before args s = true ∧ (Cond.initialized y.cls).before args s = true ∧ (y.cls ≠ "java/lang/invoke/MethodHandle" ∧ y.cls ≠ "java/lang/invoke/VarHandle") ∧
  (∀ sig, parseMethodDescriptor y.desc = some sig → n = sig.parameters.length) ∧ (Cond.methodLink own index y).before args s = true ∧ (Cond.instanceMethod y).before args s = true ∧ (Cond.selects C y y).before args s = true
theorem vx_cwVW {own C : String} {index maxL mc ms : Nat} {y : MethodName} {bytes : ByteArray} {ret : Option FieldType} {hh : List (Nat × Nat × Nat × Nat)} {Ts ws ws' : List Cond} {rm : Room} (n : Nat) (ht : ∀ w ∈ Ts, w.before args s = true) (hT : GoodIn Ts (wsV own index C y ws)) (hw : ws = Cond.codeWith y bytes maxL ret hh :: ws') (hrc : rm.cells = mc) (hrs : rm.slots = ms)
    (hd : y.cls = C ∧ y.cls ≠ "java/lang/invoke/MethodHandle" ∧ y.cls ≠ "java/lang/invoke/VarHandle" ∧ (parseMethodDescriptor y.desc).map (fun d => d.parameters.length) = some n) (hR : rm.frames + 1 ≤ R.frames ∧ 8 + (maxL + 11) + rm.locals ≤ R.locals) :
    vx_CVW R s args own C index y bytes maxL ret hh ws rm mc ms n := by
  obtain ⟨hC, hd⟩ := hd
  subst hC
  have ok : ∀ w ∈ wsV own index y.cls y ws, w.before args s = true := fun w h => ht w (hT w h).1
  have hG : GoodIn Ts ws := fun w h => hT w (by unfold wsV; exact List.mem_append_right _ h)
  have hc : Cond.codeWith y bytes maxL ret hh ∈ ws := by rw [hw]; exact List.mem_cons_self
  refine ⟨⟨hrc, hrs, hR.1, hR.2, pay_in ht hG, hc⟩, ht _ (hG _ hc).1, ok _ (by simp [wsV]), ⟨hd.1, hd.2.1⟩, fun sig h => ?_, ok _ (by simp [wsV]), ok _ (by simp [wsV]), ok _ (by simp [wsV])⟩
  have h2 := hd.2.2
  rw [h] at h2
  exact (Option.some.inj h2).symm
theorem vx_runVW {y : MethodName} {bytes cc : ByteArray} {maxL nL mc ms n index : Nat} {ret : Option FieldType} {hh : List (Nat × Nat × Nat × Nat)} {ws : List Cond} {rm : Room} {Pc : Array Value → State → Prop} {Qc : Array Value → State → Outcome → State → Prop} {free : Addr → Prop} {Ts : List Cond} {own C : String} {b : Addr} {As rest : List Value} {g : JFrame}
    (S : CallFix p m c cc nL s args Ts own) (hM : Met l y ws rm Pc Qc mc ms free) (cw : vx_CVW R s args own C index y bytes maxL ret hh ws rm mc ms n) (hp : PreV s H C b Pc As)
    (hg : g.method = m) (hn : As.length = n) (hsize : g.locals.size = nL) (hstack : g.stack = As.reverse ++ .ref b :: rest) (hW : 2 * g.monitorRoom + (rest.map fun v => v.category).sum ≤ 8) (hdg : decode cc g.pc = .ok (.invokevirtual index, 3)) (hf : cells + mc ≤ R.cells ∧ slots + ms ≤ R.slots) :
    va_Run p l e R s m args below meth c H locs cells slots mc ms g rest (Qc (Value.ref b :: As).toArray) free := by
  obtain ⟨⟨hrc, hrs, hfr, hlo, hws, hcw⟩, hcode, hini, hy, hlen, hl, hin, hse⟩ := cw
  have hK : Back l R p e below s args y 3 8 (PreOf R mc ms Pc) (PostOf Qc mc ms free) := va_backW (hh := hh) (bytes := bytes) (maxL := maxL) (ret := ret) hM hp.1 hrc hrs hfr hlo hws hcw (fun a' U hW => word_at hW (Or.inl (by first | rfl | simp [Cond.onTables, Cond.keeps, Cond.steady])) hini)
  obtain ⟨hx, hb, hml, ho, -⟩ := S
  obtain ⟨-, ⟨cellB, hcB, hoB, hclB⟩, hPc⟩ := hp
  intro T hT X
  obtain ⟨v, vm₁, ⟨U', l2, c2, s2⟩, hW₁, X', ⟨g', mk, t, L, e1, e2, hq, h1, hL, h2, h3⟩, st⟩ := vx_callVW X hx (C := C) (hh := hh) (bytes := bytes) (maxL := maxL) (ret := ret) ho hl hin hse hcode hy hK (by rw [hT]; exact hcB) hoB hclB hg (hsize.trans hml.symm) (argsL := As) (rest := rest) (fun sig h => hn.trans (hlen sig h)) hstack hW (by rw [hb]; exact hdg)
    (fun vm₁ hW₁ => ⟨hf.1, hf.2, hPc (T.setVm vm₁) hT hW₁⟩)
  dsimp only [Pt.U, Pt.locs, Pt.cells, Pt.slots] at X' e1 e2 h1 h2 h3 st
  subst h1; subst h2; subst h3
  exact ⟨v, (T.setVm vm₁).calling g' mk (Value.ref b :: As).toArray, t, U', L, hT, X', hL, e1, e2, hq, st⟩
section
variable {y : MethodName} {bytes cc : ByteArray} {maxL nL mc ms n index : Nat} {ret : Option FieldType} {ws : List Cond} {rm : Room} {Pc : Array Value → State → Prop} {Qc : Array Value → State → Outcome → State → Prop} {XC : String → State → State → Prop} {free : Addr → Prop} {Ts : List Cond} {own C : String} {b : Addr} {As rest : List Value} {g : JFrame}
theorem vx_runVX {hh : List (Nat × Nat × Nat × Nat)} (S : CallFix p m c cc nL s args Ts own) (hM : vx_Met l y ws rm Pc Qc XC mc ms free) (cw : vx_CVW R s args own C index y bytes maxL ret hh ws rm mc ms n) (hp : PreV s H C b Pc As)
    (hg : g.method = m) (hn : As.length = n) (hsize : g.locals.size = nL) (hstack : g.stack = As.reverse ++ .ref b :: rest) (hW : 2 * g.monitorRoom + (rest.map fun v => v.category).sum ≤ 8) (hdg : decode cc g.pc = .ok (.invokevirtual index, 3)) (hf : cells + mc ≤ R.cells ∧ slots + ms ≤ R.slots) :
    vx_Run p l e R s m args below meth c H locs cells slots mc ms g rest (Qc (Value.ref b :: As).toArray) XC free := by
  obtain ⟨⟨hrc, hrs, hfr, hlo, hws, hcw⟩, hcode, hini, hy, hlen, hl, hin, hse⟩ := cw
  have hK : vx_Back l R p e below s args y 3 8 (PreOf R mc ms Pc) (PostOf Qc mc ms free) (vx_Post XC mc ms free) := vx_backW (hh := hh) (bytes := bytes) (maxL := maxL) (ret := ret) hM hp.1 hrc hrs hfr hlo hws hcw (fun a' U hW => word_at hW (Or.inl (by first | rfl | simp [Cond.onTables, Cond.keeps, Cond.steady])) hini)
  obtain ⟨hx, hb, hml, ho, -⟩ := S
  obtain ⟨-, ⟨cellB, hcB, hoB, hclB⟩, hPc⟩ := hp
  intro T hT X
  rcases vx_callVX X hx (C := C) (hh := hh) (bytes := bytes) (maxL := maxL) (ret := ret) ho hl hin hse hcode hy hK (by rw [hT]; exact hcB) hoB hclB hg (hsize.trans hml.symm) (argsL := As) (rest := rest) (fun sig h => hn.trans (hlen sig h)) hstack hW (by rw [hb]; exact hdg)
    (fun vm₁ hW₁ => ⟨hf.1, hf.2, hPc (T.setVm vm₁) hT hW₁⟩) with ⟨v, vm₁, ⟨U', l2, c2, s2⟩, hW₁, X', ⟨g', mk, t, L, e1, e2, hq, h1, hL, h2, h3⟩, st⟩ | ⟨q, vm₁, ⟨U', l2, c2, s2⟩, hW₁, X', ⟨g', mk, t, L, E, ce, e1, e2, hq, hce, hcv, hcl, h1, hL, h2, h3⟩, st⟩
  · dsimp only [Pt.U, Pt.locs, Pt.cells, Pt.slots] at X' e1 e2 h1 h2 h3 st
    subst h1; subst h2; subst h3
    exact Or.inl ⟨v, (T.setVm vm₁).calling g' mk (Value.ref b :: As).toArray, t, U', L, hT, X', hL, e1, e2, hq, st⟩
  · dsimp only [Pt.U, Pt.locs, Pt.cells, Pt.slots] at X' e1 e2 h1 h2 h3 st hcl
    subst h1; subst h2; subst h3
    exact Or.inr ⟨q, (T.setVm vm₁).calling g' mk (Value.ref b :: As).toArray, t, U', L, E, ce, hT, X', hL, e1, e2, hq, hce, hcv, vx_cls hW₁ hcl, st⟩
theorem vx_runSX {hh : List (Nat × Nat × Nat × Nat)} (S : CallFix p m c cc nL s args Ts own) (hM : vx_Met l y ws rm Pc Qc XC mc ms free) (cw : vx_CSW R s args own index y bytes maxL ret hh ws rm mc ms n) (hp : PreS s H Pc As)
    (hg : g.method = m) (hn : As.length = n) (hsize : g.locals.size = nL) (hstack : g.stack = As.reverse ++ rest) (hW : 2 * g.monitorRoom + (rest.map fun v => v.category).sum ≤ 8) (hdg : decode cc g.pc = .ok (.invokestatic index, 3)) (hf : cells + mc ≤ R.cells ∧ slots + ms ≤ R.slots) :
    vx_Run p l e R s m args below meth c H locs cells slots mc ms g rest (Qc As.toArray) XC free := by
  obtain ⟨⟨hrc, hrs, hfr, hlo, hws, hcw⟩, hcode, hini, hy, hlen, hl, hstt⟩ := cw
  have hK : vx_Back l R p e below s args y 3 8 (PreOf R mc ms Pc) (PostOf Qc mc ms free) (vx_Post XC mc ms free) := vx_backW (hh := hh) (bytes := bytes) (maxL := maxL) (ret := ret) hM hp.1 hrc hrs hfr hlo hws hcw (fun a' U hW => word_at hW (Or.inl (by first | rfl | simp [Cond.onTables, Cond.keeps, Cond.steady])) hini)
  obtain ⟨hx, hb, hml, ho, -⟩ := S
  intro T hT X
  rcases vx_callSX X hx (hh := hh) (bytes := bytes) (maxL := maxL) (ret := ret) ho hl hstt hini hcode hy hK hg (hsize.trans hml.symm) (argsL := As) (rest := rest) (fun sig h => hn.trans (hlen sig h)) hstack hW (by rw [hb]; exact hdg)
    (fun vm₁ hW₁ => ⟨hf.1, hf.2, hp.2 (T.setVm vm₁) hT hW₁⟩) with ⟨v, vm₁, ⟨U', l2, c2, s2⟩, hW₁, X', ⟨g', mk, t, L, e1, e2, hq, h1, hL, h2, h3⟩, st⟩ | ⟨q, vm₁, ⟨U', l2, c2, s2⟩, hW₁, X', ⟨g', mk, t, L, E, ce, e1, e2, hq, hce, hcv, hcl, h1, hL, h2, h3⟩, st⟩
  · dsimp only [Pt.U, Pt.locs, Pt.cells, Pt.slots] at X' e1 e2 h1 h2 h3 st
    subst h1; subst h2; subst h3
    exact Or.inl ⟨v, (T.setVm vm₁).calling g' mk As.toArray, t, U', L, hT, X', hL, e1, e2, hq, st⟩
  · dsimp only [Pt.U, Pt.locs, Pt.cells, Pt.slots] at X' e1 e2 h1 h2 h3 st hcl
    subst h1; subst h2; subst h3
    exact Or.inr ⟨q, (T.setVm vm₁).calling g' mk As.toArray, t, U', L, E, ce, hT, X', hL, e1, e2, hq, hce, hcv, vx_cls hW₁ hcl, st⟩
end
end VXH
theorem vx_ofWH {l : Launch} {y : MethodName} {ws ws' : List Cond} {rm : Room} {Pc : Array Value → State → Prop} {Qc : Array Value → State → Outcome → State → Prop} {XC : String → State → State → Prop} {mc ms : Nat} {free : Addr → Prop} {cc : ByteArray} {maxL : Nat} {ret : Option FieldType} {hh : List (Nat × Nat × Nat × Nat)}
    (hy : plainName y.cls = true) (hw : ws = Cond.codeWith y cc maxL ret hh :: ws')
    (body : ∀ p e s m args below meth c s₁, BodyLoose p l y (headSpec ws rm) cc maxL ret e s m args below meth c s₁ → c.maxLocals = maxL → Pc args s →
      W p l e (headSpec ws rm).room s m args below meth c s.heap [] 0 0 (vx_MQ below Qc XC args s mc ms free) (entryFrame m args maxL)) : vx_Met l y ws rm Pc Qc XC mc ms free := by
  refine MetFree.of_bodyS (code := cc) (maxLocals := maxL) (ret := ret) hy ?_ ?_
  · intro args s m h hn
    obtain ⟨m9, meth, c, hn9, h1, h2, h3, h4, -, h5, h6, -⟩ := Cond.codeWith_spec (atoms_spec (ws := ws) h _ (by rw [hw]; exact List.mem_cons_self))
    cases hn.symm.trans hn9
    exact ⟨meth, c, h1, h2, h3, h4, h5, h6⟩
  · intro p e s m args below meth c s₁ B hml hP _
    have hh0 : s₁.heap = s.heap := by rw [B.state]; rfl
    obtain ⟨t, a1, o, b1, b2, b3⟩ := body p e s m args below meth c s₁ B hml hP s₁ hh0 (Stand.of_body B)
    exact ⟨t, o, a1, b1, b2, b3⟩
/-! ===== END ===== -/
end
section
/-! ===== BEGIN printed: names, fields, word lists, decode rows ===== -/
def RX0 : String := "KeccakLanes"
def TX0 : u_T := fun k => match k with
  | 0 => ("KeccakLanes", "lanes", "[[J", true)
  | 1 => ("KeccakLanes", "places", "[I", true)
  | 2 => ("KeccakLanes", "columns", "[J", true)
  | _ => ("KeccakLanes", "moved", "[J", true)
def tyX0 : Nat → FieldType := fun k => match k with
  | 0 => .array (.array .long)
  | 1 => .array .int
  | 2 => .array .long
  | _ => .array .long
abbrev wsX00 : List Cond := u_ws RX0 TX0 4
theorem nmX0 : ∀ a, a < 4 → ∀ b, b < 4 → a ≠ b → (TX0 a).2.1 ≠ (TX0 b).2.1 := by decide +kernel
theorem tyX0_ok : ∀ k, k < 4 → parseFieldDescriptor (TX0 k).2.2.1 = some (tyX0 k) := by decide +kernel
abbrev cX0_init : ByteArray := prog_1_method_1_code
def yX0_init : MethodName := ⟨RX0, "<init>", "()V"⟩
abbrev cX0_clear : ByteArray := prog_1_method_2_code
def yX0_clear : MethodName := ⟨RX0, "clear", "(I)V"⟩
abbrev cX0_take : ByteArray := prog_1_method_3_code
def yX0_take : MethodName := ⟨RX0, "take", "(IJI)I"⟩
abbrev cX0_fill : ByteArray := prog_1_method_4_code
def yX0_fill : MethodName := ⟨RX0, "fill", "(IIII)I"⟩
abbrev cX0_copy : ByteArray := prog_1_method_5_code
def yX0_copy : MethodName := ⟨RX0, "copy", "(II)V"⟩
abbrev cX0_mix : ByteArray := prog_1_method_6_code
def yX0_mix : MethodName := ⟨RX0, "mix", "(I)V"⟩
abbrev cX0_lane : ByteArray := prog_1_method_7_code
def yX0_lane : MethodName := ⟨RX0, "lane", "(II)J"⟩
abbrev cX0_digest : ByteArray := prog_1_method_8_code
def yX0_digest : MethodName := ⟨RX0, "digest", "(II)J"⟩
abbrev cX0_requireUpTo : ByteArray := prog_1_method_9_code
def yX0_requireUpTo : MethodName := ⟨RX0, "requireUpTo", "(II)V"⟩
abbrev cX0_copyState : ByteArray := prog_1_method_10_code
def yX0_copyState : MethodName := ⟨RX0, "copyState", "(II)V"⟩
abbrev cX0_takeIn : ByteArray := prog_1_method_11_code
def yX0_takeIn : MethodName := ⟨RX0, "takeIn", "(II)V"⟩
abbrev cX0_joinByte : ByteArray := prog_1_method_12_code
def yX0_joinByte : MethodName := ⟨RX0, "joinByte", "([JII)V"⟩
abbrev cX0_mixLanes : ByteArray := prog_1_method_13_code
def yX0_mixLanes : MethodName := ⟨RX0, "mixLanes", "([J)V"⟩
abbrev cX0_sumColumns : ByteArray := prog_1_method_14_code
def yX0_sumColumns : MethodName := ⟨RX0, "sumColumns", "([J)V"⟩
abbrev cX0_columnSum : ByteArray := prog_1_method_15_code
def yX0_columnSum : MethodName := ⟨RX0, "columnSum", "([JI)J"⟩
abbrev cX0_turnAndMove : ByteArray := prog_1_method_16_code
def yX0_turnAndMove : MethodName := ⟨RX0, "turnAndMove", "([J)V"⟩
abbrev cX0_combineRows : ByteArray := prog_1_method_17_code
def yX0_combineRows : MethodName := ⟨RX0, "combineRows", "([J)V"⟩
abbrev cX0_turnedLeft : ByteArray := prog_1_method_18_code
def yX0_turnedLeft : MethodName := ⟨RX0, "turnedLeft", "(JI)J"⟩
abbrev cX0_bytesTurnedRound : ByteArray := prog_1_method_19_code
def yX0_bytesTurnedRound : MethodName := ⟨RX0, "bytesTurnedRound", "(J)J"⟩
def RX1 : String := "KeccakLanesModel"
def TX1 : u_T := fun k => match k with
  | 0 => ("KeccakLanesModel", "failed", "I", false)
  | 1 => ("KeccakLanesModel", "states", "[[J", true)
  | 2 => ("KeccakLanesModel", "places", "[I", true)
  | 3 => ("KeccakLanesModel", "lanes", "[J", true)
  | 4 => ("KeccakLanesModel", "column", "[J", true)
  | 5 => ("KeccakLanesModel", "moved", "[J", true)
  | _ => ("KeccakLanesModel", "constants", "[J", true)
def tyX1 : Nat → FieldType := fun k => match k with
  | 0 => .int
  | 1 => .array (.array .long)
  | 2 => .array .int
  | 3 => .array .long
  | 4 => .array .long
  | 5 => .array .long
  | _ => .array .long
abbrev wsX10 : List Cond := u_ws RX1 TX1 7
theorem nmX1 : ∀ a, a < 7 → ∀ b, b < 7 → a ≠ b → (TX1 a).2.1 ≠ (TX1 b).2.1 := by decide +kernel
theorem tyX1_ok : ∀ k, k < 7 → parseFieldDescriptor (TX1 k).2.2.1 = some (tyX1 k) := by decide +kernel
abbrev cX1_constant : ByteArray := prog_3_method_1_code
def yX1_constant : MethodName := ⟨RX1, "constant", "(I)J"⟩
abbrev cX1_init : ByteArray := prog_3_method_3_code
def yX1_init : MethodName := ⟨RX1, "<init>", "()V"⟩
abbrev cX1_thrown : ByteArray := prog_3_method_4_code
def yX1_thrown : MethodName := ⟨RX1, "thrown", "()I"⟩
abbrev cX1_clear : ByteArray := prog_3_method_9_code
def yX1_clear : MethodName := ⟨RX1, "clear", "(I)V"⟩
def RJ13 : String := "java/lang/Long"
def TJ13 : u_T := fun k => match k with
  | _ => ("", "", "", false)
def tyJ13 : Nat → FieldType := fun k => match k with
  | _ => .int
abbrev wsJ130 : List Cond := u_ws RJ13 TJ13 0
theorem nmJ13 : ∀ a, a < 0 → ∀ b, b < 0 → a ≠ b → (TJ13 a).2.1 ≠ (TJ13 b).2.1 := by decide +kernel
theorem tyJ13_ok : ∀ k, k < 0 → parseFieldDescriptor (TJ13 k).2.2.1 = some (tyJ13 k) := by decide +kernel
def RJ0 : String := "java/lang/String"
def TJ0 : u_T := fun k => match k with
  | _ => ("", "", "", false)
def tyJ0 : Nat → FieldType := fun k => match k with
  | _ => .int
abbrev wsJ00 : List Cond := u_ws RJ0 TJ0 0
theorem nmJ0 : ∀ a, a < 0 → ∀ b, b < 0 → a ≠ b → (TJ0 a).2.1 ≠ (TJ0 b).2.1 := by decide +kernel
theorem tyJ0_ok : ∀ k, k < 0 → parseFieldDescriptor (TJ0 k).2.2.1 = some (tyJ0 k) := by decide +kernel
def RJ10 : String := "java/lang/System"
def TJ10 : u_T := fun k => match k with
  | _ => ("", "", "", false)
def tyJ10 : Nat → FieldType := fun k => match k with
  | _ => .int
abbrev wsJ100 : List Cond := u_ws RJ10 TJ10 0
theorem nmJ10 : ∀ a, a < 0 → ∀ b, b < 0 → a ≠ b → (TJ10 a).2.1 ≠ (TJ10 b).2.1 := by decide +kernel
theorem tyJ10_ok : ∀ k, k < 0 → parseFieldDescriptor (TJ10 k).2.2.1 = some (tyJ10 k) := by decide +kernel
def RL : String := "KeccakLanesLaw"
abbrev cL_clear : ByteArray := method_3_code
def yL_clear : MethodName := ⟨RL, "clear", "(LKeccakLanes;I)I"⟩
abbrev cL_take : ByteArray := method_4_code
def yL_take : MethodName := ⟨RL, "take", "(LKeccakLanes;IJI[J)I"⟩
abbrev cL_fill : ByteArray := method_5_code
def yL_fill : MethodName := ⟨RL, "fill", "(LKeccakLanes;IIII[J)I"⟩
abbrev cL_copy : ByteArray := method_6_code
def yL_copy : MethodName := ⟨RL, "copy", "(LKeccakLanes;II)I"⟩
abbrev cL_mix : ByteArray := method_7_code
def yL_mix : MethodName := ⟨RL, "mix", "(LKeccakLanes;I)I"⟩
abbrev cL_lane : ByteArray := method_8_code
def yL_lane : MethodName := ⟨RL, "lane", "(LKeccakLanes;II[J)I"⟩
abbrev cL_digest : ByteArray := method_9_code
def yL_digest : MethodName := ⟨RL, "digest", "(LKeccakLanes;II[J)I"⟩
abbrev cL_law : ByteArray := code
def yL_law : MethodName := ⟨RL, "law", "([I)Z"⟩
def wsX0_init : List Cond := .code yX0_init cX0_init 1 none :: ([.methodLink RX0 3 objectInit, .instanceMethod objectInit, .code objectInit ⟨#[0xb1]⟩ 1 none, .classLink RX0 9 "[[J", .arrayClass .long, .fieldLink RX0 11 "KeccakLanes" "lanes" "[[J", .arrayClass .int, .fieldLink RX0 14 "KeccakLanes" "places" "[I", .fieldLink RX0 18 "KeccakLanes" "columns" "[J", .fieldLink RX0 22 "KeccakLanes" "moved" "[J"] ++ wsX00)
def wsX0_requireUpTo : List Cond := .code yX0_requireUpTo cX0_requireUpTo 2 none :: ([.classLink RX0 47 "java/lang/IllegalArgumentException", .initialized "java/lang/IllegalArgumentException"] ++ (vx_atS RX0 51 "java/lang/IllegalArgumentException" ["java/lang/RuntimeException", "java/lang/Exception"]).filter goodWord)
def wsX0_clear : List Cond := .code yX0_clear cX0_clear 4 none :: ([.fieldLink RX0 11 "KeccakLanes" "lanes" "[[J", .fieldLink RX0 14 "KeccakLanes" "places" "[I", .methodLink RX0 25 yX0_requireUpTo, .static yX0_requireUpTo, .initialized RX0, .code yX0_requireUpTo cX0_requireUpTo 2 none, .classLink RX0 47 "java/lang/IllegalArgumentException", .initialized "java/lang/IllegalArgumentException"] ++ wsX00 ++ (vx_atS RX0 51 "java/lang/IllegalArgumentException" ["java/lang/RuntimeException", "java/lang/Exception"]).filter goodWord)
def wsX0_joinByte : List Cond := .code yX0_joinByte cX0_joinByte 3 none :: ([.constantLong RX0 60 (255)])
def wsX0_columnSum : List Cond := .code yX0_columnSum cX0_columnSum 2 (some .long) :: ([])
def wsX0_turnedLeft : List Cond := .code yX0_turnedLeft cX0_turnedLeft 3 (some .long) :: ([])
def wsX0_sumColumns : List Cond := .code yX0_sumColumns cX0_sumColumns 12 none :: ([.fieldLink RX0 18 "KeccakLanes" "columns" "[J", .methodLink RX0 74 yX0_columnSum, .static yX0_columnSum, .initialized RX0, .code yX0_columnSum cX0_columnSum 2 (some .long), .methodLink RX0 78 yX0_turnedLeft, .static yX0_turnedLeft, .code yX0_turnedLeft cX0_turnedLeft 3 (some .long)] ++ wsX00)
def wsX0_turnAndMove : List Cond := .code yX0_turnAndMove cX0_turnAndMove 5 none :: ([.fieldLink RX0 22 "KeccakLanes" "moved" "[J", .fieldLink RX0 82 "KeccakLanes" "TARGETS" "[I", .fieldLink RX0 18 "KeccakLanes" "columns" "[J", .fieldLink RX0 85 "KeccakLanes" "TURNS" "[I", .methodLink RX0 78 yX0_turnedLeft, .static yX0_turnedLeft, .initialized RX0, .code yX0_turnedLeft cX0_turnedLeft 3 (some .long)] ++ wsX00)
def wsX0_combineRows : List Cond := .code yX0_combineRows cX0_combineRows 13 none :: ([.fieldLink RX0 22 "KeccakLanes" "moved" "[J", .constantLong RX0 88 (-1)] ++ wsX00)
def wsX0_mixLanes_r1 : List Cond := [Cond.fieldLink RX0 71 "KeccakLanes" "CONSTANTS" "[J", Cond.methodLink RX0 62 yX0_sumColumns, Cond.instanceMethod yX0_sumColumns, Cond.selects RX0 yX0_sumColumns yX0_sumColumns, Cond.initialized RX0, Cond.code yX0_sumColumns cX0_sumColumns 12 none, Cond.fieldLink RX0 18 "KeccakLanes" "columns" "[J", Cond.methodLink RX0 74 yX0_columnSum, Cond.static yX0_columnSum, Cond.code yX0_columnSum cX0_columnSum 2 (some .long), Cond.methodLink RX0 78 yX0_turnedLeft, Cond.static yX0_turnedLeft, Cond.code yX0_turnedLeft cX0_turnedLeft 3 (some .long), Cond.methodLink RX0 65 yX0_turnAndMove, Cond.instanceMethod yX0_turnAndMove, Cond.selects RX0 yX0_turnAndMove yX0_turnAndMove, Cond.code yX0_turnAndMove cX0_turnAndMove 5 none, Cond.fieldLink RX0 22 "KeccakLanes" "moved" "[J", Cond.fieldLink RX0 82 "KeccakLanes" "TARGETS" "[I", Cond.fieldLink RX0 85 "KeccakLanes" "TURNS" "[I", Cond.methodLink RX0 68 yX0_combineRows, Cond.instanceMethod yX0_combineRows, Cond.selects RX0 yX0_combineRows yX0_combineRows, Cond.code yX0_combineRows cX0_combineRows 13 none]
def wsX0_mixLanes_r2 : List Cond := [Cond.constantLong RX0 88 (-1)]
def wsX0_mixLanes : List Cond := .code yX0_mixLanes cX0_mixLanes 3 none :: ((wsX0_mixLanes_r1 ++ wsX0_mixLanes_r2) ++ wsX00)
def wsX0_takeIn_r1 : List Cond := [Cond.fieldLink RX0 11 "KeccakLanes" "lanes" "[[J", Cond.fieldLink RX0 14 "KeccakLanes" "places" "[I", Cond.methodLink RX0 39 yX0_joinByte, Cond.static yX0_joinByte, Cond.initialized RX0, Cond.code yX0_joinByte cX0_joinByte 3 none, Cond.constantLong RX0 60 (255), Cond.methodLink RX0 35 yX0_mixLanes, Cond.instanceMethod yX0_mixLanes, Cond.selects RX0 yX0_mixLanes yX0_mixLanes, Cond.code yX0_mixLanes cX0_mixLanes 3 none, Cond.fieldLink RX0 71 "KeccakLanes" "CONSTANTS" "[J", Cond.methodLink RX0 62 yX0_sumColumns, Cond.instanceMethod yX0_sumColumns, Cond.selects RX0 yX0_sumColumns yX0_sumColumns, Cond.code yX0_sumColumns cX0_sumColumns 12 none, Cond.fieldLink RX0 18 "KeccakLanes" "columns" "[J", Cond.methodLink RX0 74 yX0_columnSum, Cond.static yX0_columnSum, Cond.code yX0_columnSum cX0_columnSum 2 (some .long), Cond.methodLink RX0 78 yX0_turnedLeft, Cond.static yX0_turnedLeft, Cond.code yX0_turnedLeft cX0_turnedLeft 3 (some .long), Cond.methodLink RX0 65 yX0_turnAndMove]
def wsX0_takeIn_r2 : List Cond := [Cond.instanceMethod yX0_turnAndMove, Cond.selects RX0 yX0_turnAndMove yX0_turnAndMove, Cond.code yX0_turnAndMove cX0_turnAndMove 5 none, Cond.fieldLink RX0 22 "KeccakLanes" "moved" "[J", Cond.fieldLink RX0 82 "KeccakLanes" "TARGETS" "[I", Cond.fieldLink RX0 85 "KeccakLanes" "TURNS" "[I", Cond.methodLink RX0 68 yX0_combineRows, Cond.instanceMethod yX0_combineRows, Cond.selects RX0 yX0_combineRows yX0_combineRows, Cond.code yX0_combineRows cX0_combineRows 13 none, Cond.constantLong RX0 88 (-1)]
def wsX0_takeIn : List Cond := .code yX0_takeIn cX0_takeIn 3 none :: ((wsX0_takeIn_r1 ++ wsX0_takeIn_r2) ++ wsX00)
def wsX0_take_r1 : List Cond := [Cond.fieldLink RX0 14 "KeccakLanes" "places" "[I", Cond.methodLink RX0 25 yX0_requireUpTo, Cond.static yX0_requireUpTo, Cond.initialized RX0, Cond.code yX0_requireUpTo cX0_requireUpTo 2 none, Cond.classLink RX0 47 "java/lang/IllegalArgumentException", Cond.initialized "java/lang/IllegalArgumentException", Cond.methodLink RX0 29 yX0_takeIn, Cond.instanceMethod yX0_takeIn, Cond.selects RX0 yX0_takeIn yX0_takeIn, Cond.code yX0_takeIn cX0_takeIn 3 none, Cond.fieldLink RX0 11 "KeccakLanes" "lanes" "[[J", Cond.methodLink RX0 39 yX0_joinByte, Cond.static yX0_joinByte, Cond.code yX0_joinByte cX0_joinByte 3 none, Cond.constantLong RX0 60 (255), Cond.methodLink RX0 35 yX0_mixLanes, Cond.instanceMethod yX0_mixLanes, Cond.selects RX0 yX0_mixLanes yX0_mixLanes, Cond.code yX0_mixLanes cX0_mixLanes 3 none, Cond.fieldLink RX0 71 "KeccakLanes" "CONSTANTS" "[J", Cond.methodLink RX0 62 yX0_sumColumns, Cond.instanceMethod yX0_sumColumns, Cond.selects RX0 yX0_sumColumns yX0_sumColumns]
def wsX0_take_r2 : List Cond := [Cond.code yX0_sumColumns cX0_sumColumns 12 none, Cond.fieldLink RX0 18 "KeccakLanes" "columns" "[J", Cond.methodLink RX0 74 yX0_columnSum, Cond.static yX0_columnSum, Cond.code yX0_columnSum cX0_columnSum 2 (some .long), Cond.methodLink RX0 78 yX0_turnedLeft, Cond.static yX0_turnedLeft, Cond.code yX0_turnedLeft cX0_turnedLeft 3 (some .long), Cond.methodLink RX0 65 yX0_turnAndMove, Cond.instanceMethod yX0_turnAndMove, Cond.selects RX0 yX0_turnAndMove yX0_turnAndMove, Cond.code yX0_turnAndMove cX0_turnAndMove 5 none, Cond.fieldLink RX0 22 "KeccakLanes" "moved" "[J", Cond.fieldLink RX0 82 "KeccakLanes" "TARGETS" "[I", Cond.fieldLink RX0 85 "KeccakLanes" "TURNS" "[I", Cond.methodLink RX0 68 yX0_combineRows, Cond.instanceMethod yX0_combineRows, Cond.selects RX0 yX0_combineRows yX0_combineRows, Cond.code yX0_combineRows cX0_combineRows 13 none, Cond.constantLong RX0 88 (-1)]
def wsX0_take : List Cond := .code yX0_take cX0_take 6 (some .int) :: ((wsX0_take_r1 ++ wsX0_take_r2) ++ wsX00 ++ (vx_atS RX0 51 "java/lang/IllegalArgumentException" ["java/lang/RuntimeException", "java/lang/Exception"]).filter goodWord)
def wsX0_fill_r1 : List Cond := [Cond.fieldLink RX0 14 "KeccakLanes" "places" "[I", Cond.methodLink RX0 25 yX0_requireUpTo, Cond.static yX0_requireUpTo, Cond.initialized RX0, Cond.code yX0_requireUpTo cX0_requireUpTo 2 none, Cond.classLink RX0 47 "java/lang/IllegalArgumentException", Cond.initialized "java/lang/IllegalArgumentException", Cond.methodLink RX0 29 yX0_takeIn, Cond.instanceMethod yX0_takeIn, Cond.selects RX0 yX0_takeIn yX0_takeIn, Cond.code yX0_takeIn cX0_takeIn 3 none, Cond.fieldLink RX0 11 "KeccakLanes" "lanes" "[[J", Cond.methodLink RX0 39 yX0_joinByte, Cond.static yX0_joinByte, Cond.code yX0_joinByte cX0_joinByte 3 none, Cond.constantLong RX0 60 (255), Cond.methodLink RX0 35 yX0_mixLanes, Cond.instanceMethod yX0_mixLanes, Cond.selects RX0 yX0_mixLanes yX0_mixLanes, Cond.code yX0_mixLanes cX0_mixLanes 3 none, Cond.fieldLink RX0 71 "KeccakLanes" "CONSTANTS" "[J", Cond.methodLink RX0 62 yX0_sumColumns, Cond.instanceMethod yX0_sumColumns, Cond.selects RX0 yX0_sumColumns yX0_sumColumns]
def wsX0_fill_r2 : List Cond := [Cond.code yX0_sumColumns cX0_sumColumns 12 none, Cond.fieldLink RX0 18 "KeccakLanes" "columns" "[J", Cond.methodLink RX0 74 yX0_columnSum, Cond.static yX0_columnSum, Cond.code yX0_columnSum cX0_columnSum 2 (some .long), Cond.methodLink RX0 78 yX0_turnedLeft, Cond.static yX0_turnedLeft, Cond.code yX0_turnedLeft cX0_turnedLeft 3 (some .long), Cond.methodLink RX0 65 yX0_turnAndMove, Cond.instanceMethod yX0_turnAndMove, Cond.selects RX0 yX0_turnAndMove yX0_turnAndMove, Cond.code yX0_turnAndMove cX0_turnAndMove 5 none, Cond.fieldLink RX0 22 "KeccakLanes" "moved" "[J", Cond.fieldLink RX0 82 "KeccakLanes" "TARGETS" "[I", Cond.fieldLink RX0 85 "KeccakLanes" "TURNS" "[I", Cond.methodLink RX0 68 yX0_combineRows, Cond.instanceMethod yX0_combineRows, Cond.selects RX0 yX0_combineRows yX0_combineRows, Cond.code yX0_combineRows cX0_combineRows 13 none, Cond.constantLong RX0 88 (-1)]
def wsX0_fill : List Cond := .code yX0_fill cX0_fill 6 (some .int) :: ((wsX0_fill_r1 ++ wsX0_fill_r2) ++ wsX00 ++ (vx_atS RX0 51 "java/lang/IllegalArgumentException" ["java/lang/RuntimeException", "java/lang/Exception"]).filter goodWord)
def wsX0_copyState : List Cond := .code yX0_copyState cX0_copyState 3 none :: ([.fieldLink RX0 11 "KeccakLanes" "lanes" "[[J", .methodLink RX0 54 arraycopyName, .native arraycopyName, .static arraycopyName, .initialized "java/lang/System", .fieldLink RX0 14 "KeccakLanes" "places" "[I"] ++ wsX00)
def wsX0_copy : List Cond := .code yX0_copy cX0_copy 3 none :: ([.methodLink RX0 25 yX0_requireUpTo, .static yX0_requireUpTo, .initialized RX0, .code yX0_requireUpTo cX0_requireUpTo 2 none, .classLink RX0 47 "java/lang/IllegalArgumentException", .initialized "java/lang/IllegalArgumentException", .methodLink RX0 32 yX0_copyState, .instanceMethod yX0_copyState, .selects RX0 yX0_copyState yX0_copyState, .code yX0_copyState cX0_copyState 3 none, .fieldLink RX0 11 "KeccakLanes" "lanes" "[[J", .methodLink RX0 54 arraycopyName, .native arraycopyName, .static arraycopyName, .initialized "java/lang/System", .fieldLink RX0 14 "KeccakLanes" "places" "[I"] ++ wsX00 ++ (vx_atS RX0 51 "java/lang/IllegalArgumentException" ["java/lang/RuntimeException", "java/lang/Exception"]).filter goodWord)
def wsX0_mix_r1 : List Cond := [Cond.fieldLink RX0 11 "KeccakLanes" "lanes" "[[J", Cond.methodLink RX0 25 yX0_requireUpTo, Cond.static yX0_requireUpTo, Cond.initialized RX0, Cond.code yX0_requireUpTo cX0_requireUpTo 2 none, Cond.classLink RX0 47 "java/lang/IllegalArgumentException", Cond.initialized "java/lang/IllegalArgumentException", Cond.methodLink RX0 35 yX0_mixLanes, Cond.instanceMethod yX0_mixLanes, Cond.selects RX0 yX0_mixLanes yX0_mixLanes, Cond.code yX0_mixLanes cX0_mixLanes 3 none, Cond.fieldLink RX0 71 "KeccakLanes" "CONSTANTS" "[J", Cond.methodLink RX0 62 yX0_sumColumns, Cond.instanceMethod yX0_sumColumns, Cond.selects RX0 yX0_sumColumns yX0_sumColumns, Cond.code yX0_sumColumns cX0_sumColumns 12 none, Cond.fieldLink RX0 18 "KeccakLanes" "columns" "[J", Cond.methodLink RX0 74 yX0_columnSum, Cond.static yX0_columnSum, Cond.code yX0_columnSum cX0_columnSum 2 (some .long), Cond.methodLink RX0 78 yX0_turnedLeft, Cond.static yX0_turnedLeft, Cond.code yX0_turnedLeft cX0_turnedLeft 3 (some .long), Cond.methodLink RX0 65 yX0_turnAndMove]
def wsX0_mix_r2 : List Cond := [Cond.instanceMethod yX0_turnAndMove, Cond.selects RX0 yX0_turnAndMove yX0_turnAndMove, Cond.code yX0_turnAndMove cX0_turnAndMove 5 none, Cond.fieldLink RX0 22 "KeccakLanes" "moved" "[J", Cond.fieldLink RX0 82 "KeccakLanes" "TARGETS" "[I", Cond.fieldLink RX0 85 "KeccakLanes" "TURNS" "[I", Cond.methodLink RX0 68 yX0_combineRows, Cond.instanceMethod yX0_combineRows, Cond.selects RX0 yX0_combineRows yX0_combineRows, Cond.code yX0_combineRows cX0_combineRows 13 none, Cond.constantLong RX0 88 (-1)]
def wsX0_mix : List Cond := .code yX0_mix cX0_mix 2 none :: ((wsX0_mix_r1 ++ wsX0_mix_r2) ++ wsX00 ++ (vx_atS RX0 51 "java/lang/IllegalArgumentException" ["java/lang/RuntimeException", "java/lang/Exception"]).filter goodWord)
def wsX0_lane : List Cond := .code yX0_lane cX0_lane 3 (some .long) :: ([.fieldLink RX0 11 "KeccakLanes" "lanes" "[[J", .methodLink RX0 25 yX0_requireUpTo, .static yX0_requireUpTo, .initialized RX0, .code yX0_requireUpTo cX0_requireUpTo 2 none, .classLink RX0 47 "java/lang/IllegalArgumentException", .initialized "java/lang/IllegalArgumentException"] ++ wsX00 ++ (vx_atS RX0 51 "java/lang/IllegalArgumentException" ["java/lang/RuntimeException", "java/lang/Exception"]).filter goodWord)
def wsX0_bytesTurnedRound : List Cond := .code yX0_bytesTurnedRound cX0_bytesTurnedRound 5 (some .long) :: ([.constantLong RX0 60 (255)])
def wsX0_digest_r1 : List Cond := [Cond.fieldLink RX0 11 "KeccakLanes" "lanes" "[[J", Cond.fieldLink RX0 14 "KeccakLanes" "places" "[I", Cond.methodLink RX0 25 yX0_requireUpTo, Cond.static yX0_requireUpTo, Cond.initialized RX0, Cond.code yX0_requireUpTo cX0_requireUpTo 2 none, Cond.classLink RX0 47 "java/lang/IllegalArgumentException", Cond.initialized "java/lang/IllegalArgumentException", Cond.methodLink RX0 32 yX0_copyState, Cond.instanceMethod yX0_copyState, Cond.selects RX0 yX0_copyState yX0_copyState, Cond.code yX0_copyState cX0_copyState 3 none, Cond.methodLink RX0 54 arraycopyName, Cond.native arraycopyName, Cond.static arraycopyName, Cond.initialized "java/lang/System", Cond.methodLink RX0 39 yX0_joinByte, Cond.static yX0_joinByte, Cond.code yX0_joinByte cX0_joinByte 3 none, Cond.constantLong RX0 60 (255), Cond.methodLink RX0 35 yX0_mixLanes, Cond.instanceMethod yX0_mixLanes, Cond.selects RX0 yX0_mixLanes yX0_mixLanes, Cond.code yX0_mixLanes cX0_mixLanes 3 none]
def wsX0_digest_r2 : List Cond := [Cond.fieldLink RX0 71 "KeccakLanes" "CONSTANTS" "[J", Cond.methodLink RX0 62 yX0_sumColumns, Cond.instanceMethod yX0_sumColumns, Cond.selects RX0 yX0_sumColumns yX0_sumColumns, Cond.code yX0_sumColumns cX0_sumColumns 12 none, Cond.fieldLink RX0 18 "KeccakLanes" "columns" "[J", Cond.methodLink RX0 74 yX0_columnSum, Cond.static yX0_columnSum, Cond.code yX0_columnSum cX0_columnSum 2 (some .long), Cond.methodLink RX0 78 yX0_turnedLeft, Cond.static yX0_turnedLeft, Cond.code yX0_turnedLeft cX0_turnedLeft 3 (some .long), Cond.methodLink RX0 65 yX0_turnAndMove, Cond.instanceMethod yX0_turnAndMove, Cond.selects RX0 yX0_turnAndMove yX0_turnAndMove, Cond.code yX0_turnAndMove cX0_turnAndMove 5 none, Cond.fieldLink RX0 22 "KeccakLanes" "moved" "[J", Cond.fieldLink RX0 82 "KeccakLanes" "TARGETS" "[I", Cond.fieldLink RX0 85 "KeccakLanes" "TURNS" "[I", Cond.methodLink RX0 68 yX0_combineRows, Cond.instanceMethod yX0_combineRows, Cond.selects RX0 yX0_combineRows yX0_combineRows, Cond.code yX0_combineRows cX0_combineRows 13 none, Cond.constantLong RX0 88 (-1)]
def wsX0_digest_r3 : List Cond := [Cond.methodLink RX0 43 yX0_bytesTurnedRound, Cond.static yX0_bytesTurnedRound, Cond.code yX0_bytesTurnedRound cX0_bytesTurnedRound 5 (some .long)]
def wsX0_digest : List Cond := .code yX0_digest cX0_digest 4 (some .long) :: ((wsX0_digest_r1 ++ (wsX0_digest_r2 ++ wsX0_digest_r3)) ++ wsX00 ++ (vx_atS RX0 51 "java/lang/IllegalArgumentException" ["java/lang/RuntimeException", "java/lang/Exception"]).filter goodWord)
def wsX1_constant : List Cond := .code yX1_constant cX1_constant 7 (some .long) :: ([])
def wsX1_init : List Cond := .code yX1_init cX1_init 2 none :: ([.methodLink RX1 24 objectInit, .instanceMethod objectInit, .code objectInit ⟨#[0xb1]⟩ 1 none, .classLink RX1 30 "[[J", .arrayClass .long, .fieldLink RX1 32 "KeccakLanesModel" "states" "[[J", .arrayClass .int, .fieldLink RX1 35 "KeccakLanesModel" "places" "[I", .fieldLink RX1 7 "KeccakLanesModel" "lanes" "[J", .fieldLink RX1 1 "KeccakLanesModel" "column" "[J", .fieldLink RX1 16 "KeccakLanesModel" "moved" "[J", .fieldLink RX1 21 "KeccakLanesModel" "constants" "[J", .methodLink RX1 39 yX1_constant, .static yX1_constant, .initialized RX1, .code yX1_constant cX1_constant 7 (some .long)] ++ wsX10)
def wsX1_thrown : List Cond := .code yX1_thrown cX1_thrown 1 (some .int) :: ([.fieldLink RX1 43 "KeccakLanesModel" "failed" "I"] ++ wsX10)
def wsX1_clear : List Cond := .code yX1_clear cX1_clear 3 none :: ([.fieldLink RX1 43 "KeccakLanesModel" "failed" "I", .fieldLink RX1 32 "KeccakLanesModel" "states" "[[J", .fieldLink RX1 35 "KeccakLanesModel" "places" "[I"] ++ wsX10)
def wsL_clear : List Cond := .codeWith yL_clear cL_clear 3 (some .int) [(0, 5, 8, 13)] :: ([.classLink RL 13 "java/lang/IllegalArgumentException", .methodLink RL 7 yX0_clear, .instanceMethod yX0_clear, .selects RX0 yX0_clear yX0_clear, .initialized RX0, .code yX0_clear cX0_clear 4 none, .fieldLink RX0 11 "KeccakLanes" "lanes" "[[J", .fieldLink RX0 14 "KeccakLanes" "places" "[I", .methodLink RX0 25 yX0_requireUpTo, .static yX0_requireUpTo, .code yX0_requireUpTo cX0_requireUpTo 2 none, .classLink RX0 47 "java/lang/IllegalArgumentException", .initialized "java/lang/IllegalArgumentException"] ++ wsX00 ++ (vx_atS RX0 51 "java/lang/IllegalArgumentException" ["java/lang/RuntimeException", "java/lang/Exception"]).filter goodWord)
def wsL_take_r1 : List Cond := [Cond.classLink RL 13 "java/lang/IllegalArgumentException", Cond.methodLink RL 15 yX0_take, Cond.instanceMethod yX0_take, Cond.selects RX0 yX0_take yX0_take, Cond.initialized RX0, Cond.code yX0_take cX0_take 6 (some .int), Cond.fieldLink RX0 14 "KeccakLanes" "places" "[I", Cond.methodLink RX0 25 yX0_requireUpTo, Cond.static yX0_requireUpTo, Cond.code yX0_requireUpTo cX0_requireUpTo 2 none, Cond.classLink RX0 47 "java/lang/IllegalArgumentException", Cond.initialized "java/lang/IllegalArgumentException", Cond.methodLink RX0 29 yX0_takeIn, Cond.instanceMethod yX0_takeIn, Cond.selects RX0 yX0_takeIn yX0_takeIn, Cond.code yX0_takeIn cX0_takeIn 3 none, Cond.fieldLink RX0 11 "KeccakLanes" "lanes" "[[J", Cond.methodLink RX0 39 yX0_joinByte, Cond.static yX0_joinByte, Cond.code yX0_joinByte cX0_joinByte 3 none, Cond.constantLong RX0 60 (255), Cond.methodLink RX0 35 yX0_mixLanes, Cond.instanceMethod yX0_mixLanes, Cond.selects RX0 yX0_mixLanes yX0_mixLanes]
def wsL_take_r2 : List Cond := [Cond.code yX0_mixLanes cX0_mixLanes 3 none, Cond.fieldLink RX0 71 "KeccakLanes" "CONSTANTS" "[J", Cond.methodLink RX0 62 yX0_sumColumns, Cond.instanceMethod yX0_sumColumns, Cond.selects RX0 yX0_sumColumns yX0_sumColumns, Cond.code yX0_sumColumns cX0_sumColumns 12 none, Cond.fieldLink RX0 18 "KeccakLanes" "columns" "[J", Cond.methodLink RX0 74 yX0_columnSum, Cond.static yX0_columnSum, Cond.code yX0_columnSum cX0_columnSum 2 (some .long), Cond.methodLink RX0 78 yX0_turnedLeft, Cond.static yX0_turnedLeft, Cond.code yX0_turnedLeft cX0_turnedLeft 3 (some .long), Cond.methodLink RX0 65 yX0_turnAndMove, Cond.instanceMethod yX0_turnAndMove, Cond.selects RX0 yX0_turnAndMove yX0_turnAndMove, Cond.code yX0_turnAndMove cX0_turnAndMove 5 none, Cond.fieldLink RX0 22 "KeccakLanes" "moved" "[J", Cond.fieldLink RX0 82 "KeccakLanes" "TARGETS" "[I", Cond.fieldLink RX0 85 "KeccakLanes" "TURNS" "[I", Cond.methodLink RX0 68 yX0_combineRows, Cond.instanceMethod yX0_combineRows, Cond.selects RX0 yX0_combineRows yX0_combineRows, Cond.code yX0_combineRows cX0_combineRows 13 none]
def wsL_take_r3 : List Cond := [Cond.constantLong RX0 88 (-1)]
def wsL_take : List Cond := .codeWith yL_take cL_take 7 (some .int) [(0, 13, 16, 13)] :: ((wsL_take_r1 ++ (wsL_take_r2 ++ wsL_take_r3)) ++ wsX00 ++ (vx_atS RX0 51 "java/lang/IllegalArgumentException" ["java/lang/RuntimeException", "java/lang/Exception"]).filter goodWord)
def wsL_fill_r1 : List Cond := [Cond.classLink RL 13 "java/lang/IllegalArgumentException", Cond.methodLink RL 19 yX0_fill, Cond.instanceMethod yX0_fill, Cond.selects RX0 yX0_fill yX0_fill, Cond.initialized RX0, Cond.code yX0_fill cX0_fill 6 (some .int), Cond.fieldLink RX0 14 "KeccakLanes" "places" "[I", Cond.methodLink RX0 25 yX0_requireUpTo, Cond.static yX0_requireUpTo, Cond.code yX0_requireUpTo cX0_requireUpTo 2 none, Cond.classLink RX0 47 "java/lang/IllegalArgumentException", Cond.initialized "java/lang/IllegalArgumentException", Cond.methodLink RX0 29 yX0_takeIn, Cond.instanceMethod yX0_takeIn, Cond.selects RX0 yX0_takeIn yX0_takeIn, Cond.code yX0_takeIn cX0_takeIn 3 none, Cond.fieldLink RX0 11 "KeccakLanes" "lanes" "[[J", Cond.methodLink RX0 39 yX0_joinByte, Cond.static yX0_joinByte, Cond.code yX0_joinByte cX0_joinByte 3 none, Cond.constantLong RX0 60 (255), Cond.methodLink RX0 35 yX0_mixLanes, Cond.instanceMethod yX0_mixLanes, Cond.selects RX0 yX0_mixLanes yX0_mixLanes]
def wsL_fill_r2 : List Cond := [Cond.code yX0_mixLanes cX0_mixLanes 3 none, Cond.fieldLink RX0 71 "KeccakLanes" "CONSTANTS" "[J", Cond.methodLink RX0 62 yX0_sumColumns, Cond.instanceMethod yX0_sumColumns, Cond.selects RX0 yX0_sumColumns yX0_sumColumns, Cond.code yX0_sumColumns cX0_sumColumns 12 none, Cond.fieldLink RX0 18 "KeccakLanes" "columns" "[J", Cond.methodLink RX0 74 yX0_columnSum, Cond.static yX0_columnSum, Cond.code yX0_columnSum cX0_columnSum 2 (some .long), Cond.methodLink RX0 78 yX0_turnedLeft, Cond.static yX0_turnedLeft, Cond.code yX0_turnedLeft cX0_turnedLeft 3 (some .long), Cond.methodLink RX0 65 yX0_turnAndMove, Cond.instanceMethod yX0_turnAndMove, Cond.selects RX0 yX0_turnAndMove yX0_turnAndMove, Cond.code yX0_turnAndMove cX0_turnAndMove 5 none, Cond.fieldLink RX0 22 "KeccakLanes" "moved" "[J", Cond.fieldLink RX0 82 "KeccakLanes" "TARGETS" "[I", Cond.fieldLink RX0 85 "KeccakLanes" "TURNS" "[I", Cond.methodLink RX0 68 yX0_combineRows, Cond.instanceMethod yX0_combineRows, Cond.selects RX0 yX0_combineRows yX0_combineRows, Cond.code yX0_combineRows cX0_combineRows 13 none]
def wsL_fill_r3 : List Cond := [Cond.constantLong RX0 88 (-1)]
def wsL_fill : List Cond := .codeWith yL_fill cL_fill 7 (some .int) [(0, 14, 17, 13)] :: ((wsL_fill_r1 ++ (wsL_fill_r2 ++ wsL_fill_r3)) ++ wsX00 ++ (vx_atS RX0 51 "java/lang/IllegalArgumentException" ["java/lang/RuntimeException", "java/lang/Exception"]).filter goodWord)
def wsL_copy : List Cond := .codeWith yL_copy cL_copy 4 (some .int) [(0, 6, 9, 13)] :: ([.classLink RL 13 "java/lang/IllegalArgumentException", .methodLink RL 23 yX0_copy, .instanceMethod yX0_copy, .selects RX0 yX0_copy yX0_copy, .initialized RX0, .code yX0_copy cX0_copy 3 none, .methodLink RX0 25 yX0_requireUpTo, .static yX0_requireUpTo, .code yX0_requireUpTo cX0_requireUpTo 2 none, .classLink RX0 47 "java/lang/IllegalArgumentException", .initialized "java/lang/IllegalArgumentException", .methodLink RX0 32 yX0_copyState, .instanceMethod yX0_copyState, .selects RX0 yX0_copyState yX0_copyState, .code yX0_copyState cX0_copyState 3 none, .fieldLink RX0 11 "KeccakLanes" "lanes" "[[J", .methodLink RX0 54 arraycopyName, .native arraycopyName, .static arraycopyName, .initialized "java/lang/System", .fieldLink RX0 14 "KeccakLanes" "places" "[I"] ++ wsX00 ++ (vx_atS RX0 51 "java/lang/IllegalArgumentException" ["java/lang/RuntimeException", "java/lang/Exception"]).filter goodWord)
def wsL_mix_r1 : List Cond := [Cond.classLink RL 13 "java/lang/IllegalArgumentException", Cond.methodLink RL 27 yX0_mix, Cond.instanceMethod yX0_mix, Cond.selects RX0 yX0_mix yX0_mix, Cond.initialized RX0, Cond.code yX0_mix cX0_mix 2 none, Cond.fieldLink RX0 11 "KeccakLanes" "lanes" "[[J", Cond.methodLink RX0 25 yX0_requireUpTo, Cond.static yX0_requireUpTo, Cond.code yX0_requireUpTo cX0_requireUpTo 2 none, Cond.classLink RX0 47 "java/lang/IllegalArgumentException", Cond.initialized "java/lang/IllegalArgumentException", Cond.methodLink RX0 35 yX0_mixLanes, Cond.instanceMethod yX0_mixLanes, Cond.selects RX0 yX0_mixLanes yX0_mixLanes, Cond.code yX0_mixLanes cX0_mixLanes 3 none, Cond.fieldLink RX0 71 "KeccakLanes" "CONSTANTS" "[J", Cond.methodLink RX0 62 yX0_sumColumns, Cond.instanceMethod yX0_sumColumns, Cond.selects RX0 yX0_sumColumns yX0_sumColumns, Cond.code yX0_sumColumns cX0_sumColumns 12 none, Cond.fieldLink RX0 18 "KeccakLanes" "columns" "[J", Cond.methodLink RX0 74 yX0_columnSum, Cond.static yX0_columnSum]
def wsL_mix_r2 : List Cond := [Cond.code yX0_columnSum cX0_columnSum 2 (some .long), Cond.methodLink RX0 78 yX0_turnedLeft, Cond.static yX0_turnedLeft, Cond.code yX0_turnedLeft cX0_turnedLeft 3 (some .long), Cond.methodLink RX0 65 yX0_turnAndMove, Cond.instanceMethod yX0_turnAndMove, Cond.selects RX0 yX0_turnAndMove yX0_turnAndMove, Cond.code yX0_turnAndMove cX0_turnAndMove 5 none, Cond.fieldLink RX0 22 "KeccakLanes" "moved" "[J", Cond.fieldLink RX0 82 "KeccakLanes" "TARGETS" "[I", Cond.fieldLink RX0 85 "KeccakLanes" "TURNS" "[I", Cond.methodLink RX0 68 yX0_combineRows, Cond.instanceMethod yX0_combineRows, Cond.selects RX0 yX0_combineRows yX0_combineRows, Cond.code yX0_combineRows cX0_combineRows 13 none, Cond.constantLong RX0 88 (-1)]
def wsL_mix : List Cond := .codeWith yL_mix cL_mix 3 (some .int) [(0, 5, 8, 13)] :: ((wsL_mix_r1 ++ wsL_mix_r2) ++ wsX00 ++ (vx_atS RX0 51 "java/lang/IllegalArgumentException" ["java/lang/RuntimeException", "java/lang/Exception"]).filter goodWord)
def wsL_lane : List Cond := .codeWith yL_lane cL_lane 5 (some .int) [(0, 9, 12, 13)] :: ([.classLink RL 13 "java/lang/IllegalArgumentException", .methodLink RL 30 yX0_lane, .instanceMethod yX0_lane, .selects RX0 yX0_lane yX0_lane, .initialized RX0, .code yX0_lane cX0_lane 3 (some .long), .fieldLink RX0 11 "KeccakLanes" "lanes" "[[J", .methodLink RX0 25 yX0_requireUpTo, .static yX0_requireUpTo, .code yX0_requireUpTo cX0_requireUpTo 2 none, .classLink RX0 47 "java/lang/IllegalArgumentException", .initialized "java/lang/IllegalArgumentException"] ++ wsX00 ++ (vx_atS RX0 51 "java/lang/IllegalArgumentException" ["java/lang/RuntimeException", "java/lang/Exception"]).filter goodWord)
def wsL_digest_r1 : List Cond := [Cond.classLink RL 13 "java/lang/IllegalArgumentException", Cond.methodLink RL 34 yX0_digest, Cond.instanceMethod yX0_digest, Cond.selects RX0 yX0_digest yX0_digest, Cond.initialized RX0, Cond.code yX0_digest cX0_digest 4 (some .long), Cond.fieldLink RX0 11 "KeccakLanes" "lanes" "[[J", Cond.fieldLink RX0 14 "KeccakLanes" "places" "[I", Cond.methodLink RX0 25 yX0_requireUpTo, Cond.static yX0_requireUpTo, Cond.code yX0_requireUpTo cX0_requireUpTo 2 none, Cond.classLink RX0 47 "java/lang/IllegalArgumentException", Cond.initialized "java/lang/IllegalArgumentException", Cond.methodLink RX0 32 yX0_copyState, Cond.instanceMethod yX0_copyState, Cond.selects RX0 yX0_copyState yX0_copyState, Cond.code yX0_copyState cX0_copyState 3 none, Cond.methodLink RX0 54 arraycopyName, Cond.native arraycopyName, Cond.static arraycopyName, Cond.initialized "java/lang/System", Cond.methodLink RX0 39 yX0_joinByte, Cond.static yX0_joinByte, Cond.code yX0_joinByte cX0_joinByte 3 none]
def wsL_digest_r2 : List Cond := [Cond.constantLong RX0 60 (255), Cond.methodLink RX0 35 yX0_mixLanes, Cond.instanceMethod yX0_mixLanes, Cond.selects RX0 yX0_mixLanes yX0_mixLanes, Cond.code yX0_mixLanes cX0_mixLanes 3 none, Cond.fieldLink RX0 71 "KeccakLanes" "CONSTANTS" "[J", Cond.methodLink RX0 62 yX0_sumColumns, Cond.instanceMethod yX0_sumColumns, Cond.selects RX0 yX0_sumColumns yX0_sumColumns, Cond.code yX0_sumColumns cX0_sumColumns 12 none, Cond.fieldLink RX0 18 "KeccakLanes" "columns" "[J", Cond.methodLink RX0 74 yX0_columnSum, Cond.static yX0_columnSum, Cond.code yX0_columnSum cX0_columnSum 2 (some .long), Cond.methodLink RX0 78 yX0_turnedLeft, Cond.static yX0_turnedLeft, Cond.code yX0_turnedLeft cX0_turnedLeft 3 (some .long), Cond.methodLink RX0 65 yX0_turnAndMove, Cond.instanceMethod yX0_turnAndMove, Cond.selects RX0 yX0_turnAndMove yX0_turnAndMove, Cond.code yX0_turnAndMove cX0_turnAndMove 5 none, Cond.fieldLink RX0 22 "KeccakLanes" "moved" "[J", Cond.fieldLink RX0 82 "KeccakLanes" "TARGETS" "[I", Cond.fieldLink RX0 85 "KeccakLanes" "TURNS" "[I"]
def wsL_digest_r3 : List Cond := [Cond.methodLink RX0 68 yX0_combineRows, Cond.instanceMethod yX0_combineRows, Cond.selects RX0 yX0_combineRows yX0_combineRows, Cond.code yX0_combineRows cX0_combineRows 13 none, Cond.constantLong RX0 88 (-1), Cond.methodLink RX0 43 yX0_bytesTurnedRound, Cond.static yX0_bytesTurnedRound, Cond.code yX0_bytesTurnedRound cX0_bytesTurnedRound 5 (some .long)]
def wsL_digest : List Cond := .codeWith yL_digest cL_digest 5 (some .int) [(0, 9, 12, 13)] :: ((wsL_digest_r1 ++ (wsL_digest_r2 ++ wsL_digest_r3)) ++ wsX00 ++ (vx_atS RX0 51 "java/lang/IllegalArgumentException" ["java/lang/RuntimeException", "java/lang/Exception"]).filter goodWord)
def wsL_law0_r1 : List Cond := [Cond.classLink RL 8 RX0, Cond.instantiable RX0 4, Cond.initialized RX0, Cond.classLink RL 38 RX1, Cond.instantiable RX1 7, Cond.initialized RX1, Cond.arrayClass .long, Cond.methodLink RL 37 yX0_init, Cond.instanceMethod yX0_init, Cond.code yX0_init cX0_init 1 none, Cond.methodLink RX0 3 objectInit, Cond.instanceMethod objectInit, Cond.code objectInit ⟨#[0xb1]⟩ 1 none, Cond.classLink RX0 9 "[[J", Cond.fieldLink RX0 11 "KeccakLanes" "lanes" "[[J", Cond.arrayClass .int, Cond.fieldLink RX0 14 "KeccakLanes" "places" "[I", Cond.fieldLink RX0 18 "KeccakLanes" "columns" "[J", Cond.fieldLink RX0 22 "KeccakLanes" "moved" "[J", Cond.methodLink RL 40 yX1_init, Cond.instanceMethod yX1_init, Cond.code yX1_init cX1_init 2 none, Cond.methodLink RX1 24 objectInit, Cond.classLink RX1 30 "[[J"]
def wsL_law0_r2 : List Cond := [Cond.fieldLink RX1 32 "KeccakLanesModel" "states" "[[J", Cond.fieldLink RX1 35 "KeccakLanesModel" "places" "[I", Cond.fieldLink RX1 7 "KeccakLanesModel" "lanes" "[J", Cond.fieldLink RX1 1 "KeccakLanesModel" "column" "[J", Cond.fieldLink RX1 16 "KeccakLanesModel" "moved" "[J", Cond.fieldLink RX1 21 "KeccakLanesModel" "constants" "[J", Cond.methodLink RX1 39 yX1_constant, Cond.static yX1_constant, Cond.code yX1_constant cX1_constant 7 (some .long), Cond.methodLink RL 41 yL_clear, Cond.static yL_clear, Cond.initialized RL, Cond.codeWith yL_clear cL_clear 3 (some .int) [(0, 5, 8, 13)], Cond.classLink RL 13 "java/lang/IllegalArgumentException", Cond.methodLink RL 7 yX0_clear, Cond.instanceMethod yX0_clear, Cond.selects RX0 yX0_clear yX0_clear, Cond.code yX0_clear cX0_clear 4 none, Cond.methodLink RX0 25 yX0_requireUpTo, Cond.static yX0_requireUpTo, Cond.code yX0_requireUpTo cX0_requireUpTo 2 none, Cond.classLink RX0 47 "java/lang/IllegalArgumentException", Cond.initialized "java/lang/IllegalArgumentException", Cond.methodLink RL 46 yX1_clear]
def wsL_law0_r3 : List Cond := [Cond.instanceMethod yX1_clear, Cond.selects RX1 yX1_clear yX1_clear, Cond.code yX1_clear cX1_clear 3 none, Cond.fieldLink RX1 43 "KeccakLanesModel" "failed" "I", Cond.methodLink RL 47 yX1_thrown, Cond.instanceMethod yX1_thrown, Cond.selects RX1 yX1_thrown yX1_thrown, Cond.code yX1_thrown cX1_thrown 1 (some .int), Cond.methodLink RL 53 yL_take, Cond.static yL_take, Cond.codeWith yL_take cL_take 7 (some .int) [(0, 13, 16, 13)], Cond.methodLink RL 15 yX0_take, Cond.instanceMethod yX0_take, Cond.selects RX0 yX0_take yX0_take, Cond.code yX0_take cX0_take 6 (some .int), Cond.methodLink RX0 29 yX0_takeIn, Cond.instanceMethod yX0_takeIn, Cond.selects RX0 yX0_takeIn yX0_takeIn, Cond.code yX0_takeIn cX0_takeIn 3 none, Cond.methodLink RX0 39 yX0_joinByte, Cond.static yX0_joinByte, Cond.code yX0_joinByte cX0_joinByte 3 none, Cond.constantLong RX0 60 (255), Cond.methodLink RX0 35 yX0_mixLanes]
def wsL_law0_r4 : List Cond := [Cond.instanceMethod yX0_mixLanes, Cond.selects RX0 yX0_mixLanes yX0_mixLanes, Cond.code yX0_mixLanes cX0_mixLanes 3 none, Cond.fieldLink RX0 71 "KeccakLanes" "CONSTANTS" "[J", Cond.methodLink RX0 62 yX0_sumColumns, Cond.instanceMethod yX0_sumColumns, Cond.selects RX0 yX0_sumColumns yX0_sumColumns, Cond.code yX0_sumColumns cX0_sumColumns 12 none, Cond.methodLink RX0 74 yX0_columnSum, Cond.static yX0_columnSum, Cond.code yX0_columnSum cX0_columnSum 2 (some .long), Cond.methodLink RX0 78 yX0_turnedLeft, Cond.static yX0_turnedLeft, Cond.code yX0_turnedLeft cX0_turnedLeft 3 (some .long), Cond.methodLink RX0 65 yX0_turnAndMove, Cond.instanceMethod yX0_turnAndMove, Cond.selects RX0 yX0_turnAndMove yX0_turnAndMove, Cond.code yX0_turnAndMove cX0_turnAndMove 5 none, Cond.fieldLink RX0 82 "KeccakLanes" "TARGETS" "[I", Cond.fieldLink RX0 85 "KeccakLanes" "TURNS" "[I", Cond.methodLink RX0 68 yX0_combineRows, Cond.instanceMethod yX0_combineRows, Cond.selects RX0 yX0_combineRows yX0_combineRows, Cond.code yX0_combineRows cX0_combineRows 13 none]
def wsL_law0_r5 : List Cond := [Cond.constantLong RX0 88 (-1), Cond.methodLink RL 57 yL_fill, Cond.static yL_fill, Cond.codeWith yL_fill cL_fill 7 (some .int) [(0, 14, 17, 13)], Cond.methodLink RL 19 yX0_fill, Cond.instanceMethod yX0_fill, Cond.selects RX0 yX0_fill yX0_fill, Cond.code yX0_fill cX0_fill 6 (some .int), Cond.methodLink RL 61 yL_copy, Cond.static yL_copy, Cond.codeWith yL_copy cL_copy 4 (some .int) [(0, 6, 9, 13)], Cond.methodLink RL 23 yX0_copy, Cond.instanceMethod yX0_copy, Cond.selects RX0 yX0_copy yX0_copy, Cond.code yX0_copy cX0_copy 3 none, Cond.methodLink RX0 32 yX0_copyState, Cond.instanceMethod yX0_copyState, Cond.selects RX0 yX0_copyState yX0_copyState, Cond.code yX0_copyState cX0_copyState 3 none, Cond.methodLink RX0 54 arraycopyName, Cond.native arraycopyName, Cond.static arraycopyName, Cond.initialized "java/lang/System", Cond.methodLink RL 65 yL_mix]
def wsL_law0_r6 : List Cond := [Cond.static yL_mix, Cond.codeWith yL_mix cL_mix 3 (some .int) [(0, 5, 8, 13)], Cond.methodLink RL 27 yX0_mix, Cond.instanceMethod yX0_mix, Cond.selects RX0 yX0_mix yX0_mix, Cond.code yX0_mix cX0_mix 2 none, Cond.methodLink RL 68 yL_lane, Cond.static yL_lane, Cond.codeWith yL_lane cL_lane 5 (some .int) [(0, 9, 12, 13)], Cond.methodLink RL 30 yX0_lane, Cond.instanceMethod yX0_lane, Cond.selects RX0 yX0_lane yX0_lane, Cond.code yX0_lane cX0_lane 3 (some .long), Cond.methodLink RL 72 yL_digest, Cond.static yL_digest, Cond.codeWith yL_digest cL_digest 5 (some .int) [(0, 9, 12, 13)], Cond.methodLink RL 34 yX0_digest, Cond.instanceMethod yX0_digest, Cond.selects RX0 yX0_digest yX0_digest, Cond.code yX0_digest cX0_digest 4 (some .long), Cond.methodLink RX0 43 yX0_bytesTurnedRound, Cond.static yX0_bytesTurnedRound, Cond.code yX0_bytesTurnedRound cX0_bytesTurnedRound 5 (some .long)]
def wsL_law0 : List Cond := (wsL_law0_r1 ++ (wsL_law0_r2 ++ (wsL_law0_r3 ++ (wsL_law0_r4 ++ (wsL_law0_r5 ++ wsL_law0_r6))))) ++ wsX00 ++ wsX10 ++ ([] : List Cond)
def wsL_law : List Cond := wsL_law0 ++ (vx_atS RX0 51 "java/lang/IllegalArgumentException" ["java/lang/RuntimeException", "java/lang/Exception"]).filter goodWord
set_option maxRecDepth 20000 in
theorem wsL_law_in0 : ∀ w ∈ wsL_law0, w ∈ lw_tbl := fun w h => (goodIn_p wsL_law0 [26, 29, 217, 222, 54, 57, 252, 248, 130, 134, 137, 142, 146, 149, 152, 156, 164, 174, 181, 185, 195, 202, 209, 212] (by decide +kernel) (by decide +kernel) w h).1
theorem wsL_law_x0 : ∀ w ∈ (vx_atS RX0 51 "java/lang/IllegalArgumentException" ["java/lang/RuntimeException", "java/lang/Exception"]).filter goodWord, w ∈ lw_tbl := by decide +kernel
theorem wsL_law_in : ∀ w ∈ wsL_law, w ∈ lw_tbl := fun w h => (List.mem_append.mp h).elim (fun h => wsL_law_in0 w h) (fun h => wsL_law_x0 w h)
theorem inlX0 : ∀ w ∈ wsX00, w ∈ wsL_law := fun _ h => List.mem_append_left _ (List.mem_append_left _ (List.mem_append_left _ (List.mem_append_right _ h)))
theorem inX0 : ∀ w ∈ wsX00, w ∈ lw_tbl := fun w h => wsL_law_in w (inlX0 w h)
theorem inlX1 : ∀ w ∈ wsX10, w ∈ wsL_law := fun _ h => List.mem_append_left _ (List.mem_append_left _ (List.mem_append_right _ h))
theorem inX1 : ∀ w ∈ wsX10, w ∈ lw_tbl := fun w h => wsL_law_in w (inlX1 w h)
theorem inJ13 : ∀ w ∈ wsJ130, w ∈ lw_tbl := by decide +kernel
theorem inJ0 : ∀ w ∈ wsJ00, w ∈ lw_tbl := by decide +kernel
theorem inJ10 : ∀ w ∈ wsJ100, w ∈ lw_tbl := by decide +kernel
theorem dX0_init_0 : decode cX0_init 0 = .ok (.aload_n 0, 1) := by decide +kernel
theorem dX0_init_1 : decode cX0_init 1 = .ok (.invokespecial 3, 3) := by decide +kernel
theorem dX0_init_4 : decode cX0_init 4 = .ok (.aload_n 0, 1) := by decide +kernel
theorem dX0_init_5 : decode cX0_init 5 = .ok (.bipush 9, 2) := by decide +kernel
theorem dX0_init_7 : decode cX0_init 7 = .ok (.bipush 25, 2) := by decide +kernel
theorem dX0_init_9 : decode cX0_init 9 = .ok (.multianewarray 9 2, 4) := by decide +kernel
theorem dX0_init_13 : decode cX0_init 13 = .ok (.putfield 11, 3) := by decide +kernel
theorem dX0_init_16 : decode cX0_init 16 = .ok (.aload_n 0, 1) := by decide +kernel
theorem dX0_init_17 : decode cX0_init 17 = .ok (.bipush 9, 2) := by decide +kernel
theorem dX0_init_19 : decode cX0_init 19 = .ok (.newarray .int, 2) := by decide +kernel
theorem dX0_init_21 : decode cX0_init 21 = .ok (.putfield 14, 3) := by decide +kernel
theorem dX0_init_24 : decode cX0_init 24 = .ok (.aload_n 0, 1) := by decide +kernel
theorem dX0_init_25 : decode cX0_init 25 = .ok (.iconst 5, 1) := by decide +kernel
theorem dX0_init_26 : decode cX0_init 26 = .ok (.newarray .long, 2) := by decide +kernel
theorem dX0_init_28 : decode cX0_init 28 = .ok (.putfield 18, 3) := by decide +kernel
theorem dX0_init_31 : decode cX0_init 31 = .ok (.aload_n 0, 1) := by decide +kernel
theorem dX0_init_32 : decode cX0_init 32 = .ok (.bipush 25, 2) := by decide +kernel
theorem dX0_init_34 : decode cX0_init 34 = .ok (.newarray .long, 2) := by decide +kernel
theorem dX0_init_36 : decode cX0_init 36 = .ok (.putfield 22, 3) := by decide +kernel
theorem dX0_init_39 : decode cX0_init 39 = .ok (.return_, 1) := by decide +kernel
set_option maxRecDepth 20000 in
theorem ggX0_clear_X0_requireUpTo : GoodIn wsX0_clear wsX0_requireUpTo := goodIn_ca (goodIn_r _ [6, 7, 8] (by decide +kernel) (by decide +kernel)) (goodIn_sub (fun _ h => List.mem_cons_of_mem _ (List.mem_append_right _ h)) (by decide +kernel))
set_option maxRecDepth 20000 in
theorem gX0_clear_X0_requireUpTo : GoodIn wsX0_clear (va_wsS RX0 25 yX0_requireUpTo wsX0_requireUpTo) := goodIn_app (goodIn_of _ (by decide +kernel)) ggX0_clear_X0_requireUpTo
theorem dX0_clear_0 : decode cX0_clear 0 = .ok (.iload_n 1, 1) := by decide +kernel
theorem dX0_clear_1 : decode cX0_clear 1 = .ok (.bipush 7, 2) := by decide +kernel
theorem dX0_clear_3 : decode cX0_clear 3 = .ok (.invokestatic 25, 3) := by decide +kernel
theorem dX0_clear_6 : decode cX0_clear 6 = .ok (.aload_n 0, 1) := by decide +kernel
theorem dX0_clear_7 : decode cX0_clear 7 = .ok (.getfield 11, 3) := by decide +kernel
theorem dX0_clear_10 : decode cX0_clear 10 = .ok (.iload_n 1, 1) := by decide +kernel
theorem dX0_clear_11 : decode cX0_clear 11 = .ok (.aaload, 1) := by decide +kernel
theorem dX0_clear_12 : decode cX0_clear 12 = .ok (.astore_n 2, 1) := by decide +kernel
theorem dX0_clear_13 : decode cX0_clear 13 = .ok (.iconst 0, 1) := by decide +kernel
theorem dX0_clear_14 : decode cX0_clear 14 = .ok (.istore_n 3, 1) := by decide +kernel
theorem dX0_clear_15 : decode cX0_clear 15 = .ok (.iload_n 3, 1) := by decide +kernel
theorem dX0_clear_16 : decode cX0_clear 16 = .ok (.bipush 25, 2) := by decide +kernel
theorem dX0_clear_18 : decode cX0_clear 18 = .ok (.if_icmp .ge 13, 3) := by decide +kernel
theorem dX0_clear_21 : decode cX0_clear 21 = .ok (.aload_n 2, 1) := by decide +kernel
theorem dX0_clear_22 : decode cX0_clear 22 = .ok (.iload_n 3, 1) := by decide +kernel
theorem dX0_clear_23 : decode cX0_clear 23 = .ok (.lconst 0, 1) := by decide +kernel
theorem dX0_clear_24 : decode cX0_clear 24 = .ok (.lastore, 1) := by decide +kernel
theorem dX0_clear_25 : decode cX0_clear 25 = .ok (.iinc 3 1, 3) := by decide +kernel
theorem dX0_clear_28 : decode cX0_clear 28 = .ok (.goto (-13), 3) := by decide +kernel
theorem dX0_clear_31 : decode cX0_clear 31 = .ok (.aload_n 0, 1) := by decide +kernel
theorem dX0_clear_32 : decode cX0_clear 32 = .ok (.getfield 14, 3) := by decide +kernel
theorem dX0_clear_35 : decode cX0_clear 35 = .ok (.iload_n 1, 1) := by decide +kernel
theorem dX0_clear_36 : decode cX0_clear 36 = .ok (.iconst 0, 1) := by decide +kernel
theorem dX0_clear_37 : decode cX0_clear 37 = .ok (.iastore, 1) := by decide +kernel
theorem dX0_clear_38 : decode cX0_clear 38 = .ok (.return_, 1) := by decide +kernel
set_option maxRecDepth 20000 in
theorem ggX0_take_X0_requireUpTo : GoodIn wsX0_take wsX0_requireUpTo := goodIn_ca (goodIn_r _ [5, 6, 7] (by decide +kernel) (by decide +kernel)) (goodIn_sub (fun _ h => List.mem_cons_of_mem _ (List.mem_append_right _ h)) (by decide +kernel))
set_option maxRecDepth 20000 in
theorem gX0_take_X0_requireUpTo : GoodIn wsX0_take (va_wsS RX0 25 yX0_requireUpTo wsX0_requireUpTo) := goodIn_app (goodIn_of _ (by decide +kernel)) ggX0_take_X0_requireUpTo
set_option maxRecDepth 20000 in
theorem ggX0_take_X0_takeIn : GoodIn wsX0_take wsX0_takeIn := goodIn_r _ [11, 12, 1, 13, 14, 4, 15, 16, 17, 18, 19, 20, 21, 22, 23, 24, 25, 26, 27, 28, 29, 30, 31, 32, 33, 34, 35, 36, 37, 38, 39, 40, 41, 42, 43, 44, 45, 46, 47, 48] (by decide +kernel) (by decide +kernel)
set_option maxRecDepth 20000 in
theorem gX0_take_X0_takeIn : GoodIn wsX0_take (wsV RX0 29 RX0 yX0_takeIn wsX0_takeIn) := goodIn_app (goodIn_of _ (by decide +kernel)) ggX0_take_X0_takeIn
theorem dX0_take_0 : decode cX0_take 0 = .ok (.iload_n 1, 1) := by decide +kernel
theorem dX0_take_1 : decode cX0_take 1 = .ok (.bipush 7, 2) := by decide +kernel
theorem dX0_take_3 : decode cX0_take 3 = .ok (.invokestatic 25, 3) := by decide +kernel
theorem dX0_take_6 : decode cX0_take 6 = .ok (.iload 4, 2) := by decide +kernel
theorem dX0_take_8 : decode cX0_take 8 = .ok (.bipush 8, 2) := by decide +kernel
theorem dX0_take_10 : decode cX0_take 10 = .ok (.invokestatic 25, 3) := by decide +kernel
theorem dX0_take_13 : decode cX0_take 13 = .ok (.iconst 0, 1) := by decide +kernel
theorem dX0_take_14 : decode cX0_take 14 = .ok (.istore 5, 2) := by decide +kernel
theorem dX0_take_16 : decode cX0_take 16 = .ok (.iload 5, 2) := by decide +kernel
theorem dX0_take_18 : decode cX0_take 18 = .ok (.iload 4, 2) := by decide +kernel
theorem dX0_take_20 : decode cX0_take 20 = .ok (.if_icmp .ge 22, 3) := by decide +kernel
theorem dX0_take_23 : decode cX0_take 23 = .ok (.aload_n 0, 1) := by decide +kernel
theorem dX0_take_24 : decode cX0_take 24 = .ok (.iload_n 1, 1) := by decide +kernel
theorem dX0_take_25 : decode cX0_take 25 = .ok (.lload_n 2, 1) := by decide +kernel
theorem dX0_take_26 : decode cX0_take 26 = .ok (.bipush 8, 2) := by decide +kernel
theorem dX0_take_28 : decode cX0_take 28 = .ok (.iload 5, 2) := by decide +kernel
theorem dX0_take_30 : decode cX0_take 30 = .ok (.imul, 1) := by decide +kernel
theorem dX0_take_31 : decode cX0_take 31 = .ok (.lushr, 1) := by decide +kernel
theorem dX0_take_32 : decode cX0_take 32 = .ok (.l2i, 1) := by decide +kernel
theorem dX0_take_33 : decode cX0_take 33 = .ok (.invokevirtual 29, 3) := by decide +kernel
theorem dX0_take_36 : decode cX0_take 36 = .ok (.iinc 5 1, 3) := by decide +kernel
theorem dX0_take_39 : decode cX0_take 39 = .ok (.goto (-23), 3) := by decide +kernel
theorem dX0_take_42 : decode cX0_take 42 = .ok (.aload_n 0, 1) := by decide +kernel
theorem dX0_take_43 : decode cX0_take 43 = .ok (.getfield 14, 3) := by decide +kernel
theorem dX0_take_46 : decode cX0_take 46 = .ok (.iload_n 1, 1) := by decide +kernel
theorem dX0_take_47 : decode cX0_take 47 = .ok (.iaload, 1) := by decide +kernel
theorem dX0_take_48 : decode cX0_take 48 = .ok (.ireturn, 1) := by decide +kernel
set_option maxRecDepth 20000 in
theorem ggX0_fill_X0_requireUpTo : GoodIn wsX0_fill wsX0_requireUpTo := goodIn_ca (goodIn_r _ [5, 6, 7] (by decide +kernel) (by decide +kernel)) (goodIn_sub (fun _ h => List.mem_cons_of_mem _ (List.mem_append_right _ h)) (by decide +kernel))
set_option maxRecDepth 20000 in
theorem gX0_fill_X0_requireUpTo : GoodIn wsX0_fill (va_wsS RX0 25 yX0_requireUpTo wsX0_requireUpTo) := goodIn_app (goodIn_of _ (by decide +kernel)) ggX0_fill_X0_requireUpTo
set_option maxRecDepth 20000 in
theorem ggX0_fill_X0_takeIn : GoodIn wsX0_fill wsX0_takeIn := goodIn_r _ [11, 12, 1, 13, 14, 4, 15, 16, 17, 18, 19, 20, 21, 22, 23, 24, 25, 26, 27, 28, 29, 30, 31, 32, 33, 34, 35, 36, 37, 38, 39, 40, 41, 42, 43, 44, 45, 46, 47, 48] (by decide +kernel) (by decide +kernel)
set_option maxRecDepth 20000 in
theorem gX0_fill_X0_takeIn : GoodIn wsX0_fill (wsV RX0 29 RX0 yX0_takeIn wsX0_takeIn) := goodIn_app (goodIn_of _ (by decide +kernel)) ggX0_fill_X0_takeIn
theorem dX0_fill_0 : decode cX0_fill 0 = .ok (.iload_n 1, 1) := by decide +kernel
theorem dX0_fill_1 : decode cX0_fill 1 = .ok (.bipush 7, 2) := by decide +kernel
theorem dX0_fill_3 : decode cX0_fill 3 = .ok (.invokestatic 25, 3) := by decide +kernel
theorem dX0_fill_6 : decode cX0_fill 6 = .ok (.iload 4, 2) := by decide +kernel
theorem dX0_fill_8 : decode cX0_fill 8 = .ok (.sipush 2000, 3) := by decide +kernel
theorem dX0_fill_11 : decode cX0_fill 11 = .ok (.invokestatic 25, 3) := by decide +kernel
theorem dX0_fill_14 : decode cX0_fill 14 = .ok (.iconst 0, 1) := by decide +kernel
theorem dX0_fill_15 : decode cX0_fill 15 = .ok (.istore 5, 2) := by decide +kernel
theorem dX0_fill_17 : decode cX0_fill 17 = .ok (.iload 5, 2) := by decide +kernel
theorem dX0_fill_19 : decode cX0_fill 19 = .ok (.iload 4, 2) := by decide +kernel
theorem dX0_fill_21 : decode cX0_fill 21 = .ok (.if_icmp .ge 20, 3) := by decide +kernel
theorem dX0_fill_24 : decode cX0_fill 24 = .ok (.aload_n 0, 1) := by decide +kernel
theorem dX0_fill_25 : decode cX0_fill 25 = .ok (.iload_n 1, 1) := by decide +kernel
theorem dX0_fill_26 : decode cX0_fill 26 = .ok (.iload_n 2, 1) := by decide +kernel
theorem dX0_fill_27 : decode cX0_fill 27 = .ok (.iload 5, 2) := by decide +kernel
theorem dX0_fill_29 : decode cX0_fill 29 = .ok (.iload_n 3, 1) := by decide +kernel
theorem dX0_fill_30 : decode cX0_fill 30 = .ok (.imul, 1) := by decide +kernel
theorem dX0_fill_31 : decode cX0_fill 31 = .ok (.iadd, 1) := by decide +kernel
theorem dX0_fill_32 : decode cX0_fill 32 = .ok (.invokevirtual 29, 3) := by decide +kernel
theorem dX0_fill_35 : decode cX0_fill 35 = .ok (.iinc 5 1, 3) := by decide +kernel
theorem dX0_fill_38 : decode cX0_fill 38 = .ok (.goto (-21), 3) := by decide +kernel
theorem dX0_fill_41 : decode cX0_fill 41 = .ok (.aload_n 0, 1) := by decide +kernel
theorem dX0_fill_42 : decode cX0_fill 42 = .ok (.getfield 14, 3) := by decide +kernel
theorem dX0_fill_45 : decode cX0_fill 45 = .ok (.iload_n 1, 1) := by decide +kernel
theorem dX0_fill_46 : decode cX0_fill 46 = .ok (.iaload, 1) := by decide +kernel
theorem dX0_fill_47 : decode cX0_fill 47 = .ok (.ireturn, 1) := by decide +kernel
set_option maxRecDepth 20000 in
theorem ggX0_copy_X0_requireUpTo : GoodIn wsX0_copy wsX0_requireUpTo := goodIn_ca (goodIn_r _ [4, 5, 6] (by decide +kernel) (by decide +kernel)) (goodIn_sub (fun _ h => List.mem_cons_of_mem _ (List.mem_append_right _ h)) (by decide +kernel))
set_option maxRecDepth 20000 in
theorem gX0_copy_X0_requireUpTo : GoodIn wsX0_copy (va_wsS RX0 25 yX0_requireUpTo wsX0_requireUpTo) := goodIn_app (goodIn_of _ (by decide +kernel)) ggX0_copy_X0_requireUpTo
set_option maxRecDepth 20000 in
theorem ggX0_copy_X0_copyState : GoodIn wsX0_copy wsX0_copyState := goodIn_r _ [10, 11, 12, 13, 14, 15, 16, 17, 18, 19, 20] (by decide +kernel) (by decide +kernel)
set_option maxRecDepth 20000 in
theorem gX0_copy_X0_copyState : GoodIn wsX0_copy (wsV RX0 32 RX0 yX0_copyState wsX0_copyState) := goodIn_app (goodIn_of _ (by decide +kernel)) ggX0_copy_X0_copyState
theorem dX0_copy_0 : decode cX0_copy 0 = .ok (.iload_n 1, 1) := by decide +kernel
theorem dX0_copy_1 : decode cX0_copy 1 = .ok (.bipush 7, 2) := by decide +kernel
theorem dX0_copy_3 : decode cX0_copy 3 = .ok (.invokestatic 25, 3) := by decide +kernel
theorem dX0_copy_6 : decode cX0_copy 6 = .ok (.iload_n 2, 1) := by decide +kernel
theorem dX0_copy_7 : decode cX0_copy 7 = .ok (.bipush 7, 2) := by decide +kernel
theorem dX0_copy_9 : decode cX0_copy 9 = .ok (.invokestatic 25, 3) := by decide +kernel
theorem dX0_copy_12 : decode cX0_copy 12 = .ok (.aload_n 0, 1) := by decide +kernel
theorem dX0_copy_13 : decode cX0_copy 13 = .ok (.iload_n 1, 1) := by decide +kernel
theorem dX0_copy_14 : decode cX0_copy 14 = .ok (.iload_n 2, 1) := by decide +kernel
theorem dX0_copy_15 : decode cX0_copy 15 = .ok (.invokevirtual 32, 3) := by decide +kernel
theorem dX0_copy_18 : decode cX0_copy 18 = .ok (.return_, 1) := by decide +kernel
set_option maxRecDepth 20000 in
theorem ggX0_mix_X0_requireUpTo : GoodIn wsX0_mix wsX0_requireUpTo := goodIn_ca (goodIn_r _ [5, 6, 7] (by decide +kernel) (by decide +kernel)) (goodIn_sub (fun _ h => List.mem_cons_of_mem _ (List.mem_append_right _ h)) (by decide +kernel))
set_option maxRecDepth 20000 in
theorem gX0_mix_X0_requireUpTo : GoodIn wsX0_mix (va_wsS RX0 25 yX0_requireUpTo wsX0_requireUpTo) := goodIn_app (goodIn_of _ (by decide +kernel)) ggX0_mix_X0_requireUpTo
set_option maxRecDepth 20000 in
theorem ggX0_mix_X0_mixLanes : GoodIn wsX0_mix wsX0_mixLanes := goodIn_r _ [11, 12, 13, 14, 15, 4, 16, 17, 18, 19, 20, 21, 22, 23, 24, 25, 26, 27, 28, 29, 30, 31, 32, 33, 34, 35, 36, 37, 38, 39] (by decide +kernel) (by decide +kernel)
set_option maxRecDepth 20000 in
theorem gX0_mix_X0_mixLanes : GoodIn wsX0_mix (wsV RX0 35 RX0 yX0_mixLanes wsX0_mixLanes) := goodIn_app (goodIn_of _ (by decide +kernel)) ggX0_mix_X0_mixLanes
theorem dX0_mix_0 : decode cX0_mix 0 = .ok (.iload_n 1, 1) := by decide +kernel
theorem dX0_mix_1 : decode cX0_mix 1 = .ok (.bipush 7, 2) := by decide +kernel
theorem dX0_mix_3 : decode cX0_mix 3 = .ok (.invokestatic 25, 3) := by decide +kernel
theorem dX0_mix_6 : decode cX0_mix 6 = .ok (.aload_n 0, 1) := by decide +kernel
theorem dX0_mix_7 : decode cX0_mix 7 = .ok (.aload_n 0, 1) := by decide +kernel
theorem dX0_mix_8 : decode cX0_mix 8 = .ok (.getfield 11, 3) := by decide +kernel
theorem dX0_mix_11 : decode cX0_mix 11 = .ok (.iload_n 1, 1) := by decide +kernel
theorem dX0_mix_12 : decode cX0_mix 12 = .ok (.aaload, 1) := by decide +kernel
theorem dX0_mix_13 : decode cX0_mix 13 = .ok (.invokevirtual 35, 3) := by decide +kernel
theorem dX0_mix_16 : decode cX0_mix 16 = .ok (.return_, 1) := by decide +kernel
set_option maxRecDepth 20000 in
theorem ggX0_lane_X0_requireUpTo : GoodIn wsX0_lane wsX0_requireUpTo := goodIn_ca (goodIn_r _ [5, 6, 7] (by decide +kernel) (by decide +kernel)) (goodIn_sub (fun _ h => List.mem_cons_of_mem _ (List.mem_append_right _ h)) (by decide +kernel))
set_option maxRecDepth 20000 in
theorem gX0_lane_X0_requireUpTo : GoodIn wsX0_lane (va_wsS RX0 25 yX0_requireUpTo wsX0_requireUpTo) := goodIn_app (goodIn_of _ (by decide +kernel)) ggX0_lane_X0_requireUpTo
theorem dX0_lane_0 : decode cX0_lane 0 = .ok (.iload_n 1, 1) := by decide +kernel
theorem dX0_lane_1 : decode cX0_lane 1 = .ok (.bipush 7, 2) := by decide +kernel
theorem dX0_lane_3 : decode cX0_lane 3 = .ok (.invokestatic 25, 3) := by decide +kernel
theorem dX0_lane_6 : decode cX0_lane 6 = .ok (.iload_n 2, 1) := by decide +kernel
theorem dX0_lane_7 : decode cX0_lane 7 = .ok (.bipush 24, 2) := by decide +kernel
theorem dX0_lane_9 : decode cX0_lane 9 = .ok (.invokestatic 25, 3) := by decide +kernel
theorem dX0_lane_12 : decode cX0_lane 12 = .ok (.aload_n 0, 1) := by decide +kernel
theorem dX0_lane_13 : decode cX0_lane 13 = .ok (.getfield 11, 3) := by decide +kernel
theorem dX0_lane_16 : decode cX0_lane 16 = .ok (.iload_n 1, 1) := by decide +kernel
theorem dX0_lane_17 : decode cX0_lane 17 = .ok (.aaload, 1) := by decide +kernel
theorem dX0_lane_18 : decode cX0_lane 18 = .ok (.iload_n 2, 1) := by decide +kernel
theorem dX0_lane_19 : decode cX0_lane 19 = .ok (.laload, 1) := by decide +kernel
theorem dX0_lane_20 : decode cX0_lane 20 = .ok (.lreturn, 1) := by decide +kernel
set_option maxRecDepth 20000 in
theorem ggX0_digest_X0_requireUpTo : GoodIn wsX0_digest wsX0_requireUpTo := goodIn_ca (goodIn_r _ [6, 7, 8] (by decide +kernel) (by decide +kernel)) (goodIn_sub (fun _ h => List.mem_cons_of_mem _ (List.mem_append_right _ h)) (by decide +kernel))
set_option maxRecDepth 20000 in
theorem gX0_digest_X0_requireUpTo : GoodIn wsX0_digest (va_wsS RX0 25 yX0_requireUpTo wsX0_requireUpTo) := goodIn_app (goodIn_of _ (by decide +kernel)) ggX0_digest_X0_requireUpTo
set_option maxRecDepth 20000 in
theorem ggX0_digest_X0_copyState : GoodIn wsX0_digest wsX0_copyState := goodIn_r _ [12, 1, 13, 14, 15, 16, 2, 52, 53, 54, 55] (by decide +kernel) (by decide +kernel)
set_option maxRecDepth 20000 in
theorem gX0_digest_X0_copyState : GoodIn wsX0_digest (wsV RX0 32 RX0 yX0_copyState wsX0_copyState) := goodIn_app (goodIn_of _ (by decide +kernel)) ggX0_digest_X0_copyState
set_option maxRecDepth 20000 in
theorem ggX0_digest_X0_joinByte : GoodIn wsX0_digest wsX0_joinByte := goodIn_r _ [19, 20] (by decide +kernel) (by decide +kernel)
set_option maxRecDepth 20000 in
theorem gX0_digest_X0_joinByte : GoodIn wsX0_digest (va_wsS RX0 39 yX0_joinByte wsX0_joinByte) := goodIn_app (goodIn_of _ (by decide +kernel)) ggX0_digest_X0_joinByte
set_option maxRecDepth 20000 in
theorem ggX0_digest_X0_mixLanes : GoodIn wsX0_digest wsX0_mixLanes := goodIn_r _ [24, 25, 26, 27, 28, 5, 29, 30, 31, 32, 33, 34, 35, 36, 37, 38, 39, 40, 41, 42, 43, 44, 45, 46, 47, 48, 52, 53, 54, 55] (by decide +kernel) (by decide +kernel)
set_option maxRecDepth 20000 in
theorem gX0_digest_X0_mixLanes : GoodIn wsX0_digest (wsV RX0 35 RX0 yX0_mixLanes wsX0_mixLanes) := goodIn_app (goodIn_of _ (by decide +kernel)) ggX0_digest_X0_mixLanes
set_option maxRecDepth 20000 in
theorem ggX0_digest_X0_bytesTurnedRound : GoodIn wsX0_digest wsX0_bytesTurnedRound := goodIn_r _ [51, 20] (by decide +kernel) (by decide +kernel)
set_option maxRecDepth 20000 in
theorem gX0_digest_X0_bytesTurnedRound : GoodIn wsX0_digest (va_wsS RX0 43 yX0_bytesTurnedRound wsX0_bytesTurnedRound) := goodIn_app (goodIn_of _ (by decide +kernel)) ggX0_digest_X0_bytesTurnedRound
theorem dX0_digest_0 : decode cX0_digest 0 = .ok (.iload_n 1, 1) := by decide +kernel
theorem dX0_digest_1 : decode cX0_digest 1 = .ok (.bipush 7, 2) := by decide +kernel
theorem dX0_digest_3 : decode cX0_digest 3 = .ok (.invokestatic 25, 3) := by decide +kernel
theorem dX0_digest_6 : decode cX0_digest 6 = .ok (.iload_n 2, 1) := by decide +kernel
theorem dX0_digest_7 : decode cX0_digest 7 = .ok (.iconst 3, 1) := by decide +kernel
theorem dX0_digest_8 : decode cX0_digest 8 = .ok (.invokestatic 25, 3) := by decide +kernel
theorem dX0_digest_11 : decode cX0_digest 11 = .ok (.aload_n 0, 1) := by decide +kernel
theorem dX0_digest_12 : decode cX0_digest 12 = .ok (.iload_n 1, 1) := by decide +kernel
theorem dX0_digest_13 : decode cX0_digest 13 = .ok (.bipush 8, 2) := by decide +kernel
theorem dX0_digest_15 : decode cX0_digest 15 = .ok (.invokevirtual 32, 3) := by decide +kernel
theorem dX0_digest_18 : decode cX0_digest 18 = .ok (.aload_n 0, 1) := by decide +kernel
theorem dX0_digest_19 : decode cX0_digest 19 = .ok (.getfield 11, 3) := by decide +kernel
theorem dX0_digest_22 : decode cX0_digest 22 = .ok (.bipush 8, 2) := by decide +kernel
theorem dX0_digest_24 : decode cX0_digest 24 = .ok (.aaload, 1) := by decide +kernel
theorem dX0_digest_25 : decode cX0_digest 25 = .ok (.astore_n 3, 1) := by decide +kernel
theorem dX0_digest_26 : decode cX0_digest 26 = .ok (.aload_n 3, 1) := by decide +kernel
theorem dX0_digest_27 : decode cX0_digest 27 = .ok (.aload_n 0, 1) := by decide +kernel
theorem dX0_digest_28 : decode cX0_digest 28 = .ok (.getfield 14, 3) := by decide +kernel
theorem dX0_digest_31 : decode cX0_digest 31 = .ok (.bipush 8, 2) := by decide +kernel
theorem dX0_digest_33 : decode cX0_digest 33 = .ok (.iaload, 1) := by decide +kernel
theorem dX0_digest_34 : decode cX0_digest 34 = .ok (.iconst 1, 1) := by decide +kernel
theorem dX0_digest_35 : decode cX0_digest 35 = .ok (.invokestatic 39, 3) := by decide +kernel
theorem dX0_digest_38 : decode cX0_digest 38 = .ok (.aload_n 3, 1) := by decide +kernel
theorem dX0_digest_39 : decode cX0_digest 39 = .ok (.sipush 135, 3) := by decide +kernel
theorem dX0_digest_42 : decode cX0_digest 42 = .ok (.sipush 128, 3) := by decide +kernel
theorem dX0_digest_45 : decode cX0_digest 45 = .ok (.invokestatic 39, 3) := by decide +kernel
theorem dX0_digest_48 : decode cX0_digest 48 = .ok (.aload_n 0, 1) := by decide +kernel
theorem dX0_digest_49 : decode cX0_digest 49 = .ok (.aload_n 3, 1) := by decide +kernel
theorem dX0_digest_50 : decode cX0_digest 50 = .ok (.invokevirtual 35, 3) := by decide +kernel
theorem dX0_digest_53 : decode cX0_digest 53 = .ok (.aload_n 3, 1) := by decide +kernel
theorem dX0_digest_54 : decode cX0_digest 54 = .ok (.iload_n 2, 1) := by decide +kernel
theorem dX0_digest_55 : decode cX0_digest 55 = .ok (.laload, 1) := by decide +kernel
theorem dX0_digest_56 : decode cX0_digest 56 = .ok (.invokestatic 43, 3) := by decide +kernel
theorem dX0_digest_59 : decode cX0_digest 59 = .ok (.lreturn, 1) := by decide +kernel
theorem dX0_requireUpTo_0 : decode cX0_requireUpTo 0 = .ok (.iload_n 0, 1) := by decide +kernel
theorem dX0_requireUpTo_1 : decode cX0_requireUpTo 1 = .ok (.ifCond .lt 8, 3) := by decide +kernel
theorem dX0_requireUpTo_4 : decode cX0_requireUpTo 4 = .ok (.iload_n 0, 1) := by decide +kernel
theorem dX0_requireUpTo_5 : decode cX0_requireUpTo 5 = .ok (.iload_n 1, 1) := by decide +kernel
theorem dX0_requireUpTo_6 : decode cX0_requireUpTo 6 = .ok (.if_icmp .le 13, 3) := by decide +kernel
theorem dX0_requireUpTo_9 : decode cX0_requireUpTo 9 = .ok (.new 47, 3) := by decide +kernel
theorem dX0_requireUpTo_12 : decode cX0_requireUpTo 12 = .ok (.dup, 1) := by decide +kernel
theorem dX0_requireUpTo_13 : decode cX0_requireUpTo 13 = .ok (.ldc 49, 2) := by decide +kernel
theorem dX0_requireUpTo_15 : decode cX0_requireUpTo 15 = .ok (.invokespecial 51, 3) := by decide +kernel
theorem dX0_requireUpTo_18 : decode cX0_requireUpTo 18 = .ok (.athrow, 1) := by decide +kernel
theorem dX0_requireUpTo_19 : decode cX0_requireUpTo 19 = .ok (.return_, 1) := by decide +kernel
theorem dX0_copyState_0 : decode cX0_copyState 0 = .ok (.aload_n 0, 1) := by decide +kernel
theorem dX0_copyState_1 : decode cX0_copyState 1 = .ok (.getfield 11, 3) := by decide +kernel
theorem dX0_copyState_4 : decode cX0_copyState 4 = .ok (.iload_n 1, 1) := by decide +kernel
theorem dX0_copyState_5 : decode cX0_copyState 5 = .ok (.aaload, 1) := by decide +kernel
theorem dX0_copyState_6 : decode cX0_copyState 6 = .ok (.iconst 0, 1) := by decide +kernel
theorem dX0_copyState_7 : decode cX0_copyState 7 = .ok (.aload_n 0, 1) := by decide +kernel
theorem dX0_copyState_8 : decode cX0_copyState 8 = .ok (.getfield 11, 3) := by decide +kernel
theorem dX0_copyState_11 : decode cX0_copyState 11 = .ok (.iload_n 2, 1) := by decide +kernel
theorem dX0_copyState_12 : decode cX0_copyState 12 = .ok (.aaload, 1) := by decide +kernel
theorem dX0_copyState_13 : decode cX0_copyState 13 = .ok (.iconst 0, 1) := by decide +kernel
theorem dX0_copyState_14 : decode cX0_copyState 14 = .ok (.bipush 25, 2) := by decide +kernel
theorem dX0_copyState_16 : decode cX0_copyState 16 = .ok (.invokestatic 54, 3) := by decide +kernel
theorem dX0_copyState_19 : decode cX0_copyState 19 = .ok (.aload_n 0, 1) := by decide +kernel
theorem dX0_copyState_20 : decode cX0_copyState 20 = .ok (.getfield 14, 3) := by decide +kernel
theorem dX0_copyState_23 : decode cX0_copyState 23 = .ok (.iload_n 2, 1) := by decide +kernel
theorem dX0_copyState_24 : decode cX0_copyState 24 = .ok (.aload_n 0, 1) := by decide +kernel
theorem dX0_copyState_25 : decode cX0_copyState 25 = .ok (.getfield 14, 3) := by decide +kernel
theorem dX0_copyState_28 : decode cX0_copyState 28 = .ok (.iload_n 1, 1) := by decide +kernel
theorem dX0_copyState_29 : decode cX0_copyState 29 = .ok (.iaload, 1) := by decide +kernel
theorem dX0_copyState_30 : decode cX0_copyState 30 = .ok (.iastore, 1) := by decide +kernel
theorem dX0_copyState_31 : decode cX0_copyState 31 = .ok (.return_, 1) := by decide +kernel
set_option maxRecDepth 20000 in
theorem ggX0_takeIn_X0_joinByte : GoodIn wsX0_takeIn wsX0_joinByte := goodIn_r _ [6, 7] (by decide +kernel) (by decide +kernel)
set_option maxRecDepth 20000 in
theorem gX0_takeIn_X0_joinByte : GoodIn wsX0_takeIn (va_wsS RX0 39 yX0_joinByte wsX0_joinByte) := goodIn_app (goodIn_of _ (by decide +kernel)) ggX0_takeIn_X0_joinByte
set_option maxRecDepth 20000 in
theorem ggX0_takeIn_X0_mixLanes : GoodIn wsX0_takeIn wsX0_mixLanes := goodIn_r _ [11, 12, 13, 14, 15, 5, 16, 17, 18, 19, 20, 21, 22, 23, 24, 25, 26, 27, 28, 29, 30, 31, 32, 33, 34, 35, 36, 37, 38, 39] (by decide +kernel) (by decide +kernel)
set_option maxRecDepth 20000 in
theorem gX0_takeIn_X0_mixLanes : GoodIn wsX0_takeIn (wsV RX0 35 RX0 yX0_mixLanes wsX0_mixLanes) := goodIn_app (goodIn_of _ (by decide +kernel)) ggX0_takeIn_X0_mixLanes
theorem dX0_takeIn_0 : decode cX0_takeIn 0 = .ok (.aload_n 0, 1) := by decide +kernel
theorem dX0_takeIn_1 : decode cX0_takeIn 1 = .ok (.getfield 11, 3) := by decide +kernel
theorem dX0_takeIn_4 : decode cX0_takeIn 4 = .ok (.iload_n 1, 1) := by decide +kernel
theorem dX0_takeIn_5 : decode cX0_takeIn 5 = .ok (.aaload, 1) := by decide +kernel
theorem dX0_takeIn_6 : decode cX0_takeIn 6 = .ok (.aload_n 0, 1) := by decide +kernel
theorem dX0_takeIn_7 : decode cX0_takeIn 7 = .ok (.getfield 14, 3) := by decide +kernel
theorem dX0_takeIn_10 : decode cX0_takeIn 10 = .ok (.iload_n 1, 1) := by decide +kernel
theorem dX0_takeIn_11 : decode cX0_takeIn 11 = .ok (.iaload, 1) := by decide +kernel
theorem dX0_takeIn_12 : decode cX0_takeIn 12 = .ok (.iload_n 2, 1) := by decide +kernel
theorem dX0_takeIn_13 : decode cX0_takeIn 13 = .ok (.invokestatic 39, 3) := by decide +kernel
theorem dX0_takeIn_16 : decode cX0_takeIn 16 = .ok (.aload_n 0, 1) := by decide +kernel
theorem dX0_takeIn_17 : decode cX0_takeIn 17 = .ok (.getfield 14, 3) := by decide +kernel
theorem dX0_takeIn_20 : decode cX0_takeIn 20 = .ok (.iload_n 1, 1) := by decide +kernel
theorem dX0_takeIn_21 : decode cX0_takeIn 21 = .ok (.dup2, 1) := by decide +kernel
theorem dX0_takeIn_22 : decode cX0_takeIn 22 = .ok (.iaload, 1) := by decide +kernel
theorem dX0_takeIn_23 : decode cX0_takeIn 23 = .ok (.iconst 1, 1) := by decide +kernel
theorem dX0_takeIn_24 : decode cX0_takeIn 24 = .ok (.iadd, 1) := by decide +kernel
theorem dX0_takeIn_25 : decode cX0_takeIn 25 = .ok (.iastore, 1) := by decide +kernel
theorem dX0_takeIn_26 : decode cX0_takeIn 26 = .ok (.aload_n 0, 1) := by decide +kernel
theorem dX0_takeIn_27 : decode cX0_takeIn 27 = .ok (.getfield 14, 3) := by decide +kernel
theorem dX0_takeIn_30 : decode cX0_takeIn 30 = .ok (.iload_n 1, 1) := by decide +kernel
theorem dX0_takeIn_31 : decode cX0_takeIn 31 = .ok (.iaload, 1) := by decide +kernel
theorem dX0_takeIn_32 : decode cX0_takeIn 32 = .ok (.sipush 136, 3) := by decide +kernel
theorem dX0_takeIn_35 : decode cX0_takeIn 35 = .ok (.if_icmp .ne 20, 3) := by decide +kernel
theorem dX0_takeIn_38 : decode cX0_takeIn 38 = .ok (.aload_n 0, 1) := by decide +kernel
theorem dX0_takeIn_39 : decode cX0_takeIn 39 = .ok (.aload_n 0, 1) := by decide +kernel
theorem dX0_takeIn_40 : decode cX0_takeIn 40 = .ok (.getfield 11, 3) := by decide +kernel
theorem dX0_takeIn_43 : decode cX0_takeIn 43 = .ok (.iload_n 1, 1) := by decide +kernel
theorem dX0_takeIn_44 : decode cX0_takeIn 44 = .ok (.aaload, 1) := by decide +kernel
theorem dX0_takeIn_45 : decode cX0_takeIn 45 = .ok (.invokevirtual 35, 3) := by decide +kernel
theorem dX0_takeIn_48 : decode cX0_takeIn 48 = .ok (.aload_n 0, 1) := by decide +kernel
theorem dX0_takeIn_49 : decode cX0_takeIn 49 = .ok (.getfield 14, 3) := by decide +kernel
theorem dX0_takeIn_52 : decode cX0_takeIn 52 = .ok (.iload_n 1, 1) := by decide +kernel
theorem dX0_takeIn_53 : decode cX0_takeIn 53 = .ok (.iconst 0, 1) := by decide +kernel
theorem dX0_takeIn_54 : decode cX0_takeIn 54 = .ok (.iastore, 1) := by decide +kernel
theorem dX0_takeIn_55 : decode cX0_takeIn 55 = .ok (.return_, 1) := by decide +kernel
theorem dX0_joinByte_0 : decode cX0_joinByte 0 = .ok (.aload_n 0, 1) := by decide +kernel
theorem dX0_joinByte_1 : decode cX0_joinByte 1 = .ok (.iload_n 1, 1) := by decide +kernel
theorem dX0_joinByte_2 : decode cX0_joinByte 2 = .ok (.bipush 8, 2) := by decide +kernel
theorem dX0_joinByte_4 : decode cX0_joinByte 4 = .ok (.idiv, 1) := by decide +kernel
theorem dX0_joinByte_5 : decode cX0_joinByte 5 = .ok (.dup2, 1) := by decide +kernel
theorem dX0_joinByte_6 : decode cX0_joinByte 6 = .ok (.laload, 1) := by decide +kernel
theorem dX0_joinByte_7 : decode cX0_joinByte 7 = .ok (.iload_n 2, 1) := by decide +kernel
theorem dX0_joinByte_8 : decode cX0_joinByte 8 = .ok (.i2l, 1) := by decide +kernel
theorem dX0_joinByte_9 : decode cX0_joinByte 9 = .ok (.ldc2_w 60, 3) := by decide +kernel
theorem dX0_joinByte_12 : decode cX0_joinByte 12 = .ok (.land, 1) := by decide +kernel
theorem dX0_joinByte_13 : decode cX0_joinByte 13 = .ok (.bipush 8, 2) := by decide +kernel
theorem dX0_joinByte_15 : decode cX0_joinByte 15 = .ok (.iload_n 1, 1) := by decide +kernel
theorem dX0_joinByte_16 : decode cX0_joinByte 16 = .ok (.bipush 8, 2) := by decide +kernel
theorem dX0_joinByte_18 : decode cX0_joinByte 18 = .ok (.irem, 1) := by decide +kernel
theorem dX0_joinByte_19 : decode cX0_joinByte 19 = .ok (.imul, 1) := by decide +kernel
theorem dX0_joinByte_20 : decode cX0_joinByte 20 = .ok (.lshl, 1) := by decide +kernel
theorem dX0_joinByte_21 : decode cX0_joinByte 21 = .ok (.lxor, 1) := by decide +kernel
theorem dX0_joinByte_22 : decode cX0_joinByte 22 = .ok (.lastore, 1) := by decide +kernel
theorem dX0_joinByte_23 : decode cX0_joinByte 23 = .ok (.return_, 1) := by decide +kernel
set_option maxRecDepth 20000 in
theorem ggX0_mixLanes_X0_sumColumns : GoodIn wsX0_mixLanes wsX0_sumColumns := goodIn_r _ [6, 7, 8, 9, 5, 10, 11, 12, 13, 26, 27, 28, 29] (by decide +kernel) (by decide +kernel)
set_option maxRecDepth 20000 in
theorem gX0_mixLanes_X0_sumColumns : GoodIn wsX0_mixLanes (wsV RX0 62 RX0 yX0_sumColumns wsX0_sumColumns) := goodIn_app (goodIn_of _ (by decide +kernel)) ggX0_mixLanes_X0_sumColumns
set_option maxRecDepth 20000 in
theorem ggX0_mixLanes_X0_turnAndMove : GoodIn wsX0_mixLanes wsX0_turnAndMove := goodIn_r _ [17, 18, 19, 7, 20, 11, 12, 5, 13, 26, 27, 28, 29] (by decide +kernel) (by decide +kernel)
set_option maxRecDepth 20000 in
theorem gX0_mixLanes_X0_turnAndMove : GoodIn wsX0_mixLanes (wsV RX0 65 RX0 yX0_turnAndMove wsX0_turnAndMove) := goodIn_app (goodIn_of _ (by decide +kernel)) ggX0_mixLanes_X0_turnAndMove
set_option maxRecDepth 20000 in
theorem ggX0_mixLanes_X0_combineRows : GoodIn wsX0_mixLanes wsX0_combineRows := goodIn_r _ [24, 18, 25, 26, 27, 28, 29] (by decide +kernel) (by decide +kernel)
set_option maxRecDepth 20000 in
theorem gX0_mixLanes_X0_combineRows : GoodIn wsX0_mixLanes (wsV RX0 68 RX0 yX0_combineRows wsX0_combineRows) := goodIn_app (goodIn_of _ (by decide +kernel)) ggX0_mixLanes_X0_combineRows
theorem dX0_mixLanes_0 : decode cX0_mixLanes 0 = .ok (.iconst 0, 1) := by decide +kernel
theorem dX0_mixLanes_1 : decode cX0_mixLanes 1 = .ok (.istore_n 2, 1) := by decide +kernel
theorem dX0_mixLanes_2 : decode cX0_mixLanes 2 = .ok (.iload_n 2, 1) := by decide +kernel
theorem dX0_mixLanes_3 : decode cX0_mixLanes 3 = .ok (.bipush 24, 2) := by decide +kernel
theorem dX0_mixLanes_5 : decode cX0_mixLanes 5 = .ok (.if_icmp .ge 35, 3) := by decide +kernel
theorem dX0_mixLanes_8 : decode cX0_mixLanes 8 = .ok (.aload_n 0, 1) := by decide +kernel
theorem dX0_mixLanes_9 : decode cX0_mixLanes 9 = .ok (.aload_n 1, 1) := by decide +kernel
theorem dX0_mixLanes_10 : decode cX0_mixLanes 10 = .ok (.invokevirtual 62, 3) := by decide +kernel
theorem dX0_mixLanes_13 : decode cX0_mixLanes 13 = .ok (.aload_n 0, 1) := by decide +kernel
theorem dX0_mixLanes_14 : decode cX0_mixLanes 14 = .ok (.aload_n 1, 1) := by decide +kernel
theorem dX0_mixLanes_15 : decode cX0_mixLanes 15 = .ok (.invokevirtual 65, 3) := by decide +kernel
theorem dX0_mixLanes_18 : decode cX0_mixLanes 18 = .ok (.aload_n 0, 1) := by decide +kernel
theorem dX0_mixLanes_19 : decode cX0_mixLanes 19 = .ok (.aload_n 1, 1) := by decide +kernel
theorem dX0_mixLanes_20 : decode cX0_mixLanes 20 = .ok (.invokevirtual 68, 3) := by decide +kernel
theorem dX0_mixLanes_23 : decode cX0_mixLanes 23 = .ok (.aload_n 1, 1) := by decide +kernel
theorem dX0_mixLanes_24 : decode cX0_mixLanes 24 = .ok (.iconst 0, 1) := by decide +kernel
theorem dX0_mixLanes_25 : decode cX0_mixLanes 25 = .ok (.dup2, 1) := by decide +kernel
theorem dX0_mixLanes_26 : decode cX0_mixLanes 26 = .ok (.laload, 1) := by decide +kernel
theorem dX0_mixLanes_27 : decode cX0_mixLanes 27 = .ok (.getstatic 71, 3) := by decide +kernel
theorem dX0_mixLanes_30 : decode cX0_mixLanes 30 = .ok (.iload_n 2, 1) := by decide +kernel
theorem dX0_mixLanes_31 : decode cX0_mixLanes 31 = .ok (.laload, 1) := by decide +kernel
theorem dX0_mixLanes_32 : decode cX0_mixLanes 32 = .ok (.lxor, 1) := by decide +kernel
theorem dX0_mixLanes_33 : decode cX0_mixLanes 33 = .ok (.lastore, 1) := by decide +kernel
theorem dX0_mixLanes_34 : decode cX0_mixLanes 34 = .ok (.iinc 2 1, 3) := by decide +kernel
theorem dX0_mixLanes_37 : decode cX0_mixLanes 37 = .ok (.goto (-35), 3) := by decide +kernel
theorem dX0_mixLanes_40 : decode cX0_mixLanes 40 = .ok (.return_, 1) := by decide +kernel
set_option maxRecDepth 20000 in
theorem ggX0_sumColumns_X0_columnSum : GoodIn wsX0_sumColumns wsX0_columnSum := goodIn_r _ [5] (by decide +kernel) (by decide +kernel)
set_option maxRecDepth 20000 in
theorem gX0_sumColumns_X0_columnSum : GoodIn wsX0_sumColumns (va_wsS RX0 74 yX0_columnSum wsX0_columnSum) := goodIn_app (goodIn_of _ (by decide +kernel)) ggX0_sumColumns_X0_columnSum
set_option maxRecDepth 20000 in
theorem ggX0_sumColumns_X0_turnedLeft : GoodIn wsX0_sumColumns wsX0_turnedLeft := goodIn_r _ [8] (by decide +kernel) (by decide +kernel)
set_option maxRecDepth 20000 in
theorem gX0_sumColumns_X0_turnedLeft : GoodIn wsX0_sumColumns (va_wsS RX0 78 yX0_turnedLeft wsX0_turnedLeft) := goodIn_app (goodIn_of _ (by decide +kernel)) ggX0_sumColumns_X0_turnedLeft
theorem dX0_sumColumns_0 : decode cX0_sumColumns 0 = .ok (.aload_n 1, 1) := by decide +kernel
theorem dX0_sumColumns_1 : decode cX0_sumColumns 1 = .ok (.iconst 0, 1) := by decide +kernel
theorem dX0_sumColumns_2 : decode cX0_sumColumns 2 = .ok (.invokestatic 74, 3) := by decide +kernel
theorem dX0_sumColumns_5 : decode cX0_sumColumns 5 = .ok (.lstore_n 2, 1) := by decide +kernel
theorem dX0_sumColumns_6 : decode cX0_sumColumns 6 = .ok (.aload_n 1, 1) := by decide +kernel
theorem dX0_sumColumns_7 : decode cX0_sumColumns 7 = .ok (.iconst 1, 1) := by decide +kernel
theorem dX0_sumColumns_8 : decode cX0_sumColumns 8 = .ok (.invokestatic 74, 3) := by decide +kernel
theorem dX0_sumColumns_11 : decode cX0_sumColumns 11 = .ok (.lstore 4, 2) := by decide +kernel
theorem dX0_sumColumns_13 : decode cX0_sumColumns 13 = .ok (.aload_n 1, 1) := by decide +kernel
theorem dX0_sumColumns_14 : decode cX0_sumColumns 14 = .ok (.iconst 2, 1) := by decide +kernel
theorem dX0_sumColumns_15 : decode cX0_sumColumns 15 = .ok (.invokestatic 74, 3) := by decide +kernel
theorem dX0_sumColumns_18 : decode cX0_sumColumns 18 = .ok (.lstore 6, 2) := by decide +kernel
theorem dX0_sumColumns_20 : decode cX0_sumColumns 20 = .ok (.aload_n 1, 1) := by decide +kernel
theorem dX0_sumColumns_21 : decode cX0_sumColumns 21 = .ok (.iconst 3, 1) := by decide +kernel
theorem dX0_sumColumns_22 : decode cX0_sumColumns 22 = .ok (.invokestatic 74, 3) := by decide +kernel
theorem dX0_sumColumns_25 : decode cX0_sumColumns 25 = .ok (.lstore 8, 2) := by decide +kernel
theorem dX0_sumColumns_27 : decode cX0_sumColumns 27 = .ok (.aload_n 1, 1) := by decide +kernel
theorem dX0_sumColumns_28 : decode cX0_sumColumns 28 = .ok (.iconst 4, 1) := by decide +kernel
theorem dX0_sumColumns_29 : decode cX0_sumColumns 29 = .ok (.invokestatic 74, 3) := by decide +kernel
theorem dX0_sumColumns_32 : decode cX0_sumColumns 32 = .ok (.lstore 10, 2) := by decide +kernel
theorem dX0_sumColumns_34 : decode cX0_sumColumns 34 = .ok (.aload_n 0, 1) := by decide +kernel
theorem dX0_sumColumns_35 : decode cX0_sumColumns 35 = .ok (.getfield 18, 3) := by decide +kernel
theorem dX0_sumColumns_38 : decode cX0_sumColumns 38 = .ok (.iconst 0, 1) := by decide +kernel
theorem dX0_sumColumns_39 : decode cX0_sumColumns 39 = .ok (.lload 10, 2) := by decide +kernel
theorem dX0_sumColumns_41 : decode cX0_sumColumns 41 = .ok (.lload 4, 2) := by decide +kernel
theorem dX0_sumColumns_43 : decode cX0_sumColumns 43 = .ok (.iconst 1, 1) := by decide +kernel
theorem dX0_sumColumns_44 : decode cX0_sumColumns 44 = .ok (.invokestatic 78, 3) := by decide +kernel
theorem dX0_sumColumns_47 : decode cX0_sumColumns 47 = .ok (.lxor, 1) := by decide +kernel
theorem dX0_sumColumns_48 : decode cX0_sumColumns 48 = .ok (.lastore, 1) := by decide +kernel
theorem dX0_sumColumns_49 : decode cX0_sumColumns 49 = .ok (.aload_n 0, 1) := by decide +kernel
theorem dX0_sumColumns_50 : decode cX0_sumColumns 50 = .ok (.getfield 18, 3) := by decide +kernel
theorem dX0_sumColumns_53 : decode cX0_sumColumns 53 = .ok (.iconst 1, 1) := by decide +kernel
theorem dX0_sumColumns_54 : decode cX0_sumColumns 54 = .ok (.lload_n 2, 1) := by decide +kernel
theorem dX0_sumColumns_55 : decode cX0_sumColumns 55 = .ok (.lload 6, 2) := by decide +kernel
theorem dX0_sumColumns_57 : decode cX0_sumColumns 57 = .ok (.iconst 1, 1) := by decide +kernel
theorem dX0_sumColumns_58 : decode cX0_sumColumns 58 = .ok (.invokestatic 78, 3) := by decide +kernel
theorem dX0_sumColumns_61 : decode cX0_sumColumns 61 = .ok (.lxor, 1) := by decide +kernel
theorem dX0_sumColumns_62 : decode cX0_sumColumns 62 = .ok (.lastore, 1) := by decide +kernel
theorem dX0_sumColumns_63 : decode cX0_sumColumns 63 = .ok (.aload_n 0, 1) := by decide +kernel
theorem dX0_sumColumns_64 : decode cX0_sumColumns 64 = .ok (.getfield 18, 3) := by decide +kernel
theorem dX0_sumColumns_67 : decode cX0_sumColumns 67 = .ok (.iconst 2, 1) := by decide +kernel
theorem dX0_sumColumns_68 : decode cX0_sumColumns 68 = .ok (.lload 4, 2) := by decide +kernel
theorem dX0_sumColumns_70 : decode cX0_sumColumns 70 = .ok (.lload 8, 2) := by decide +kernel
theorem dX0_sumColumns_72 : decode cX0_sumColumns 72 = .ok (.iconst 1, 1) := by decide +kernel
theorem dX0_sumColumns_73 : decode cX0_sumColumns 73 = .ok (.invokestatic 78, 3) := by decide +kernel
theorem dX0_sumColumns_76 : decode cX0_sumColumns 76 = .ok (.lxor, 1) := by decide +kernel
theorem dX0_sumColumns_77 : decode cX0_sumColumns 77 = .ok (.lastore, 1) := by decide +kernel
theorem dX0_sumColumns_78 : decode cX0_sumColumns 78 = .ok (.aload_n 0, 1) := by decide +kernel
theorem dX0_sumColumns_79 : decode cX0_sumColumns 79 = .ok (.getfield 18, 3) := by decide +kernel
theorem dX0_sumColumns_82 : decode cX0_sumColumns 82 = .ok (.iconst 3, 1) := by decide +kernel
theorem dX0_sumColumns_83 : decode cX0_sumColumns 83 = .ok (.lload 6, 2) := by decide +kernel
theorem dX0_sumColumns_85 : decode cX0_sumColumns 85 = .ok (.lload 10, 2) := by decide +kernel
theorem dX0_sumColumns_87 : decode cX0_sumColumns 87 = .ok (.iconst 1, 1) := by decide +kernel
theorem dX0_sumColumns_88 : decode cX0_sumColumns 88 = .ok (.invokestatic 78, 3) := by decide +kernel
theorem dX0_sumColumns_91 : decode cX0_sumColumns 91 = .ok (.lxor, 1) := by decide +kernel
theorem dX0_sumColumns_92 : decode cX0_sumColumns 92 = .ok (.lastore, 1) := by decide +kernel
theorem dX0_sumColumns_93 : decode cX0_sumColumns 93 = .ok (.aload_n 0, 1) := by decide +kernel
theorem dX0_sumColumns_94 : decode cX0_sumColumns 94 = .ok (.getfield 18, 3) := by decide +kernel
theorem dX0_sumColumns_97 : decode cX0_sumColumns 97 = .ok (.iconst 4, 1) := by decide +kernel
theorem dX0_sumColumns_98 : decode cX0_sumColumns 98 = .ok (.lload 8, 2) := by decide +kernel
theorem dX0_sumColumns_100 : decode cX0_sumColumns 100 = .ok (.lload_n 2, 1) := by decide +kernel
theorem dX0_sumColumns_101 : decode cX0_sumColumns 101 = .ok (.iconst 1, 1) := by decide +kernel
theorem dX0_sumColumns_102 : decode cX0_sumColumns 102 = .ok (.invokestatic 78, 3) := by decide +kernel
theorem dX0_sumColumns_105 : decode cX0_sumColumns 105 = .ok (.lxor, 1) := by decide +kernel
theorem dX0_sumColumns_106 : decode cX0_sumColumns 106 = .ok (.lastore, 1) := by decide +kernel
theorem dX0_sumColumns_107 : decode cX0_sumColumns 107 = .ok (.return_, 1) := by decide +kernel
theorem dX0_columnSum_0 : decode cX0_columnSum 0 = .ok (.aload_n 0, 1) := by decide +kernel
theorem dX0_columnSum_1 : decode cX0_columnSum 1 = .ok (.iload_n 1, 1) := by decide +kernel
theorem dX0_columnSum_2 : decode cX0_columnSum 2 = .ok (.laload, 1) := by decide +kernel
theorem dX0_columnSum_3 : decode cX0_columnSum 3 = .ok (.aload_n 0, 1) := by decide +kernel
theorem dX0_columnSum_4 : decode cX0_columnSum 4 = .ok (.iload_n 1, 1) := by decide +kernel
theorem dX0_columnSum_5 : decode cX0_columnSum 5 = .ok (.iconst 5, 1) := by decide +kernel
theorem dX0_columnSum_6 : decode cX0_columnSum 6 = .ok (.iadd, 1) := by decide +kernel
theorem dX0_columnSum_7 : decode cX0_columnSum 7 = .ok (.laload, 1) := by decide +kernel
theorem dX0_columnSum_8 : decode cX0_columnSum 8 = .ok (.lxor, 1) := by decide +kernel
theorem dX0_columnSum_9 : decode cX0_columnSum 9 = .ok (.aload_n 0, 1) := by decide +kernel
theorem dX0_columnSum_10 : decode cX0_columnSum 10 = .ok (.iload_n 1, 1) := by decide +kernel
theorem dX0_columnSum_11 : decode cX0_columnSum 11 = .ok (.bipush 10, 2) := by decide +kernel
theorem dX0_columnSum_13 : decode cX0_columnSum 13 = .ok (.iadd, 1) := by decide +kernel
theorem dX0_columnSum_14 : decode cX0_columnSum 14 = .ok (.laload, 1) := by decide +kernel
theorem dX0_columnSum_15 : decode cX0_columnSum 15 = .ok (.lxor, 1) := by decide +kernel
theorem dX0_columnSum_16 : decode cX0_columnSum 16 = .ok (.aload_n 0, 1) := by decide +kernel
theorem dX0_columnSum_17 : decode cX0_columnSum 17 = .ok (.iload_n 1, 1) := by decide +kernel
theorem dX0_columnSum_18 : decode cX0_columnSum 18 = .ok (.bipush 15, 2) := by decide +kernel
theorem dX0_columnSum_20 : decode cX0_columnSum 20 = .ok (.iadd, 1) := by decide +kernel
theorem dX0_columnSum_21 : decode cX0_columnSum 21 = .ok (.laload, 1) := by decide +kernel
theorem dX0_columnSum_22 : decode cX0_columnSum 22 = .ok (.lxor, 1) := by decide +kernel
theorem dX0_columnSum_23 : decode cX0_columnSum 23 = .ok (.aload_n 0, 1) := by decide +kernel
theorem dX0_columnSum_24 : decode cX0_columnSum 24 = .ok (.iload_n 1, 1) := by decide +kernel
theorem dX0_columnSum_25 : decode cX0_columnSum 25 = .ok (.bipush 20, 2) := by decide +kernel
theorem dX0_columnSum_27 : decode cX0_columnSum 27 = .ok (.iadd, 1) := by decide +kernel
theorem dX0_columnSum_28 : decode cX0_columnSum 28 = .ok (.laload, 1) := by decide +kernel
theorem dX0_columnSum_29 : decode cX0_columnSum 29 = .ok (.lxor, 1) := by decide +kernel
theorem dX0_columnSum_30 : decode cX0_columnSum 30 = .ok (.lreturn, 1) := by decide +kernel
set_option maxRecDepth 20000 in
theorem ggX0_turnAndMove_X0_turnedLeft : GoodIn wsX0_turnAndMove wsX0_turnedLeft := goodIn_r _ [8] (by decide +kernel) (by decide +kernel)
set_option maxRecDepth 20000 in
theorem gX0_turnAndMove_X0_turnedLeft : GoodIn wsX0_turnAndMove (va_wsS RX0 78 yX0_turnedLeft wsX0_turnedLeft) := goodIn_app (goodIn_of _ (by decide +kernel)) ggX0_turnAndMove_X0_turnedLeft
theorem dX0_turnAndMove_0 : decode cX0_turnAndMove 0 = .ok (.iconst 0, 1) := by decide +kernel
theorem dX0_turnAndMove_1 : decode cX0_turnAndMove 1 = .ok (.istore_n 2, 1) := by decide +kernel
theorem dX0_turnAndMove_2 : decode cX0_turnAndMove 2 = .ok (.iload_n 2, 1) := by decide +kernel
theorem dX0_turnAndMove_3 : decode cX0_turnAndMove 3 = .ok (.bipush 25, 2) := by decide +kernel
theorem dX0_turnAndMove_5 : decode cX0_turnAndMove 5 = .ok (.if_icmp .ge 58, 3) := by decide +kernel
theorem dX0_turnAndMove_8 : decode cX0_turnAndMove 8 = .ok (.iconst 0, 1) := by decide +kernel
theorem dX0_turnAndMove_9 : decode cX0_turnAndMove 9 = .ok (.istore_n 3, 1) := by decide +kernel
theorem dX0_turnAndMove_10 : decode cX0_turnAndMove 10 = .ok (.iload_n 3, 1) := by decide +kernel
theorem dX0_turnAndMove_11 : decode cX0_turnAndMove 11 = .ok (.iconst 5, 1) := by decide +kernel
theorem dX0_turnAndMove_12 : decode cX0_turnAndMove 12 = .ok (.if_icmp .ge 45, 3) := by decide +kernel
theorem dX0_turnAndMove_15 : decode cX0_turnAndMove 15 = .ok (.iload_n 3, 1) := by decide +kernel
theorem dX0_turnAndMove_16 : decode cX0_turnAndMove 16 = .ok (.iload_n 2, 1) := by decide +kernel
theorem dX0_turnAndMove_17 : decode cX0_turnAndMove 17 = .ok (.iadd, 1) := by decide +kernel
theorem dX0_turnAndMove_18 : decode cX0_turnAndMove 18 = .ok (.istore 4, 2) := by decide +kernel
theorem dX0_turnAndMove_20 : decode cX0_turnAndMove 20 = .ok (.aload_n 0, 1) := by decide +kernel
theorem dX0_turnAndMove_21 : decode cX0_turnAndMove 21 = .ok (.getfield 22, 3) := by decide +kernel
theorem dX0_turnAndMove_24 : decode cX0_turnAndMove 24 = .ok (.getstatic 82, 3) := by decide +kernel
theorem dX0_turnAndMove_27 : decode cX0_turnAndMove 27 = .ok (.iload 4, 2) := by decide +kernel
theorem dX0_turnAndMove_29 : decode cX0_turnAndMove 29 = .ok (.iaload, 1) := by decide +kernel
theorem dX0_turnAndMove_30 : decode cX0_turnAndMove 30 = .ok (.aload_n 1, 1) := by decide +kernel
theorem dX0_turnAndMove_31 : decode cX0_turnAndMove 31 = .ok (.iload 4, 2) := by decide +kernel
theorem dX0_turnAndMove_33 : decode cX0_turnAndMove 33 = .ok (.laload, 1) := by decide +kernel
theorem dX0_turnAndMove_34 : decode cX0_turnAndMove 34 = .ok (.aload_n 0, 1) := by decide +kernel
theorem dX0_turnAndMove_35 : decode cX0_turnAndMove 35 = .ok (.getfield 18, 3) := by decide +kernel
theorem dX0_turnAndMove_38 : decode cX0_turnAndMove 38 = .ok (.iload_n 3, 1) := by decide +kernel
theorem dX0_turnAndMove_39 : decode cX0_turnAndMove 39 = .ok (.laload, 1) := by decide +kernel
theorem dX0_turnAndMove_40 : decode cX0_turnAndMove 40 = .ok (.lxor, 1) := by decide +kernel
theorem dX0_turnAndMove_41 : decode cX0_turnAndMove 41 = .ok (.getstatic 85, 3) := by decide +kernel
theorem dX0_turnAndMove_44 : decode cX0_turnAndMove 44 = .ok (.iload 4, 2) := by decide +kernel
theorem dX0_turnAndMove_46 : decode cX0_turnAndMove 46 = .ok (.iaload, 1) := by decide +kernel
theorem dX0_turnAndMove_47 : decode cX0_turnAndMove 47 = .ok (.invokestatic 78, 3) := by decide +kernel
theorem dX0_turnAndMove_50 : decode cX0_turnAndMove 50 = .ok (.lastore, 1) := by decide +kernel
theorem dX0_turnAndMove_51 : decode cX0_turnAndMove 51 = .ok (.iinc 3 1, 3) := by decide +kernel
theorem dX0_turnAndMove_54 : decode cX0_turnAndMove 54 = .ok (.goto (-44), 3) := by decide +kernel
theorem dX0_turnAndMove_57 : decode cX0_turnAndMove 57 = .ok (.iinc 2 5, 3) := by decide +kernel
theorem dX0_turnAndMove_60 : decode cX0_turnAndMove 60 = .ok (.goto (-58), 3) := by decide +kernel
theorem dX0_turnAndMove_63 : decode cX0_turnAndMove 63 = .ok (.return_, 1) := by decide +kernel
theorem dX0_combineRows_0 : decode cX0_combineRows 0 = .ok (.iconst 0, 1) := by decide +kernel
theorem dX0_combineRows_1 : decode cX0_combineRows 1 = .ok (.istore_n 2, 1) := by decide +kernel
theorem dX0_combineRows_2 : decode cX0_combineRows 2 = .ok (.iload_n 2, 1) := by decide +kernel
theorem dX0_combineRows_3 : decode cX0_combineRows 3 = .ok (.bipush 25, 2) := by decide +kernel
theorem dX0_combineRows_5 : decode cX0_combineRows 5 = .ok (.if_icmp .ge 136, 3) := by decide +kernel
theorem dX0_combineRows_8 : decode cX0_combineRows 8 = .ok (.aload_n 0, 1) := by decide +kernel
theorem dX0_combineRows_9 : decode cX0_combineRows 9 = .ok (.getfield 22, 3) := by decide +kernel
theorem dX0_combineRows_12 : decode cX0_combineRows 12 = .ok (.iload_n 2, 1) := by decide +kernel
theorem dX0_combineRows_13 : decode cX0_combineRows 13 = .ok (.laload, 1) := by decide +kernel
theorem dX0_combineRows_14 : decode cX0_combineRows 14 = .ok (.lstore_n 3, 1) := by decide +kernel
theorem dX0_combineRows_15 : decode cX0_combineRows 15 = .ok (.aload_n 0, 1) := by decide +kernel
theorem dX0_combineRows_16 : decode cX0_combineRows 16 = .ok (.getfield 22, 3) := by decide +kernel
theorem dX0_combineRows_19 : decode cX0_combineRows 19 = .ok (.iload_n 2, 1) := by decide +kernel
theorem dX0_combineRows_20 : decode cX0_combineRows 20 = .ok (.iconst 1, 1) := by decide +kernel
theorem dX0_combineRows_21 : decode cX0_combineRows 21 = .ok (.iadd, 1) := by decide +kernel
theorem dX0_combineRows_22 : decode cX0_combineRows 22 = .ok (.laload, 1) := by decide +kernel
theorem dX0_combineRows_23 : decode cX0_combineRows 23 = .ok (.lstore 5, 2) := by decide +kernel
theorem dX0_combineRows_25 : decode cX0_combineRows 25 = .ok (.aload_n 0, 1) := by decide +kernel
theorem dX0_combineRows_26 : decode cX0_combineRows 26 = .ok (.getfield 22, 3) := by decide +kernel
theorem dX0_combineRows_29 : decode cX0_combineRows 29 = .ok (.iload_n 2, 1) := by decide +kernel
theorem dX0_combineRows_30 : decode cX0_combineRows 30 = .ok (.iconst 2, 1) := by decide +kernel
theorem dX0_combineRows_31 : decode cX0_combineRows 31 = .ok (.iadd, 1) := by decide +kernel
theorem dX0_combineRows_32 : decode cX0_combineRows 32 = .ok (.laload, 1) := by decide +kernel
theorem dX0_combineRows_33 : decode cX0_combineRows 33 = .ok (.lstore 7, 2) := by decide +kernel
theorem dX0_combineRows_35 : decode cX0_combineRows 35 = .ok (.aload_n 0, 1) := by decide +kernel
theorem dX0_combineRows_36 : decode cX0_combineRows 36 = .ok (.getfield 22, 3) := by decide +kernel
theorem dX0_combineRows_39 : decode cX0_combineRows 39 = .ok (.iload_n 2, 1) := by decide +kernel
theorem dX0_combineRows_40 : decode cX0_combineRows 40 = .ok (.iconst 3, 1) := by decide +kernel
theorem dX0_combineRows_41 : decode cX0_combineRows 41 = .ok (.iadd, 1) := by decide +kernel
theorem dX0_combineRows_42 : decode cX0_combineRows 42 = .ok (.laload, 1) := by decide +kernel
theorem dX0_combineRows_43 : decode cX0_combineRows 43 = .ok (.lstore 9, 2) := by decide +kernel
theorem dX0_combineRows_45 : decode cX0_combineRows 45 = .ok (.aload_n 0, 1) := by decide +kernel
theorem dX0_combineRows_46 : decode cX0_combineRows 46 = .ok (.getfield 22, 3) := by decide +kernel
theorem dX0_combineRows_49 : decode cX0_combineRows 49 = .ok (.iload_n 2, 1) := by decide +kernel
theorem dX0_combineRows_50 : decode cX0_combineRows 50 = .ok (.iconst 4, 1) := by decide +kernel
theorem dX0_combineRows_51 : decode cX0_combineRows 51 = .ok (.iadd, 1) := by decide +kernel
theorem dX0_combineRows_52 : decode cX0_combineRows 52 = .ok (.laload, 1) := by decide +kernel
theorem dX0_combineRows_53 : decode cX0_combineRows 53 = .ok (.lstore 11, 2) := by decide +kernel
theorem dX0_combineRows_55 : decode cX0_combineRows 55 = .ok (.aload_n 1, 1) := by decide +kernel
theorem dX0_combineRows_56 : decode cX0_combineRows 56 = .ok (.iload_n 2, 1) := by decide +kernel
theorem dX0_combineRows_57 : decode cX0_combineRows 57 = .ok (.lload_n 3, 1) := by decide +kernel
theorem dX0_combineRows_58 : decode cX0_combineRows 58 = .ok (.lload 5, 2) := by decide +kernel
theorem dX0_combineRows_60 : decode cX0_combineRows 60 = .ok (.ldc2_w 88, 3) := by decide +kernel
theorem dX0_combineRows_63 : decode cX0_combineRows 63 = .ok (.lxor, 1) := by decide +kernel
theorem dX0_combineRows_64 : decode cX0_combineRows 64 = .ok (.lload 7, 2) := by decide +kernel
theorem dX0_combineRows_66 : decode cX0_combineRows 66 = .ok (.land, 1) := by decide +kernel
theorem dX0_combineRows_67 : decode cX0_combineRows 67 = .ok (.lxor, 1) := by decide +kernel
theorem dX0_combineRows_68 : decode cX0_combineRows 68 = .ok (.lastore, 1) := by decide +kernel
theorem dX0_combineRows_69 : decode cX0_combineRows 69 = .ok (.aload_n 1, 1) := by decide +kernel
theorem dX0_combineRows_70 : decode cX0_combineRows 70 = .ok (.iload_n 2, 1) := by decide +kernel
theorem dX0_combineRows_71 : decode cX0_combineRows 71 = .ok (.iconst 1, 1) := by decide +kernel
theorem dX0_combineRows_72 : decode cX0_combineRows 72 = .ok (.iadd, 1) := by decide +kernel
theorem dX0_combineRows_73 : decode cX0_combineRows 73 = .ok (.lload 5, 2) := by decide +kernel
theorem dX0_combineRows_75 : decode cX0_combineRows 75 = .ok (.lload 7, 2) := by decide +kernel
theorem dX0_combineRows_77 : decode cX0_combineRows 77 = .ok (.ldc2_w 88, 3) := by decide +kernel
theorem dX0_combineRows_80 : decode cX0_combineRows 80 = .ok (.lxor, 1) := by decide +kernel
theorem dX0_combineRows_81 : decode cX0_combineRows 81 = .ok (.lload 9, 2) := by decide +kernel
theorem dX0_combineRows_83 : decode cX0_combineRows 83 = .ok (.land, 1) := by decide +kernel
theorem dX0_combineRows_84 : decode cX0_combineRows 84 = .ok (.lxor, 1) := by decide +kernel
theorem dX0_combineRows_85 : decode cX0_combineRows 85 = .ok (.lastore, 1) := by decide +kernel
theorem dX0_combineRows_86 : decode cX0_combineRows 86 = .ok (.aload_n 1, 1) := by decide +kernel
theorem dX0_combineRows_87 : decode cX0_combineRows 87 = .ok (.iload_n 2, 1) := by decide +kernel
theorem dX0_combineRows_88 : decode cX0_combineRows 88 = .ok (.iconst 2, 1) := by decide +kernel
theorem dX0_combineRows_89 : decode cX0_combineRows 89 = .ok (.iadd, 1) := by decide +kernel
theorem dX0_combineRows_90 : decode cX0_combineRows 90 = .ok (.lload 7, 2) := by decide +kernel
theorem dX0_combineRows_92 : decode cX0_combineRows 92 = .ok (.lload 9, 2) := by decide +kernel
theorem dX0_combineRows_94 : decode cX0_combineRows 94 = .ok (.ldc2_w 88, 3) := by decide +kernel
theorem dX0_combineRows_97 : decode cX0_combineRows 97 = .ok (.lxor, 1) := by decide +kernel
theorem dX0_combineRows_98 : decode cX0_combineRows 98 = .ok (.lload 11, 2) := by decide +kernel
theorem dX0_combineRows_100 : decode cX0_combineRows 100 = .ok (.land, 1) := by decide +kernel
theorem dX0_combineRows_101 : decode cX0_combineRows 101 = .ok (.lxor, 1) := by decide +kernel
theorem dX0_combineRows_102 : decode cX0_combineRows 102 = .ok (.lastore, 1) := by decide +kernel
theorem dX0_combineRows_103 : decode cX0_combineRows 103 = .ok (.aload_n 1, 1) := by decide +kernel
theorem dX0_combineRows_104 : decode cX0_combineRows 104 = .ok (.iload_n 2, 1) := by decide +kernel
theorem dX0_combineRows_105 : decode cX0_combineRows 105 = .ok (.iconst 3, 1) := by decide +kernel
theorem dX0_combineRows_106 : decode cX0_combineRows 106 = .ok (.iadd, 1) := by decide +kernel
theorem dX0_combineRows_107 : decode cX0_combineRows 107 = .ok (.lload 9, 2) := by decide +kernel
theorem dX0_combineRows_109 : decode cX0_combineRows 109 = .ok (.lload 11, 2) := by decide +kernel
theorem dX0_combineRows_111 : decode cX0_combineRows 111 = .ok (.ldc2_w 88, 3) := by decide +kernel
theorem dX0_combineRows_114 : decode cX0_combineRows 114 = .ok (.lxor, 1) := by decide +kernel
theorem dX0_combineRows_115 : decode cX0_combineRows 115 = .ok (.lload_n 3, 1) := by decide +kernel
theorem dX0_combineRows_116 : decode cX0_combineRows 116 = .ok (.land, 1) := by decide +kernel
theorem dX0_combineRows_117 : decode cX0_combineRows 117 = .ok (.lxor, 1) := by decide +kernel
theorem dX0_combineRows_118 : decode cX0_combineRows 118 = .ok (.lastore, 1) := by decide +kernel
theorem dX0_combineRows_119 : decode cX0_combineRows 119 = .ok (.aload_n 1, 1) := by decide +kernel
theorem dX0_combineRows_120 : decode cX0_combineRows 120 = .ok (.iload_n 2, 1) := by decide +kernel
theorem dX0_combineRows_121 : decode cX0_combineRows 121 = .ok (.iconst 4, 1) := by decide +kernel
theorem dX0_combineRows_122 : decode cX0_combineRows 122 = .ok (.iadd, 1) := by decide +kernel
theorem dX0_combineRows_123 : decode cX0_combineRows 123 = .ok (.lload 11, 2) := by decide +kernel
theorem dX0_combineRows_125 : decode cX0_combineRows 125 = .ok (.lload_n 3, 1) := by decide +kernel
theorem dX0_combineRows_126 : decode cX0_combineRows 126 = .ok (.ldc2_w 88, 3) := by decide +kernel
theorem dX0_combineRows_129 : decode cX0_combineRows 129 = .ok (.lxor, 1) := by decide +kernel
theorem dX0_combineRows_130 : decode cX0_combineRows 130 = .ok (.lload 5, 2) := by decide +kernel
theorem dX0_combineRows_132 : decode cX0_combineRows 132 = .ok (.land, 1) := by decide +kernel
theorem dX0_combineRows_133 : decode cX0_combineRows 133 = .ok (.lxor, 1) := by decide +kernel
theorem dX0_combineRows_134 : decode cX0_combineRows 134 = .ok (.lastore, 1) := by decide +kernel
theorem dX0_combineRows_135 : decode cX0_combineRows 135 = .ok (.iinc 2 5, 3) := by decide +kernel
theorem dX0_combineRows_138 : decode cX0_combineRows 138 = .ok (.goto (-136), 3) := by decide +kernel
theorem dX0_combineRows_141 : decode cX0_combineRows 141 = .ok (.return_, 1) := by decide +kernel
theorem dX0_turnedLeft_0 : decode cX0_turnedLeft 0 = .ok (.lload_n 0, 1) := by decide +kernel
theorem dX0_turnedLeft_1 : decode cX0_turnedLeft 1 = .ok (.iload_n 2, 1) := by decide +kernel
theorem dX0_turnedLeft_2 : decode cX0_turnedLeft 2 = .ok (.lshl, 1) := by decide +kernel
theorem dX0_turnedLeft_3 : decode cX0_turnedLeft 3 = .ok (.lload_n 0, 1) := by decide +kernel
theorem dX0_turnedLeft_4 : decode cX0_turnedLeft 4 = .ok (.bipush 64, 2) := by decide +kernel
theorem dX0_turnedLeft_6 : decode cX0_turnedLeft 6 = .ok (.iload_n 2, 1) := by decide +kernel
theorem dX0_turnedLeft_7 : decode cX0_turnedLeft 7 = .ok (.isub, 1) := by decide +kernel
theorem dX0_turnedLeft_8 : decode cX0_turnedLeft 8 = .ok (.lushr, 1) := by decide +kernel
theorem dX0_turnedLeft_9 : decode cX0_turnedLeft 9 = .ok (.lor, 1) := by decide +kernel
theorem dX0_turnedLeft_10 : decode cX0_turnedLeft 10 = .ok (.lreturn, 1) := by decide +kernel
theorem dX0_bytesTurnedRound_0 : decode cX0_bytesTurnedRound 0 = .ok (.lconst 0, 1) := by decide +kernel
theorem dX0_bytesTurnedRound_1 : decode cX0_bytesTurnedRound 1 = .ok (.lstore_n 2, 1) := by decide +kernel
theorem dX0_bytesTurnedRound_2 : decode cX0_bytesTurnedRound 2 = .ok (.iconst 0, 1) := by decide +kernel
theorem dX0_bytesTurnedRound_3 : decode cX0_bytesTurnedRound 3 = .ok (.istore 4, 2) := by decide +kernel
theorem dX0_bytesTurnedRound_5 : decode cX0_bytesTurnedRound 5 = .ok (.iload 4, 2) := by decide +kernel
theorem dX0_bytesTurnedRound_7 : decode cX0_bytesTurnedRound 7 = .ok (.bipush 8, 2) := by decide +kernel
theorem dX0_bytesTurnedRound_9 : decode cX0_bytesTurnedRound 9 = .ok (.if_icmp .ge 26, 3) := by decide +kernel
theorem dX0_bytesTurnedRound_12 : decode cX0_bytesTurnedRound 12 = .ok (.lload_n 2, 1) := by decide +kernel
theorem dX0_bytesTurnedRound_13 : decode cX0_bytesTurnedRound 13 = .ok (.bipush 8, 2) := by decide +kernel
theorem dX0_bytesTurnedRound_15 : decode cX0_bytesTurnedRound 15 = .ok (.lshl, 1) := by decide +kernel
theorem dX0_bytesTurnedRound_16 : decode cX0_bytesTurnedRound 16 = .ok (.lload_n 0, 1) := by decide +kernel
theorem dX0_bytesTurnedRound_17 : decode cX0_bytesTurnedRound 17 = .ok (.bipush 8, 2) := by decide +kernel
theorem dX0_bytesTurnedRound_19 : decode cX0_bytesTurnedRound 19 = .ok (.iload 4, 2) := by decide +kernel
theorem dX0_bytesTurnedRound_21 : decode cX0_bytesTurnedRound 21 = .ok (.imul, 1) := by decide +kernel
theorem dX0_bytesTurnedRound_22 : decode cX0_bytesTurnedRound 22 = .ok (.lushr, 1) := by decide +kernel
theorem dX0_bytesTurnedRound_23 : decode cX0_bytesTurnedRound 23 = .ok (.ldc2_w 60, 3) := by decide +kernel
theorem dX0_bytesTurnedRound_26 : decode cX0_bytesTurnedRound 26 = .ok (.land, 1) := by decide +kernel
theorem dX0_bytesTurnedRound_27 : decode cX0_bytesTurnedRound 27 = .ok (.lor, 1) := by decide +kernel
theorem dX0_bytesTurnedRound_28 : decode cX0_bytesTurnedRound 28 = .ok (.lstore_n 2, 1) := by decide +kernel
theorem dX0_bytesTurnedRound_29 : decode cX0_bytesTurnedRound 29 = .ok (.iinc 4 1, 3) := by decide +kernel
theorem dX0_bytesTurnedRound_32 : decode cX0_bytesTurnedRound 32 = .ok (.goto (-27), 3) := by decide +kernel
theorem dX0_bytesTurnedRound_35 : decode cX0_bytesTurnedRound 35 = .ok (.lload_n 2, 1) := by decide +kernel
theorem dX0_bytesTurnedRound_36 : decode cX0_bytesTurnedRound 36 = .ok (.lreturn, 1) := by decide +kernel
theorem dX1_constant_0 : decode cX1_constant 0 = .ok (.lconst 0, 1) := by decide +kernel
theorem dX1_constant_1 : decode cX1_constant 1 = .ok (.lstore_n 1, 1) := by decide +kernel
theorem dX1_constant_2 : decode cX1_constant 2 = .ok (.iconst 0, 1) := by decide +kernel
theorem dX1_constant_3 : decode cX1_constant 3 = .ok (.istore_n 3, 1) := by decide +kernel
theorem dX1_constant_4 : decode cX1_constant 4 = .ok (.iload_n 3, 1) := by decide +kernel
theorem dX1_constant_5 : decode cX1_constant 5 = .ok (.bipush 7, 2) := by decide +kernel
theorem dX1_constant_7 : decode cX1_constant 7 = .ok (.if_icmp .ge 88, 3) := by decide +kernel
theorem dX1_constant_10 : decode cX1_constant 10 = .ok (.iload_n 3, 1) := by decide +kernel
theorem dX1_constant_11 : decode cX1_constant 11 = .ok (.bipush 7, 2) := by decide +kernel
theorem dX1_constant_13 : decode cX1_constant 13 = .ok (.iload_n 0, 1) := by decide +kernel
theorem dX1_constant_14 : decode cX1_constant 14 = .ok (.imul, 1) := by decide +kernel
theorem dX1_constant_15 : decode cX1_constant 15 = .ok (.iadd, 1) := by decide +kernel
theorem dX1_constant_16 : decode cX1_constant 16 = .ok (.sipush 255, 3) := by decide +kernel
theorem dX1_constant_19 : decode cX1_constant 19 = .ok (.irem, 1) := by decide +kernel
theorem dX1_constant_20 : decode cX1_constant 20 = .ok (.istore 4, 2) := by decide +kernel
theorem dX1_constant_22 : decode cX1_constant 22 = .ok (.iconst 1, 1) := by decide +kernel
theorem dX1_constant_23 : decode cX1_constant 23 = .ok (.istore 5, 2) := by decide +kernel
theorem dX1_constant_25 : decode cX1_constant 25 = .ok (.iconst 0, 1) := by decide +kernel
theorem dX1_constant_26 : decode cX1_constant 26 = .ok (.istore 6, 2) := by decide +kernel
theorem dX1_constant_28 : decode cX1_constant 28 = .ok (.iload 6, 2) := by decide +kernel
theorem dX1_constant_30 : decode cX1_constant 30 = .ok (.iload 4, 2) := by decide +kernel
theorem dX1_constant_32 : decode cX1_constant 32 = .ok (.if_icmp .ge 40, 3) := by decide +kernel
theorem dX1_constant_35 : decode cX1_constant 35 = .ok (.iload 5, 2) := by decide +kernel
theorem dX1_constant_37 : decode cX1_constant 37 = .ok (.iconst 1, 1) := by decide +kernel
theorem dX1_constant_38 : decode cX1_constant 38 = .ok (.ishl, 1) := by decide +kernel
theorem dX1_constant_39 : decode cX1_constant 39 = .ok (.istore 5, 2) := by decide +kernel
theorem dX1_constant_41 : decode cX1_constant 41 = .ok (.iload 5, 2) := by decide +kernel
theorem dX1_constant_43 : decode cX1_constant 43 = .ok (.sipush 256, 3) := by decide +kernel
theorem dX1_constant_46 : decode cX1_constant 46 = .ok (.iand, 1) := by decide +kernel
theorem dX1_constant_47 : decode cX1_constant 47 = .ok (.ifCond .eq 11, 3) := by decide +kernel
theorem dX1_constant_50 : decode cX1_constant 50 = .ok (.iload 5, 2) := by decide +kernel
theorem dX1_constant_52 : decode cX1_constant 52 = .ok (.sipush 369, 3) := by decide +kernel
theorem dX1_constant_55 : decode cX1_constant 55 = .ok (.ixor, 1) := by decide +kernel
theorem dX1_constant_56 : decode cX1_constant 56 = .ok (.istore 5, 2) := by decide +kernel
theorem dX1_constant_58 : decode cX1_constant 58 = .ok (.iload 5, 2) := by decide +kernel
theorem dX1_constant_60 : decode cX1_constant 60 = .ok (.sipush 255, 3) := by decide +kernel
theorem dX1_constant_63 : decode cX1_constant 63 = .ok (.iand, 1) := by decide +kernel
theorem dX1_constant_64 : decode cX1_constant 64 = .ok (.istore 5, 2) := by decide +kernel
theorem dX1_constant_66 : decode cX1_constant 66 = .ok (.iinc 6 1, 3) := by decide +kernel
theorem dX1_constant_69 : decode cX1_constant 69 = .ok (.goto (-41), 3) := by decide +kernel
theorem dX1_constant_72 : decode cX1_constant 72 = .ok (.iload 5, 2) := by decide +kernel
theorem dX1_constant_74 : decode cX1_constant 74 = .ok (.iconst 1, 1) := by decide +kernel
theorem dX1_constant_75 : decode cX1_constant 75 = .ok (.iand, 1) := by decide +kernel
theorem dX1_constant_76 : decode cX1_constant 76 = .ok (.ifCond .eq 13, 3) := by decide +kernel
theorem dX1_constant_79 : decode cX1_constant 79 = .ok (.lload_n 1, 1) := by decide +kernel
theorem dX1_constant_80 : decode cX1_constant 80 = .ok (.lconst 1, 1) := by decide +kernel
theorem dX1_constant_81 : decode cX1_constant 81 = .ok (.iconst 1, 1) := by decide +kernel
theorem dX1_constant_82 : decode cX1_constant 82 = .ok (.iload_n 3, 1) := by decide +kernel
theorem dX1_constant_83 : decode cX1_constant 83 = .ok (.ishl, 1) := by decide +kernel
theorem dX1_constant_84 : decode cX1_constant 84 = .ok (.iconst 1, 1) := by decide +kernel
theorem dX1_constant_85 : decode cX1_constant 85 = .ok (.isub, 1) := by decide +kernel
theorem dX1_constant_86 : decode cX1_constant 86 = .ok (.lshl, 1) := by decide +kernel
theorem dX1_constant_87 : decode cX1_constant 87 = .ok (.lor, 1) := by decide +kernel
theorem dX1_constant_88 : decode cX1_constant 88 = .ok (.lstore_n 1, 1) := by decide +kernel
theorem dX1_constant_89 : decode cX1_constant 89 = .ok (.iinc 3 1, 3) := by decide +kernel
theorem dX1_constant_92 : decode cX1_constant 92 = .ok (.goto (-88), 3) := by decide +kernel
theorem dX1_constant_95 : decode cX1_constant 95 = .ok (.lload_n 1, 1) := by decide +kernel
theorem dX1_constant_96 : decode cX1_constant 96 = .ok (.lreturn, 1) := by decide +kernel
set_option maxRecDepth 20000 in
theorem ggX1_init_X1_constant : GoodIn wsX1_init wsX1_constant := goodIn_r _ [16] (by decide +kernel) (by decide +kernel)
set_option maxRecDepth 20000 in
theorem gX1_init_X1_constant : GoodIn wsX1_init (va_wsS RX1 39 yX1_constant wsX1_constant) := goodIn_app (goodIn_of _ (by decide +kernel)) ggX1_init_X1_constant
theorem dX1_init_0 : decode cX1_init 0 = .ok (.aload_n 0, 1) := by decide +kernel
theorem dX1_init_1 : decode cX1_init 1 = .ok (.invokespecial 24, 3) := by decide +kernel
theorem dX1_init_4 : decode cX1_init 4 = .ok (.aload_n 0, 1) := by decide +kernel
theorem dX1_init_5 : decode cX1_init 5 = .ok (.bipush 8, 2) := by decide +kernel
theorem dX1_init_7 : decode cX1_init 7 = .ok (.bipush 25, 2) := by decide +kernel
theorem dX1_init_9 : decode cX1_init 9 = .ok (.multianewarray 30 2, 4) := by decide +kernel
theorem dX1_init_13 : decode cX1_init 13 = .ok (.putfield 32, 3) := by decide +kernel
theorem dX1_init_16 : decode cX1_init 16 = .ok (.aload_n 0, 1) := by decide +kernel
theorem dX1_init_17 : decode cX1_init 17 = .ok (.bipush 8, 2) := by decide +kernel
theorem dX1_init_19 : decode cX1_init 19 = .ok (.newarray .int, 2) := by decide +kernel
theorem dX1_init_21 : decode cX1_init 21 = .ok (.putfield 35, 3) := by decide +kernel
theorem dX1_init_24 : decode cX1_init 24 = .ok (.aload_n 0, 1) := by decide +kernel
theorem dX1_init_25 : decode cX1_init 25 = .ok (.bipush 25, 2) := by decide +kernel
theorem dX1_init_27 : decode cX1_init 27 = .ok (.newarray .long, 2) := by decide +kernel
theorem dX1_init_29 : decode cX1_init 29 = .ok (.putfield 7, 3) := by decide +kernel
theorem dX1_init_32 : decode cX1_init 32 = .ok (.aload_n 0, 1) := by decide +kernel
theorem dX1_init_33 : decode cX1_init 33 = .ok (.iconst 5, 1) := by decide +kernel
theorem dX1_init_34 : decode cX1_init 34 = .ok (.newarray .long, 2) := by decide +kernel
theorem dX1_init_36 : decode cX1_init 36 = .ok (.putfield 1, 3) := by decide +kernel
theorem dX1_init_39 : decode cX1_init 39 = .ok (.aload_n 0, 1) := by decide +kernel
theorem dX1_init_40 : decode cX1_init 40 = .ok (.bipush 25, 2) := by decide +kernel
theorem dX1_init_42 : decode cX1_init 42 = .ok (.newarray .long, 2) := by decide +kernel
theorem dX1_init_44 : decode cX1_init 44 = .ok (.putfield 16, 3) := by decide +kernel
theorem dX1_init_47 : decode cX1_init 47 = .ok (.aload_n 0, 1) := by decide +kernel
theorem dX1_init_48 : decode cX1_init 48 = .ok (.bipush 24, 2) := by decide +kernel
theorem dX1_init_50 : decode cX1_init 50 = .ok (.newarray .long, 2) := by decide +kernel
theorem dX1_init_52 : decode cX1_init 52 = .ok (.putfield 21, 3) := by decide +kernel
theorem dX1_init_55 : decode cX1_init 55 = .ok (.iconst 0, 1) := by decide +kernel
theorem dX1_init_56 : decode cX1_init 56 = .ok (.istore_n 1, 1) := by decide +kernel
theorem dX1_init_57 : decode cX1_init 57 = .ok (.iload_n 1, 1) := by decide +kernel
theorem dX1_init_58 : decode cX1_init 58 = .ok (.bipush 24, 2) := by decide +kernel
theorem dX1_init_60 : decode cX1_init 60 = .ok (.if_icmp .ge 19, 3) := by decide +kernel
theorem dX1_init_63 : decode cX1_init 63 = .ok (.aload_n 0, 1) := by decide +kernel
theorem dX1_init_64 : decode cX1_init 64 = .ok (.getfield 21, 3) := by decide +kernel
theorem dX1_init_67 : decode cX1_init 67 = .ok (.iload_n 1, 1) := by decide +kernel
theorem dX1_init_68 : decode cX1_init 68 = .ok (.iload_n 1, 1) := by decide +kernel
theorem dX1_init_69 : decode cX1_init 69 = .ok (.invokestatic 39, 3) := by decide +kernel
theorem dX1_init_72 : decode cX1_init 72 = .ok (.lastore, 1) := by decide +kernel
theorem dX1_init_73 : decode cX1_init 73 = .ok (.iinc 1 1, 3) := by decide +kernel
theorem dX1_init_76 : decode cX1_init 76 = .ok (.goto (-19), 3) := by decide +kernel
theorem dX1_init_79 : decode cX1_init 79 = .ok (.return_, 1) := by decide +kernel
theorem dX1_thrown_0 : decode cX1_thrown 0 = .ok (.aload_n 0, 1) := by decide +kernel
theorem dX1_thrown_1 : decode cX1_thrown 1 = .ok (.getfield 43, 3) := by decide +kernel
theorem dX1_thrown_4 : decode cX1_thrown 4 = .ok (.ireturn, 1) := by decide +kernel
theorem dX1_clear_0 : decode cX1_clear 0 = .ok (.aload_n 0, 1) := by decide +kernel
theorem dX1_clear_1 : decode cX1_clear 1 = .ok (.iconst 0, 1) := by decide +kernel
theorem dX1_clear_2 : decode cX1_clear 2 = .ok (.putfield 43, 3) := by decide +kernel
theorem dX1_clear_5 : decode cX1_clear 5 = .ok (.aload_n 0, 1) := by decide +kernel
theorem dX1_clear_6 : decode cX1_clear 6 = .ok (.iload_n 1, 1) := by decide +kernel
theorem dX1_clear_7 : decode cX1_clear 7 = .ok (.invokevirtual 47, 3) := by decide +kernel
theorem dX1_clear_10 : decode cX1_clear 10 = .ok (.ifCond .eq 11, 3) := by decide +kernel
theorem dX1_clear_13 : decode cX1_clear 13 = .ok (.aload_n 0, 1) := by decide +kernel
theorem dX1_clear_14 : decode cX1_clear 14 = .ok (.iconst 1, 1) := by decide +kernel
theorem dX1_clear_15 : decode cX1_clear 15 = .ok (.putfield 43, 3) := by decide +kernel
theorem dX1_clear_18 : decode cX1_clear 18 = .ok (.goto 33, 3) := by decide +kernel
theorem dX1_clear_21 : decode cX1_clear 21 = .ok (.iconst 0, 1) := by decide +kernel
theorem dX1_clear_22 : decode cX1_clear 22 = .ok (.istore_n 2, 1) := by decide +kernel
theorem dX1_clear_23 : decode cX1_clear 23 = .ok (.iload_n 2, 1) := by decide +kernel
theorem dX1_clear_24 : decode cX1_clear 24 = .ok (.bipush 25, 2) := by decide +kernel
theorem dX1_clear_26 : decode cX1_clear 26 = .ok (.if_icmp .ge 18, 3) := by decide +kernel
theorem dX1_clear_29 : decode cX1_clear 29 = .ok (.aload_n 0, 1) := by decide +kernel
theorem dX1_clear_30 : decode cX1_clear 30 = .ok (.getfield 32, 3) := by decide +kernel
theorem dX1_clear_33 : decode cX1_clear 33 = .ok (.iload_n 1, 1) := by decide +kernel
theorem dX1_clear_34 : decode cX1_clear 34 = .ok (.aaload, 1) := by decide +kernel
theorem dX1_clear_35 : decode cX1_clear 35 = .ok (.iload_n 2, 1) := by decide +kernel
theorem dX1_clear_36 : decode cX1_clear 36 = .ok (.lconst 0, 1) := by decide +kernel
theorem dX1_clear_37 : decode cX1_clear 37 = .ok (.lastore, 1) := by decide +kernel
theorem dX1_clear_38 : decode cX1_clear 38 = .ok (.iinc 2 1, 3) := by decide +kernel
theorem dX1_clear_41 : decode cX1_clear 41 = .ok (.goto (-18), 3) := by decide +kernel
theorem dX1_clear_44 : decode cX1_clear 44 = .ok (.aload_n 0, 1) := by decide +kernel
theorem dX1_clear_45 : decode cX1_clear 45 = .ok (.getfield 35, 3) := by decide +kernel
theorem dX1_clear_48 : decode cX1_clear 48 = .ok (.iload_n 1, 1) := by decide +kernel
theorem dX1_clear_49 : decode cX1_clear 49 = .ok (.iconst 0, 1) := by decide +kernel
theorem dX1_clear_50 : decode cX1_clear 50 = .ok (.iastore, 1) := by decide +kernel
theorem dX1_clear_51 : decode cX1_clear 51 = .ok (.return_, 1) := by decide +kernel
set_option maxRecDepth 20000 in
theorem ggL_clear_X0_clear : GoodIn wsL_clear wsX0_clear := goodIn_ca (goodIn_r _ [6, 7, 8, 9, 10, 5, 11, 12, 13, 14, 15, 16, 17] (by decide +kernel) (by decide +kernel)) (goodIn_sub (fun _ h => List.mem_cons_of_mem _ (List.mem_append_right _ h)) (by decide +kernel))
set_option maxRecDepth 20000 in
theorem gL_clear_X0_clear : GoodIn wsL_clear (wsV RL 7 RX0 yX0_clear wsX0_clear) := goodIn_app (goodIn_of _ (by decide +kernel)) ggL_clear_X0_clear
theorem dL_clear_0 : decode cL_clear 0 = .ok (.aload_n 0, 1) := by decide +kernel
theorem dL_clear_1 : decode cL_clear 1 = .ok (.iload_n 1, 1) := by decide +kernel
theorem dL_clear_2 : decode cL_clear 2 = .ok (.invokevirtual 7, 3) := by decide +kernel
theorem dL_clear_5 : decode cL_clear 5 = .ok (.goto 6, 3) := by decide +kernel
theorem dL_clear_8 : decode cL_clear 8 = .ok (.astore_n 2, 1) := by decide +kernel
theorem dL_clear_9 : decode cL_clear 9 = .ok (.iconst 1, 1) := by decide +kernel
theorem dL_clear_10 : decode cL_clear 10 = .ok (.ireturn, 1) := by decide +kernel
theorem dL_clear_11 : decode cL_clear 11 = .ok (.iconst 0, 1) := by decide +kernel
theorem dL_clear_12 : decode cL_clear 12 = .ok (.ireturn, 1) := by decide +kernel
set_option maxRecDepth 20000 in
theorem ggL_take_X0_take : GoodIn wsL_take wsX0_take := goodIn_ca (goodIn_r _ [6, 7, 8, 9, 5, 10, 11, 12, 13, 14, 15, 16, 17, 18, 19, 20, 21, 22, 23, 24, 25, 26, 27, 28, 29, 30, 31, 32, 33, 34, 35, 36, 37, 38, 39, 40, 41, 42, 43, 44, 45, 46, 47, 48, 49, 50, 51, 52, 53] (by decide +kernel) (by decide +kernel)) (goodIn_sub (fun _ h => List.mem_cons_of_mem _ (List.mem_append_right _ h)) (by decide +kernel))
set_option maxRecDepth 20000 in
theorem gL_take_X0_take : GoodIn wsL_take (wsV RL 15 RX0 yX0_take wsX0_take) := goodIn_app (goodIn_of _ (by decide +kernel)) ggL_take_X0_take
theorem dL_take_0 : decode cL_take 0 = .ok (.aload 5, 2) := by decide +kernel
theorem dL_take_2 : decode cL_take 2 = .ok (.iconst 0, 1) := by decide +kernel
theorem dL_take_3 : decode cL_take 3 = .ok (.aload_n 0, 1) := by decide +kernel
theorem dL_take_4 : decode cL_take 4 = .ok (.iload_n 1, 1) := by decide +kernel
theorem dL_take_5 : decode cL_take 5 = .ok (.lload_n 2, 1) := by decide +kernel
theorem dL_take_6 : decode cL_take 6 = .ok (.iload 4, 2) := by decide +kernel
theorem dL_take_8 : decode cL_take 8 = .ok (.invokevirtual 15, 3) := by decide +kernel
theorem dL_take_11 : decode cL_take 11 = .ok (.i2l, 1) := by decide +kernel
theorem dL_take_12 : decode cL_take 12 = .ok (.lastore, 1) := by decide +kernel
theorem dL_take_13 : decode cL_take 13 = .ok (.goto 7, 3) := by decide +kernel
theorem dL_take_16 : decode cL_take 16 = .ok (.astore 6, 2) := by decide +kernel
theorem dL_take_18 : decode cL_take 18 = .ok (.iconst 1, 1) := by decide +kernel
theorem dL_take_19 : decode cL_take 19 = .ok (.ireturn, 1) := by decide +kernel
theorem dL_take_20 : decode cL_take 20 = .ok (.iconst 0, 1) := by decide +kernel
theorem dL_take_21 : decode cL_take 21 = .ok (.ireturn, 1) := by decide +kernel
set_option maxRecDepth 20000 in
theorem ggL_fill_X0_fill : GoodIn wsL_fill wsX0_fill := goodIn_ca (goodIn_r _ [6, 7, 8, 9, 5, 10, 11, 12, 13, 14, 15, 16, 17, 18, 19, 20, 21, 22, 23, 24, 25, 26, 27, 28, 29, 30, 31, 32, 33, 34, 35, 36, 37, 38, 39, 40, 41, 42, 43, 44, 45, 46, 47, 48, 49, 50, 51, 52, 53] (by decide +kernel) (by decide +kernel)) (goodIn_sub (fun _ h => List.mem_cons_of_mem _ (List.mem_append_right _ h)) (by decide +kernel))
set_option maxRecDepth 20000 in
theorem gL_fill_X0_fill : GoodIn wsL_fill (wsV RL 19 RX0 yX0_fill wsX0_fill) := goodIn_app (goodIn_of _ (by decide +kernel)) ggL_fill_X0_fill
theorem dL_fill_0 : decode cL_fill 0 = .ok (.aload 5, 2) := by decide +kernel
theorem dL_fill_2 : decode cL_fill 2 = .ok (.iconst 0, 1) := by decide +kernel
theorem dL_fill_3 : decode cL_fill 3 = .ok (.aload_n 0, 1) := by decide +kernel
theorem dL_fill_4 : decode cL_fill 4 = .ok (.iload_n 1, 1) := by decide +kernel
theorem dL_fill_5 : decode cL_fill 5 = .ok (.iload_n 2, 1) := by decide +kernel
theorem dL_fill_6 : decode cL_fill 6 = .ok (.iload_n 3, 1) := by decide +kernel
theorem dL_fill_7 : decode cL_fill 7 = .ok (.iload 4, 2) := by decide +kernel
theorem dL_fill_9 : decode cL_fill 9 = .ok (.invokevirtual 19, 3) := by decide +kernel
theorem dL_fill_12 : decode cL_fill 12 = .ok (.i2l, 1) := by decide +kernel
theorem dL_fill_13 : decode cL_fill 13 = .ok (.lastore, 1) := by decide +kernel
theorem dL_fill_14 : decode cL_fill 14 = .ok (.goto 7, 3) := by decide +kernel
theorem dL_fill_17 : decode cL_fill 17 = .ok (.astore 6, 2) := by decide +kernel
theorem dL_fill_19 : decode cL_fill 19 = .ok (.iconst 1, 1) := by decide +kernel
theorem dL_fill_20 : decode cL_fill 20 = .ok (.ireturn, 1) := by decide +kernel
theorem dL_fill_21 : decode cL_fill 21 = .ok (.iconst 0, 1) := by decide +kernel
theorem dL_fill_22 : decode cL_fill 22 = .ok (.ireturn, 1) := by decide +kernel
set_option maxRecDepth 20000 in
theorem ggL_copy_X0_copy : GoodIn wsL_copy wsX0_copy := goodIn_ca (goodIn_r _ [6, 7, 8, 5, 9, 10, 11, 12, 13, 14, 15, 16, 17, 18, 19, 20, 21, 22, 23, 24, 25] (by decide +kernel) (by decide +kernel)) (goodIn_sub (fun _ h => List.mem_cons_of_mem _ (List.mem_append_right _ h)) (by decide +kernel))
set_option maxRecDepth 20000 in
theorem gL_copy_X0_copy : GoodIn wsL_copy (wsV RL 23 RX0 yX0_copy wsX0_copy) := goodIn_app (goodIn_of _ (by decide +kernel)) ggL_copy_X0_copy
theorem dL_copy_0 : decode cL_copy 0 = .ok (.aload_n 0, 1) := by decide +kernel
theorem dL_copy_1 : decode cL_copy 1 = .ok (.iload_n 1, 1) := by decide +kernel
theorem dL_copy_2 : decode cL_copy 2 = .ok (.iload_n 2, 1) := by decide +kernel
theorem dL_copy_3 : decode cL_copy 3 = .ok (.invokevirtual 23, 3) := by decide +kernel
theorem dL_copy_6 : decode cL_copy 6 = .ok (.goto 6, 3) := by decide +kernel
theorem dL_copy_9 : decode cL_copy 9 = .ok (.astore_n 3, 1) := by decide +kernel
theorem dL_copy_10 : decode cL_copy 10 = .ok (.iconst 1, 1) := by decide +kernel
theorem dL_copy_11 : decode cL_copy 11 = .ok (.ireturn, 1) := by decide +kernel
theorem dL_copy_12 : decode cL_copy 12 = .ok (.iconst 0, 1) := by decide +kernel
theorem dL_copy_13 : decode cL_copy 13 = .ok (.ireturn, 1) := by decide +kernel
set_option maxRecDepth 20000 in
theorem ggL_mix_X0_mix : GoodIn wsL_mix wsX0_mix := goodIn_ca (goodIn_r _ [6, 7, 8, 9, 5, 10, 11, 12, 13, 14, 15, 16, 17, 18, 19, 20, 21, 22, 23, 24, 25, 26, 27, 28, 29, 30, 31, 32, 33, 34, 35, 36, 37, 38, 39, 40, 41, 42, 43, 44] (by decide +kernel) (by decide +kernel)) (goodIn_sub (fun _ h => List.mem_cons_of_mem _ (List.mem_append_right _ h)) (by decide +kernel))
set_option maxRecDepth 20000 in
theorem gL_mix_X0_mix : GoodIn wsL_mix (wsV RL 27 RX0 yX0_mix wsX0_mix) := goodIn_app (goodIn_of _ (by decide +kernel)) ggL_mix_X0_mix
theorem dL_mix_0 : decode cL_mix 0 = .ok (.aload_n 0, 1) := by decide +kernel
theorem dL_mix_1 : decode cL_mix 1 = .ok (.iload_n 1, 1) := by decide +kernel
theorem dL_mix_2 : decode cL_mix 2 = .ok (.invokevirtual 27, 3) := by decide +kernel
theorem dL_mix_5 : decode cL_mix 5 = .ok (.goto 6, 3) := by decide +kernel
theorem dL_mix_8 : decode cL_mix 8 = .ok (.astore_n 2, 1) := by decide +kernel
theorem dL_mix_9 : decode cL_mix 9 = .ok (.iconst 1, 1) := by decide +kernel
theorem dL_mix_10 : decode cL_mix 10 = .ok (.ireturn, 1) := by decide +kernel
theorem dL_mix_11 : decode cL_mix 11 = .ok (.iconst 0, 1) := by decide +kernel
theorem dL_mix_12 : decode cL_mix 12 = .ok (.ireturn, 1) := by decide +kernel
set_option maxRecDepth 20000 in
theorem ggL_lane_X0_lane : GoodIn wsL_lane wsX0_lane := goodIn_ca (goodIn_r _ [6, 7, 8, 9, 5, 10, 11, 12, 13, 14, 15, 16] (by decide +kernel) (by decide +kernel)) (goodIn_sub (fun _ h => List.mem_cons_of_mem _ (List.mem_append_right _ h)) (by decide +kernel))
set_option maxRecDepth 20000 in
theorem gL_lane_X0_lane : GoodIn wsL_lane (wsV RL 30 RX0 yX0_lane wsX0_lane) := goodIn_app (goodIn_of _ (by decide +kernel)) ggL_lane_X0_lane
theorem dL_lane_0 : decode cL_lane 0 = .ok (.aload_n 3, 1) := by decide +kernel
theorem dL_lane_1 : decode cL_lane 1 = .ok (.iconst 0, 1) := by decide +kernel
theorem dL_lane_2 : decode cL_lane 2 = .ok (.aload_n 0, 1) := by decide +kernel
theorem dL_lane_3 : decode cL_lane 3 = .ok (.iload_n 1, 1) := by decide +kernel
theorem dL_lane_4 : decode cL_lane 4 = .ok (.iload_n 2, 1) := by decide +kernel
theorem dL_lane_5 : decode cL_lane 5 = .ok (.invokevirtual 30, 3) := by decide +kernel
theorem dL_lane_8 : decode cL_lane 8 = .ok (.lastore, 1) := by decide +kernel
theorem dL_lane_9 : decode cL_lane 9 = .ok (.goto 7, 3) := by decide +kernel
theorem dL_lane_12 : decode cL_lane 12 = .ok (.astore 4, 2) := by decide +kernel
theorem dL_lane_14 : decode cL_lane 14 = .ok (.iconst 1, 1) := by decide +kernel
theorem dL_lane_15 : decode cL_lane 15 = .ok (.ireturn, 1) := by decide +kernel
theorem dL_lane_16 : decode cL_lane 16 = .ok (.iconst 0, 1) := by decide +kernel
theorem dL_lane_17 : decode cL_lane 17 = .ok (.ireturn, 1) := by decide +kernel
set_option maxRecDepth 20000 in
theorem ggL_digest_X0_digest : GoodIn wsL_digest wsX0_digest := goodIn_ca (goodIn_r _ [6, 7, 8, 9, 10, 5, 11, 12, 13, 14, 15, 16, 17, 18, 19, 20, 21, 22, 23, 24, 25, 26, 27, 28, 29, 30, 31, 32, 33, 34, 35, 36, 37, 38, 39, 40, 41, 42, 43, 44, 45, 46, 47, 48, 49, 50, 51, 52, 53, 54, 55, 56, 57, 58, 59, 60] (by decide +kernel) (by decide +kernel)) (goodIn_sub (fun _ h => List.mem_cons_of_mem _ (List.mem_append_right _ h)) (by decide +kernel))
set_option maxRecDepth 20000 in
theorem gL_digest_X0_digest : GoodIn wsL_digest (wsV RL 34 RX0 yX0_digest wsX0_digest) := goodIn_app (goodIn_of _ (by decide +kernel)) ggL_digest_X0_digest
theorem dL_digest_0 : decode cL_digest 0 = .ok (.aload_n 3, 1) := by decide +kernel
theorem dL_digest_1 : decode cL_digest 1 = .ok (.iconst 0, 1) := by decide +kernel
theorem dL_digest_2 : decode cL_digest 2 = .ok (.aload_n 0, 1) := by decide +kernel
theorem dL_digest_3 : decode cL_digest 3 = .ok (.iload_n 1, 1) := by decide +kernel
theorem dL_digest_4 : decode cL_digest 4 = .ok (.iload_n 2, 1) := by decide +kernel
theorem dL_digest_5 : decode cL_digest 5 = .ok (.invokevirtual 34, 3) := by decide +kernel
theorem dL_digest_8 : decode cL_digest 8 = .ok (.lastore, 1) := by decide +kernel
theorem dL_digest_9 : decode cL_digest 9 = .ok (.goto 7, 3) := by decide +kernel
theorem dL_digest_12 : decode cL_digest 12 = .ok (.astore 4, 2) := by decide +kernel
theorem dL_digest_14 : decode cL_digest 14 = .ok (.iconst 1, 1) := by decide +kernel
theorem dL_digest_15 : decode cL_digest 15 = .ok (.ireturn, 1) := by decide +kernel
theorem dL_digest_16 : decode cL_digest 16 = .ok (.iconst 0, 1) := by decide +kernel
theorem dL_digest_17 : decode cL_digest 17 = .ok (.ireturn, 1) := by decide +kernel
set_option maxRecDepth 20000 in
theorem ggL_law_X0_init : GoodIn wsL_law wsX0_init := goodIn_r _ [9, 10, 11, 12, 13, 6, 14, 15, 16, 17, 18, 143, 144, 145, 146] (by decide +kernel) (by decide +kernel)
set_option maxRecDepth 20000 in
theorem gL_law_X0_init : GoodIn wsL_law (wsX0_init) := ggL_law_X0_init
set_option maxRecDepth 20000 in
theorem ggL_law_X1_init : GoodIn wsL_law wsX1_init := goodIn_r _ [21, 22, 11, 12, 23, 6, 24, 15, 25, 26, 27, 28, 29, 30, 31, 5, 32, 147, 148, 149, 150, 151, 152, 153] (by decide +kernel) (by decide +kernel)
set_option maxRecDepth 20000 in
theorem gL_law_X1_init : GoodIn wsL_law (wsX1_init) := ggL_law_X1_init
set_option maxRecDepth 20000 in
theorem ggL_law_L_clear : GoodIn wsL_law wsL_clear := goodIn_ca (goodIn_r _ [36, 37, 38, 39, 40, 2, 41, 14, 16, 42, 43, 44, 45, 46, 143, 144, 145, 146] (by decide +kernel) (by decide +kernel)) (goodIn_sub (fun _ h => List.mem_append_right _ h) (by decide +kernel))
set_option maxRecDepth 20000 in
theorem gL_law_L_clear : GoodIn wsL_law (va_wsS RL 41 yL_clear wsL_clear) := goodIn_app (goodIn_of _ (by decide +kernel)) ggL_law_L_clear
set_option maxRecDepth 20000 in
theorem ggL_law_X1_clear : GoodIn wsL_law wsX1_clear := goodIn_r _ [50, 51, 24, 25, 147, 148, 149, 150, 151, 152, 153] (by decide +kernel) (by decide +kernel)
set_option maxRecDepth 20000 in
theorem gL_law_X1_clear : GoodIn wsL_law (wsV RL 46 RX1 yX1_clear wsX1_clear) := goodIn_app (goodIn_of _ (by decide +kernel)) ggL_law_X1_clear
set_option maxRecDepth 20000 in
theorem ggL_law_X1_thrown : GoodIn wsL_law wsX1_thrown := goodIn_r _ [55, 51, 147, 148, 149, 150, 151, 152, 153] (by decide +kernel) (by decide +kernel)
set_option maxRecDepth 20000 in
theorem gL_law_X1_thrown : GoodIn wsL_law (wsV RL 47 RX1 yX1_thrown wsX1_thrown) := goodIn_app (goodIn_of _ (by decide +kernel)) ggL_law_X1_thrown
set_option maxRecDepth 20000 in
theorem ggL_law_L_take : GoodIn wsL_law wsL_take := goodIn_ca (goodIn_r _ [58, 37, 59, 60, 61, 2, 62, 16, 42, 43, 44, 45, 46, 63, 64, 65, 66, 14, 67, 68, 69, 70, 71, 72, 73, 74, 75, 76, 77, 78, 79, 17, 80, 81, 82, 83, 84, 85, 86, 87, 88, 89, 18, 90, 91, 92, 93, 94, 95, 96, 143, 144, 145, 146] (by decide +kernel) (by decide +kernel)) (goodIn_sub (fun _ h => List.mem_append_right _ h) (by decide +kernel))
set_option maxRecDepth 20000 in
theorem gL_law_L_take : GoodIn wsL_law (va_wsS RL 53 yL_take wsL_take) := goodIn_app (goodIn_of _ (by decide +kernel)) ggL_law_L_take
set_option maxRecDepth 20000 in
theorem ggL_law_L_fill : GoodIn wsL_law wsL_fill := goodIn_ca (goodIn_r _ [99, 37, 100, 101, 102, 2, 103, 16, 42, 43, 44, 45, 46, 63, 64, 65, 66, 14, 67, 68, 69, 70, 71, 72, 73, 74, 75, 76, 77, 78, 79, 17, 80, 81, 82, 83, 84, 85, 86, 87, 88, 89, 18, 90, 91, 92, 93, 94, 95, 96, 143, 144, 145, 146] (by decide +kernel) (by decide +kernel)) (goodIn_sub (fun _ h => List.mem_append_right _ h) (by decide +kernel))
set_option maxRecDepth 20000 in
theorem gL_law_L_fill : GoodIn wsL_law (va_wsS RL 57 yL_fill wsL_fill) := goodIn_app (goodIn_of _ (by decide +kernel)) ggL_law_L_fill
set_option maxRecDepth 20000 in
theorem ggL_law_L_copy : GoodIn wsL_law wsL_copy := goodIn_ca (goodIn_r _ [106, 37, 107, 108, 109, 2, 110, 42, 43, 44, 45, 46, 111, 112, 113, 114, 14, 115, 116, 117, 118, 16, 143, 144, 145, 146] (by decide +kernel) (by decide +kernel)) (goodIn_sub (fun _ h => List.mem_append_right _ h) (by decide +kernel))
set_option maxRecDepth 20000 in
theorem gL_law_L_copy : GoodIn wsL_law (va_wsS RL 61 yL_copy wsL_copy) := goodIn_app (goodIn_of _ (by decide +kernel)) ggL_law_L_copy
set_option maxRecDepth 20000 in
theorem ggL_law_L_mix : GoodIn wsL_law wsL_mix := goodIn_ca (goodIn_r _ [121, 37, 122, 123, 124, 2, 125, 14, 42, 43, 44, 45, 46, 71, 72, 73, 74, 75, 76, 77, 78, 79, 17, 80, 81, 82, 83, 84, 85, 86, 87, 88, 89, 18, 90, 91, 92, 93, 94, 95, 96, 143, 144, 145, 146] (by decide +kernel) (by decide +kernel)) (goodIn_sub (fun _ h => List.mem_append_right _ h) (by decide +kernel))
set_option maxRecDepth 20000 in
theorem gL_law_L_mix : GoodIn wsL_law (va_wsS RL 65 yL_mix wsL_mix) := goodIn_app (goodIn_of _ (by decide +kernel)) ggL_law_L_mix
set_option maxRecDepth 20000 in
theorem ggL_law_L_lane : GoodIn wsL_law wsL_lane := goodIn_ca (goodIn_r _ [128, 37, 129, 130, 131, 2, 132, 14, 42, 43, 44, 45, 46, 143, 144, 145, 146] (by decide +kernel) (by decide +kernel)) (goodIn_sub (fun _ h => List.mem_append_right _ h) (by decide +kernel))
set_option maxRecDepth 20000 in
theorem gL_law_L_lane : GoodIn wsL_law (va_wsS RL 68 yL_lane wsL_lane) := goodIn_app (goodIn_of _ (by decide +kernel)) ggL_law_L_lane
set_option maxRecDepth 20000 in
theorem ggL_law_L_digest : GoodIn wsL_law wsL_digest := goodIn_ca (goodIn_r _ [135, 37, 136, 137, 138, 2, 139, 14, 16, 42, 43, 44, 45, 46, 111, 112, 113, 114, 115, 116, 117, 118, 67, 68, 69, 70, 71, 72, 73, 74, 75, 76, 77, 78, 79, 17, 80, 81, 82, 83, 84, 85, 86, 87, 88, 89, 18, 90, 91, 92, 93, 94, 95, 96, 140, 141, 142, 143, 144, 145, 146] (by decide +kernel) (by decide +kernel)) (goodIn_sub (fun _ h => List.mem_append_right _ h) (by decide +kernel))
set_option maxRecDepth 20000 in
theorem gL_law_L_digest : GoodIn wsL_law (va_wsS RL 72 yL_digest wsL_digest) := goodIn_app (goodIn_of _ (by decide +kernel)) ggL_law_L_digest
theorem dL_law_0 : decode cL_law 0 = .ok (.new 8, 3) := by decide +kernel
theorem dL_law_3 : decode cL_law 3 = .ok (.dup, 1) := by decide +kernel
theorem dL_law_4 : decode cL_law 4 = .ok (.invokespecial 37, 3) := by decide +kernel
theorem dL_law_7 : decode cL_law 7 = .ok (.astore_n 1, 1) := by decide +kernel
theorem dL_law_8 : decode cL_law 8 = .ok (.new 38, 3) := by decide +kernel
theorem dL_law_11 : decode cL_law 11 = .ok (.dup, 1) := by decide +kernel
theorem dL_law_12 : decode cL_law 12 = .ok (.invokespecial 40, 3) := by decide +kernel
theorem dL_law_15 : decode cL_law 15 = .ok (.astore_n 2, 1) := by decide +kernel
theorem dL_law_16 : decode cL_law 16 = .ok (.iconst 1, 1) := by decide +kernel
theorem dL_law_17 : decode cL_law 17 = .ok (.newarray .long, 2) := by decide +kernel
theorem dL_law_19 : decode cL_law 19 = .ok (.astore_n 3, 1) := by decide +kernel
theorem dL_law_20 : decode cL_law 20 = .ok (.iconst 0, 1) := by decide +kernel
theorem dL_law_21 : decode cL_law 21 = .ok (.istore 4, 2) := by decide +kernel
theorem dL_law_23 : decode cL_law 23 = .ok (.iload 4, 2) := by decide +kernel
theorem dL_law_25 : decode cL_law 25 = .ok (.aload_n 0, 1) := by decide +kernel
theorem dL_law_26 : decode cL_law 26 = .ok (.arraylength, 1) := by decide +kernel
theorem dL_law_27 : decode cL_law 27 = .ok (.iconst 5, 1) := by decide +kernel
theorem dL_law_28 : decode cL_law 28 = .ok (.isub, 1) := by decide +kernel
theorem dL_law_29 : decode cL_law 29 = .ok (.if_icmp .gt 515, 3) := by decide +kernel
theorem dL_law_32 : decode cL_law 32 = .ok (.aload_n 0, 1) := by decide +kernel
theorem dL_law_33 : decode cL_law 33 = .ok (.iload 4, 2) := by decide +kernel
theorem dL_law_35 : decode cL_law 35 = .ok (.iaload, 1) := by decide +kernel
theorem dL_law_36 : decode cL_law 36 = .ok (.bipush 7, 2) := by decide +kernel
theorem dL_law_38 : decode cL_law 38 = .ok (.iand, 1) := by decide +kernel
theorem dL_law_39 : decode cL_law 39 = .ok (.tableswitch 499 0 6 #[41, 77, 189, 281, 329, 365, 432], 41) := by decide +kernel
theorem dL_law_80 : decode cL_law 80 = .ok (.aload_n 1, 1) := by decide +kernel
theorem dL_law_81 : decode cL_law 81 = .ok (.aload_n 0, 1) := by decide +kernel
theorem dL_law_82 : decode cL_law 82 = .ok (.iload 4, 2) := by decide +kernel
theorem dL_law_84 : decode cL_law 84 = .ok (.iconst 1, 1) := by decide +kernel
theorem dL_law_85 : decode cL_law 85 = .ok (.iadd, 1) := by decide +kernel
theorem dL_law_86 : decode cL_law 86 = .ok (.iaload, 1) := by decide +kernel
theorem dL_law_87 : decode cL_law 87 = .ok (.invokestatic 41, 3) := by decide +kernel
theorem dL_law_90 : decode cL_law 90 = .ok (.istore 5, 2) := by decide +kernel
theorem dL_law_92 : decode cL_law 92 = .ok (.aload_n 2, 1) := by decide +kernel
theorem dL_law_93 : decode cL_law 93 = .ok (.aload_n 0, 1) := by decide +kernel
theorem dL_law_94 : decode cL_law 94 = .ok (.iload 4, 2) := by decide +kernel
theorem dL_law_96 : decode cL_law 96 = .ok (.iconst 1, 1) := by decide +kernel
theorem dL_law_97 : decode cL_law 97 = .ok (.iadd, 1) := by decide +kernel
theorem dL_law_98 : decode cL_law 98 = .ok (.iaload, 1) := by decide +kernel
theorem dL_law_99 : decode cL_law 99 = .ok (.invokevirtual 46, 3) := by decide +kernel
theorem dL_law_102 : decode cL_law 102 = .ok (.aload_n 2, 1) := by decide +kernel
theorem dL_law_103 : decode cL_law 103 = .ok (.invokevirtual 47, 3) := by decide +kernel
theorem dL_law_106 : decode cL_law 106 = .ok (.iload 5, 2) := by decide +kernel
theorem dL_law_108 : decode cL_law 108 = .ok (.if_icmp .eq 5, 3) := by decide +kernel
theorem dL_law_111 : decode cL_law 111 = .ok (.iconst 0, 1) := by decide +kernel
theorem dL_law_112 : decode cL_law 112 = .ok (.ireturn, 1) := by decide +kernel
theorem dL_law_113 : decode cL_law 113 = .ok (.goto 425, 3) := by decide +kernel
theorem dL_law_116 : decode cL_law 116 = .ok (.aload_n 1, 1) := by decide +kernel
theorem dL_law_117 : decode cL_law 117 = .ok (.aload_n 0, 1) := by decide +kernel
theorem dL_law_118 : decode cL_law 118 = .ok (.iload 4, 2) := by decide +kernel
theorem dL_law_120 : decode cL_law 120 = .ok (.iconst 1, 1) := by decide +kernel
theorem dL_law_121 : decode cL_law 121 = .ok (.iadd, 1) := by decide +kernel
theorem dL_law_122 : decode cL_law 122 = .ok (.iaload, 1) := by decide +kernel
theorem dL_law_123 : decode cL_law 123 = .ok (.aload_n 0, 1) := by decide +kernel
theorem dL_law_124 : decode cL_law 124 = .ok (.iload 4, 2) := by decide +kernel
theorem dL_law_126 : decode cL_law 126 = .ok (.iconst 2, 1) := by decide +kernel
theorem dL_law_127 : decode cL_law 127 = .ok (.iadd, 1) := by decide +kernel
theorem dL_law_128 : decode cL_law 128 = .ok (.iaload, 1) := by decide +kernel
theorem dL_law_129 : decode cL_law 129 = .ok (.i2l, 1) := by decide +kernel
theorem dL_law_130 : decode cL_law 130 = .ok (.bipush 32, 2) := by decide +kernel
theorem dL_law_132 : decode cL_law 132 = .ok (.lshl, 1) := by decide +kernel
theorem dL_law_133 : decode cL_law 133 = .ok (.aload_n 0, 1) := by decide +kernel
theorem dL_law_134 : decode cL_law 134 = .ok (.iload 4, 2) := by decide +kernel
theorem dL_law_136 : decode cL_law 136 = .ok (.iconst 3, 1) := by decide +kernel
theorem dL_law_137 : decode cL_law 137 = .ok (.iadd, 1) := by decide +kernel
theorem dL_law_138 : decode cL_law 138 = .ok (.iaload, 1) := by decide +kernel
theorem dL_law_139 : decode cL_law 139 = .ok (.i2l, 1) := by decide +kernel
theorem dL_law_140 : decode cL_law 140 = .ok (.ldc2_w 51, 3) := by decide +kernel
theorem dL_law_143 : decode cL_law 143 = .ok (.land, 1) := by decide +kernel
theorem dL_law_144 : decode cL_law 144 = .ok (.lor, 1) := by decide +kernel
theorem dL_law_145 : decode cL_law 145 = .ok (.aload_n 0, 1) := by decide +kernel
theorem dL_law_146 : decode cL_law 146 = .ok (.iload 4, 2) := by decide +kernel
theorem dL_law_148 : decode cL_law 148 = .ok (.iconst 4, 1) := by decide +kernel
theorem dL_law_149 : decode cL_law 149 = .ok (.iadd, 1) := by decide +kernel
theorem dL_law_150 : decode cL_law 150 = .ok (.iaload, 1) := by decide +kernel
theorem dL_law_151 : decode cL_law 151 = .ok (.aload_n 3, 1) := by decide +kernel
theorem dL_law_152 : decode cL_law 152 = .ok (.invokestatic 53, 3) := by decide +kernel
theorem dL_law_155 : decode cL_law 155 = .ok (.istore 5, 2) := by decide +kernel
theorem dL_law_157 : decode cL_law 157 = .ok (.aload_n 2, 1) := by decide +kernel
theorem dL_law_158 : decode cL_law 158 = .ok (.aload_n 0, 1) := by decide +kernel
theorem dL_law_159 : decode cL_law 159 = .ok (.iload 4, 2) := by decide +kernel
theorem dL_law_161 : decode cL_law 161 = .ok (.iconst 1, 1) := by decide +kernel
theorem dL_law_162 : decode cL_law 162 = .ok (.iadd, 1) := by decide +kernel
theorem dL_law_163 : decode cL_law 163 = .ok (.iaload, 1) := by decide +kernel
theorem dL_law_164 : decode cL_law 164 = .ok (.aload_n 0, 1) := by decide +kernel
theorem dL_law_165 : decode cL_law 165 = .ok (.iload 4, 2) := by decide +kernel
theorem dL_law_167 : decode cL_law 167 = .ok (.iconst 2, 1) := by decide +kernel
theorem dL_law_168 : decode cL_law 168 = .ok (.iadd, 1) := by decide +kernel
theorem dL_law_169 : decode cL_law 169 = .ok (.iaload, 1) := by decide +kernel
theorem dL_law_170 : decode cL_law 170 = .ok (.i2l, 1) := by decide +kernel
theorem dL_law_171 : decode cL_law 171 = .ok (.bipush 32, 2) := by decide +kernel
theorem dL_law_173 : decode cL_law 173 = .ok (.lshl, 1) := by decide +kernel
theorem dL_law_174 : decode cL_law 174 = .ok (.aload_n 0, 1) := by decide +kernel
theorem dL_law_175 : decode cL_law 175 = .ok (.iload 4, 2) := by decide +kernel
theorem dL_law_177 : decode cL_law 177 = .ok (.iconst 3, 1) := by decide +kernel
theorem dL_law_178 : decode cL_law 178 = .ok (.iadd, 1) := by decide +kernel
theorem dL_law_179 : decode cL_law 179 = .ok (.iaload, 1) := by decide +kernel
theorem dL_law_180 : decode cL_law 180 = .ok (.i2l, 1) := by decide +kernel
theorem dL_law_181 : decode cL_law 181 = .ok (.ldc2_w 51, 3) := by decide +kernel
theorem dL_law_184 : decode cL_law 184 = .ok (.land, 1) := by decide +kernel
theorem dL_law_185 : decode cL_law 185 = .ok (.lor, 1) := by decide +kernel
theorem dL_law_186 : decode cL_law 186 = .ok (.aload_n 0, 1) := by decide +kernel
theorem dL_law_187 : decode cL_law 187 = .ok (.iload 4, 2) := by decide +kernel
theorem dL_law_189 : decode cL_law 189 = .ok (.iconst 4, 1) := by decide +kernel
theorem dL_law_190 : decode cL_law 190 = .ok (.iadd, 1) := by decide +kernel
theorem dL_law_191 : decode cL_law 191 = .ok (.iaload, 1) := by decide +kernel
theorem dL_law_192 : decode cL_law 192 = .ok (.invokevirtual 56, 3) := by decide +kernel
theorem dL_law_195 : decode cL_law 195 = .ok (.istore 6, 2) := by decide +kernel
theorem dL_law_197 : decode cL_law 197 = .ok (.aload_n 2, 1) := by decide +kernel
theorem dL_law_198 : decode cL_law 198 = .ok (.invokevirtual 47, 3) := by decide +kernel
theorem dL_law_201 : decode cL_law 201 = .ok (.iload 5, 2) := by decide +kernel
theorem dL_law_203 : decode cL_law 203 = .ok (.if_icmp .eq 5, 3) := by decide +kernel
theorem dL_law_206 : decode cL_law 206 = .ok (.iconst 0, 1) := by decide +kernel
theorem dL_law_207 : decode cL_law 207 = .ok (.ireturn, 1) := by decide +kernel
theorem dL_law_208 : decode cL_law 208 = .ok (.iload 5, 2) := by decide +kernel
theorem dL_law_210 : decode cL_law 210 = .ok (.ifCond .ne 15, 3) := by decide +kernel
theorem dL_law_213 : decode cL_law 213 = .ok (.aload_n 3, 1) := by decide +kernel
theorem dL_law_214 : decode cL_law 214 = .ok (.iconst 0, 1) := by decide +kernel
theorem dL_law_215 : decode cL_law 215 = .ok (.laload, 1) := by decide +kernel
theorem dL_law_216 : decode cL_law 216 = .ok (.iload 6, 2) := by decide +kernel
theorem dL_law_218 : decode cL_law 218 = .ok (.i2l, 1) := by decide +kernel
theorem dL_law_219 : decode cL_law 219 = .ok (.lcmp, 1) := by decide +kernel
theorem dL_law_220 : decode cL_law 220 = .ok (.ifCond .eq 5, 3) := by decide +kernel
theorem dL_law_223 : decode cL_law 223 = .ok (.iconst 0, 1) := by decide +kernel
theorem dL_law_224 : decode cL_law 224 = .ok (.ireturn, 1) := by decide +kernel
theorem dL_law_225 : decode cL_law 225 = .ok (.goto 313, 3) := by decide +kernel
theorem dL_law_228 : decode cL_law 228 = .ok (.aload_n 1, 1) := by decide +kernel
theorem dL_law_229 : decode cL_law 229 = .ok (.aload_n 0, 1) := by decide +kernel
theorem dL_law_230 : decode cL_law 230 = .ok (.iload 4, 2) := by decide +kernel
theorem dL_law_232 : decode cL_law 232 = .ok (.iconst 1, 1) := by decide +kernel
theorem dL_law_233 : decode cL_law 233 = .ok (.iadd, 1) := by decide +kernel
theorem dL_law_234 : decode cL_law 234 = .ok (.iaload, 1) := by decide +kernel
theorem dL_law_235 : decode cL_law 235 = .ok (.aload_n 0, 1) := by decide +kernel
theorem dL_law_236 : decode cL_law 236 = .ok (.iload 4, 2) := by decide +kernel
theorem dL_law_238 : decode cL_law 238 = .ok (.iconst 2, 1) := by decide +kernel
theorem dL_law_239 : decode cL_law 239 = .ok (.iadd, 1) := by decide +kernel
theorem dL_law_240 : decode cL_law 240 = .ok (.iaload, 1) := by decide +kernel
theorem dL_law_241 : decode cL_law 241 = .ok (.aload_n 0, 1) := by decide +kernel
theorem dL_law_242 : decode cL_law 242 = .ok (.iload 4, 2) := by decide +kernel
theorem dL_law_244 : decode cL_law 244 = .ok (.iconst 3, 1) := by decide +kernel
theorem dL_law_245 : decode cL_law 245 = .ok (.iadd, 1) := by decide +kernel
theorem dL_law_246 : decode cL_law 246 = .ok (.iaload, 1) := by decide +kernel
theorem dL_law_247 : decode cL_law 247 = .ok (.aload_n 0, 1) := by decide +kernel
theorem dL_law_248 : decode cL_law 248 = .ok (.iload 4, 2) := by decide +kernel
theorem dL_law_250 : decode cL_law 250 = .ok (.iconst 4, 1) := by decide +kernel
theorem dL_law_251 : decode cL_law 251 = .ok (.iadd, 1) := by decide +kernel
theorem dL_law_252 : decode cL_law 252 = .ok (.iaload, 1) := by decide +kernel
theorem dL_law_253 : decode cL_law 253 = .ok (.aload_n 3, 1) := by decide +kernel
theorem dL_law_254 : decode cL_law 254 = .ok (.invokestatic 57, 3) := by decide +kernel
theorem dL_law_257 : decode cL_law 257 = .ok (.istore 5, 2) := by decide +kernel
theorem dL_law_259 : decode cL_law 259 = .ok (.aload_n 2, 1) := by decide +kernel
theorem dL_law_260 : decode cL_law 260 = .ok (.aload_n 0, 1) := by decide +kernel
theorem dL_law_261 : decode cL_law 261 = .ok (.iload 4, 2) := by decide +kernel
theorem dL_law_263 : decode cL_law 263 = .ok (.iconst 1, 1) := by decide +kernel
theorem dL_law_264 : decode cL_law 264 = .ok (.iadd, 1) := by decide +kernel
theorem dL_law_265 : decode cL_law 265 = .ok (.iaload, 1) := by decide +kernel
theorem dL_law_266 : decode cL_law 266 = .ok (.aload_n 0, 1) := by decide +kernel
theorem dL_law_267 : decode cL_law 267 = .ok (.iload 4, 2) := by decide +kernel
theorem dL_law_269 : decode cL_law 269 = .ok (.iconst 2, 1) := by decide +kernel
theorem dL_law_270 : decode cL_law 270 = .ok (.iadd, 1) := by decide +kernel
theorem dL_law_271 : decode cL_law 271 = .ok (.iaload, 1) := by decide +kernel
theorem dL_law_272 : decode cL_law 272 = .ok (.aload_n 0, 1) := by decide +kernel
theorem dL_law_273 : decode cL_law 273 = .ok (.iload 4, 2) := by decide +kernel
theorem dL_law_275 : decode cL_law 275 = .ok (.iconst 3, 1) := by decide +kernel
theorem dL_law_276 : decode cL_law 276 = .ok (.iadd, 1) := by decide +kernel
theorem dL_law_277 : decode cL_law 277 = .ok (.iaload, 1) := by decide +kernel
theorem dL_law_278 : decode cL_law 278 = .ok (.aload_n 0, 1) := by decide +kernel
theorem dL_law_279 : decode cL_law 279 = .ok (.iload 4, 2) := by decide +kernel
theorem dL_law_281 : decode cL_law 281 = .ok (.iconst 4, 1) := by decide +kernel
theorem dL_law_282 : decode cL_law 282 = .ok (.iadd, 1) := by decide +kernel
theorem dL_law_283 : decode cL_law 283 = .ok (.iaload, 1) := by decide +kernel
theorem dL_law_284 : decode cL_law 284 = .ok (.invokevirtual 60, 3) := by decide +kernel
theorem dL_law_287 : decode cL_law 287 = .ok (.istore 6, 2) := by decide +kernel
theorem dL_law_289 : decode cL_law 289 = .ok (.aload_n 2, 1) := by decide +kernel
theorem dL_law_290 : decode cL_law 290 = .ok (.invokevirtual 47, 3) := by decide +kernel
theorem dL_law_293 : decode cL_law 293 = .ok (.iload 5, 2) := by decide +kernel
theorem dL_law_295 : decode cL_law 295 = .ok (.if_icmp .eq 5, 3) := by decide +kernel
theorem dL_law_298 : decode cL_law 298 = .ok (.iconst 0, 1) := by decide +kernel
theorem dL_law_299 : decode cL_law 299 = .ok (.ireturn, 1) := by decide +kernel
theorem dL_law_300 : decode cL_law 300 = .ok (.iload 5, 2) := by decide +kernel
theorem dL_law_302 : decode cL_law 302 = .ok (.ifCond .ne 15, 3) := by decide +kernel
theorem dL_law_305 : decode cL_law 305 = .ok (.aload_n 3, 1) := by decide +kernel
theorem dL_law_306 : decode cL_law 306 = .ok (.iconst 0, 1) := by decide +kernel
theorem dL_law_307 : decode cL_law 307 = .ok (.laload, 1) := by decide +kernel
theorem dL_law_308 : decode cL_law 308 = .ok (.iload 6, 2) := by decide +kernel
theorem dL_law_310 : decode cL_law 310 = .ok (.i2l, 1) := by decide +kernel
theorem dL_law_311 : decode cL_law 311 = .ok (.lcmp, 1) := by decide +kernel
theorem dL_law_312 : decode cL_law 312 = .ok (.ifCond .eq 5, 3) := by decide +kernel
theorem dL_law_315 : decode cL_law 315 = .ok (.iconst 0, 1) := by decide +kernel
theorem dL_law_316 : decode cL_law 316 = .ok (.ireturn, 1) := by decide +kernel
theorem dL_law_317 : decode cL_law 317 = .ok (.goto 221, 3) := by decide +kernel
theorem dL_law_320 : decode cL_law 320 = .ok (.aload_n 1, 1) := by decide +kernel
theorem dL_law_321 : decode cL_law 321 = .ok (.aload_n 0, 1) := by decide +kernel
theorem dL_law_322 : decode cL_law 322 = .ok (.iload 4, 2) := by decide +kernel
theorem dL_law_324 : decode cL_law 324 = .ok (.iconst 1, 1) := by decide +kernel
theorem dL_law_325 : decode cL_law 325 = .ok (.iadd, 1) := by decide +kernel
theorem dL_law_326 : decode cL_law 326 = .ok (.iaload, 1) := by decide +kernel
theorem dL_law_327 : decode cL_law 327 = .ok (.aload_n 0, 1) := by decide +kernel
theorem dL_law_328 : decode cL_law 328 = .ok (.iload 4, 2) := by decide +kernel
theorem dL_law_330 : decode cL_law 330 = .ok (.iconst 2, 1) := by decide +kernel
theorem dL_law_331 : decode cL_law 331 = .ok (.iadd, 1) := by decide +kernel
theorem dL_law_332 : decode cL_law 332 = .ok (.iaload, 1) := by decide +kernel
theorem dL_law_333 : decode cL_law 333 = .ok (.invokestatic 61, 3) := by decide +kernel
theorem dL_law_336 : decode cL_law 336 = .ok (.istore 5, 2) := by decide +kernel
theorem dL_law_338 : decode cL_law 338 = .ok (.aload_n 2, 1) := by decide +kernel
theorem dL_law_339 : decode cL_law 339 = .ok (.aload_n 0, 1) := by decide +kernel
theorem dL_law_340 : decode cL_law 340 = .ok (.iload 4, 2) := by decide +kernel
theorem dL_law_342 : decode cL_law 342 = .ok (.iconst 1, 1) := by decide +kernel
theorem dL_law_343 : decode cL_law 343 = .ok (.iadd, 1) := by decide +kernel
theorem dL_law_344 : decode cL_law 344 = .ok (.iaload, 1) := by decide +kernel
theorem dL_law_345 : decode cL_law 345 = .ok (.aload_n 0, 1) := by decide +kernel
theorem dL_law_346 : decode cL_law 346 = .ok (.iload 4, 2) := by decide +kernel
theorem dL_law_348 : decode cL_law 348 = .ok (.iconst 2, 1) := by decide +kernel
theorem dL_law_349 : decode cL_law 349 = .ok (.iadd, 1) := by decide +kernel
theorem dL_law_350 : decode cL_law 350 = .ok (.iaload, 1) := by decide +kernel
theorem dL_law_351 : decode cL_law 351 = .ok (.invokevirtual 64, 3) := by decide +kernel
theorem dL_law_354 : decode cL_law 354 = .ok (.aload_n 2, 1) := by decide +kernel
theorem dL_law_355 : decode cL_law 355 = .ok (.invokevirtual 47, 3) := by decide +kernel
theorem dL_law_358 : decode cL_law 358 = .ok (.iload 5, 2) := by decide +kernel
theorem dL_law_360 : decode cL_law 360 = .ok (.if_icmp .eq 5, 3) := by decide +kernel
theorem dL_law_363 : decode cL_law 363 = .ok (.iconst 0, 1) := by decide +kernel
theorem dL_law_364 : decode cL_law 364 = .ok (.ireturn, 1) := by decide +kernel
theorem dL_law_365 : decode cL_law 365 = .ok (.goto 173, 3) := by decide +kernel
theorem dL_law_368 : decode cL_law 368 = .ok (.aload_n 1, 1) := by decide +kernel
theorem dL_law_369 : decode cL_law 369 = .ok (.aload_n 0, 1) := by decide +kernel
theorem dL_law_370 : decode cL_law 370 = .ok (.iload 4, 2) := by decide +kernel
theorem dL_law_372 : decode cL_law 372 = .ok (.iconst 1, 1) := by decide +kernel
theorem dL_law_373 : decode cL_law 373 = .ok (.iadd, 1) := by decide +kernel
theorem dL_law_374 : decode cL_law 374 = .ok (.iaload, 1) := by decide +kernel
theorem dL_law_375 : decode cL_law 375 = .ok (.invokestatic 65, 3) := by decide +kernel
theorem dL_law_378 : decode cL_law 378 = .ok (.istore 5, 2) := by decide +kernel
theorem dL_law_380 : decode cL_law 380 = .ok (.aload_n 2, 1) := by decide +kernel
theorem dL_law_381 : decode cL_law 381 = .ok (.aload_n 0, 1) := by decide +kernel
theorem dL_law_382 : decode cL_law 382 = .ok (.iload 4, 2) := by decide +kernel
theorem dL_law_384 : decode cL_law 384 = .ok (.iconst 1, 1) := by decide +kernel
theorem dL_law_385 : decode cL_law 385 = .ok (.iadd, 1) := by decide +kernel
theorem dL_law_386 : decode cL_law 386 = .ok (.iaload, 1) := by decide +kernel
theorem dL_law_387 : decode cL_law 387 = .ok (.invokevirtual 67, 3) := by decide +kernel
theorem dL_law_390 : decode cL_law 390 = .ok (.aload_n 2, 1) := by decide +kernel
theorem dL_law_391 : decode cL_law 391 = .ok (.invokevirtual 47, 3) := by decide +kernel
theorem dL_law_394 : decode cL_law 394 = .ok (.iload 5, 2) := by decide +kernel
theorem dL_law_396 : decode cL_law 396 = .ok (.if_icmp .eq 5, 3) := by decide +kernel
theorem dL_law_399 : decode cL_law 399 = .ok (.iconst 0, 1) := by decide +kernel
theorem dL_law_400 : decode cL_law 400 = .ok (.ireturn, 1) := by decide +kernel
theorem dL_law_401 : decode cL_law 401 = .ok (.goto 137, 3) := by decide +kernel
theorem dL_law_404 : decode cL_law 404 = .ok (.aload_n 1, 1) := by decide +kernel
theorem dL_law_405 : decode cL_law 405 = .ok (.aload_n 0, 1) := by decide +kernel
theorem dL_law_406 : decode cL_law 406 = .ok (.iload 4, 2) := by decide +kernel
theorem dL_law_408 : decode cL_law 408 = .ok (.iconst 1, 1) := by decide +kernel
theorem dL_law_409 : decode cL_law 409 = .ok (.iadd, 1) := by decide +kernel
theorem dL_law_410 : decode cL_law 410 = .ok (.iaload, 1) := by decide +kernel
theorem dL_law_411 : decode cL_law 411 = .ok (.aload_n 0, 1) := by decide +kernel
theorem dL_law_412 : decode cL_law 412 = .ok (.iload 4, 2) := by decide +kernel
theorem dL_law_414 : decode cL_law 414 = .ok (.iconst 2, 1) := by decide +kernel
theorem dL_law_415 : decode cL_law 415 = .ok (.iadd, 1) := by decide +kernel
theorem dL_law_416 : decode cL_law 416 = .ok (.iaload, 1) := by decide +kernel
theorem dL_law_417 : decode cL_law 417 = .ok (.aload_n 3, 1) := by decide +kernel
theorem dL_law_418 : decode cL_law 418 = .ok (.invokestatic 68, 3) := by decide +kernel
theorem dL_law_421 : decode cL_law 421 = .ok (.istore 5, 2) := by decide +kernel
theorem dL_law_423 : decode cL_law 423 = .ok (.aload_n 2, 1) := by decide +kernel
theorem dL_law_424 : decode cL_law 424 = .ok (.aload_n 0, 1) := by decide +kernel
theorem dL_law_425 : decode cL_law 425 = .ok (.iload 4, 2) := by decide +kernel
theorem dL_law_427 : decode cL_law 427 = .ok (.iconst 1, 1) := by decide +kernel
theorem dL_law_428 : decode cL_law 428 = .ok (.iadd, 1) := by decide +kernel
theorem dL_law_429 : decode cL_law 429 = .ok (.iaload, 1) := by decide +kernel
theorem dL_law_430 : decode cL_law 430 = .ok (.aload_n 0, 1) := by decide +kernel
theorem dL_law_431 : decode cL_law 431 = .ok (.iload 4, 2) := by decide +kernel
theorem dL_law_433 : decode cL_law 433 = .ok (.iconst 2, 1) := by decide +kernel
theorem dL_law_434 : decode cL_law 434 = .ok (.iadd, 1) := by decide +kernel
theorem dL_law_435 : decode cL_law 435 = .ok (.iaload, 1) := by decide +kernel
theorem dL_law_436 : decode cL_law 436 = .ok (.invokevirtual 71, 3) := by decide +kernel
theorem dL_law_439 : decode cL_law 439 = .ok (.lstore 6, 2) := by decide +kernel
theorem dL_law_441 : decode cL_law 441 = .ok (.aload_n 2, 1) := by decide +kernel
theorem dL_law_442 : decode cL_law 442 = .ok (.invokevirtual 47, 3) := by decide +kernel
theorem dL_law_445 : decode cL_law 445 = .ok (.iload 5, 2) := by decide +kernel
theorem dL_law_447 : decode cL_law 447 = .ok (.if_icmp .eq 5, 3) := by decide +kernel
theorem dL_law_450 : decode cL_law 450 = .ok (.iconst 0, 1) := by decide +kernel
theorem dL_law_451 : decode cL_law 451 = .ok (.ireturn, 1) := by decide +kernel
theorem dL_law_452 : decode cL_law 452 = .ok (.iload 5, 2) := by decide +kernel
theorem dL_law_454 : decode cL_law 454 = .ok (.ifCond .ne 14, 3) := by decide +kernel
theorem dL_law_457 : decode cL_law 457 = .ok (.aload_n 3, 1) := by decide +kernel
theorem dL_law_458 : decode cL_law 458 = .ok (.iconst 0, 1) := by decide +kernel
theorem dL_law_459 : decode cL_law 459 = .ok (.laload, 1) := by decide +kernel
theorem dL_law_460 : decode cL_law 460 = .ok (.lload 6, 2) := by decide +kernel
theorem dL_law_462 : decode cL_law 462 = .ok (.lcmp, 1) := by decide +kernel
theorem dL_law_463 : decode cL_law 463 = .ok (.ifCond .eq 5, 3) := by decide +kernel
theorem dL_law_466 : decode cL_law 466 = .ok (.iconst 0, 1) := by decide +kernel
theorem dL_law_467 : decode cL_law 467 = .ok (.ireturn, 1) := by decide +kernel
theorem dL_law_468 : decode cL_law 468 = .ok (.goto 70, 3) := by decide +kernel
theorem dL_law_471 : decode cL_law 471 = .ok (.aload_n 1, 1) := by decide +kernel
theorem dL_law_472 : decode cL_law 472 = .ok (.aload_n 0, 1) := by decide +kernel
theorem dL_law_473 : decode cL_law 473 = .ok (.iload 4, 2) := by decide +kernel
theorem dL_law_475 : decode cL_law 475 = .ok (.iconst 1, 1) := by decide +kernel
theorem dL_law_476 : decode cL_law 476 = .ok (.iadd, 1) := by decide +kernel
theorem dL_law_477 : decode cL_law 477 = .ok (.iaload, 1) := by decide +kernel
theorem dL_law_478 : decode cL_law 478 = .ok (.aload_n 0, 1) := by decide +kernel
theorem dL_law_479 : decode cL_law 479 = .ok (.iload 4, 2) := by decide +kernel
theorem dL_law_481 : decode cL_law 481 = .ok (.iconst 2, 1) := by decide +kernel
theorem dL_law_482 : decode cL_law 482 = .ok (.iadd, 1) := by decide +kernel
theorem dL_law_483 : decode cL_law 483 = .ok (.iaload, 1) := by decide +kernel
theorem dL_law_484 : decode cL_law 484 = .ok (.aload_n 3, 1) := by decide +kernel
theorem dL_law_485 : decode cL_law 485 = .ok (.invokestatic 72, 3) := by decide +kernel
theorem dL_law_488 : decode cL_law 488 = .ok (.istore 5, 2) := by decide +kernel
theorem dL_law_490 : decode cL_law 490 = .ok (.aload_n 2, 1) := by decide +kernel
theorem dL_law_491 : decode cL_law 491 = .ok (.aload_n 0, 1) := by decide +kernel
theorem dL_law_492 : decode cL_law 492 = .ok (.iload 4, 2) := by decide +kernel
theorem dL_law_494 : decode cL_law 494 = .ok (.iconst 1, 1) := by decide +kernel
theorem dL_law_495 : decode cL_law 495 = .ok (.iadd, 1) := by decide +kernel
theorem dL_law_496 : decode cL_law 496 = .ok (.iaload, 1) := by decide +kernel
theorem dL_law_497 : decode cL_law 497 = .ok (.aload_n 0, 1) := by decide +kernel
theorem dL_law_498 : decode cL_law 498 = .ok (.iload 4, 2) := by decide +kernel
theorem dL_law_500 : decode cL_law 500 = .ok (.iconst 2, 1) := by decide +kernel
theorem dL_law_501 : decode cL_law 501 = .ok (.iadd, 1) := by decide +kernel
theorem dL_law_502 : decode cL_law 502 = .ok (.iaload, 1) := by decide +kernel
theorem dL_law_503 : decode cL_law 503 = .ok (.invokevirtual 74, 3) := by decide +kernel
theorem dL_law_506 : decode cL_law 506 = .ok (.lstore 6, 2) := by decide +kernel
theorem dL_law_508 : decode cL_law 508 = .ok (.aload_n 2, 1) := by decide +kernel
theorem dL_law_509 : decode cL_law 509 = .ok (.invokevirtual 47, 3) := by decide +kernel
theorem dL_law_512 : decode cL_law 512 = .ok (.iload 5, 2) := by decide +kernel
theorem dL_law_514 : decode cL_law 514 = .ok (.if_icmp .eq 5, 3) := by decide +kernel
theorem dL_law_517 : decode cL_law 517 = .ok (.iconst 0, 1) := by decide +kernel
theorem dL_law_518 : decode cL_law 518 = .ok (.ireturn, 1) := by decide +kernel
theorem dL_law_519 : decode cL_law 519 = .ok (.iload 5, 2) := by decide +kernel
theorem dL_law_521 : decode cL_law 521 = .ok (.ifCond .ne 14, 3) := by decide +kernel
theorem dL_law_524 : decode cL_law 524 = .ok (.aload_n 3, 1) := by decide +kernel
theorem dL_law_525 : decode cL_law 525 = .ok (.iconst 0, 1) := by decide +kernel
theorem dL_law_526 : decode cL_law 526 = .ok (.laload, 1) := by decide +kernel
theorem dL_law_527 : decode cL_law 527 = .ok (.lload 6, 2) := by decide +kernel
theorem dL_law_529 : decode cL_law 529 = .ok (.lcmp, 1) := by decide +kernel
theorem dL_law_530 : decode cL_law 530 = .ok (.ifCond .eq 5, 3) := by decide +kernel
theorem dL_law_533 : decode cL_law 533 = .ok (.iconst 0, 1) := by decide +kernel
theorem dL_law_534 : decode cL_law 534 = .ok (.ireturn, 1) := by decide +kernel
theorem dL_law_535 : decode cL_law 535 = .ok (.goto 3, 3) := by decide +kernel
theorem dL_law_538 : decode cL_law 538 = .ok (.iinc 4 5, 3) := by decide +kernel
theorem dL_law_541 : decode cL_law 541 = .ok (.goto (-518), 3) := by decide +kernel
theorem dL_law_544 : decode cL_law 544 = .ok (.iconst 1, 1) := by decide +kernel
theorem dL_law_545 : decode cL_law 545 = .ok (.ireturn, 1) := by decide +kernel
abbrev vwCl : List vw_C := [(RX0, TX0, 4), (RX1, TX1, 7)]
/-! ===== END printed: names (without the pools) ===== -/
end
section
/-! KeccakLanes: pure words: a turn, a round, mixed, a byte taken in, the digest's state; the reference's constants and its walk. -/
def kk_tl (v : Int64) (n : Int32) : Int64 := (v <<< (n.toInt64 &&& 63)) ||| (v.toUInt64 >>> ((64 - n).toInt64.toUInt64 &&& Int64.toUInt64 63)).toInt64
def kk_rl (v : Int64) (n : Int32) : Int64 := (v <<< (n.toInt64 &&& 63)) ||| (v.toUInt64 >>> ((-n).toInt64.toUInt64 &&& Int64.toUInt64 63)).toInt64
theorem kk_am : ∀ k, k < 64 → ((-(nI k)).toInt64.toUInt64 &&& Int64.toUInt64 63) = ((64 - nI k).toInt64.toUInt64 &&& Int64.toUInt64 63) := by decide +kernel
theorem kk_rl_tl (v : Int64) {k : Nat} (h : k < 64) : kk_rl v (nI k) = kk_tl v (nI k) := by
  unfold kk_rl kk_tl
  rw [kk_am k h]
def kk_tnL : List Nat := [0, 1, 62, 28, 27, 36, 44, 6, 55, 20, 3, 10, 43, 25, 39, 41, 45, 15, 21, 8, 18, 2, 61, 56, 14]
def kk_tn (j : Nat) : Nat := kk_tnL.getD j 0
def kk_tgL : List Nat := [0, 10, 20, 5, 15, 16, 1, 11, 21, 6, 7, 17, 2, 12, 22, 23, 8, 18, 3, 13, 14, 24, 9, 19, 4]
def kk_tg (j : Nat) : Nat := kk_tgL.getD j 0
def kk_srL : List Nat := [0, 6, 12, 18, 24, 3, 9, 10, 16, 22, 1, 7, 13, 19, 20, 4, 5, 11, 17, 23, 2, 8, 14, 15, 21]
def kk_sr (j : Nat) : Nat := kk_srL.getD j 0
def kk_rcL : List Int64 := [1, 32898, (-9223372036854742902), (-9223372034707259392), 32907, 2147483649, (-9223372034707259263), (-9223372036854743031), 138, 136, 2147516425, 2147483658, 2147516555, (-9223372036854775669), (-9223372036854742903), (-9223372036854743037), (-9223372036854743038), (-9223372036854775680), 32778, (-9223372034707292150), (-9223372034707259263), (-9223372036854742912), 2147483649, (-9223372034707259384)]
def kk_rc (j : Nat) : Int64 := kk_rcL.getD j 0
theorem kk_tg_lt : ∀ j, j < 25 → kk_tg j < 25 := by decide +kernel
theorem kk_sr_lt : ∀ j, j < 25 → kk_sr j < 25 := by decide +kernel
theorem kk_tn_lt : ∀ j, j < 25 → kk_tn j < 64 := by decide +kernel
theorem kk_sr_tg : ∀ j, j < 25 → kk_sr (kk_tg j) = j := by decide +kernel
theorem kk_tg_sr : ∀ j, j < 25 → kk_tg (kk_sr j) = j := by decide +kernel
def kk_col (f : Nat → Int64) (x : Nat) : Int64 := f x ^^^ f (x + 5) ^^^ f (x + 10) ^^^ f (x + 15) ^^^ f (x + 20)
def kk_d (f : Nat → Int64) (x : Nat) : Int64 := kk_col f ((x + 4) % 5) ^^^ kk_tl (kk_col f ((x + 1) % 5)) (nI 1)
def kk_mv1 (f : Nat → Int64) (i : Nat) : Int64 := kk_tl (f i ^^^ kk_d f (i % 5)) (nI (kk_tn i))
def kk_mv (f : Nat → Int64) (j : Nat) : Int64 := kk_mv1 f (kk_sr j)
def kk_ch (u : Nat → Int64) (j : Nat) : Int64 := u j ^^^ ((u (j / 5 * 5 + (j % 5 + 1) % 5) ^^^ (-1)) &&& u (j / 5 * 5 + (j % 5 + 2) % 5))
def kk_rd (f : Nat → Int64) (c : Int64) : Nat → Int64 := vp_updL (kk_ch (kk_mv f)) 0 (kk_ch (kk_mv f) 0 ^^^ c)
def kk_rs (f : Nat → Int64) : Nat → (Nat → Int64)
  | 0 => f
  | n + 1 => kk_rd (kk_rs f n) (kk_rc n)
def kk_mix (f : Nat → Int64) : Nat → Int64 := kk_rs f 24
/-- a value's lowest 8 bits, as a long -/
def kk_bt (b : Int32) : Int64 := b.toInt64 &&& 255
theorem kk_bt_i (b : Int32) : (b &&& 255).toInt64 = kk_bt b := by
  unfold kk_bt
  rw [Int32.toInt64_and]
  rfl
def kk_join (f : Nat → Int64) (p : Nat) (w : Int64) : Nat → Int64 := vp_updL f (p / 8) (f (p / 8) ^^^ (w <<< ((nI (8 * (p % 8))).toInt64 &&& 63)))
/-- a byte taken in: the lanes and the place -/
def kk_in (z : (Nat → Int64) × Nat) (b : Int32) : (Nat → Int64) × Nat := if z.2 + 1 = 136 then (kk_mix (kk_join z.1 z.2 (kk_bt b)), 0) else (kk_join z.1 z.2 (kk_bt b), z.2 + 1)
theorem kk_in_lt {z : (Nat → Int64) × Nat} {b : Int32} (h : z.2 < 136) : (kk_in z b).2 < 136 := by
  unfold kk_in
  split
  · exact Nat.zero_lt_succ _
  · show z.2 + 1 < 136
    omega
def kk_ins (z : (Nat → Int64) × Nat) (b : Nat → Int32) : Nat → (Nat → Int64) × Nat
  | 0 => z
  | n + 1 => kk_in (kk_ins z b n) (b n)
theorem kk_ins_lt {z : (Nat → Int64) × Nat} {b : Nat → Int32} (h : z.2 < 136) : ∀ n, (kk_ins z b n).2 < 136
  | 0 => h
  | n + 1 => kk_in_lt (kk_ins_lt h n)
/-- the lanes that a digest is read off -/
def kk_dg (f : Nat → Int64) (p : Nat) : Nat → Int64 := kk_mix (kk_join (kk_join f p (kk_bt (nI 1))) 135 (kk_bt (nI 128)))
def kk_rev (v : Int64) : Nat → Int64
  | 0 => 0
  | n + 1 => (kk_rev v n <<< ((nI 8).toInt64 &&& 63)) ||| ((v.toUInt64 >>> ((nI (8 * n)).toInt64.toUInt64 &&& Int64.toUInt64 63)).toInt64 &&& 255)
/-- the reference's constants -/
def kk_ls (r : Int32) : Int32 := (if (r <<< ((1 : Int32) &&& 31)) &&& 256 = 0 then r <<< ((1 : Int32) &&& 31) else (r <<< ((1 : Int32) &&& 31)) ^^^ 369) &&& 255
def kk_lf : Nat → Int32
  | 0 => 1
  | n + 1 => kk_ls (kk_lf n)
def kk_cs (i : Nat) : Nat → Int64
  | 0 => 0
  | j + 1 => if kk_lf ((j + 7 * i) % 255) &&& 1 = 0 then kk_cs i j else kk_cs i j ||| ((1 : Int64) <<< ((((1 : Int32) <<< (nI j &&& 31)) - 1).toInt64 &&& 63))
set_option maxRecDepth 100000 in
theorem kk_cs_rc : ∀ i, i < 24 → kk_cs i 7 = kk_rc i := by decide +kernel
/-- the reference's walk over the lanes -/
def kk_wxL : List Nat := [1, 0, 2, 1, 2, 3, 3, 0, 1, 3, 1, 4, 4, 0, 3, 4, 3, 2, 2, 0, 4, 2, 4, 1, 1]
def kk_wx (t : Nat) : Nat := kk_wxL.getD t 0
def kk_wyL : List Nat := [0, 2, 1, 2, 3, 3, 0, 1, 3, 1, 4, 4, 0, 3, 4, 3, 2, 2, 0, 4, 2, 4, 1, 1, 0]
def kk_wy (t : Nat) : Nat := kk_wyL.getD t 0
def kk_tiL : List Nat := [0, 23, 17, 5, 11, 6, 22, 1, 8, 21, 0, 2, 16, 15, 19, 12, 7, 3, 4, 14, 18, 9, 20, 13, 10]
def kk_ti (j : Nat) : Nat := kk_tiL.getD j 0
def kk_ws (t : Nat) : Nat := 5 * kk_wy t + kk_wx t
def kk_wt (t : Nat) : Nat := 5 * kk_wy (t + 1) + kk_wy t
theorem kk_w_lt : ∀ t, t < 25 → kk_wx t < 5 ∧ kk_wy t < 5 := by decide +kernel
theorem kk_w_x : ∀ t, t < 24 → kk_wx (t + 1) = kk_wy t := by decide +kernel
theorem kk_w_y : ∀ t, t < 24 → kk_wy (t + 1) = (2 * kk_wx t + 3 * kk_wy t) % 5 := by decide +kernel
theorem kk_w_st : ∀ t, t < 24 → kk_sr (kk_wt t) = kk_ws t ∧ kk_tn (kk_ws t) = (t + 1) * (t + 2) / 2 % 64 ∧ kk_wt t < 25 ∧ kk_ws t < 25 ∧ kk_wt t ≠ 0 := by decide +kernel
theorem kk_w_ti : ∀ j, j < 25 → j ≠ 0 → kk_ti j < 24 ∧ kk_wt (kk_ti j) = j := by decide +kernel
theorem kk_w_inj : ∀ t, t < 24 → ∀ u, u < 24 → kk_wt t = kk_wt u → t = u := by decide +kernel
end
section
/-! rows of the walk over numbers nI a -/
theorem kr_of (n : Nat) : Int32.ofInt (n : Int) = nI n := Int32.ofInt_eq_ofNat
section KR
variable {p : Program} {l : Launch} {e : Env} {R : Room} {s : State} {m : MethodId} {args : Array Value} {below : List Frame} {meth : Method} {c : Code} {H : Heap} {locs : List Loc} {cells slots : Nat} {Q : State → Prop}
variable {cc : ByteArray} {pc : Nat} {ls : Array Slot} {rest : List Value}
theorem kr_iadd (hx : p.tables.exec = Jvm.exec) (hb : c.code = cc) {a b : Nat} (hdg : decode cc pc = .ok (.iadd, 1)) (k : W p l e R s m args below meth c H locs cells slots Q (F0 m (pc + 1) ls (.int (nI (a + b)) :: rest))) : W p l e R s m args below meth c H locs cells slots Q (F0 m pc ls (.int (nI b) :: .int (nI a) :: rest)) := lv_iadd hx hb hdg (by rw [nI_add]; exact k)
theorem kr_imul (hx : p.tables.exec = Jvm.exec) (hb : c.code = cc) {a b : Nat} (hdg : decode cc pc = .ok (.imul, 1)) (k : W p l e R s m args below meth c H locs cells slots Q (F0 m (pc + 1) ls (.int (nI (a * b)) :: rest))) : W p l e R s m args below meth c H locs cells slots Q (F0 m pc ls (.int (nI b) :: .int (nI a) :: rest)) := lv_imul hx hb hdg (by rw [pk_mul]; exact k)
theorem kr_isub (hx : p.tables.exec = Jvm.exec) (hb : c.code = cc) {a b : Nat} (h : b ≤ a) (hdg : decode cc pc = .ok (.isub, 1)) (k : W p l e R s m args below meth c H locs cells slots Q (F0 m (pc + 1) ls (.int (nI (a - b)) :: rest))) : W p l e R s m args below meth c H locs cells slots Q (F0 m pc ls (.int (nI b) :: .int (nI a) :: rest)) := lv_isub hx hb hdg (by rw [pk_sub h]; exact k)
theorem kr_idiv (hx : p.tables.exec = Jvm.exec) (hb : c.code = cc) {a b : Nat} (h1 : a < 2 ^ 31) (h0 : 0 < b) (h2 : b < 2 ^ 31) (hdg : decode cc pc = .ok (.idiv, 1)) (k : W p l e R s m args below meth c H locs cells slots Q (F0 m (pc + 1) ls (.int (nI (a / b)) :: rest))) : W p l e R s m args below meth c H locs cells slots Q (F0 m pc ls (.int (nI b) :: .int (nI a) :: rest)) := lv_idiv hx hb hdg (nI_ne0 h0 h2) (by rw [pk_div h1 h0 h2]; exact k)
theorem kr_irem (hx : p.tables.exec = Jvm.exec) (hb : c.code = cc) {a b : Nat} (h1 : a < 2 ^ 31) (h0 : 0 < b) (h2 : b < 2 ^ 31) (hdg : decode cc pc = .ok (.irem, 1)) (k : W p l e R s m args below meth c H locs cells slots Q (F0 m (pc + 1) ls (.int (nI (a % b)) :: rest))) : W p l e R s m args below meth c H locs cells slots Q (F0 m pc ls (.int (nI b) :: .int (nI a) :: rest)) := lv_irem hx hb hdg (nI_ne0 h0 h2) (by rw [pk_rem h1 h0 h2]; exact k)
theorem kr_icmp_ge (hx : p.tables.exec = Jvm.exec) (hb : c.code = cc) {a b : Nat} {off : Int} {tgt : Nat} (h1 : a < 2 ^ 31) (h2 : b < 2 ^ 31) (hdg : decode cc pc = .ok (.if_icmp .ge off, 3)) (ht : (pc : Int) + off = (tgt : Int)) (kt : b ≤ a → W p l e R s m args below meth c H locs cells slots Q (F0 m tgt ls rest)) (kf : a < b → W p l e R s m args below meth c H locs cells slots Q (F0 m (pc + 3) ls rest)) : W p l e R s m args below meth c H locs cells slots Q (F0 m pc ls (.int (nI b) :: .int (nI a) :: rest)) := lv_icmp_ge hx hb hdg ht (fun h => kt ((nI_leI h2 h1).mp h)) (fun h => kf (Nat.lt_of_not_le (fun z => h ((nI_leI h2 h1).mpr z))))
theorem kr_icmp_gt (hx : p.tables.exec = Jvm.exec) (hb : c.code = cc) {a b : Nat} {off : Int} {tgt : Nat} (h1 : a < 2 ^ 31) (h2 : b < 2 ^ 31) (hdg : decode cc pc = .ok (.if_icmp .gt off, 3)) (ht : (pc : Int) + off = (tgt : Int)) (kt : b < a → W p l e R s m args below meth c H locs cells slots Q (F0 m tgt ls rest)) (kf : a ≤ b → W p l e R s m args below meth c H locs cells slots Q (F0 m (pc + 3) ls rest)) : W p l e R s m args below meth c H locs cells slots Q (F0 m pc ls (.int (nI b) :: .int (nI a) :: rest)) := lv_icmp_gt hx hb hdg ht (fun h => kt ((nI_ltI h2 h1).mp h)) (fun h => kf (Nat.le_of_not_lt (fun z => h ((nI_ltI h2 h1).mpr z))))
theorem kr_icmp_lt (hx : p.tables.exec = Jvm.exec) (hb : c.code = cc) {a b : Nat} {off : Int} {tgt : Nat} (h1 : a < 2 ^ 31) (h2 : b < 2 ^ 31) (hdg : decode cc pc = .ok (.if_icmp .lt off, 3)) (ht : (pc : Int) + off = (tgt : Int)) (kt : a < b → W p l e R s m args below meth c H locs cells slots Q (F0 m tgt ls rest)) (kf : b ≤ a → W p l e R s m args below meth c H locs cells slots Q (F0 m (pc + 3) ls rest)) : W p l e R s m args below meth c H locs cells slots Q (F0 m pc ls (.int (nI b) :: .int (nI a) :: rest)) := lv_icmp_lt hx hb hdg ht (fun h => kt ((nI_ltI h1 h2).mp h)) (fun h => kf (Nat.le_of_not_lt (fun z => h ((nI_ltI h1 h2).mpr z))))
theorem kr_icmp_le (hx : p.tables.exec = Jvm.exec) (hb : c.code = cc) {a b : Nat} {off : Int} {tgt : Nat} (h1 : a < 2 ^ 31) (h2 : b < 2 ^ 31) (hdg : decode cc pc = .ok (.if_icmp .le off, 3)) (ht : (pc : Int) + off = (tgt : Int)) (kt : a ≤ b → W p l e R s m args below meth c H locs cells slots Q (F0 m tgt ls rest)) (kf : b < a → W p l e R s m args below meth c H locs cells slots Q (F0 m (pc + 3) ls rest)) : W p l e R s m args below meth c H locs cells slots Q (F0 m pc ls (.int (nI b) :: .int (nI a) :: rest)) := lv_icmp_le hx hb hdg ht (fun h => kt ((nI_leI h1 h2).mp h)) (fun h => kf (Nat.lt_of_not_le (fun z => h ((nI_leI h1 h2).mpr z))))
theorem kr_icmp_ne (hx : p.tables.exec = Jvm.exec) (hb : c.code = cc) {a b : Nat} {off : Int} {tgt : Nat} (h1 : a < 2 ^ 31) (h2 : b < 2 ^ 31) (hdg : decode cc pc = .ok (.if_icmp .ne off, 3)) (ht : (pc : Int) + off = (tgt : Int)) (kt : a ≠ b → W p l e R s m args below meth c H locs cells slots Q (F0 m tgt ls rest)) (kf : a = b → W p l e R s m args below meth c H locs cells slots Q (F0 m (pc + 3) ls rest)) : W p l e R s m args below meth c H locs cells slots Q (F0 m pc ls (.int (nI b) :: .int (nI a) :: rest)) := lv_icmp_ne hx hb hdg ht (fun h => kt (fun z => h ((nI_eq h1 h2).mpr z))) (fun h => kf ((nI_eq h1 h2).mp h))
theorem kr_icmp_eq (hx : p.tables.exec = Jvm.exec) (hb : c.code = cc) {a b : Nat} {off : Int} {tgt : Nat} (h1 : a < 2 ^ 31) (h2 : b < 2 ^ 31) (hdg : decode cc pc = .ok (.if_icmp .eq off, 3)) (ht : (pc : Int) + off = (tgt : Int)) (kt : a = b → W p l e R s m args below meth c H locs cells slots Q (F0 m tgt ls rest)) (kf : a ≠ b → W p l e R s m args below meth c H locs cells slots Q (F0 m (pc + 3) ls rest)) : W p l e R s m args below meth c H locs cells slots Q (F0 m pc ls (.int (nI b) :: .int (nI a) :: rest)) := lv_icmp_eq hx hb hdg ht (fun h => kt ((nI_eq h1 h2).mp h)) (fun h => kf (fun z => h ((nI_eq h1 h2).mpr z)))
variable {D : va_G} {cl : List vw_C} {A : Nat → Prop} {a : Nat} {tys : List (ClassId × FieldType)} {ws : va_W} {H0 : Heap}
theorem kr_iald (hx : p.tables.exec = Jvm.exec) (hb : c.code = cc) (hK : va_K D cl tys s) (hP : va_P D cl ws H) (q0 t0 : Nat) {cA : ClassId} {N : Nat} {f : Nat → Int32} (ha : ws[q0]? = some (a, .inl (cA, N, .inl f))) (ht : tys[t0]? = some (cA, .int)) {n : Nat} (hn : n < N) (hN : N < 2 ^ 31) (hdg : decode cc pc = .ok (.iaload, 1)) (k : W p l e R s m args below meth c H locs cells slots Q (F0 m (pc + 1) ls (.int (f n) :: rest))) : W p l e R s m args below meth c H locs cells slots Q (F0 m pc ls (.int (nI n) :: .ref a :: rest)) := va_iald hx hb hK hP q0 t0 ha ht (vp_in_nI hn hN) hdg (by rw [nI_clamp (Nat.lt_trans hn hN)]; exact k)
theorem kr_lald (hx : p.tables.exec = Jvm.exec) (hb : c.code = cc) (hK : va_K D cl tys s) (hP : va_P D cl ws H) (q0 t0 : Nat) {cA : ClassId} {N : Nat} {f : Nat → Int64} (ha : ws[q0]? = some (a, .inl (cA, N, .inr (.inl f)))) (ht : tys[t0]? = some (cA, .long)) {n : Nat} (hn : n < N) (hN : N < 2 ^ 31) (hdg : decode cc pc = .ok (.laload, 1)) (k : W p l e R s m args below meth c H locs cells slots Q (F0 m (pc + 1) ls (.long (f n) :: rest))) : W p l e R s m args below meth c H locs cells slots Q (F0 m pc ls (.int (nI n) :: .ref a :: rest)) := va_lald hx hb hK hP q0 t0 ha ht (vp_in_nI hn hN) hdg (by rw [nI_clamp (Nat.lt_trans hn hN)]; exact k)
theorem kr_iast (hx : p.tables.exec = Jvm.exec) (hb : c.code = cc) (hK : va_K D cl tys s) (hP : va_P D cl ws H) (hD : va_D A ws) (hS : va_S A H0 H locs) (q0 t0 : Nat) {cA : ClassId} {N : Nat} {f : Nat → Int32} (ha : ws[q0]? = some (a, .inl (cA, N, .inl f))) (ht : tys[t0]? = some (cA, .int)) {n : Nat} {x : Int32} {w : va_W} (hn : n < N) (hN : N < 2 ^ 31) (hw : (ws.set q0 (a, .inl (cA, N, .inl (upd f n x)))) = w) (hdg : decode cc pc = .ok (.iastore, 1)) (kk : ∀ (H1 : Heap) (locs1 : List Loc), va_P D cl w H1 → va_D A w → va_S A H0 H1 locs1 → W p l e R s m args below meth c H1 locs1 cells slots Q (F0 m (pc + 1) ls rest)) : W p l e R s m args below meth c H locs cells slots Q (F0 m pc ls (.int x :: .int (nI n) :: .ref a :: rest)) := by
  subst hw
  refine va_iast hx hb hK hP hD hS q0 t0 ha ht (vp_in_nI hn hN) hdg (fun H1 locs1 h1 h2 h3 => kk H1 locs1 ?_ ?_ h3)
  · rw [nI_clamp (Nat.lt_trans hn hN)] at h1; exact h1
  · rw [nI_clamp (Nat.lt_trans hn hN)] at h2; exact h2
theorem kr_last (hx : p.tables.exec = Jvm.exec) (hb : c.code = cc) (hK : va_K D cl tys s) (hP : va_P D cl ws H) (hD : va_D A ws) (hS : va_S A H0 H locs) (q0 t0 : Nat) {cA : ClassId} {N : Nat} {f : Nat → Int64} (ha : ws[q0]? = some (a, .inl (cA, N, .inr (.inl f)))) (ht : tys[t0]? = some (cA, .long)) {n : Nat} {x : Int64} {w : va_W} (hn : n < N) (hN : N < 2 ^ 31) (hw : (ws.set q0 (a, .inl (cA, N, .inr (.inl (vp_updL f n x))))) = w) (hdg : decode cc pc = .ok (.lastore, 1)) (kk : ∀ (H1 : Heap) (locs1 : List Loc), va_P D cl w H1 → va_D A w → va_S A H0 H1 locs1 → W p l e R s m args below meth c H1 locs1 cells slots Q (F0 m (pc + 1) ls rest)) : W p l e R s m args below meth c H locs cells slots Q (F0 m pc ls (.long x :: .int (nI n) :: .ref a :: rest)) := by
  subst hw
  refine va_last hx hb hK hP hD hS q0 t0 ha ht (vp_in_nI hn hN) hdg (fun H1 locs1 h1 h2 h3 => kk H1 locs1 ?_ ?_ h3)
  · rw [nI_clamp (Nat.lt_trans hn hN)] at h1; exact h1
  · rw [nI_clamp (Nat.lt_trans hn hN)] at h2; exact h2
theorem kr_aald (hx : p.tables.exec = Jvm.exec) (hb : c.code = cc) (hK : va_K D cl tys s) (hP : va_P D cl ws H) (q0 t0 : Nat) {cA : ClassId} {t : FieldType} {N : Nat} {f : Nat → Option Nat} (ha : ws[q0]? = some (a, .inl (cA, N, .inr (.inr (.inr (.inr f)))))) (ht : tys[t0]? = some (cA, .array t)) {n y : Nat} (hn : n < N) (hN : N < 2 ^ 31) (hy : f n = some y) (hdg : decode cc pc = .ok (.aaload, 1)) (k : W p l e R s m args below meth c H locs cells slots Q (F0 m (pc + 1) ls (.ref y :: rest))) : W p l e R s m args below meth c H locs cells slots Q (F0 m pc ls (.int (nI n) :: .ref a :: rest)) := by
  have hc := nI_clamp (Nat.lt_trans hn hN)
  refine W.aald (v := .ref y) (ty := .array t) hx hb (hP q0 _ ha) ((hK.2 t0 _ ht).1 N (fun j => va_rf (f j))) rfl (fun q => by cases q) (by show ¬ (nI n < 0 ∨ (arrV _ _ _).slots.size ≤ _); rw [arrV_size]; exact vp_in_nI hn hN) ?_ rfl rfl hdg k
  show (arrV _ _ _).slots[_]? = _
  rw [hc, arrV_read _ _ hn, hy]
  rfl
end KR
/-! an array's contents beyond its length don't matter -/
theorem kr_arrV {c : ClassId} {N : Nat} {f g : Nat → Value} (h : ∀ j, j < N → f j = g j) : arrV c N f = arrV c N g := by
  unfold arrV
  have e : (Array.ofFn (n := N) fun j => f j.val) = Array.ofFn (n := N) fun j => g j.val := by
    congr 1
    funext j
    exact h j.val j.isLt
  rw [e]
theorem kr_cellL {c : ClassId} {N : Nat} {f g : Nat → Int64} (h : ∀ j, j < N → f j = g j) : vp_cell c (N, .inr (.inl f)) = vp_cell c (N, .inr (.inl g)) := by
  rw [vp_cell_l, vp_cell_l]
  exact kr_arrV (fun j hj => by rw [h j hj])
theorem kr_cellI {c : ClassId} {N : Nat} {f g : Nat → Int32} (h : ∀ j, j < N → f j = g j) : vp_cell c (N, .inl f) = vp_cell c (N, .inl g) := by
  rw [vp_cell_i, vp_cell_i]
  exact kr_arrV (fun j hj => by rw [h j hj])
theorem kr_cellQ {c : ClassId} {N : Nat} {f g : Nat → Option Nat} (h : ∀ j, j < N → f j = g j) : vp_cell c (N, .inr (.inr (.inr (.inr f)))) = vp_cell c (N, .inr (.inr (.inr (.inr g)))) := by
  rw [vp_cell_q, vp_cell_q]
  exact kr_arrV (fun j hj => by rw [h j hj])
theorem kr_sameL {D : va_G} {cl : List vw_C} {ws w : va_W} {H : Heap} {q0 a N : Nat} {c : ClassId} {f g : Nat → Int64} (hP : va_P D cl ws H) (ha : ws[q0]? = some (a, .inl (c, N, .inr (.inl f)))) (h : ∀ j, j < N → f j = g j) (hw : ws.set q0 (a, .inl (c, N, .inr (.inl g))) = w) : va_P D cl w H := by
  subst hw
  have hl := (List.getElem?_eq_some_iff.mp ha).1
  intro k q hk
  by_cases e : k = q0
  · subst e
    rw [List.getElem?_set_self hl] at hk
    cases hk
    have h1 : H[a]? = some (vp_cell c (N, .inr (.inl f))) := hP k _ ha
    show H[a]? = some (vp_cell c (N, .inr (.inl g)))
    rw [h1, kr_cellL h]
  · rw [List.getElem?_set_ne (Ne.symm e)] at hk
    exact hP k q hk
theorem kr_sameI {D : va_G} {cl : List vw_C} {ws w : va_W} {H : Heap} {q0 a N : Nat} {c : ClassId} {f g : Nat → Int32} (hP : va_P D cl ws H) (ha : ws[q0]? = some (a, .inl (c, N, .inl f))) (h : ∀ j, j < N → f j = g j) (hw : ws.set q0 (a, .inl (c, N, .inl g)) = w) : va_P D cl w H := by
  subst hw
  have hl := (List.getElem?_eq_some_iff.mp ha).1
  intro k q hk
  by_cases e : k = q0
  · subst e
    rw [List.getElem?_set_self hl] at hk
    cases hk
    have h1 : H[a]? = some (vp_cell c (N, .inl f)) := hP k _ ha
    show H[a]? = some (vp_cell c (N, .inl g))
    rw [h1, kr_cellI h]
  · rw [List.getElem?_set_ne (Ne.symm e)] at hk
    exact hP k q hk
theorem kr_sameD {A : Nat → Prop} {ws w : va_W} {q0 a : Nat} {e0 e : va_E} (hD : va_D A ws) (ha : ws[q0]? = some (a, e0)) (hw : ws.set q0 (a, e) = w) : va_D A w := hw ▸ hD.set ha
/-! calls over a whole world: what a contract asks and gives -/
/-- facts of the start that no call changes: of the tables, and of cells outside A -/
def kr_ok (TB : (Nat → Prop) → State → Heap → Prop) : Prop := ((∀ (A : Nat → Prop) (u U : State) (H : Heap), U.vm = u.vm → TB A u H → TB A U H) ∧ (∀ (A : Nat → Prop) (u U : State) (H : Heap), u.WarmedH U.vm → TB A u H → TB A U H)) ∧ (∀ (A : Nat → Prop) (U : State) (H H1 : Heap), (∀ a : Nat, a < H.size → ¬ A a → H1[a]? = H[a]?) → TB A U H → TB A U H1) ∧ ∀ (A B : Nat → Prop) (U : State) (H : Heap), (∀ q, B q → A q) → TB A U H → TB B U H
def kr_P (D : va_G) (cl : List vw_C) (tys : List (ClassId × FieldType)) (TB : (Nat → Prop) → State → Heap → Prop) (av : List Value) (ws : va_W) (sz : Nat) : Array Value → State → Prop := va_Pc av (fun U => U.heap.size = sz ∧ va_P D cl ws U.heap ∧ va_K D cl tys U ∧ va_D (fun _ => True) ws ∧ TB (va_A ws sz) U U.heap)
def kr_B {S : Type} (D : va_G) (cl : List vw_C) (tys : List (ClassId × FieldType)) (wf : S → va_W) (A : Nat → Prop) : S → State → Prop := fun u t => va_P D cl (wf u) t.heap ∧ va_K D cl tys t ∧ va_D A (wf u)
theorem kr_free {A : Nat → Prop} {ws : va_W} {H0 H : Heap} {locs : List Loc} (hD : va_D A ws) (hS : va_S A H0 H locs) (hA : ∀ q, H0.size ≤ q → A q) : ∀ q, va_A ws H.size q → A q := by
  intro q h
  rcases h with ⟨k, e, h⟩ | h
  · exact hD.2 k (q, e) h
  · exact hA q (Nat.le_trans hS.1 h)
theorem kr_blind {D : va_G} {cl : List vw_C} {tys : List (ClassId × FieldType)} {TB : (Nat → Prop) → State → Heap → Prop} (hT : kr_ok TB) (av : List Value) (ws : va_W) (sz : Nat) : FrameBlind (kr_P D cl tys TB av ws sz) := by
  intro a U g mk q
  obtain ⟨q0, q1, qP, qK, qD, qT⟩ := q
  exact ⟨q0, q1, qP, va_K.moved (u := U) (U := U.calling g mk a) (Vm.Alike.refl U.vm) qK, qD, hT.1.1 _ U (U.calling g mk a) _ rfl qT⟩
theorem kr_est {D : va_G} {cl : List vw_C} {tys : List (ClassId × FieldType)} {TB : (Nat → Prop) → State → Heap → Prop} {s U : State} {H : Heap} {A : Nat → Prop} {ws : va_W} {locs : List Loc} (hT : kr_ok TB) (av : List Value) (hP : va_P D cl ws H) (hK : va_K D cl tys s) (hD : va_D A ws) (hB : TB A s s.heap) (hS : va_S A s.heap H locs) (hA : ∀ q, s.heap.size ≤ q → A q) (hU : U.heap = H) (hW : s.WarmedH U.vm) : kr_P D cl tys TB av ws H.size av.toArray U := by
  refine ⟨rfl, by rw [hU], by rw [hU]; exact hP, va_K.moved hW.alike hK, hD.weaken (fun _ _ _ _ => trivial), ?_⟩
  rw [hU]
  exact hT.1.2 _ s U _ hW (hT.2.2 A _ s H (kr_free hD hS hA) (hT.2.1 A s s.heap H hS.2.1 hB))
theorem kr_preS {D : va_G} {cl : List vw_C} {tys : List (ClassId × FieldType)} {TB : (Nat → Prop) → State → Heap → Prop} {s : State} {H : Heap} {A : Nat → Prop} {ws : va_W} {locs : List Loc} (hT : kr_ok TB) (av : List Value) (hP : va_P D cl ws H) (hK : va_K D cl tys s) (hD : va_D A ws) (hB : TB A s s.heap) (hS : va_S A s.heap H locs) (hA : ∀ q, s.heap.size ≤ q → A q) : PreS s H (kr_P D cl tys TB av ws H.size) av :=
  ⟨kr_blind hT av ws H.size, fun U hU hW => kr_est hT av hP hK hD hB hS hA hU hW⟩
theorem kr_preV {D : va_G} {cl : List vw_C} {tys : List (ClassId × FieldType)} {TB : (Nat → Prop) → State → Heap → Prop} {s : State} {H : Heap} {A : Nat → Prop} {ws : va_W} {locs : List Loc} (hT : kr_ok TB) {b : Nat} (av : List Value) (hP : va_P D cl ws H) (hK : va_K D cl tys s) (hD : va_D A ws) (hB : TB A s s.heap) (hS : va_S A s.heap H locs) (hA : ∀ q, s.heap.size ≤ q → A q) {C : String} {q : vw_C} {q0 ci : Nat} {fs : List Value} (hc : cl[ci]? = some q) (hq : q.1 = C) (he : ws[q0]? = some (b, .inr (ci, fs))) : PreV s H C b (kr_P D cl tys TB (.ref b :: av) ws H.size) av :=
  ⟨kr_blind hT _ ws H.size, hq ▸ va_recv hK hP hc he, fun U hU hW => kr_est hT (.ref b :: av) hP hK hD hB hS hA hU hW⟩
section KRC
variable {p : Program} {l : Launch} {e : Env} {R : Room} {s : State} {m : MethodId} {args : Array Value} {below : List Frame} {meth : Method} {c : Code} {H : Heap} {locs : List Loc} {cells slots : Nat} {Q : State → Prop}
variable {pc : Nat} {ls : Array Slot} {rest st0 : List Value} {D : va_G} {cl : List vw_C} {A : Nat → Prop} {tys : List (ClassId × FieldType)} {ws : va_W} {a : Array Value} {mc ms : Nat}
theorem kr_callv {S : Type} {post : S → Prop} {wf : S → va_W} (hr : va_Run p l e R s m args below meth c H locs cells slots mc ms (F0 m pc ls st0) rest (va_Qv post (kr_B D cl tys wf (va_A ws H.size)) (va_A ws H.size) a) (va_A ws H.size)) (hD : va_D A ws) (hS : va_S A s.heap H locs) (hA : ∀ q, s.heap.size ≤ q → A q) (kk : ∀ (u : S) (H1 : Heap) (locs1 : List Loc), post u → va_P D cl (wf u) H1 → va_D A (wf u) → va_S A s.heap H1 locs1 → W p l e R s m args below meth c H1 locs1 (cells + mc) (slots + ms) Q (F0 m (pc + 3) ls (rest))) : W p l e R s m args below meth c H locs cells slots Q (F0 m pc ls st0) :=
  va_callv hr hS (fun q _ h => kr_free hD hS hA q h) (kr_free hD hS hA) (fun u t H1 locs1 ht hvm hw hB _ _ hS1 => kk u H1 locs1 hw (ht ▸ hB.1) (hB.2.2.weaken (fun _ x _ h => kr_free hD hS hA x.1 h)) hS1)
theorem kr_calli {S : Type} {post : Int32 → S → Prop} {wf : S → va_W} (hr : va_Run p l e R s m args below meth c H locs cells slots mc ms (F0 m pc ls st0) rest (va_Qi post (kr_B D cl tys wf (va_A ws H.size)) (va_A ws H.size) a) (va_A ws H.size)) (hD : va_D A ws) (hS : va_S A s.heap H locs) (hA : ∀ q, s.heap.size ≤ q → A q) (kk : ∀ (r : Int32) (u : S) (H1 : Heap) (locs1 : List Loc), post r u → va_P D cl (wf u) H1 → va_D A (wf u) → va_S A s.heap H1 locs1 → W p l e R s m args below meth c H1 locs1 (cells + mc) (slots + ms) Q (F0 m (pc + 3) ls (.int r :: rest))) : W p l e R s m args below meth c H locs cells slots Q (F0 m pc ls st0) :=
  va_calli hr hS (fun q _ h => kr_free hD hS hA q h) (kr_free hD hS hA) (fun r u t H1 locs1 ht hvm hw hB _ _ hS1 => kk r u H1 locs1 hw (ht ▸ hB.1) (hB.2.2.weaken (fun _ x _ h => kr_free hD hS hA x.1 h)) hS1)
theorem kr_calll {S : Type} {post : Int64 → S → Prop} {wf : S → va_W} (hr : va_Run p l e R s m args below meth c H locs cells slots mc ms (F0 m pc ls st0) rest (va_Ql post (kr_B D cl tys wf (va_A ws H.size)) (va_A ws H.size) a) (va_A ws H.size)) (hD : va_D A ws) (hS : va_S A s.heap H locs) (hA : ∀ q, s.heap.size ≤ q → A q) (kk : ∀ (r : Int64) (u : S) (H1 : Heap) (locs1 : List Loc), post r u → va_P D cl (wf u) H1 → va_D A (wf u) → va_S A s.heap H1 locs1 → W p l e R s m args below meth c H1 locs1 (cells + mc) (slots + ms) Q (F0 m (pc + 3) ls (.long r :: rest))) : W p l e R s m args below meth c H locs cells slots Q (F0 m pc ls st0) :=
  va_calll hr hS (fun q _ h => kr_free hD hS hA q h) (kr_free hD hS hA) (fun r u t H1 locs1 ht hvm hw hB _ _ hS1 => kk r u H1 locs1 hw (ht ▸ hB.1) (hB.2.2.weaken (fun _ x _ h => kr_free hD hS hA x.1 h)) hS1)
end KRC
end
section
/-! worlds: the class (14 cells) and the reference (15 cells) -/
/-- the classes of arrays: of rows, of ints, of longs -/
def kw_T (ct : Nat → ClassId) : List (ClassId × FieldType) := [(ct 0, .array .long), (ct 1, .int), (ct 2, .long)]
theorem kw_updP (Pl : Nat → Nat) (k p : Nat) : upd (fun j => nI (Pl j)) k (nI p) = fun j => nI (va_up Pl k p j) := by
  funext j
  by_cases h : j = k
  · subst h
    simp [upd, va_up]
  · simp [upd, va_up, h]
theorem kw_self {α : Type} (M : Nat → α) (k : Nat) : va_up M k (M k) = M := by
  funext j
  by_cases h : j = k
  · subst h
    simp [va_up]
  · simp [va_up, h]
/-- KeccakLanes: lanes, places, columns, moved; the rows of the nine states -/
def kw_X (ct : Nat → ClassId) (ad : Nat → Nat) (M : Nat → Nat → Int64) (Pl : Nat → Nat) (C V : Nat → Int64) : va_W :=
  [(ad 0, .inr (0, [.ref (ad 1), .ref (ad 2), .ref (ad 3), .ref (ad 4)])), (ad 1, .inl (ct 0, 9, .inr (.inr (.inr (.inr (fun i => if i < 9 then some (ad (5 + i)) else none)))))), (ad 2, .inl (ct 1, 9, .inl (fun j => nI (Pl j)))), (ad 3, .inl (ct 2, 5, .inr (.inl C))), (ad 4, .inl (ct 2, 25, .inr (.inl V))), (ad 5, .inl (ct 2, 25, .inr (.inl (M 0)))), (ad 6, .inl (ct 2, 25, .inr (.inl (M 1)))), (ad 7, .inl (ct 2, 25, .inr (.inl (M 2)))), (ad 8, .inl (ct 2, 25, .inr (.inl (M 3)))), (ad 9, .inl (ct 2, 25, .inr (.inl (M 4)))), (ad 10, .inl (ct 2, 25, .inr (.inl (M 5)))), (ad 11, .inl (ct 2, 25, .inr (.inl (M 6)))), (ad 12, .inl (ct 2, 25, .inr (.inl (M 7)))), (ad 13, .inl (ct 2, 25, .inr (.inl (M 8))))]
theorem kw_Xrow (ct : Nat → ClassId) (ad : Nat → Nat) (M : Nat → Nat → Int64) (Pl : Nat → Nat) (C V : Nat → Int64) : ∀ {k : Nat}, k < 9 → (kw_X ct ad M Pl C V)[5 + k]? = some (ad (5 + k), .inl (ct 2, 25, .inr (.inl (M k))))
  | 0, _ => rfl
  | 1, _ => rfl
  | 2, _ => rfl
  | 3, _ => rfl
  | 4, _ => rfl
  | 5, _ => rfl
  | 6, _ => rfl
  | 7, _ => rfl
  | 8, _ => rfl
  | n + 9, h => absurd h (by omega)
theorem kw_Xset (ct : Nat → ClassId) (ad : Nat → Nat) (M : Nat → Nat → Int64) (Pl : Nat → Nat) (C V f : Nat → Int64) : ∀ {k : Nat}, k < 9 → (kw_X ct ad M Pl C V).set (5 + k) (ad (5 + k), .inl (ct 2, 25, .inr (.inl f))) = kw_X ct ad (va_up M k f) Pl C V
  | 0, _ => rfl
  | 1, _ => rfl
  | 2, _ => rfl
  | 3, _ => rfl
  | 4, _ => rfl
  | 5, _ => rfl
  | 6, _ => rfl
  | 7, _ => rfl
  | 8, _ => rfl
  | n + 9, h => absurd h (by omega)
theorem kw_Xrg {ct : Nat → ClassId} {ad : Nat → Nat} {M : Nat → Nat → Int64} {Pl : Nat → Nat} {C V g : Nat → Int64} {k : Nat} (hk : k < 9) : (kw_X ct ad (va_up M k g) Pl C V)[5 + k]? = some (ad (5 + k), .inl (ct 2, 25, .inr (.inl g))) := by
  have h := kw_Xrow ct ad (va_up M k g) Pl C V hk
  rw [va_up_self] at h
  exact h
theorem kw_Xsg {ct : Nat → ClassId} {ad : Nat → Nat} {M : Nat → Nat → Int64} {Pl : Nat → Nat} {C V g : Nat → Int64} {k : Nat} (hk : k < 9) (f : Nat → Int64) : (kw_X ct ad (va_up M k g) Pl C V).set (5 + k) (ad (5 + k), .inl (ct 2, 25, .inr (.inl f))) = kw_X ct ad (va_up M k f) Pl C V := by
  rw [kw_Xset ct ad (va_up M k g) Pl C V f hk, bx_uu]
theorem kw_XsP {ct : Nat → ClassId} {ad : Nat → Nat} {M : Nat → Nat → Int64} {Pl : Nat → Nat} {C V : Nat → Int64} (k p : Nat) : (kw_X ct ad M Pl C V).set 2 (ad 2, .inl (ct 1, 9, .inl (upd (fun j => nI (Pl j)) k (nI p)))) = kw_X ct ad M (va_up Pl k p) C V := by
  rw [kw_updP]
  rfl
/-- KeccakLanesModel: failed, states, places, lanes, column, moved, constants; the rows of the eight states -/
def kw_M (ct : Nat → ClassId) (ad : Nat → Nat) (F : Int32) (M : Nat → Nat → Int64) (Pl : Nat → Nat) (L C V K : Nat → Int64) : va_W :=
  [(ad 0, .inr (1, [.int F, .ref (ad 1), .ref (ad 2), .ref (ad 3), .ref (ad 4), .ref (ad 5), .ref (ad 6)])), (ad 1, .inl (ct 0, 8, .inr (.inr (.inr (.inr (fun i => if i < 8 then some (ad (7 + i)) else none)))))), (ad 2, .inl (ct 1, 8, .inl (fun j => nI (Pl j)))), (ad 3, .inl (ct 2, 25, .inr (.inl L))), (ad 4, .inl (ct 2, 5, .inr (.inl C))), (ad 5, .inl (ct 2, 25, .inr (.inl V))), (ad 6, .inl (ct 2, 24, .inr (.inl K))), (ad 7, .inl (ct 2, 25, .inr (.inl (M 0)))), (ad 8, .inl (ct 2, 25, .inr (.inl (M 1)))), (ad 9, .inl (ct 2, 25, .inr (.inl (M 2)))), (ad 10, .inl (ct 2, 25, .inr (.inl (M 3)))), (ad 11, .inl (ct 2, 25, .inr (.inl (M 4)))), (ad 12, .inl (ct 2, 25, .inr (.inl (M 5)))), (ad 13, .inl (ct 2, 25, .inr (.inl (M 6)))), (ad 14, .inl (ct 2, 25, .inr (.inl (M 7))))]
theorem kw_Mrow (ct : Nat → ClassId) (ad : Nat → Nat) (F : Int32) (M : Nat → Nat → Int64) (Pl : Nat → Nat) (L C V K : Nat → Int64) : ∀ {k : Nat}, k < 8 → (kw_M ct ad F M Pl L C V K)[7 + k]? = some (ad (7 + k), .inl (ct 2, 25, .inr (.inl (M k))))
  | 0, _ => rfl
  | 1, _ => rfl
  | 2, _ => rfl
  | 3, _ => rfl
  | 4, _ => rfl
  | 5, _ => rfl
  | 6, _ => rfl
  | 7, _ => rfl
  | n + 8, h => absurd h (by omega)
theorem kw_Mset (ct : Nat → ClassId) (ad : Nat → Nat) (F : Int32) (M : Nat → Nat → Int64) (Pl : Nat → Nat) (L C V K f : Nat → Int64) : ∀ {k : Nat}, k < 8 → (kw_M ct ad F M Pl L C V K).set (7 + k) (ad (7 + k), .inl (ct 2, 25, .inr (.inl f))) = kw_M ct ad F (va_up M k f) Pl L C V K
  | 0, _ => rfl
  | 1, _ => rfl
  | 2, _ => rfl
  | 3, _ => rfl
  | 4, _ => rfl
  | 5, _ => rfl
  | 6, _ => rfl
  | 7, _ => rfl
  | n + 8, h => absurd h (by omega)
theorem kw_Mrg {ct : Nat → ClassId} {ad : Nat → Nat} {F : Int32} {M : Nat → Nat → Int64} {Pl : Nat → Nat} {L C V K g : Nat → Int64} {k : Nat} (hk : k < 8) : (kw_M ct ad F (va_up M k g) Pl L C V K)[7 + k]? = some (ad (7 + k), .inl (ct 2, 25, .inr (.inl g))) := by
  have h := kw_Mrow ct ad F (va_up M k g) Pl L C V K hk
  rw [va_up_self] at h
  exact h
theorem kw_Msg {ct : Nat → ClassId} {ad : Nat → Nat} {F : Int32} {M : Nat → Nat → Int64} {Pl : Nat → Nat} {L C V K g : Nat → Int64} {k : Nat} (hk : k < 8) (f : Nat → Int64) : (kw_M ct ad F (va_up M k g) Pl L C V K).set (7 + k) (ad (7 + k), .inl (ct 2, 25, .inr (.inl f))) = kw_M ct ad F (va_up M k f) Pl L C V K := by
  rw [kw_Mset ct ad F (va_up M k g) Pl L C V K f hk, bx_uu]
theorem kw_MsP {ct : Nat → ClassId} {ad : Nat → Nat} {F : Int32} {M : Nat → Nat → Int64} {Pl : Nat → Nat} {L C V K : Nat → Int64} (k p : Nat) : (kw_M ct ad F M Pl L C V K).set 2 (ad 2, .inl (ct 1, 8, .inl (upd (fun j => nI (Pl j)) k (nI p)))) = kw_M ct ad F M (va_up Pl k p) L C V K := by
  rw [kw_updP]
  rfl
/-- what the class's statics hold, and what a throw needs of the start -/
def kw_B (tb : Nat → Nat) (A : Nat → Prop) (U : State) (H : Heap) : Prop :=
  (va_Z RX0 "TURNS" "[I" (.ref (tb 0)) A U H ∧ va_T .int (tb 0) 25 (fun j => .int (nI (kk_tn j))) A U H) ∧ (va_Z RX0 "TARGETS" "[I" (.ref (tb 1)) A U H ∧ va_T .int (tb 1) 25 (fun j => .int (nI (kk_tg j))) A U H) ∧ (va_Z RX0 "CONSTANTS" "[J" (.ref (tb 2)) A U H ∧ va_T .long (tb 2) 24 (fun j => .long (kk_rc j)) A U H) ∧ vx_Zq Bundle.tN "UNASSIGNED_STACK" Bundle.steD A U H ∧ vx_Zq Bundle.tN "SUPPRESSED_SENTINEL" Bundle.listD A U H ∧ vk_R RX0 49 "a number is out of range" (tb 3) U ∧ va_Nw (.castable "java/lang/IllegalArgumentException" "java/lang/IllegalArgumentException") U ∧ va_Nw (.declares (Bundle.initS "java/lang/RuntimeException")) U ∧ va_Nw (.declares (Bundle.initS "java/lang/Exception")) U ∧ va_Nw (.declares (Bundle.initS Bundle.tN)) U
theorem kw_decl {x : MethodName} {u U : State} (hvm : u.vm.Alike U.vm) (h : va_Nw (.declares x) u) : va_Nw (.declares x) U := by
  have e := Cond.onTables_vm (A := #[]) (A' := #[]) (U := u) (U' := U) U.vm (.declares x) rfl
  have hU : U.setVm U.vm = U := rfl
  rw [hU] at e
  unfold va_Nw
  rw [← e, Cond.declares_setVm hvm]
  exact h
theorem kw_cast {a b : String} {u U : State} (hvm : u.vm.Alike U.vm) (h : va_Nw (.castable a b) u) : va_Nw (.castable a b) U := by
  have e := Cond.onTables_vm (A := #[]) (A' := #[]) (U := u) (U' := U) U.vm (.castable a b) rfl
  have hU : U.setVm U.vm = U := rfl
  rw [hU] at e
  unfold va_Nw
  rw [← e, Cond.castable_setVm hvm]
  exact h
theorem kw_Bok (tb : Nat → Nat) : kr_ok (kw_B tb) := by
  refine ⟨⟨fun A u U H hv h => ?_, fun A u U H hW h => ?_⟩, fun A U H H1 hq h => ?_, fun A B U H hAB h => ?_⟩
  · obtain ⟨⟨a1, a2⟩, ⟨b1, b2⟩, ⟨c1, c2⟩, d1, d2, d3, d4, d5, d6, d7⟩ := h
    have ha : u.vm.Alike U.vm := by rw [hv]; exact Vm.Alike.refl _
    exact ⟨⟨a1.moved ha, a2.moved ha⟩, ⟨b1.moved ha, b2.moved ha⟩, ⟨c1.moved ha, c2.moved ha⟩, d1.moved ha, d2.moved ha, vk_R.same hv d3, kw_cast ha d4, kw_decl ha d5, kw_decl ha d6, kw_decl ha d7⟩
  · obtain ⟨⟨a1, a2⟩, ⟨b1, b2⟩, ⟨c1, c2⟩, d1, d2, d3, d4, d5, d6, d7⟩ := h
    have ha : u.vm.Alike U.vm := hW.alike
    exact ⟨⟨a1.moved ha, a2.moved ha⟩, ⟨b1.moved ha, b2.moved ha⟩, ⟨c1.moved ha, c2.moved ha⟩, d1.moved ha, d2.moved ha, vk_R.warm hW d3, kw_cast ha d4, kw_decl ha d5, kw_decl ha d6, kw_decl ha d7⟩
  · obtain ⟨⟨a1, a2⟩, ⟨b1, b2⟩, ⟨c1, c2⟩, d1, d2, d3, d4, d5, d6, d7⟩ := h
    exact ⟨⟨a1.kept hq, a2.kept hq⟩, ⟨b1.kept hq, b2.kept hq⟩, ⟨c1.kept hq, c2.kept hq⟩, d1.kept hq, d2.kept hq, d3, d4, d5, d6, d7⟩
  · obtain ⟨⟨a1, a2⟩, ⟨b1, b2⟩, ⟨c1, c2⟩, d1, d2, d3, d4, d5, d6, d7⟩ := h
    exact ⟨⟨a1.narrow hAB, a2.narrow hAB⟩, ⟨b1.narrow hAB, b2.narrow hAB⟩, ⟨c1.narrow hAB, c2.narrow hAB⟩, d1.narrow hAB, d2.narrow hAB, d3, d4, d5, d6, d7⟩
/-- nothing asked of the start -/
def kw_N (_ : Nat → Prop) (_ : State) (_ : Heap) : Prop := True
theorem kw_Nok : kr_ok kw_N := ⟨⟨fun _ _ _ _ _ h => h, fun _ _ _ _ _ h => h⟩, fun _ _ _ _ _ h => h, fun _ _ _ _ _ h => h⟩
theorem kw_good : ∀ w ∈ (vx_atS RX0 51 "java/lang/IllegalArgumentException" ["java/lang/RuntimeException", "java/lang/Exception"]).filter (fun w => !goodWord w), w ∈ [Cond.castable "java/lang/IllegalArgumentException" "java/lang/IllegalArgumentException", Cond.declares (Bundle.initS "java/lang/RuntimeException"), Cond.declares (Bundle.initS "java/lang/Exception"), Cond.declares (Bundle.initS Bundle.tN)] := by decide +kernel
end
section
/-! KeccakLanes: the leaves: joinByte, columnSum, turnedLeft, bytesTurnedRound -/
set_option maxHeartbeats 4000000 in
set_option maxRecDepth 100000 in
theorem kc_joinByte (l : Launch) (D : va_G) (ct : Nat → ClassId) (ad tb : Nat → Nat) (M : Nat → Nat → Int64) (Pl : Nat → Nat) (C V : Nat → Int64) (sz : Nat) (g : Nat → Int64) {k q : Nat} (hk : k < 9) (hq0 : q < 136) (b : Int32) : Met l yX0_joinByte wsX0_joinByte ({ frames := 0, cells := 0, slots := 0, locals := 0 }) (kr_P D vwCl (kw_T ct) (kw_B tb) [.ref (ad (5 + k)), .int (nI q), .int b] (kw_X ct ad (va_up M k g) Pl C V) sz) (va_Qv (S := Unit) (fun _ => True) (kr_B D vwCl (kw_T ct) (fun _ => kw_X ct ad (va_up M k (kk_join g q (kk_bt b))) Pl C V) (va_A (kw_X ct ad (va_up M k g) Pl C V) sz)) (va_A (kw_X ct ad (va_up M k g) Pl C V) sz)) 0 0 (va_A (kw_X ct ad (va_up M k g) Pl C V) sz) := by
  refine Met.ofW (cc := cX0_joinByte) (maxL := 3) (ret := none) (by decide) rfl ?_
  intro p e s m args below meth c s₁ B hml hv
  obtain ⟨rfl, hsz, hP, hK, hD0, hB⟩ := hv
  have hx := B.exec
  have hb := B.bytes
  have hr := B.returns
  have hts := atoms_spec (ws := wsX0_joinByte) B.pre
  have hown : s.vm.findClass RX0 = some m.cls := findClass_of_methodNamed B.named
  have hlocks := B.notSynchronized
  subst hsz
  have hD := hD0.self (sz := s.heap.size)
  generalize hAe : va_A (kw_X ct ad (va_up M k g) Pl C V) s.heap.size = A at hD hB ⊢
  have hA : ∀ q : Nat, s.heap.size ≤ q → A q := fun q h => by rw [← hAe]; exact Or.inr h
  have hS : va_S A s.heap s.heap [] := va_S.rf
  have hl := lv_entry ([.ref (ad (5 + k)), .int (nI q), .int b]) (n := 3) (Nat.le_of_ble_eq_true rfl)
  rw [lg_entry_eq]
  generalize (lg_sl ([.ref (ad (5 + k)), .int (nI q), .int b]) ++ List.replicate (3 - (lg_sl ([.ref (ad (5 + k)), .int (nI q), .int b])).length) Slot.unset).toArray = ls at hl ⊢
  have hl : lv_has ls 3 [(0, .ref (ad (5 + k))), (1, .int (nI q)), (2, .int b)] := hl
  refine lv_aload_n hx hb dX0_joinByte_0 rfl (lv_at hl 0 rfl) ?_
  refine lv_iload_n hx hb dX0_joinByte_1 rfl (lv_at hl 1 rfl) ?_
  refine lv_bipush (v := nI 8) hx hb dX0_joinByte_2 (by decide +kernel) ?_
  refine kr_idiv hx hb (by omega) (by omega) (by omega) dX0_joinByte_4 ?_
  refine lv_dup2_11 hx hb dX0_joinByte_5 rfl rfl ?_
  refine kr_lald hx hb hK hP (5 + k) 2 (kw_Xrg hk) rfl (n := q / 8) (by omega) (by omega) dX0_joinByte_6 ?_
  refine lv_iload_n hx hb dX0_joinByte_7 rfl (lv_at hl 2 rfl) ?_
  refine lv_i2l hx hb dX0_joinByte_8 rfl ?_
  refine lv_ldc2 (v := 255) hx hb hown (hts (.constantLong RX0 60 255) (by decide +kernel)) dX0_joinByte_9 ?_
  refine lv_land hx hb dX0_joinByte_12 ?_
  refine lv_bipush (v := nI 8) hx hb dX0_joinByte_13 (by decide +kernel) ?_
  refine lv_iload_n hx hb dX0_joinByte_15 rfl (lv_at hl 1 rfl) ?_
  refine lv_bipush (v := nI 8) hx hb dX0_joinByte_16 (by decide +kernel) ?_
  refine kr_irem hx hb (by omega) (by omega) (by omega) dX0_joinByte_18 ?_
  refine kr_imul hx hb dX0_joinByte_19 ?_
  refine lv_lshl hx hb dX0_joinByte_20 rfl ?_
  refine lv_lxor hx hb dX0_joinByte_21 ?_
  refine kr_last (w := kw_X ct ad (va_up M k (vp_updL g (q / 8) ((g (q / 8)) ^^^ ((b.toInt64 &&& 255) <<< ((nI (8 * (q % 8))).toInt64 &&& 63))))) Pl C V) hx hb hK hP hD hS (5 + k) 2 (kw_Xrg hk) rfl (n := q / 8) (by omega) (by omega) (kw_Xsg hk _) dX0_joinByte_22 (fun H locs hP hD hS => ?_)
  exact W.vret hx hb hr (fun t ht hW => ⟨⟨(), rfl, trivial, by rw [ht]; exact hP, va_K.moved hW.alike hK, hD⟩, hS.F ht⟩) hS.2.2 dX0_joinByte_23
set_option maxHeartbeats 4000000 in
set_option maxRecDepth 100000 in
theorem kc_columnSum (l : Launch) (D : va_G) (ct : Nat → ClassId) (ad tb : Nat → Nat) (M : Nat → Nat → Int64) (Pl : Nat → Nat) (C V : Nat → Int64) (sz : Nat) (g : Nat → Int64) {k x : Nat} (hk : k < 9) (hx0 : x < 5) : Met l yX0_columnSum wsX0_columnSum ({ frames := 0, cells := 0, slots := 0, locals := 0 }) (kr_P D vwCl (kw_T ct) (kw_B tb) [.ref (ad (5 + k)), .int (nI x)] (kw_X ct ad (va_up M k g) Pl C V) sz) (va_Ql (S := Unit) (fun r _ => r = kk_col g x) (kr_B D vwCl (kw_T ct) (fun _ => kw_X ct ad (va_up M k g) Pl C V) (va_A (kw_X ct ad (va_up M k g) Pl C V) sz)) (va_A (kw_X ct ad (va_up M k g) Pl C V) sz)) 0 0 (va_A (kw_X ct ad (va_up M k g) Pl C V) sz) := by
  refine Met.ofW (cc := cX0_columnSum) (maxL := 2) (ret := (some .long)) (by decide) rfl ?_
  intro p e s m args below meth c s₁ B hml hv
  obtain ⟨rfl, hsz, hP, hK, hD0, hB⟩ := hv
  have hx := B.exec
  have hb := B.bytes
  have hr := B.returns
  have hts := atoms_spec (ws := wsX0_columnSum) B.pre
  have hown : s.vm.findClass RX0 = some m.cls := findClass_of_methodNamed B.named
  have hlocks := B.notSynchronized
  subst hsz
  have hD := hD0.self (sz := s.heap.size)
  generalize hAe : va_A (kw_X ct ad (va_up M k g) Pl C V) s.heap.size = A at hD hB ⊢
  have hA : ∀ q : Nat, s.heap.size ≤ q → A q := fun q h => by rw [← hAe]; exact Or.inr h
  have hS : va_S A s.heap s.heap [] := va_S.rf
  have hl := lv_entry ([.ref (ad (5 + k)), .int (nI x)]) (n := 2) (Nat.le_of_ble_eq_true rfl)
  rw [lg_entry_eq]
  generalize (lg_sl ([.ref (ad (5 + k)), .int (nI x)]) ++ List.replicate (2 - (lg_sl ([.ref (ad (5 + k)), .int (nI x)])).length) Slot.unset).toArray = ls at hl ⊢
  have hl : lv_has ls 2 [(0, .ref (ad (5 + k))), (1, .int (nI x))] := hl
  refine lv_aload_n hx hb dX0_columnSum_0 rfl (lv_at hl 0 rfl) ?_
  refine lv_iload_n hx hb dX0_columnSum_1 rfl (lv_at hl 1 rfl) ?_
  refine kr_lald hx hb hK hP (5 + k) 2 (kw_Xrg hk) rfl (n := x) (by omega) (by omega) dX0_columnSum_2 ?_
  refine lv_aload_n hx hb dX0_columnSum_3 rfl (lv_at hl 0 rfl) ?_
  refine lv_iload_n hx hb dX0_columnSum_4 rfl (lv_at hl 1 rfl) ?_
  refine lv_iconst (v := nI 5) hx hb dX0_columnSum_5 rfl ?_
  refine kr_iadd hx hb dX0_columnSum_6 ?_
  refine kr_lald hx hb hK hP (5 + k) 2 (kw_Xrg hk) rfl (n := x + 5) (by omega) (by omega) dX0_columnSum_7 ?_
  refine lv_lxor hx hb dX0_columnSum_8 ?_
  refine lv_aload_n hx hb dX0_columnSum_9 rfl (lv_at hl 0 rfl) ?_
  refine lv_iload_n hx hb dX0_columnSum_10 rfl (lv_at hl 1 rfl) ?_
  refine lv_bipush (v := nI 10) hx hb dX0_columnSum_11 (by decide +kernel) ?_
  refine kr_iadd hx hb dX0_columnSum_13 ?_
  refine kr_lald hx hb hK hP (5 + k) 2 (kw_Xrg hk) rfl (n := x + 10) (by omega) (by omega) dX0_columnSum_14 ?_
  refine lv_lxor hx hb dX0_columnSum_15 ?_
  refine lv_aload_n hx hb dX0_columnSum_16 rfl (lv_at hl 0 rfl) ?_
  refine lv_iload_n hx hb dX0_columnSum_17 rfl (lv_at hl 1 rfl) ?_
  refine lv_bipush (v := nI 15) hx hb dX0_columnSum_18 (by decide +kernel) ?_
  refine kr_iadd hx hb dX0_columnSum_20 ?_
  refine kr_lald hx hb hK hP (5 + k) 2 (kw_Xrg hk) rfl (n := x + 15) (by omega) (by omega) dX0_columnSum_21 ?_
  refine lv_lxor hx hb dX0_columnSum_22 ?_
  refine lv_aload_n hx hb dX0_columnSum_23 rfl (lv_at hl 0 rfl) ?_
  refine lv_iload_n hx hb dX0_columnSum_24 rfl (lv_at hl 1 rfl) ?_
  refine lv_bipush (v := nI 20) hx hb dX0_columnSum_25 (by decide +kernel) ?_
  refine kr_iadd hx hb dX0_columnSum_27 ?_
  refine kr_lald hx hb hK hP (5 + k) 2 (kw_Xrg hk) rfl (n := x + 20) (by omega) (by omega) dX0_columnSum_28 ?_
  refine lv_lxor hx hb dX0_columnSum_29 ?_
  exact W.lret hx hb hr (fun t ht hW => ⟨⟨_, (), rfl, rfl, by rw [ht]; exact hP, va_K.moved hW.alike hK, hD⟩, hS.F ht⟩) hS.2.2 dX0_columnSum_30
set_option maxHeartbeats 4000000 in
set_option maxRecDepth 100000 in
theorem kc_turnedLeft (l : Launch) (D : va_G) (ct : Nat → ClassId) (ad tb : Nat → Nat) (M : Nat → Nat → Int64) (Pl : Nat → Nat) (C V : Nat → Int64) (sz : Nat) (v : Int64) (n : Int32) : Met l yX0_turnedLeft wsX0_turnedLeft ({ frames := 0, cells := 0, slots := 0, locals := 0 }) (kr_P D vwCl (kw_T ct) (kw_B tb) [.long v, .int n] (kw_X ct ad M Pl C V) sz) (va_Ql (S := Unit) (fun r _ => r = kk_tl v n) (kr_B D vwCl (kw_T ct) (fun _ => kw_X ct ad M Pl C V) (va_A (kw_X ct ad M Pl C V) sz)) (va_A (kw_X ct ad M Pl C V) sz)) 0 0 (va_A (kw_X ct ad M Pl C V) sz) := by
  refine Met.ofW (cc := cX0_turnedLeft) (maxL := 3) (ret := (some .long)) (by decide) rfl ?_
  intro p e s m args below meth c s₁ B hml hv
  obtain ⟨rfl, hsz, hP, hK, hD0, hB⟩ := hv
  have hx := B.exec
  have hb := B.bytes
  have hr := B.returns
  have hts := atoms_spec (ws := wsX0_turnedLeft) B.pre
  have hown : s.vm.findClass RX0 = some m.cls := findClass_of_methodNamed B.named
  have hlocks := B.notSynchronized
  subst hsz
  have hD := hD0.self (sz := s.heap.size)
  generalize hAe : va_A (kw_X ct ad M Pl C V) s.heap.size = A at hD hB ⊢
  have hA : ∀ q : Nat, s.heap.size ≤ q → A q := fun q h => by rw [← hAe]; exact Or.inr h
  have hS : va_S A s.heap s.heap [] := va_S.rf
  have hl := lv_entry ([.long v, .int n]) (n := 3) (Nat.le_of_ble_eq_true rfl)
  rw [lg_entry_eq]
  generalize (lg_sl ([.long v, .int n]) ++ List.replicate (3 - (lg_sl ([.long v, .int n])).length) Slot.unset).toArray = ls at hl ⊢
  have hl : lv_has ls 3 [(0, .long v), (2, .int n)] := hl
  refine lv_lload_n hx hb dX0_turnedLeft_0 rfl (lv_at hl 0 rfl) ?_
  refine lv_iload_n hx hb dX0_turnedLeft_1 rfl (lv_at hl 1 rfl) ?_
  refine lv_lshl hx hb dX0_turnedLeft_2 rfl ?_
  refine lv_lload_n hx hb dX0_turnedLeft_3 rfl (lv_at hl 0 rfl) ?_
  refine lv_bipush (v := nI 64) hx hb dX0_turnedLeft_4 (by decide +kernel) ?_
  refine lv_iload_n hx hb dX0_turnedLeft_6 rfl (lv_at hl 1 rfl) ?_
  refine lv_isub hx hb dX0_turnedLeft_7 ?_
  refine lv_lushr hx hb dX0_turnedLeft_8 rfl ?_
  refine lv_lor hx hb dX0_turnedLeft_9 ?_
  exact W.lret hx hb hr (fun t ht hW => ⟨⟨_, (), rfl, rfl, by rw [ht]; exact hP, va_K.moved hW.alike hK, hD⟩, hS.F ht⟩) hS.2.2 dX0_turnedLeft_10
set_option maxHeartbeats 4000000 in
set_option maxRecDepth 100000 in
theorem kc_bytesTurnedRound (l : Launch) (D : va_G) (ct : Nat → ClassId) (ad tb : Nat → Nat) (M : Nat → Nat → Int64) (Pl : Nat → Nat) (C V : Nat → Int64) (sz : Nat) (v : Int64) : Met l yX0_bytesTurnedRound wsX0_bytesTurnedRound ({ frames := 0, cells := 0, slots := 0, locals := 0 }) (kr_P D vwCl (kw_T ct) (kw_B tb) [.long v] (kw_X ct ad M Pl C V) sz) (va_Ql (S := Unit) (fun r _ => r = kk_rev v 8) (kr_B D vwCl (kw_T ct) (fun _ => kw_X ct ad M Pl C V) (va_A (kw_X ct ad M Pl C V) sz)) (va_A (kw_X ct ad M Pl C V) sz)) 0 0 (va_A (kw_X ct ad M Pl C V) sz) := by
  refine Met.ofW (cc := cX0_bytesTurnedRound) (maxL := 5) (ret := (some .long)) (by decide) rfl ?_
  intro p e s m args below meth c s₁ B hml hv
  obtain ⟨rfl, hsz, hP, hK, hD0, hB⟩ := hv
  have hx := B.exec
  have hb := B.bytes
  have hr := B.returns
  have hts := atoms_spec (ws := wsX0_bytesTurnedRound) B.pre
  have hown : s.vm.findClass RX0 = some m.cls := findClass_of_methodNamed B.named
  have hlocks := B.notSynchronized
  subst hsz
  have hD := hD0.self (sz := s.heap.size)
  generalize hAe : va_A (kw_X ct ad M Pl C V) s.heap.size = A at hD hB ⊢
  have hA : ∀ q : Nat, s.heap.size ≤ q → A q := fun q h => by rw [← hAe]; exact Or.inr h
  have hS : va_S A s.heap s.heap [] := va_S.rf
  have hl := lv_entry ([.long v]) (n := 5) (Nat.le_of_ble_eq_true rfl)
  rw [lg_entry_eq]
  generalize (lg_sl ([.long v]) ++ List.replicate (5 - (lg_sl ([.long v])).length) Slot.unset).toArray = ls at hl ⊢
  have hl : lv_has ls 5 [(0, .long v)] := hl
  refine lv_lconst (v := 0) hx hb dX0_bytesTurnedRound_0 rfl ?_
  refine lv_lstore_n hx hb dX0_bytesTurnedRound_1 rfl hl (Nat.le_of_ble_eq_true rfl) rfl (fun ls hl => ?_)
  have hl : lv_has ls 5 [(2, .long 0), (0, .long v)] := hl
  refine lv_iconst (v := nI 0) hx hb dX0_bytesTurnedRound_2 rfl ?_
  refine lv_istore hx hb dX0_bytesTurnedRound_3 hl (Nat.le_of_ble_eq_true rfl) rfl (fun ls hl => ?_)
  have hl : lv_has ls 5 [(4, .int (nI 0)), (2, .long 0), (0, .long v)] := hl
  have hl : lv_has ls 5 [(4, .int (nI 0)), (2, .long 0), (0, .long v)] := lv_sub hl [0, 1, 2] rfl
  have loop : ∀ (Q : State → Prop), (∀ ls : Array Slot, lv_has ls 5 [(4, .int (nI 8)), (2, .long (kk_rev v 8)), (0, .long v)] → W p l e (headSpec wsX0_bytesTurnedRound ({ frames := 0, cells := 0, slots := 0, locals := 0 })).room s m (([.long v] : List Value).toArray) below meth c s.heap [] 0 0 Q (F0 m 35 ls [])) → ∀ (n i : Nat) (ls : Array Slot), 8 - i < n → i ≤ 8 → lv_has ls 5 [(4, .int (nI i)), (2, .long (kk_rev v i)), (0, .long v)] → W p l e (headSpec wsX0_bytesTurnedRound ({ frames := 0, cells := 0, slots := 0, locals := 0 })).room s m (([.long v] : List Value).toArray) below meth c s.heap [] 0 0 Q (F0 m 5 ls []) := by
    intro Q hend n
    induction n with
    | zero => intro i ls h; omega
    | succ n ih =>
      intro i ls hn hi hl
      refine lv_iload hx hb dX0_bytesTurnedRound_5 (lv_at hl 0 rfl) ?_
      refine lv_bipush (v := nI 8) hx hb dX0_bytesTurnedRound_7 (by decide +kernel) ?_
      refine kr_icmp_ge (tgt := 35) hx hb (by omega) (by omega) dX0_bytesTurnedRound_9 rfl (fun hc => ?_) (fun hc => ?_)
      · obtain rfl : i = 8 := by omega
        exact hend ls hl
      · have hi8 : i < 8 := hc
        refine lv_lload_n hx hb dX0_bytesTurnedRound_12 rfl (lv_at hl 1 rfl) ?_
        refine lv_bipush (v := nI 8) hx hb dX0_bytesTurnedRound_13 (by decide +kernel) ?_
        refine lv_lshl hx hb dX0_bytesTurnedRound_15 rfl ?_
        refine lv_lload_n hx hb dX0_bytesTurnedRound_16 rfl (lv_at hl 2 rfl) ?_
        refine lv_bipush (v := nI 8) hx hb dX0_bytesTurnedRound_17 (by decide +kernel) ?_
        refine lv_iload hx hb dX0_bytesTurnedRound_19 (lv_at hl 0 rfl) ?_
        refine kr_imul hx hb dX0_bytesTurnedRound_21 ?_
        refine lv_lushr hx hb dX0_bytesTurnedRound_22 rfl ?_
        refine lv_ldc2 (v := 255) hx hb hown (hts (.constantLong RX0 60 255) (by decide +kernel)) dX0_bytesTurnedRound_23 ?_
        refine lv_land hx hb dX0_bytesTurnedRound_26 ?_
        refine lv_lor hx hb dX0_bytesTurnedRound_27 ?_
        refine lv_lstore_n hx hb dX0_bytesTurnedRound_28 rfl hl (Nat.le_of_ble_eq_true rfl) rfl (fun ls hl => ?_)
        have hl : lv_has ls 5 [(2, .long (((kk_rev v i) <<< ((nI 8).toInt64 &&& 63)) ||| (((v.toUInt64 >>> ((nI (8 * i)).toInt64.toUInt64 &&& Int64.toUInt64 63)).toInt64) &&& 255))), (4, .int (nI i)), (0, .long v)] := hl
        refine lv_iinc (k := 1) (v := nI (i + 1)) hx hb dX0_bytesTurnedRound_29 hl rfl (nI_add i 1) (Nat.le_of_ble_eq_true rfl) rfl (fun ls hl => ?_)
        have hl : lv_has ls 5 [(4, .int (nI (i + 1))), (2, .long (((kk_rev v i) <<< ((nI 8).toInt64 &&& 63)) ||| (((v.toUInt64 >>> ((nI (8 * i)).toInt64.toUInt64 &&& Int64.toUInt64 63)).toInt64) &&& 255))), (0, .long v)] := hl
        refine lv_goto (tgt := 5) hx hb dX0_bytesTurnedRound_32 rfl ?_
        exact ih (i + 1) ls (by omega) (by omega) (lv_sub hl [0, 1, 2] rfl)
  refine loop _ (fun ls hl => ?_) 9 0 ls (by omega) (by omega) hl
  refine lv_lload_n hx hb dX0_bytesTurnedRound_35 rfl (lv_at hl 1 rfl) ?_
  exact W.lret hx hb hr (fun t ht hW => ⟨⟨_, (), rfl, rfl, by rw [ht]; exact hP, va_K.moved hW.alike hK, hD⟩, hS.F ht⟩) hS.2.2 dX0_bytesTurnedRound_36
end
section
/-! KeccakLanes: a round: sumColumns, turnAndMove, combineRows -/
set_option maxHeartbeats 4000000 in
set_option maxRecDepth 100000 in
theorem kc_sumColumns (l : Launch) (D : va_G) (ct : Nat → ClassId) (ad tb : Nat → Nat) (M : Nat → Nat → Int64) (Pl : Nat → Nat) (C V : Nat → Int64) (sz : Nat) (g : Nat → Int64) {k : Nat} (hk : k < 9) : Met l yX0_sumColumns wsX0_sumColumns ({ frames := 1, cells := 0, slots := 0, locals := 22 }) (kr_P D vwCl (kw_T ct) (kw_B tb) [.ref (ad 0), .ref (ad (5 + k))] (kw_X ct ad (va_up M k g) Pl C V) sz) (va_Qv (S := Unit) (fun _ => True) (kr_B D vwCl (kw_T ct) (fun _ => kw_X ct ad (va_up M k g) Pl (kk_d g) V) (va_A (kw_X ct ad (va_up M k g) Pl C V) sz)) (va_A (kw_X ct ad (va_up M k g) Pl C V) sz)) 0 0 (va_A (kw_X ct ad (va_up M k g) Pl C V) sz) := by
  refine Met.ofW (cc := cX0_sumColumns) (maxL := 12) (ret := none) (by decide) rfl ?_
  intro p e s m args below meth c s₁ B hml hv
  obtain ⟨rfl, hsz, hP, hK, hD0, hB⟩ := hv
  have hx := B.exec
  have hb := B.bytes
  have hr := B.returns
  have hts := atoms_spec (ws := wsX0_sumColumns) B.pre
  have hown : s.vm.findClass RX0 = some m.cls := findClass_of_methodNamed B.named
  have hlocks := B.notSynchronized
  have hin : ∀ w ∈ u_ws RX0 TX0 4, w ∈ wsX0_sumColumns := by decide +kernel
  subst hsz
  have hD := hD0.self (sz := s.heap.size)
  generalize hAe : va_A (kw_X ct ad (va_up M k g) Pl C V) s.heap.size = A at hD hB ⊢
  have hA : ∀ q : Nat, s.heap.size ≤ q → A q := fun q h => by rw [← hAe]; exact Or.inr h
  have hS : va_S A s.heap s.heap [] := va_S.rf
  have hl := lv_entry ([.ref (ad 0), .ref (ad (5 + k))]) (n := 12) (Nat.le_of_ble_eq_true rfl)
  rw [lg_entry_eq]
  generalize (lg_sl ([.ref (ad 0), .ref (ad (5 + k))]) ++ List.replicate (12 - (lg_sl ([.ref (ad 0), .ref (ad (5 + k))])).length) Slot.unset).toArray = ls at hl ⊢
  have hl : lv_has ls 12 [(0, .ref (ad 0)), (1, .ref (ad (5 + k)))] := hl
  refine lv_aload_n hx hb dX0_sumColumns_0 rfl (lv_at hl 1 rfl) ?_
  refine lv_iconst (v := nI 0) hx hb dX0_sumColumns_1 rfl ?_
  refine kr_calll (va_runS (As := [.ref (ad (5 + k)), .int (nI 0)]) (rest := []) ⟨hx, hb, hml, hown, hts⟩ (kc_columnSum l D ct ad tb M Pl C V _ g hk (x := 0) (by omega)) (va_cwS 2 hts gX0_sumColumns_X0_columnSum rfl rfl rfl (by decide +kernel) ⟨Nat.le_of_ble_eq_true rfl, Nat.le_of_ble_eq_true rfl⟩) (kr_preS (kw_Bok tb) _ hP hK hD hB hS hA) rfl rfl hl.1 rfl (lv_room (Nat.le_of_ble_eq_true rfl)) dX0_sumColumns_2 ⟨Nat.zero_le _, Nat.zero_le _⟩) hD hS hA (fun r u H locs hq hP hD hS => ?_)
  obtain rfl : r = kk_col g 0 := hq
  have hP : va_P D vwCl (kw_X ct ad (va_up M k g) Pl C V) H := hP
  have hD : va_D A (kw_X ct ad (va_up M k g) Pl C V) := hD
  refine lv_lstore_n hx hb dX0_sumColumns_5 rfl hl (Nat.le_of_ble_eq_true rfl) rfl (fun ls hl => ?_)
  have hl : lv_has ls 12 [(2, .long (kk_col g 0)), (0, .ref (ad 0)), (1, .ref (ad (5 + k)))] := hl
  refine lv_aload_n hx hb dX0_sumColumns_6 rfl (lv_at hl 2 rfl) ?_
  refine lv_iconst (v := nI 1) hx hb dX0_sumColumns_7 rfl ?_
  refine kr_calll (va_runS (As := [.ref (ad (5 + k)), .int (nI 1)]) (rest := []) ⟨hx, hb, hml, hown, hts⟩ (kc_columnSum l D ct ad tb M Pl C V _ g hk (x := 1) (by omega)) (va_cwS 2 hts gX0_sumColumns_X0_columnSum rfl rfl rfl (by decide +kernel) ⟨Nat.le_of_ble_eq_true rfl, Nat.le_of_ble_eq_true rfl⟩) (kr_preS (kw_Bok tb) _ hP hK hD hB hS hA) rfl rfl hl.1 rfl (lv_room (Nat.le_of_ble_eq_true rfl)) dX0_sumColumns_8 ⟨Nat.zero_le _, Nat.zero_le _⟩) hD hS hA (fun r u H locs hq hP hD hS => ?_)
  obtain rfl : r = kk_col g 1 := hq
  have hP : va_P D vwCl (kw_X ct ad (va_up M k g) Pl C V) H := hP
  have hD : va_D A (kw_X ct ad (va_up M k g) Pl C V) := hD
  refine lv_lstore hx hb dX0_sumColumns_11 hl (Nat.le_of_ble_eq_true rfl) rfl (fun ls hl => ?_)
  have hl : lv_has ls 12 [(4, .long (kk_col g 1)), (2, .long (kk_col g 0)), (0, .ref (ad 0)), (1, .ref (ad (5 + k)))] := hl
  refine lv_aload_n hx hb dX0_sumColumns_13 rfl (lv_at hl 3 rfl) ?_
  refine lv_iconst (v := nI 2) hx hb dX0_sumColumns_14 rfl ?_
  refine kr_calll (va_runS (As := [.ref (ad (5 + k)), .int (nI 2)]) (rest := []) ⟨hx, hb, hml, hown, hts⟩ (kc_columnSum l D ct ad tb M Pl C V _ g hk (x := 2) (by omega)) (va_cwS 2 hts gX0_sumColumns_X0_columnSum rfl rfl rfl (by decide +kernel) ⟨Nat.le_of_ble_eq_true rfl, Nat.le_of_ble_eq_true rfl⟩) (kr_preS (kw_Bok tb) _ hP hK hD hB hS hA) rfl rfl hl.1 rfl (lv_room (Nat.le_of_ble_eq_true rfl)) dX0_sumColumns_15 ⟨Nat.zero_le _, Nat.zero_le _⟩) hD hS hA (fun r u H locs hq hP hD hS => ?_)
  obtain rfl : r = kk_col g 2 := hq
  have hP : va_P D vwCl (kw_X ct ad (va_up M k g) Pl C V) H := hP
  have hD : va_D A (kw_X ct ad (va_up M k g) Pl C V) := hD
  refine lv_lstore hx hb dX0_sumColumns_18 hl (Nat.le_of_ble_eq_true rfl) rfl (fun ls hl => ?_)
  have hl : lv_has ls 12 [(6, .long (kk_col g 2)), (4, .long (kk_col g 1)), (2, .long (kk_col g 0)), (0, .ref (ad 0)), (1, .ref (ad (5 + k)))] := hl
  refine lv_aload_n hx hb dX0_sumColumns_20 rfl (lv_at hl 4 rfl) ?_
  refine lv_iconst (v := nI 3) hx hb dX0_sumColumns_21 rfl ?_
  refine kr_calll (va_runS (As := [.ref (ad (5 + k)), .int (nI 3)]) (rest := []) ⟨hx, hb, hml, hown, hts⟩ (kc_columnSum l D ct ad tb M Pl C V _ g hk (x := 3) (by omega)) (va_cwS 2 hts gX0_sumColumns_X0_columnSum rfl rfl rfl (by decide +kernel) ⟨Nat.le_of_ble_eq_true rfl, Nat.le_of_ble_eq_true rfl⟩) (kr_preS (kw_Bok tb) _ hP hK hD hB hS hA) rfl rfl hl.1 rfl (lv_room (Nat.le_of_ble_eq_true rfl)) dX0_sumColumns_22 ⟨Nat.zero_le _, Nat.zero_le _⟩) hD hS hA (fun r u H locs hq hP hD hS => ?_)
  obtain rfl : r = kk_col g 3 := hq
  have hP : va_P D vwCl (kw_X ct ad (va_up M k g) Pl C V) H := hP
  have hD : va_D A (kw_X ct ad (va_up M k g) Pl C V) := hD
  refine lv_lstore hx hb dX0_sumColumns_25 hl (Nat.le_of_ble_eq_true rfl) rfl (fun ls hl => ?_)
  have hl : lv_has ls 12 [(8, .long (kk_col g 3)), (6, .long (kk_col g 2)), (4, .long (kk_col g 1)), (2, .long (kk_col g 0)), (0, .ref (ad 0)), (1, .ref (ad (5 + k)))] := hl
  refine lv_aload_n hx hb dX0_sumColumns_27 rfl (lv_at hl 5 rfl) ?_
  refine lv_iconst (v := nI 4) hx hb dX0_sumColumns_28 rfl ?_
  refine kr_calll (va_runS (As := [.ref (ad (5 + k)), .int (nI 4)]) (rest := []) ⟨hx, hb, hml, hown, hts⟩ (kc_columnSum l D ct ad tb M Pl C V _ g hk (x := 4) (by omega)) (va_cwS 2 hts gX0_sumColumns_X0_columnSum rfl rfl rfl (by decide +kernel) ⟨Nat.le_of_ble_eq_true rfl, Nat.le_of_ble_eq_true rfl⟩) (kr_preS (kw_Bok tb) _ hP hK hD hB hS hA) rfl rfl hl.1 rfl (lv_room (Nat.le_of_ble_eq_true rfl)) dX0_sumColumns_29 ⟨Nat.zero_le _, Nat.zero_le _⟩) hD hS hA (fun r u H locs hq hP hD hS => ?_)
  obtain rfl : r = kk_col g 4 := hq
  have hP : va_P D vwCl (kw_X ct ad (va_up M k g) Pl C V) H := hP
  have hD : va_D A (kw_X ct ad (va_up M k g) Pl C V) := hD
  refine lv_lstore hx hb dX0_sumColumns_32 hl (Nat.le_of_ble_eq_true rfl) rfl (fun ls hl => ?_)
  have hl : lv_has ls 12 [(10, .long (kk_col g 4)), (8, .long (kk_col g 3)), (6, .long (kk_col g 2)), (4, .long (kk_col g 1)), (2, .long (kk_col g 0)), (0, .ref (ad 0)), (1, .ref (ad (5 + k)))] := hl
  refine lv_aload_n hx hb dX0_sumColumns_34 rfl (lv_at hl 5 rfl) ?_
  refine va_get hx hb hts hin hown hK hP 0 rfl rfl 2 (by decide) (hts (.fieldLink RX0 18 "KeccakLanes" "columns" "[J") (by decide +kernel)) (fun _ h => h) rfl dX0_sumColumns_35 ?_
  refine lv_iconst (v := nI 0) hx hb dX0_sumColumns_38 rfl ?_
  refine lv_lload hx hb dX0_sumColumns_39 (lv_at hl 0 rfl) ?_
  refine lv_lload hx hb dX0_sumColumns_41 (lv_at hl 3 rfl) ?_
  refine lv_iconst (v := nI 1) hx hb dX0_sumColumns_43 rfl ?_
  refine kr_calll (va_runS (As := [.long (kk_col g 1), .int (nI 1)]) (rest := [.long (kk_col g 4), .int (nI 0), .ref (ad 3)]) ⟨hx, hb, hml, hown, hts⟩ (kc_turnedLeft l D ct ad tb (va_up M k g) Pl C V _ (kk_col g 1) (nI 1)) (va_cwS 2 hts gX0_sumColumns_X0_turnedLeft rfl rfl rfl (by decide +kernel) ⟨Nat.le_of_ble_eq_true rfl, Nat.le_of_ble_eq_true rfl⟩) (kr_preS (kw_Bok tb) _ hP hK hD hB hS hA) rfl rfl hl.1 rfl (lv_room (Nat.le_of_ble_eq_true rfl)) dX0_sumColumns_44 ⟨Nat.zero_le _, Nat.zero_le _⟩) hD hS hA (fun r u H locs hq hP hD hS => ?_)
  obtain rfl : r = kk_tl (kk_col g 1) (nI 1) := hq
  have hP : va_P D vwCl (kw_X ct ad (va_up M k g) Pl C V) H := hP
  have hD : va_D A (kw_X ct ad (va_up M k g) Pl C V) := hD
  refine lv_lxor hx hb dX0_sumColumns_47 ?_
  refine kr_last (w := kw_X ct ad (va_up M k g) Pl (vp_updL C 0 ((kk_col g 4) ^^^ (kk_tl (kk_col g 1) (nI 1)))) V) hx hb hK hP hD hS 3 2 rfl rfl (n := 0) (by omega) (by omega) rfl dX0_sumColumns_48 (fun H locs hP hD hS => ?_)
  refine lv_aload_n hx hb dX0_sumColumns_49 rfl (lv_at hl 5 rfl) ?_
  refine va_get hx hb hts hin hown hK hP 0 rfl rfl 2 (by decide) (hts (.fieldLink RX0 18 "KeccakLanes" "columns" "[J") (by decide +kernel)) (fun _ h => h) rfl dX0_sumColumns_50 ?_
  refine lv_iconst (v := nI 1) hx hb dX0_sumColumns_53 rfl ?_
  refine lv_lload_n hx hb dX0_sumColumns_54 rfl (lv_at hl 4 rfl) ?_
  refine lv_lload hx hb dX0_sumColumns_55 (lv_at hl 2 rfl) ?_
  refine lv_iconst (v := nI 1) hx hb dX0_sumColumns_57 rfl ?_
  refine kr_calll (va_runS (As := [.long (kk_col g 2), .int (nI 1)]) (rest := [.long (kk_col g 0), .int (nI 1), .ref (ad 3)]) ⟨hx, hb, hml, hown, hts⟩ (kc_turnedLeft l D ct ad tb (va_up M k g) Pl (vp_updL C 0 ((kk_col g 4) ^^^ (kk_tl (kk_col g 1) (nI 1)))) V _ (kk_col g 2) (nI 1)) (va_cwS 2 hts gX0_sumColumns_X0_turnedLeft rfl rfl rfl (by decide +kernel) ⟨Nat.le_of_ble_eq_true rfl, Nat.le_of_ble_eq_true rfl⟩) (kr_preS (kw_Bok tb) _ hP hK hD hB hS hA) rfl rfl hl.1 rfl (lv_room (Nat.le_of_ble_eq_true rfl)) dX0_sumColumns_58 ⟨Nat.zero_le _, Nat.zero_le _⟩) hD hS hA (fun r u H locs hq hP hD hS => ?_)
  obtain rfl : r = kk_tl (kk_col g 2) (nI 1) := hq
  have hP : va_P D vwCl (kw_X ct ad (va_up M k g) Pl (vp_updL C 0 ((kk_col g 4) ^^^ (kk_tl (kk_col g 1) (nI 1)))) V) H := hP
  have hD : va_D A (kw_X ct ad (va_up M k g) Pl (vp_updL C 0 ((kk_col g 4) ^^^ (kk_tl (kk_col g 1) (nI 1)))) V) := hD
  refine lv_lxor hx hb dX0_sumColumns_61 ?_
  refine kr_last (w := kw_X ct ad (va_up M k g) Pl (vp_updL (vp_updL C 0 ((kk_col g 4) ^^^ (kk_tl (kk_col g 1) (nI 1)))) 1 ((kk_col g 0) ^^^ (kk_tl (kk_col g 2) (nI 1)))) V) hx hb hK hP hD hS 3 2 rfl rfl (n := 1) (by omega) (by omega) rfl dX0_sumColumns_62 (fun H locs hP hD hS => ?_)
  refine lv_aload_n hx hb dX0_sumColumns_63 rfl (lv_at hl 5 rfl) ?_
  refine va_get hx hb hts hin hown hK hP 0 rfl rfl 2 (by decide) (hts (.fieldLink RX0 18 "KeccakLanes" "columns" "[J") (by decide +kernel)) (fun _ h => h) rfl dX0_sumColumns_64 ?_
  refine lv_iconst (v := nI 2) hx hb dX0_sumColumns_67 rfl ?_
  refine lv_lload hx hb dX0_sumColumns_68 (lv_at hl 3 rfl) ?_
  refine lv_lload hx hb dX0_sumColumns_70 (lv_at hl 1 rfl) ?_
  refine lv_iconst (v := nI 1) hx hb dX0_sumColumns_72 rfl ?_
  refine kr_calll (va_runS (As := [.long (kk_col g 3), .int (nI 1)]) (rest := [.long (kk_col g 1), .int (nI 2), .ref (ad 3)]) ⟨hx, hb, hml, hown, hts⟩ (kc_turnedLeft l D ct ad tb (va_up M k g) Pl (vp_updL (vp_updL C 0 ((kk_col g 4) ^^^ (kk_tl (kk_col g 1) (nI 1)))) 1 ((kk_col g 0) ^^^ (kk_tl (kk_col g 2) (nI 1)))) V _ (kk_col g 3) (nI 1)) (va_cwS 2 hts gX0_sumColumns_X0_turnedLeft rfl rfl rfl (by decide +kernel) ⟨Nat.le_of_ble_eq_true rfl, Nat.le_of_ble_eq_true rfl⟩) (kr_preS (kw_Bok tb) _ hP hK hD hB hS hA) rfl rfl hl.1 rfl (lv_room (Nat.le_of_ble_eq_true rfl)) dX0_sumColumns_73 ⟨Nat.zero_le _, Nat.zero_le _⟩) hD hS hA (fun r u H locs hq hP hD hS => ?_)
  obtain rfl : r = kk_tl (kk_col g 3) (nI 1) := hq
  have hP : va_P D vwCl (kw_X ct ad (va_up M k g) Pl (vp_updL (vp_updL C 0 ((kk_col g 4) ^^^ (kk_tl (kk_col g 1) (nI 1)))) 1 ((kk_col g 0) ^^^ (kk_tl (kk_col g 2) (nI 1)))) V) H := hP
  have hD : va_D A (kw_X ct ad (va_up M k g) Pl (vp_updL (vp_updL C 0 ((kk_col g 4) ^^^ (kk_tl (kk_col g 1) (nI 1)))) 1 ((kk_col g 0) ^^^ (kk_tl (kk_col g 2) (nI 1)))) V) := hD
  refine lv_lxor hx hb dX0_sumColumns_76 ?_
  refine kr_last (w := kw_X ct ad (va_up M k g) Pl (vp_updL (vp_updL (vp_updL C 0 ((kk_col g 4) ^^^ (kk_tl (kk_col g 1) (nI 1)))) 1 ((kk_col g 0) ^^^ (kk_tl (kk_col g 2) (nI 1)))) 2 ((kk_col g 1) ^^^ (kk_tl (kk_col g 3) (nI 1)))) V) hx hb hK hP hD hS 3 2 rfl rfl (n := 2) (by omega) (by omega) rfl dX0_sumColumns_77 (fun H locs hP hD hS => ?_)
  refine lv_aload_n hx hb dX0_sumColumns_78 rfl (lv_at hl 5 rfl) ?_
  refine va_get hx hb hts hin hown hK hP 0 rfl rfl 2 (by decide) (hts (.fieldLink RX0 18 "KeccakLanes" "columns" "[J") (by decide +kernel)) (fun _ h => h) rfl dX0_sumColumns_79 ?_
  refine lv_iconst (v := nI 3) hx hb dX0_sumColumns_82 rfl ?_
  refine lv_lload hx hb dX0_sumColumns_83 (lv_at hl 2 rfl) ?_
  refine lv_lload hx hb dX0_sumColumns_85 (lv_at hl 0 rfl) ?_
  refine lv_iconst (v := nI 1) hx hb dX0_sumColumns_87 rfl ?_
  refine kr_calll (va_runS (As := [.long (kk_col g 4), .int (nI 1)]) (rest := [.long (kk_col g 2), .int (nI 3), .ref (ad 3)]) ⟨hx, hb, hml, hown, hts⟩ (kc_turnedLeft l D ct ad tb (va_up M k g) Pl (vp_updL (vp_updL (vp_updL C 0 ((kk_col g 4) ^^^ (kk_tl (kk_col g 1) (nI 1)))) 1 ((kk_col g 0) ^^^ (kk_tl (kk_col g 2) (nI 1)))) 2 ((kk_col g 1) ^^^ (kk_tl (kk_col g 3) (nI 1)))) V _ (kk_col g 4) (nI 1)) (va_cwS 2 hts gX0_sumColumns_X0_turnedLeft rfl rfl rfl (by decide +kernel) ⟨Nat.le_of_ble_eq_true rfl, Nat.le_of_ble_eq_true rfl⟩) (kr_preS (kw_Bok tb) _ hP hK hD hB hS hA) rfl rfl hl.1 rfl (lv_room (Nat.le_of_ble_eq_true rfl)) dX0_sumColumns_88 ⟨Nat.zero_le _, Nat.zero_le _⟩) hD hS hA (fun r u H locs hq hP hD hS => ?_)
  obtain rfl : r = kk_tl (kk_col g 4) (nI 1) := hq
  have hP : va_P D vwCl (kw_X ct ad (va_up M k g) Pl (vp_updL (vp_updL (vp_updL C 0 ((kk_col g 4) ^^^ (kk_tl (kk_col g 1) (nI 1)))) 1 ((kk_col g 0) ^^^ (kk_tl (kk_col g 2) (nI 1)))) 2 ((kk_col g 1) ^^^ (kk_tl (kk_col g 3) (nI 1)))) V) H := hP
  have hD : va_D A (kw_X ct ad (va_up M k g) Pl (vp_updL (vp_updL (vp_updL C 0 ((kk_col g 4) ^^^ (kk_tl (kk_col g 1) (nI 1)))) 1 ((kk_col g 0) ^^^ (kk_tl (kk_col g 2) (nI 1)))) 2 ((kk_col g 1) ^^^ (kk_tl (kk_col g 3) (nI 1)))) V) := hD
  refine lv_lxor hx hb dX0_sumColumns_91 ?_
  refine kr_last (w := kw_X ct ad (va_up M k g) Pl (vp_updL (vp_updL (vp_updL (vp_updL C 0 ((kk_col g 4) ^^^ (kk_tl (kk_col g 1) (nI 1)))) 1 ((kk_col g 0) ^^^ (kk_tl (kk_col g 2) (nI 1)))) 2 ((kk_col g 1) ^^^ (kk_tl (kk_col g 3) (nI 1)))) 3 ((kk_col g 2) ^^^ (kk_tl (kk_col g 4) (nI 1)))) V) hx hb hK hP hD hS 3 2 rfl rfl (n := 3) (by omega) (by omega) rfl dX0_sumColumns_92 (fun H locs hP hD hS => ?_)
  refine lv_aload_n hx hb dX0_sumColumns_93 rfl (lv_at hl 5 rfl) ?_
  refine va_get hx hb hts hin hown hK hP 0 rfl rfl 2 (by decide) (hts (.fieldLink RX0 18 "KeccakLanes" "columns" "[J") (by decide +kernel)) (fun _ h => h) rfl dX0_sumColumns_94 ?_
  refine lv_iconst (v := nI 4) hx hb dX0_sumColumns_97 rfl ?_
  refine lv_lload hx hb dX0_sumColumns_98 (lv_at hl 1 rfl) ?_
  refine lv_lload_n hx hb dX0_sumColumns_100 rfl (lv_at hl 4 rfl) ?_
  refine lv_iconst (v := nI 1) hx hb dX0_sumColumns_101 rfl ?_
  refine kr_calll (va_runS (As := [.long (kk_col g 0), .int (nI 1)]) (rest := [.long (kk_col g 3), .int (nI 4), .ref (ad 3)]) ⟨hx, hb, hml, hown, hts⟩ (kc_turnedLeft l D ct ad tb (va_up M k g) Pl (vp_updL (vp_updL (vp_updL (vp_updL C 0 ((kk_col g 4) ^^^ (kk_tl (kk_col g 1) (nI 1)))) 1 ((kk_col g 0) ^^^ (kk_tl (kk_col g 2) (nI 1)))) 2 ((kk_col g 1) ^^^ (kk_tl (kk_col g 3) (nI 1)))) 3 ((kk_col g 2) ^^^ (kk_tl (kk_col g 4) (nI 1)))) V _ (kk_col g 0) (nI 1)) (va_cwS 2 hts gX0_sumColumns_X0_turnedLeft rfl rfl rfl (by decide +kernel) ⟨Nat.le_of_ble_eq_true rfl, Nat.le_of_ble_eq_true rfl⟩) (kr_preS (kw_Bok tb) _ hP hK hD hB hS hA) rfl rfl hl.1 rfl (lv_room (Nat.le_of_ble_eq_true rfl)) dX0_sumColumns_102 ⟨Nat.zero_le _, Nat.zero_le _⟩) hD hS hA (fun r u H locs hq hP hD hS => ?_)
  obtain rfl : r = kk_tl (kk_col g 0) (nI 1) := hq
  have hP : va_P D vwCl (kw_X ct ad (va_up M k g) Pl (vp_updL (vp_updL (vp_updL (vp_updL C 0 ((kk_col g 4) ^^^ (kk_tl (kk_col g 1) (nI 1)))) 1 ((kk_col g 0) ^^^ (kk_tl (kk_col g 2) (nI 1)))) 2 ((kk_col g 1) ^^^ (kk_tl (kk_col g 3) (nI 1)))) 3 ((kk_col g 2) ^^^ (kk_tl (kk_col g 4) (nI 1)))) V) H := hP
  have hD : va_D A (kw_X ct ad (va_up M k g) Pl (vp_updL (vp_updL (vp_updL (vp_updL C 0 ((kk_col g 4) ^^^ (kk_tl (kk_col g 1) (nI 1)))) 1 ((kk_col g 0) ^^^ (kk_tl (kk_col g 2) (nI 1)))) 2 ((kk_col g 1) ^^^ (kk_tl (kk_col g 3) (nI 1)))) 3 ((kk_col g 2) ^^^ (kk_tl (kk_col g 4) (nI 1)))) V) := hD
  refine lv_lxor hx hb dX0_sumColumns_105 ?_
  refine kr_last (w := kw_X ct ad (va_up M k g) Pl (vp_updL (vp_updL (vp_updL (vp_updL (vp_updL C 0 ((kk_col g 4) ^^^ (kk_tl (kk_col g 1) (nI 1)))) 1 ((kk_col g 0) ^^^ (kk_tl (kk_col g 2) (nI 1)))) 2 ((kk_col g 1) ^^^ (kk_tl (kk_col g 3) (nI 1)))) 3 ((kk_col g 2) ^^^ (kk_tl (kk_col g 4) (nI 1)))) 4 ((kk_col g 3) ^^^ (kk_tl (kk_col g 0) (nI 1)))) V) hx hb hK hP hD hS 3 2 rfl rfl (n := 4) (by omega) (by omega) rfl dX0_sumColumns_106 (fun H locs hP hD hS => ?_)
  have hP : va_P D vwCl (kw_X ct ad (va_up M k g) Pl (kk_d g) V) H := kr_sameL (q0 := 3) hP rfl (fun j hj => by rcases (show j = 0 ∨ j = 1 ∨ j = 2 ∨ j = 3 ∨ j = 4 by omega) with rfl | rfl | rfl | rfl | rfl <;> rfl) rfl
  have hD : va_D A (kw_X ct ad (va_up M k g) Pl (kk_d g) V) := kr_sameD (q0 := 3) hD rfl rfl
  exact W.vret hx hb hr (fun t ht hW => ⟨⟨(), rfl, trivial, by rw [ht]; exact hP, va_K.moved hW.alike hK, hD⟩, hS.F ht⟩) hS.2.2 dX0_sumColumns_107
set_option maxHeartbeats 4000000 in
set_option maxRecDepth 100000 in
theorem kc_turnAndMove (l : Launch) (D : va_G) (ct : Nat → ClassId) (ad tb : Nat → Nat) (M : Nat → Nat → Int64) (Pl : Nat → Nat) (C V : Nat → Int64) (sz : Nat) (g : Nat → Int64) {k : Nat} (hk : k < 9) : Met l yX0_turnAndMove wsX0_turnAndMove ({ frames := 1, cells := 0, slots := 0, locals := 22 }) (kr_P D vwCl (kw_T ct) (kw_B tb) [.ref (ad 0), .ref (ad (5 + k))] (kw_X ct ad (va_up M k g) Pl (kk_d g) V) sz) (va_Qv (S := Unit) (fun _ => True) (kr_B D vwCl (kw_T ct) (fun _ => kw_X ct ad (va_up M k g) Pl (kk_d g) (kk_mv g)) (va_A (kw_X ct ad (va_up M k g) Pl (kk_d g) V) sz)) (va_A (kw_X ct ad (va_up M k g) Pl (kk_d g) V) sz)) 0 0 (va_A (kw_X ct ad (va_up M k g) Pl (kk_d g) V) sz) := by
  refine Met.ofW (cc := cX0_turnAndMove) (maxL := 5) (ret := none) (by decide) rfl ?_
  intro p e s m args below meth c s₁ B hml hv
  obtain ⟨rfl, hsz, hP, hK, hD0, hB⟩ := hv
  have hx := B.exec
  have hb := B.bytes
  have hr := B.returns
  have hts := atoms_spec (ws := wsX0_turnAndMove) B.pre
  have hown : s.vm.findClass RX0 = some m.cls := findClass_of_methodNamed B.named
  have hlocks := B.notSynchronized
  have hin : ∀ w ∈ u_ws RX0 TX0 4, w ∈ wsX0_turnAndMove := by decide +kernel
  subst hsz
  have hD := hD0.self (sz := s.heap.size)
  generalize hAe : va_A (kw_X ct ad (va_up M k g) Pl (kk_d g) V) s.heap.size = A at hD hB ⊢
  have hA : ∀ q : Nat, s.heap.size ≤ q → A q := fun q h => by rw [← hAe]; exact Or.inr h
  have hS : va_S A s.heap s.heap [] := va_S.rf
  have hl := lv_entry ([.ref (ad 0), .ref (ad (5 + k))]) (n := 5) (Nat.le_of_ble_eq_true rfl)
  rw [lg_entry_eq]
  generalize (lg_sl ([.ref (ad 0), .ref (ad (5 + k))]) ++ List.replicate (5 - (lg_sl ([.ref (ad 0), .ref (ad (5 + k))])).length) Slot.unset).toArray = ls at hl ⊢
  have hl : lv_has ls 5 [(0, .ref (ad 0)), (1, .ref (ad (5 + k)))] := hl
  have inner : ∀ (Q : State → Prop) (i : Nat), i < 5 → (∀ (V : Nat → Int64) (H : Heap) (locs : List Loc) (ls : Array Slot), (∀ u, u < 5 * i + 5 → V (kk_tg u) = kk_mv1 g u) → lv_has ls 5 [(2, .int (nI (5 * i))), (0, .ref (ad 0)), (1, .ref (ad (5 + k)))] → va_P D vwCl (kw_X ct ad (va_up M k g) Pl (kk_d g) V) H → va_D A (kw_X ct ad (va_up M k g) Pl (kk_d g) V) → va_S A s.heap H locs → W p l e (headSpec wsX0_turnAndMove ({ frames := 1, cells := 0, slots := 0, locals := 22 })).room s m (([.ref (ad 0), .ref (ad (5 + k))] : List Value).toArray) below meth c H locs 0 0 Q (F0 m 57 ls [])) → ∀ (n j : Nat) (V : Nat → Int64) (H : Heap) (locs : List Loc) (ls : Array Slot), 5 - j < n → j ≤ 5 → (∀ u, u < 5 * i + j → V (kk_tg u) = kk_mv1 g u) → lv_has ls 5 [(3, .int (nI j)), (2, .int (nI (5 * i))), (0, .ref (ad 0)), (1, .ref (ad (5 + k)))] → va_P D vwCl (kw_X ct ad (va_up M k g) Pl (kk_d g) V) H → va_D A (kw_X ct ad (va_up M k g) Pl (kk_d g) V) → va_S A s.heap H locs → W p l e (headSpec wsX0_turnAndMove ({ frames := 1, cells := 0, slots := 0, locals := 22 })).room s m (([.ref (ad 0), .ref (ad (5 + k))] : List Value).toArray) below meth c H locs 0 0 Q (F0 m 10 ls []) := by
    intro Q i hi5 hend n
    induction n with
    | zero => intro j V H locs ls h; omega
    | succ n ih =>
      intro j V H locs ls hn hj hinv hl hP hD hS
      refine lv_iload_n hx hb dX0_turnAndMove_10 rfl (lv_at hl 0 rfl) ?_
      refine lv_iconst (v := nI 5) hx hb dX0_turnAndMove_11 rfl ?_
      refine kr_icmp_ge (tgt := 57) hx hb (by omega) (by omega) dX0_turnAndMove_12 rfl (fun hc => ?_) (fun hc => ?_)
      · obtain rfl : j = 5 := by omega
        exact hend V H locs ls hinv (lv_sub hl [1, 2, 3] rfl) hP hD hS
      · have ht : kk_tg (j + 5 * i) < 25 := kk_tg_lt _ (by omega)
        refine lv_iload_n hx hb dX0_turnAndMove_15 rfl (lv_at hl 0 rfl) ?_
        refine lv_iload_n hx hb dX0_turnAndMove_16 rfl (lv_at hl 1 rfl) ?_
        refine kr_iadd hx hb dX0_turnAndMove_17 ?_
        refine lv_istore hx hb dX0_turnAndMove_18 hl (Nat.le_of_ble_eq_true rfl) rfl (fun ls hl => ?_)
        have hl : lv_has ls 5 [(4, .int (nI (j + (5 * i)))), (3, .int (nI j)), (2, .int (nI (5 * i))), (0, .ref (ad 0)), (1, .ref (ad (5 + k)))] := hl
        refine lv_aload_n hx hb dX0_turnAndMove_20 rfl (lv_at hl 3 rfl) ?_
        refine va_get hx hb hts hin hown hK hP 0 rfl rfl 3 (by decide) (hts (.fieldLink RX0 22 "KeccakLanes" "moved" "[J") (by decide +kernel)) (fun _ h => h) rfl dX0_turnAndMove_21 ?_
        refine va_gets hx hb hB.2.1.1 hS hown (hts (.fieldLink RX0 82 "KeccakLanes" "TARGETS" "[I") (by decide +kernel)) (fun _ h => h) dX0_turnAndMove_24 ?_
        refine lv_iload hx hb dX0_turnAndMove_27 (lv_at hl 0 rfl) ?_
        refine va_ti hx hb hB.2.1.2 hS (vp_in_nI (n := j + (5 * i)) (by omega) (by omega)) (v := .int (nI (kk_tg (j + (5 * i))))) (by rw [nI_clamp (by omega)]) dX0_turnAndMove_29 ?_
        refine lv_aload_n hx hb dX0_turnAndMove_30 rfl (lv_at hl 4 rfl) ?_
        refine lv_iload hx hb dX0_turnAndMove_31 (lv_at hl 0 rfl) ?_
        refine kr_lald hx hb hK hP (5 + k) 2 (kw_Xrg hk) rfl (n := j + (5 * i)) (by omega) (by omega) dX0_turnAndMove_33 ?_
        refine lv_aload_n hx hb dX0_turnAndMove_34 rfl (lv_at hl 3 rfl) ?_
        refine va_get hx hb hts hin hown hK hP 0 rfl rfl 2 (by decide) (hts (.fieldLink RX0 18 "KeccakLanes" "columns" "[J") (by decide +kernel)) (fun _ h => h) rfl dX0_turnAndMove_35 ?_
        refine lv_iload_n hx hb dX0_turnAndMove_38 rfl (lv_at hl 1 rfl) ?_
        refine kr_lald hx hb hK hP 3 2 rfl rfl (n := j) (by omega) (by omega) dX0_turnAndMove_39 ?_
        refine lv_lxor hx hb dX0_turnAndMove_40 ?_
        refine va_gets hx hb hB.1.1 hS hown (hts (.fieldLink RX0 85 "KeccakLanes" "TURNS" "[I") (by decide +kernel)) (fun _ h => h) dX0_turnAndMove_41 ?_
        refine lv_iload hx hb dX0_turnAndMove_44 (lv_at hl 0 rfl) ?_
        refine va_ti hx hb hB.1.2 hS (vp_in_nI (n := j + (5 * i)) (by omega) (by omega)) (v := .int (nI (kk_tn (j + (5 * i))))) (by rw [nI_clamp (by omega)]) dX0_turnAndMove_46 ?_
        refine kr_calll (va_runS (As := [.long ((g (j + (5 * i))) ^^^ ((kk_d g) j)), .int (nI (kk_tn (j + (5 * i))))]) (rest := [.int (nI (kk_tg (j + (5 * i)))), .ref (ad 4)]) ⟨hx, hb, hml, hown, hts⟩ (kc_turnedLeft l D ct ad tb (va_up M k g) Pl (kk_d g) V _ ((g (j + (5 * i))) ^^^ ((kk_d g) j)) (nI (kk_tn (j + (5 * i))))) (va_cwS 2 hts gX0_turnAndMove_X0_turnedLeft rfl rfl rfl (by decide +kernel) ⟨Nat.le_of_ble_eq_true rfl, Nat.le_of_ble_eq_true rfl⟩) (kr_preS (kw_Bok tb) _ hP hK hD hB hS hA) rfl rfl hl.1 rfl (lv_room (Nat.le_of_ble_eq_true rfl)) dX0_turnAndMove_47 ⟨Nat.zero_le _, Nat.zero_le _⟩) hD hS hA (fun r u H locs hq hP hD hS => ?_)
        obtain rfl : r = kk_tl ((g (j + (5 * i))) ^^^ ((kk_d g) j)) (nI (kk_tn (j + (5 * i)))) := hq
        have hP : va_P D vwCl (kw_X ct ad (va_up M k g) Pl (kk_d g) V) H := hP
        have hD : va_D A (kw_X ct ad (va_up M k g) Pl (kk_d g) V) := hD
        refine kr_last (w := kw_X ct ad (va_up M k g) Pl (kk_d g) (vp_updL V (kk_tg (j + (5 * i))) (kk_tl ((g (j + (5 * i))) ^^^ ((kk_d g) j)) (nI (kk_tn (j + (5 * i))))))) hx hb hK hP hD hS 4 2 rfl rfl (n := kk_tg (j + (5 * i))) (by omega) (by omega) rfl dX0_turnAndMove_50 (fun H locs hP hD hS => ?_)
        refine lv_iinc (k := 1) (v := nI (j + 1)) hx hb dX0_turnAndMove_51 hl rfl (nI_add j 1) (Nat.le_of_ble_eq_true rfl) rfl (fun ls hl => ?_)
        have hl : lv_has ls 5 [(3, .int (nI (j + 1))), (4, .int (nI (j + (5 * i)))), (2, .int (nI (5 * i))), (0, .ref (ad 0)), (1, .ref (ad (5 + k)))] := hl
        refine lv_goto (tgt := 10) hx hb dX0_turnAndMove_54 rfl ?_
        refine ih (j + 1) _ H locs ls (by omega) (by omega) (fun u hu => ?_) (lv_sub hl [0, 2, 3, 4] rfl) hP hD hS
        by_cases e9 : u = j + 5 * i
        · subst e9
          rw [pk_uLs]
          unfold kk_mv1
          rw [show (j + 5 * i) % 5 = j by omega]
        · rw [pk_uLn (fun h => e9 (by have h9 := congrArg kk_sr h; rw [kk_sr_tg u (by omega), kk_sr_tg (j + 5 * i) (by omega)] at h9; exact h9))]
          exact hinv u (by omega)
  have outer : ∀ (Q : State → Prop), (∀ (V : Nat → Int64) (H : Heap) (locs : List Loc) (ls : Array Slot), (∀ u, u < 25 → V (kk_tg u) = kk_mv1 g u) → lv_has ls 5 [(2, .int (nI (5 * 5))), (0, .ref (ad 0)), (1, .ref (ad (5 + k)))] → va_P D vwCl (kw_X ct ad (va_up M k g) Pl (kk_d g) V) H → va_D A (kw_X ct ad (va_up M k g) Pl (kk_d g) V) → va_S A s.heap H locs → W p l e (headSpec wsX0_turnAndMove ({ frames := 1, cells := 0, slots := 0, locals := 22 })).room s m (([.ref (ad 0), .ref (ad (5 + k))] : List Value).toArray) below meth c H locs 0 0 Q (F0 m 63 ls [])) → ∀ (n i : Nat) (V : Nat → Int64) (H : Heap) (locs : List Loc) (ls : Array Slot), 5 - i < n → i ≤ 5 → (∀ u, u < 5 * i → V (kk_tg u) = kk_mv1 g u) → lv_has ls 5 [(2, .int (nI (5 * i))), (0, .ref (ad 0)), (1, .ref (ad (5 + k)))] → va_P D vwCl (kw_X ct ad (va_up M k g) Pl (kk_d g) V) H → va_D A (kw_X ct ad (va_up M k g) Pl (kk_d g) V) → va_S A s.heap H locs → W p l e (headSpec wsX0_turnAndMove ({ frames := 1, cells := 0, slots := 0, locals := 22 })).room s m (([.ref (ad 0), .ref (ad (5 + k))] : List Value).toArray) below meth c H locs 0 0 Q (F0 m 2 ls []) := by
    intro Q hend n
    induction n with
    | zero => intro i V H locs ls h; omega
    | succ n ih =>
      intro i V H locs ls hn hi hinv hl hP hD hS
      refine lv_iload_n hx hb dX0_turnAndMove_2 rfl (lv_at hl 0 rfl) ?_
      refine lv_bipush (v := nI 25) hx hb dX0_turnAndMove_3 (by decide +kernel) ?_
      refine kr_icmp_ge (tgt := 63) hx hb (by omega) (by omega) dX0_turnAndMove_5 rfl (fun hc => ?_) (fun hc => ?_)
      · obtain rfl : i = 5 := by omega
        exact hend V H locs ls hinv hl hP hD hS
      · have hi5 : i < 5 := by omega
        refine lv_iconst (v := nI 0) hx hb dX0_turnAndMove_8 rfl ?_
        refine lv_istore_n hx hb dX0_turnAndMove_9 rfl hl (Nat.le_of_ble_eq_true rfl) rfl (fun ls hl => ?_)
        have hl : lv_has ls 5 [(3, .int (nI 0)), (2, .int (nI (5 * i))), (0, .ref (ad 0)), (1, .ref (ad (5 + k)))] := hl
        refine inner Q i hi5 (fun V H locs ls hinv hl hP hD hS => ?_) 6 0 V H locs ls (by omega) (by omega) hinv hl hP hD hS
        refine lv_iinc (k := 0) (v := nI ((5 * i) + 5)) hx hb dX0_turnAndMove_57 hl rfl (nI_add (5 * i) 5) (Nat.le_of_ble_eq_true rfl) rfl (fun ls hl => ?_)
        have hl : lv_has ls 5 [(2, .int (nI ((5 * i) + 5))), (0, .ref (ad 0)), (1, .ref (ad (5 + k)))] := hl
        refine lv_goto (tgt := 2) hx hb dX0_turnAndMove_60 rfl ?_
        exact ih (i + 1) V H locs ls (by omega) (by omega) hinv hl hP hD hS
  refine lv_iconst (v := nI 0) hx hb dX0_turnAndMove_0 rfl ?_
  refine lv_istore_n hx hb dX0_turnAndMove_1 rfl hl (Nat.le_of_ble_eq_true rfl) rfl (fun ls hl => ?_)
  have hl : lv_has ls 5 [(2, .int (nI 0)), (0, .ref (ad 0)), (1, .ref (ad (5 + k)))] := hl
  refine outer _ (fun V H locs ls hinv hl hP hD hS => ?_) 6 0 V s.heap [] ls (by omega) (by omega) (fun u hu => absurd hu (by omega)) hl hP hD hS
  have hP : va_P D vwCl (kw_X ct ad (va_up M k g) Pl (kk_d g) (kk_mv g)) H := kr_sameL (q0 := 4) hP rfl (fun j hj => by have h9 := hinv (kk_sr j) (kk_sr_lt j hj); rw [kk_tg_sr j hj] at h9; exact h9) rfl
  have hD : va_D A (kw_X ct ad (va_up M k g) Pl (kk_d g) (kk_mv g)) := kr_sameD (q0 := 4) hD rfl rfl
  exact W.vret hx hb hr (fun t ht hW => ⟨⟨(), rfl, trivial, by rw [ht]; exact hP, va_K.moved hW.alike hK, hD⟩, hS.F ht⟩) hS.2.2 dX0_turnAndMove_63
set_option maxHeartbeats 4000000 in
set_option maxRecDepth 100000 in
theorem kc_combineRows (l : Launch) (D : va_G) (ct : Nat → ClassId) (ad tb : Nat → Nat) (M : Nat → Nat → Int64) (Pl : Nat → Nat) (C V : Nat → Int64) (sz : Nat) (g : Nat → Int64) {k : Nat} (hk : k < 9) : Met l yX0_combineRows wsX0_combineRows ({ frames := 0, cells := 0, slots := 0, locals := 0 }) (kr_P D vwCl (kw_T ct) (kw_B tb) [.ref (ad 0), .ref (ad (5 + k))] (kw_X ct ad (va_up M k g) Pl C V) sz) (va_Qv (S := Unit) (fun _ => True) (kr_B D vwCl (kw_T ct) (fun _ => kw_X ct ad (va_up M k (kk_ch V)) Pl C V) (va_A (kw_X ct ad (va_up M k g) Pl C V) sz)) (va_A (kw_X ct ad (va_up M k g) Pl C V) sz)) 0 0 (va_A (kw_X ct ad (va_up M k g) Pl C V) sz) := by
  refine Met.ofW (cc := cX0_combineRows) (maxL := 13) (ret := none) (by decide) rfl ?_
  intro p e s m args below meth c s₁ B hml hv
  obtain ⟨rfl, hsz, hP, hK, hD0, hB⟩ := hv
  have hx := B.exec
  have hb := B.bytes
  have hr := B.returns
  have hts := atoms_spec (ws := wsX0_combineRows) B.pre
  have hown : s.vm.findClass RX0 = some m.cls := findClass_of_methodNamed B.named
  have hlocks := B.notSynchronized
  have hin : ∀ w ∈ u_ws RX0 TX0 4, w ∈ wsX0_combineRows := by decide +kernel
  subst hsz
  have hD := hD0.self (sz := s.heap.size)
  generalize hAe : va_A (kw_X ct ad (va_up M k g) Pl C V) s.heap.size = A at hD hB ⊢
  have hA : ∀ q : Nat, s.heap.size ≤ q → A q := fun q h => by rw [← hAe]; exact Or.inr h
  have hS : va_S A s.heap s.heap [] := va_S.rf
  have hl := lv_entry ([.ref (ad 0), .ref (ad (5 + k))]) (n := 13) (Nat.le_of_ble_eq_true rfl)
  rw [lg_entry_eq]
  generalize (lg_sl ([.ref (ad 0), .ref (ad (5 + k))]) ++ List.replicate (13 - (lg_sl ([.ref (ad 0), .ref (ad (5 + k))])).length) Slot.unset).toArray = ls at hl ⊢
  have hl : lv_has ls 13 [(0, .ref (ad 0)), (1, .ref (ad (5 + k)))] := hl
  have loop : ∀ (Q : State → Prop), (∀ (g : Nat → Int64) (H : Heap) (locs : List Loc) (ls : Array Slot), (∀ u, u < 25 → g u = kk_ch V u) → lv_has ls 13 [(2, .int (nI (5 * 5))), (0, .ref (ad 0)), (1, .ref (ad (5 + k)))] → va_P D vwCl (kw_X ct ad (va_up M k g) Pl C V) H → va_D A (kw_X ct ad (va_up M k g) Pl C V) → va_S A s.heap H locs → W p l e (headSpec wsX0_combineRows ({ frames := 0, cells := 0, slots := 0, locals := 0 })).room s m (([.ref (ad 0), .ref (ad (5 + k))] : List Value).toArray) below meth c H locs 0 0 Q (F0 m 141 ls [])) → ∀ (n i : Nat) (g : Nat → Int64) (H : Heap) (locs : List Loc) (ls : Array Slot), 5 - i < n → i ≤ 5 → (∀ u, u < 5 * i → g u = kk_ch V u) → lv_has ls 13 [(2, .int (nI (5 * i))), (0, .ref (ad 0)), (1, .ref (ad (5 + k)))] → va_P D vwCl (kw_X ct ad (va_up M k g) Pl C V) H → va_D A (kw_X ct ad (va_up M k g) Pl C V) → va_S A s.heap H locs → W p l e (headSpec wsX0_combineRows ({ frames := 0, cells := 0, slots := 0, locals := 0 })).room s m (([.ref (ad 0), .ref (ad (5 + k))] : List Value).toArray) below meth c H locs 0 0 Q (F0 m 2 ls []) := by
    intro Q hend n
    induction n with
    | zero => intro i g H locs ls h; omega
    | succ n ih =>
      intro i g H locs ls hn hi hinv hl hP hD hS
      refine lv_iload_n hx hb dX0_combineRows_2 rfl (lv_at hl 0 rfl) ?_
      refine lv_bipush (v := nI 25) hx hb dX0_combineRows_3 (by decide +kernel) ?_
      refine kr_icmp_ge (tgt := 141) hx hb (by omega) (by omega) dX0_combineRows_5 rfl (fun hc => ?_) (fun hc => ?_)
      · obtain rfl : i = 5 := by omega
        exact hend g H locs ls hinv hl hP hD hS
      · have hi5 : i < 5 := by omega
        refine lv_aload_n hx hb dX0_combineRows_8 rfl (lv_at hl 1 rfl) ?_
        refine va_get hx hb hts hin hown hK hP 0 rfl rfl 3 (by decide) (hts (.fieldLink RX0 22 "KeccakLanes" "moved" "[J") (by decide +kernel)) (fun _ h => h) rfl dX0_combineRows_9 ?_
        refine lv_iload_n hx hb dX0_combineRows_12 rfl (lv_at hl 0 rfl) ?_
        refine kr_lald hx hb hK hP 4 2 rfl rfl (n := 5 * i) (by omega) (by omega) dX0_combineRows_13 ?_
        refine lv_lstore_n hx hb dX0_combineRows_14 rfl hl (Nat.le_of_ble_eq_true rfl) rfl (fun ls hl => ?_)
        have hl : lv_has ls 13 [(3, .long (V (5 * i))), (2, .int (nI (5 * i))), (0, .ref (ad 0)), (1, .ref (ad (5 + k)))] := hl
        refine lv_aload_n hx hb dX0_combineRows_15 rfl (lv_at hl 2 rfl) ?_
        refine va_get hx hb hts hin hown hK hP 0 rfl rfl 3 (by decide) (hts (.fieldLink RX0 22 "KeccakLanes" "moved" "[J") (by decide +kernel)) (fun _ h => h) rfl dX0_combineRows_16 ?_
        refine lv_iload_n hx hb dX0_combineRows_19 rfl (lv_at hl 1 rfl) ?_
        refine lv_iconst (v := nI 1) hx hb dX0_combineRows_20 rfl ?_
        refine kr_iadd hx hb dX0_combineRows_21 ?_
        refine kr_lald hx hb hK hP 4 2 rfl rfl (n := (5 * i) + 1) (by omega) (by omega) dX0_combineRows_22 ?_
        refine lv_lstore hx hb dX0_combineRows_23 hl (Nat.le_of_ble_eq_true rfl) rfl (fun ls hl => ?_)
        have hl : lv_has ls 13 [(5, .long (V ((5 * i) + 1))), (3, .long (V (5 * i))), (2, .int (nI (5 * i))), (0, .ref (ad 0)), (1, .ref (ad (5 + k)))] := hl
        refine lv_aload_n hx hb dX0_combineRows_25 rfl (lv_at hl 3 rfl) ?_
        refine va_get hx hb hts hin hown hK hP 0 rfl rfl 3 (by decide) (hts (.fieldLink RX0 22 "KeccakLanes" "moved" "[J") (by decide +kernel)) (fun _ h => h) rfl dX0_combineRows_26 ?_
        refine lv_iload_n hx hb dX0_combineRows_29 rfl (lv_at hl 2 rfl) ?_
        refine lv_iconst (v := nI 2) hx hb dX0_combineRows_30 rfl ?_
        refine kr_iadd hx hb dX0_combineRows_31 ?_
        refine kr_lald hx hb hK hP 4 2 rfl rfl (n := (5 * i) + 2) (by omega) (by omega) dX0_combineRows_32 ?_
        refine lv_lstore hx hb dX0_combineRows_33 hl (Nat.le_of_ble_eq_true rfl) rfl (fun ls hl => ?_)
        have hl : lv_has ls 13 [(7, .long (V ((5 * i) + 2))), (5, .long (V ((5 * i) + 1))), (3, .long (V (5 * i))), (2, .int (nI (5 * i))), (0, .ref (ad 0)), (1, .ref (ad (5 + k)))] := hl
        refine lv_aload_n hx hb dX0_combineRows_35 rfl (lv_at hl 4 rfl) ?_
        refine va_get hx hb hts hin hown hK hP 0 rfl rfl 3 (by decide) (hts (.fieldLink RX0 22 "KeccakLanes" "moved" "[J") (by decide +kernel)) (fun _ h => h) rfl dX0_combineRows_36 ?_
        refine lv_iload_n hx hb dX0_combineRows_39 rfl (lv_at hl 3 rfl) ?_
        refine lv_iconst (v := nI 3) hx hb dX0_combineRows_40 rfl ?_
        refine kr_iadd hx hb dX0_combineRows_41 ?_
        refine kr_lald hx hb hK hP 4 2 rfl rfl (n := (5 * i) + 3) (by omega) (by omega) dX0_combineRows_42 ?_
        refine lv_lstore hx hb dX0_combineRows_43 hl (Nat.le_of_ble_eq_true rfl) rfl (fun ls hl => ?_)
        have hl : lv_has ls 13 [(9, .long (V ((5 * i) + 3))), (7, .long (V ((5 * i) + 2))), (5, .long (V ((5 * i) + 1))), (3, .long (V (5 * i))), (2, .int (nI (5 * i))), (0, .ref (ad 0)), (1, .ref (ad (5 + k)))] := hl
        refine lv_aload_n hx hb dX0_combineRows_45 rfl (lv_at hl 5 rfl) ?_
        refine va_get hx hb hts hin hown hK hP 0 rfl rfl 3 (by decide) (hts (.fieldLink RX0 22 "KeccakLanes" "moved" "[J") (by decide +kernel)) (fun _ h => h) rfl dX0_combineRows_46 ?_
        refine lv_iload_n hx hb dX0_combineRows_49 rfl (lv_at hl 4 rfl) ?_
        refine lv_iconst (v := nI 4) hx hb dX0_combineRows_50 rfl ?_
        refine kr_iadd hx hb dX0_combineRows_51 ?_
        refine kr_lald hx hb hK hP 4 2 rfl rfl (n := (5 * i) + 4) (by omega) (by omega) dX0_combineRows_52 ?_
        refine lv_lstore hx hb dX0_combineRows_53 hl (Nat.le_of_ble_eq_true rfl) rfl (fun ls hl => ?_)
        have hl : lv_has ls 13 [(11, .long (V ((5 * i) + 4))), (9, .long (V ((5 * i) + 3))), (7, .long (V ((5 * i) + 2))), (5, .long (V ((5 * i) + 1))), (3, .long (V (5 * i))), (2, .int (nI (5 * i))), (0, .ref (ad 0)), (1, .ref (ad (5 + k)))] := hl
        refine lv_aload_n hx hb dX0_combineRows_55 rfl (lv_at hl 7 rfl) ?_
        refine lv_iload_n hx hb dX0_combineRows_56 rfl (lv_at hl 5 rfl) ?_
        refine lv_lload_n hx hb dX0_combineRows_57 rfl (lv_at hl 4 rfl) ?_
        refine lv_lload hx hb dX0_combineRows_58 (lv_at hl 3 rfl) ?_
        refine lv_ldc2 (v := (-1)) hx hb hown (hts (.constantLong RX0 88 (-1)) (by decide +kernel)) dX0_combineRows_60 ?_
        refine lv_lxor hx hb dX0_combineRows_63 ?_
        refine lv_lload hx hb dX0_combineRows_64 (lv_at hl 2 rfl) ?_
        refine lv_land hx hb dX0_combineRows_66 ?_
        refine lv_lxor hx hb dX0_combineRows_67 ?_
        refine kr_last (w := kw_X ct ad (va_up M k (vp_updL g (5 * i) ((V (5 * i)) ^^^ (((V ((5 * i) + 1)) ^^^ (-1)) &&& (V ((5 * i) + 2)))))) Pl C V) hx hb hK hP hD hS (5 + k) 2 (kw_Xrg hk) rfl (n := 5 * i) (by omega) (by omega) (kw_Xsg hk _) dX0_combineRows_68 (fun H locs hP hD hS => ?_)
        refine lv_aload_n hx hb dX0_combineRows_69 rfl (lv_at hl 7 rfl) ?_
        refine lv_iload_n hx hb dX0_combineRows_70 rfl (lv_at hl 5 rfl) ?_
        refine lv_iconst (v := nI 1) hx hb dX0_combineRows_71 rfl ?_
        refine kr_iadd hx hb dX0_combineRows_72 ?_
        refine lv_lload hx hb dX0_combineRows_73 (lv_at hl 3 rfl) ?_
        refine lv_lload hx hb dX0_combineRows_75 (lv_at hl 2 rfl) ?_
        refine lv_ldc2 (v := (-1)) hx hb hown (hts (.constantLong RX0 88 (-1)) (by decide +kernel)) dX0_combineRows_77 ?_
        refine lv_lxor hx hb dX0_combineRows_80 ?_
        refine lv_lload hx hb dX0_combineRows_81 (lv_at hl 1 rfl) ?_
        refine lv_land hx hb dX0_combineRows_83 ?_
        refine lv_lxor hx hb dX0_combineRows_84 ?_
        refine kr_last (w := kw_X ct ad (va_up M k (vp_updL (vp_updL g (5 * i) ((V (5 * i)) ^^^ (((V ((5 * i) + 1)) ^^^ (-1)) &&& (V ((5 * i) + 2))))) ((5 * i) + 1) ((V ((5 * i) + 1)) ^^^ (((V ((5 * i) + 2)) ^^^ (-1)) &&& (V ((5 * i) + 3)))))) Pl C V) hx hb hK hP hD hS (5 + k) 2 (kw_Xrg hk) rfl (n := (5 * i) + 1) (by omega) (by omega) (kw_Xsg hk _) dX0_combineRows_85 (fun H locs hP hD hS => ?_)
        refine lv_aload_n hx hb dX0_combineRows_86 rfl (lv_at hl 7 rfl) ?_
        refine lv_iload_n hx hb dX0_combineRows_87 rfl (lv_at hl 5 rfl) ?_
        refine lv_iconst (v := nI 2) hx hb dX0_combineRows_88 rfl ?_
        refine kr_iadd hx hb dX0_combineRows_89 ?_
        refine lv_lload hx hb dX0_combineRows_90 (lv_at hl 2 rfl) ?_
        refine lv_lload hx hb dX0_combineRows_92 (lv_at hl 1 rfl) ?_
        refine lv_ldc2 (v := (-1)) hx hb hown (hts (.constantLong RX0 88 (-1)) (by decide +kernel)) dX0_combineRows_94 ?_
        refine lv_lxor hx hb dX0_combineRows_97 ?_
        refine lv_lload hx hb dX0_combineRows_98 (lv_at hl 0 rfl) ?_
        refine lv_land hx hb dX0_combineRows_100 ?_
        refine lv_lxor hx hb dX0_combineRows_101 ?_
        refine kr_last (w := kw_X ct ad (va_up M k (vp_updL (vp_updL (vp_updL g (5 * i) ((V (5 * i)) ^^^ (((V ((5 * i) + 1)) ^^^ (-1)) &&& (V ((5 * i) + 2))))) ((5 * i) + 1) ((V ((5 * i) + 1)) ^^^ (((V ((5 * i) + 2)) ^^^ (-1)) &&& (V ((5 * i) + 3))))) ((5 * i) + 2) ((V ((5 * i) + 2)) ^^^ (((V ((5 * i) + 3)) ^^^ (-1)) &&& (V ((5 * i) + 4)))))) Pl C V) hx hb hK hP hD hS (5 + k) 2 (kw_Xrg hk) rfl (n := (5 * i) + 2) (by omega) (by omega) (kw_Xsg hk _) dX0_combineRows_102 (fun H locs hP hD hS => ?_)
        refine lv_aload_n hx hb dX0_combineRows_103 rfl (lv_at hl 7 rfl) ?_
        refine lv_iload_n hx hb dX0_combineRows_104 rfl (lv_at hl 5 rfl) ?_
        refine lv_iconst (v := nI 3) hx hb dX0_combineRows_105 rfl ?_
        refine kr_iadd hx hb dX0_combineRows_106 ?_
        refine lv_lload hx hb dX0_combineRows_107 (lv_at hl 1 rfl) ?_
        refine lv_lload hx hb dX0_combineRows_109 (lv_at hl 0 rfl) ?_
        refine lv_ldc2 (v := (-1)) hx hb hown (hts (.constantLong RX0 88 (-1)) (by decide +kernel)) dX0_combineRows_111 ?_
        refine lv_lxor hx hb dX0_combineRows_114 ?_
        refine lv_lload_n hx hb dX0_combineRows_115 rfl (lv_at hl 4 rfl) ?_
        refine lv_land hx hb dX0_combineRows_116 ?_
        refine lv_lxor hx hb dX0_combineRows_117 ?_
        refine kr_last (w := kw_X ct ad (va_up M k (vp_updL (vp_updL (vp_updL (vp_updL g (5 * i) ((V (5 * i)) ^^^ (((V ((5 * i) + 1)) ^^^ (-1)) &&& (V ((5 * i) + 2))))) ((5 * i) + 1) ((V ((5 * i) + 1)) ^^^ (((V ((5 * i) + 2)) ^^^ (-1)) &&& (V ((5 * i) + 3))))) ((5 * i) + 2) ((V ((5 * i) + 2)) ^^^ (((V ((5 * i) + 3)) ^^^ (-1)) &&& (V ((5 * i) + 4))))) ((5 * i) + 3) ((V ((5 * i) + 3)) ^^^ (((V ((5 * i) + 4)) ^^^ (-1)) &&& (V (5 * i)))))) Pl C V) hx hb hK hP hD hS (5 + k) 2 (kw_Xrg hk) rfl (n := (5 * i) + 3) (by omega) (by omega) (kw_Xsg hk _) dX0_combineRows_118 (fun H locs hP hD hS => ?_)
        refine lv_aload_n hx hb dX0_combineRows_119 rfl (lv_at hl 7 rfl) ?_
        refine lv_iload_n hx hb dX0_combineRows_120 rfl (lv_at hl 5 rfl) ?_
        refine lv_iconst (v := nI 4) hx hb dX0_combineRows_121 rfl ?_
        refine kr_iadd hx hb dX0_combineRows_122 ?_
        refine lv_lload hx hb dX0_combineRows_123 (lv_at hl 0 rfl) ?_
        refine lv_lload_n hx hb dX0_combineRows_125 rfl (lv_at hl 4 rfl) ?_
        refine lv_ldc2 (v := (-1)) hx hb hown (hts (.constantLong RX0 88 (-1)) (by decide +kernel)) dX0_combineRows_126 ?_
        refine lv_lxor hx hb dX0_combineRows_129 ?_
        refine lv_lload hx hb dX0_combineRows_130 (lv_at hl 3 rfl) ?_
        refine lv_land hx hb dX0_combineRows_132 ?_
        refine lv_lxor hx hb dX0_combineRows_133 ?_
        refine kr_last (w := kw_X ct ad (va_up M k (vp_updL (vp_updL (vp_updL (vp_updL (vp_updL g (5 * i) ((V (5 * i)) ^^^ (((V ((5 * i) + 1)) ^^^ (-1)) &&& (V ((5 * i) + 2))))) ((5 * i) + 1) ((V ((5 * i) + 1)) ^^^ (((V ((5 * i) + 2)) ^^^ (-1)) &&& (V ((5 * i) + 3))))) ((5 * i) + 2) ((V ((5 * i) + 2)) ^^^ (((V ((5 * i) + 3)) ^^^ (-1)) &&& (V ((5 * i) + 4))))) ((5 * i) + 3) ((V ((5 * i) + 3)) ^^^ (((V ((5 * i) + 4)) ^^^ (-1)) &&& (V (5 * i))))) ((5 * i) + 4) ((V ((5 * i) + 4)) ^^^ (((V (5 * i)) ^^^ (-1)) &&& (V ((5 * i) + 1)))))) Pl C V) hx hb hK hP hD hS (5 + k) 2 (kw_Xrg hk) rfl (n := (5 * i) + 4) (by omega) (by omega) (kw_Xsg hk _) dX0_combineRows_134 (fun H locs hP hD hS => ?_)
        refine lv_iinc (k := 5) (v := nI ((5 * i) + 5)) hx hb dX0_combineRows_135 hl rfl (nI_add (5 * i) 5) (Nat.le_of_ble_eq_true rfl) rfl (fun ls hl => ?_)
        have hl : lv_has ls 13 [(2, .int (nI ((5 * i) + 5))), (11, .long (V ((5 * i) + 4))), (9, .long (V ((5 * i) + 3))), (7, .long (V ((5 * i) + 2))), (5, .long (V ((5 * i) + 1))), (3, .long (V (5 * i))), (0, .ref (ad 0)), (1, .ref (ad (5 + k)))] := hl
        refine lv_goto (tgt := 2) hx hb dX0_combineRows_138 rfl ?_
        refine ih (i + 1) _ H locs ls (by omega) (by omega) (fun u hu => ?_) (lv_sub hl [0, 6, 7] rfl) hP hD hS
        by_cases e9 : u < 5 * i
        · rw [pk_uLn (k := 5 * i + 4) (by omega), pk_uLn (k := 5 * i + 3) (by omega), pk_uLn (k := 5 * i + 2) (by omega), pk_uLn (k := 5 * i + 1) (by omega), pk_uLn (k := 5 * i) (by omega)]
          exact hinv u e9
        · rcases (show u = 5 * i ∨ u = 5 * i + 1 ∨ u = 5 * i + 2 ∨ u = 5 * i + 3 ∨ u = 5 * i + 4 by omega) with rfl | rfl | rfl | rfl | rfl
          · rw [pk_uLn (k := 5 * i + 4) (j := 5 * i) (by omega), pk_uLn (k := 5 * i + 3) (j := 5 * i) (by omega), pk_uLn (k := 5 * i + 2) (j := 5 * i) (by omega), pk_uLn (k := 5 * i + 1) (j := 5 * i) (by omega), pk_uLs]
            unfold kk_ch
            rw [show (5 * i) / 5 * 5 = 5 * i by omega, show (5 * i) % 5 = 0 by omega]
            try rfl
          · rw [pk_uLn (k := 5 * i + 4) (j := 5 * i + 1) (by omega), pk_uLn (k := 5 * i + 3) (j := 5 * i + 1) (by omega), pk_uLn (k := 5 * i + 2) (j := 5 * i + 1) (by omega), pk_uLs]
            unfold kk_ch
            rw [show (5 * i + 1) / 5 * 5 = 5 * i by omega, show (5 * i + 1) % 5 = 1 by omega]
            try rfl
          · rw [pk_uLn (k := 5 * i + 4) (j := 5 * i + 2) (by omega), pk_uLn (k := 5 * i + 3) (j := 5 * i + 2) (by omega), pk_uLs]
            unfold kk_ch
            rw [show (5 * i + 2) / 5 * 5 = 5 * i by omega, show (5 * i + 2) % 5 = 2 by omega]
            try rfl
          · rw [pk_uLn (k := 5 * i + 4) (j := 5 * i + 3) (by omega), pk_uLs]
            unfold kk_ch
            rw [show (5 * i + 3) / 5 * 5 = 5 * i by omega, show (5 * i + 3) % 5 = 3 by omega]
            try rfl
          · rw [pk_uLs]
            unfold kk_ch
            rw [show (5 * i + 4) / 5 * 5 = 5 * i by omega, show (5 * i + 4) % 5 = 4 by omega]
            try rfl
  refine lv_iconst (v := nI 0) hx hb dX0_combineRows_0 rfl ?_
  refine lv_istore_n hx hb dX0_combineRows_1 rfl hl (Nat.le_of_ble_eq_true rfl) rfl (fun ls hl => ?_)
  have hl : lv_has ls 13 [(2, .int (nI 0)), (0, .ref (ad 0)), (1, .ref (ad (5 + k)))] := hl
  refine loop _ (fun g H locs ls hinv hl hP hD hS => ?_) 6 0 g s.heap [] ls (by omega) (by omega) (fun u hu => absurd hu (by omega)) hl hP hD hS
  have hP : va_P D vwCl (kw_X ct ad (va_up M k (kk_ch V)) Pl C V) H := kr_sameL (q0 := 5 + k) hP (kw_Xrg hk) hinv (kw_Xsg hk _)
  have hD : va_D A (kw_X ct ad (va_up M k (kk_ch V)) Pl C V) := kr_sameD (q0 := 5 + k) hD (kw_Xrg hk) (kw_Xsg hk _)
  exact W.vret hx hb hr (fun t ht hW => ⟨⟨(), rfl, trivial, by rw [ht]; exact hP, va_K.moved hW.alike hK, hD⟩, hS.F ht⟩) hS.2.2 dX0_combineRows_141
end
section
/-! KeccakLanes: mixLanes, copyState, takeIn -/
set_option maxHeartbeats 4000000 in
set_option maxRecDepth 100000 in
theorem kc_mixLanes (l : Launch) (D : va_G) (ct : Nat → ClassId) (ad tb : Nat → Nat) (M : Nat → Nat → Int64) (Pl : Nat → Nat) (C V : Nat → Int64) (sz : Nat) (g : Nat → Int64) {k : Nat} (hk : k < 9) : Met l yX0_mixLanes wsX0_mixLanes ({ frames := 2, cells := 0, slots := 0, locals := 53 }) (kr_P D vwCl (kw_T ct) (kw_B tb) [.ref (ad 0), .ref (ad (5 + k))] (kw_X ct ad (va_up M k g) Pl C V) sz) (va_Qv (S := ((Nat → Int64) × (Nat → Int64))) (fun _ => True) (kr_B D vwCl (kw_T ct) (fun u => kw_X ct ad (va_up M k (kk_mix g)) Pl u.1 u.2) (va_A (kw_X ct ad (va_up M k g) Pl C V) sz)) (va_A (kw_X ct ad (va_up M k g) Pl C V) sz)) 0 0 (va_A (kw_X ct ad (va_up M k g) Pl C V) sz) := by
  refine Met.ofW (cc := cX0_mixLanes) (maxL := 3) (ret := none) (by decide) rfl ?_
  intro p e s m args below meth c s₁ B hml hv
  obtain ⟨rfl, hsz, hP, hK, hD0, hB⟩ := hv
  have hx := B.exec
  have hb := B.bytes
  have hr := B.returns
  have hts := atoms_spec (ws := wsX0_mixLanes) B.pre
  have hown : s.vm.findClass RX0 = some m.cls := findClass_of_methodNamed B.named
  have hlocks := B.notSynchronized
  subst hsz
  have hD := hD0.self (sz := s.heap.size)
  generalize hAe : va_A (kw_X ct ad (va_up M k g) Pl C V) s.heap.size = A at hD hB ⊢
  have hA : ∀ q : Nat, s.heap.size ≤ q → A q := fun q h => by rw [← hAe]; exact Or.inr h
  have hS : va_S A s.heap s.heap [] := va_S.rf
  have hl := lv_entry ([.ref (ad 0), .ref (ad (5 + k))]) (n := 3) (Nat.le_of_ble_eq_true rfl)
  rw [lg_entry_eq]
  generalize (lg_sl ([.ref (ad 0), .ref (ad (5 + k))]) ++ List.replicate (3 - (lg_sl ([.ref (ad 0), .ref (ad (5 + k))])).length) Slot.unset).toArray = ls at hl ⊢
  have hl : lv_has ls 3 [(0, .ref (ad 0)), (1, .ref (ad (5 + k)))] := hl
  have loop : ∀ (Q : State → Prop), (∀ (C V : Nat → Int64) (H : Heap) (locs : List Loc) (ls : Array Slot), lv_has ls 3 [(2, .int (nI 24)), (0, .ref (ad 0)), (1, .ref (ad (5 + k)))] → va_P D vwCl (kw_X ct ad (va_up M k (kk_rs g 24)) Pl C V) H → va_D A (kw_X ct ad (va_up M k (kk_rs g 24)) Pl C V) → va_S A s.heap H locs → W p l e (headSpec wsX0_mixLanes ({ frames := 2, cells := 0, slots := 0, locals := 53 })).room s m (([.ref (ad 0), .ref (ad (5 + k))] : List Value).toArray) below meth c H locs 0 0 Q (F0 m 40 ls [])) → ∀ (n i : Nat) (C V : Nat → Int64) (H : Heap) (locs : List Loc) (ls : Array Slot), 24 - i < n → i ≤ 24 → lv_has ls 3 [(2, .int (nI i)), (0, .ref (ad 0)), (1, .ref (ad (5 + k)))] → va_P D vwCl (kw_X ct ad (va_up M k (kk_rs g i)) Pl C V) H → va_D A (kw_X ct ad (va_up M k (kk_rs g i)) Pl C V) → va_S A s.heap H locs → W p l e (headSpec wsX0_mixLanes ({ frames := 2, cells := 0, slots := 0, locals := 53 })).room s m (([.ref (ad 0), .ref (ad (5 + k))] : List Value).toArray) below meth c H locs 0 0 Q (F0 m 2 ls []) := by
    intro Q hend n
    induction n with
    | zero => intro i C V H locs ls h; omega
    | succ n ih =>
      intro i C V H locs ls hn hi hl hP hD hS
      refine lv_iload_n hx hb dX0_mixLanes_2 rfl (lv_at hl 0 rfl) ?_
      refine lv_bipush (v := nI 24) hx hb dX0_mixLanes_3 (by decide +kernel) ?_
      refine kr_icmp_ge (tgt := 40) hx hb (by omega) (by omega) dX0_mixLanes_5 rfl (fun hc => ?_) (fun hc => ?_)
      · obtain rfl : i = 24 := by omega
        exact hend C V H locs ls hl hP hD hS
      · have hi24 : i < 24 := by omega
        refine lv_aload_n hx hb dX0_mixLanes_8 rfl (lv_at hl 1 rfl) ?_
        refine lv_aload_n hx hb dX0_mixLanes_9 rfl (lv_at hl 2 rfl) ?_
        refine kr_callv (va_runV (As := [.ref (ad (5 + k))]) (rest := []) ⟨hx, hb, hml, hown, hts⟩ (kc_sumColumns l D ct ad tb M Pl C V _ (kk_rs g i) hk) (cwV 1 hts gX0_mixLanes_X0_sumColumns rfl rfl rfl (by decide +kernel) ⟨Nat.le_of_ble_eq_true rfl, Nat.le_of_ble_eq_true rfl⟩) (kr_preV (kw_Bok tb) (q := (RX0, TX0, 4)) (q0 := 0) (ci := 0) _ hP hK hD hB hS hA rfl rfl rfl) rfl rfl hl.1 rfl (lv_room (Nat.le_of_ble_eq_true rfl)) dX0_mixLanes_10 ⟨Nat.zero_le _, Nat.zero_le _⟩) hD hS hA (fun u H locs hq hP hD hS => ?_)
        have hP : va_P D vwCl (kw_X ct ad (va_up M k (kk_rs g i)) Pl (kk_d (kk_rs g i)) V) H := hP
        have hD : va_D A (kw_X ct ad (va_up M k (kk_rs g i)) Pl (kk_d (kk_rs g i)) V) := hD
        refine lv_aload_n hx hb dX0_mixLanes_13 rfl (lv_at hl 1 rfl) ?_
        refine lv_aload_n hx hb dX0_mixLanes_14 rfl (lv_at hl 2 rfl) ?_
        refine kr_callv (va_runV (As := [.ref (ad (5 + k))]) (rest := []) ⟨hx, hb, hml, hown, hts⟩ (kc_turnAndMove l D ct ad tb M Pl C V _ (kk_rs g i) hk) (cwV 1 hts gX0_mixLanes_X0_turnAndMove rfl rfl rfl (by decide +kernel) ⟨Nat.le_of_ble_eq_true rfl, Nat.le_of_ble_eq_true rfl⟩) (kr_preV (kw_Bok tb) (q := (RX0, TX0, 4)) (q0 := 0) (ci := 0) _ hP hK hD hB hS hA rfl rfl rfl) rfl rfl hl.1 rfl (lv_room (Nat.le_of_ble_eq_true rfl)) dX0_mixLanes_15 ⟨Nat.zero_le _, Nat.zero_le _⟩) hD hS hA (fun u H locs hq hP hD hS => ?_)
        have hP : va_P D vwCl (kw_X ct ad (va_up M k (kk_rs g i)) Pl (kk_d (kk_rs g i)) (kk_mv (kk_rs g i))) H := hP
        have hD : va_D A (kw_X ct ad (va_up M k (kk_rs g i)) Pl (kk_d (kk_rs g i)) (kk_mv (kk_rs g i))) := hD
        refine lv_aload_n hx hb dX0_mixLanes_18 rfl (lv_at hl 1 rfl) ?_
        refine lv_aload_n hx hb dX0_mixLanes_19 rfl (lv_at hl 2 rfl) ?_
        refine kr_callv (va_runV (As := [.ref (ad (5 + k))]) (rest := []) ⟨hx, hb, hml, hown, hts⟩ (kc_combineRows l D ct ad tb M Pl (kk_d (kk_rs g i)) (kk_mv (kk_rs g i)) _ (kk_rs g i) hk) (cwV 1 hts gX0_mixLanes_X0_combineRows rfl rfl rfl (by decide +kernel) ⟨Nat.le_of_ble_eq_true rfl, Nat.le_of_ble_eq_true rfl⟩) (kr_preV (kw_Bok tb) (q := (RX0, TX0, 4)) (q0 := 0) (ci := 0) _ hP hK hD hB hS hA rfl rfl rfl) rfl rfl hl.1 rfl (lv_room (Nat.le_of_ble_eq_true rfl)) dX0_mixLanes_20 ⟨Nat.zero_le _, Nat.zero_le _⟩) hD hS hA (fun u H locs hq hP hD hS => ?_)
        have hP : va_P D vwCl (kw_X ct ad (va_up M k (kk_ch (kk_mv (kk_rs g i)))) Pl (kk_d (kk_rs g i)) (kk_mv (kk_rs g i))) H := hP
        have hD : va_D A (kw_X ct ad (va_up M k (kk_ch (kk_mv (kk_rs g i)))) Pl (kk_d (kk_rs g i)) (kk_mv (kk_rs g i))) := hD
        refine lv_aload_n hx hb dX0_mixLanes_23 rfl (lv_at hl 2 rfl) ?_
        refine lv_iconst (v := nI 0) hx hb dX0_mixLanes_24 rfl ?_
        refine lv_dup2_11 hx hb dX0_mixLanes_25 rfl rfl ?_
        refine kr_lald hx hb hK hP (5 + k) 2 (kw_Xrg hk) rfl (n := 0) (by omega) (by omega) dX0_mixLanes_26 ?_
        refine va_gets hx hb hB.2.2.1.1 hS hown (hts (.fieldLink RX0 71 "KeccakLanes" "CONSTANTS" "[J") (by decide +kernel)) (fun _ h => h) dX0_mixLanes_27 ?_
        refine lv_iload_n hx hb dX0_mixLanes_30 rfl (lv_at hl 0 rfl) ?_
        refine va_tl hx hb hB.2.2.1.2 hS (vp_in_nI (n := i) (by omega) (by omega)) (v := .long (kk_rc i)) (by rw [nI_clamp (by omega)]) dX0_mixLanes_31 ?_
        refine lv_lxor hx hb dX0_mixLanes_32 ?_
        refine kr_last (w := kw_X ct ad (va_up M k (vp_updL (kk_ch (kk_mv (kk_rs g i))) 0 (((kk_ch (kk_mv (kk_rs g i))) 0) ^^^ (kk_rc i)))) Pl (kk_d (kk_rs g i)) (kk_mv (kk_rs g i))) hx hb hK hP hD hS (5 + k) 2 (kw_Xrg hk) rfl (n := 0) (by omega) (by omega) (kw_Xsg hk _) dX0_mixLanes_33 (fun H locs hP hD hS => ?_)
        refine lv_iinc (k := 0) (v := nI (i + 1)) hx hb dX0_mixLanes_34 hl rfl (nI_add i 1) (Nat.le_of_ble_eq_true rfl) rfl (fun ls hl => ?_)
        have hl : lv_has ls 3 [(2, .int (nI (i + 1))), (0, .ref (ad 0)), (1, .ref (ad (5 + k)))] := hl
        refine lv_goto (tgt := 2) hx hb dX0_mixLanes_37 rfl ?_
        exact ih (i + 1) _ _ H locs ls (by omega) (by omega) hl hP hD hS
  refine lv_iconst (v := nI 0) hx hb dX0_mixLanes_0 rfl ?_
  refine lv_istore_n hx hb dX0_mixLanes_1 rfl hl (Nat.le_of_ble_eq_true rfl) rfl (fun ls hl => ?_)
  have hl : lv_has ls 3 [(2, .int (nI 0)), (0, .ref (ad 0)), (1, .ref (ad (5 + k)))] := hl
  refine loop _ (fun C V H locs ls hl hP hD hS => ?_) 25 0 C V s.heap [] ls (by omega) (by omega) hl hP hD hS
  exact W.vret hx hb hr (fun t ht hW => ⟨⟨(C, V), rfl, trivial, by rw [ht]; exact hP, va_K.moved hW.alike hK, hD⟩, hS.F ht⟩) hS.2.2 dX0_mixLanes_40
set_option maxHeartbeats 4000000 in
set_option maxRecDepth 100000 in
theorem kc_copyState (l : Launch) (D : va_G) (ct : Nat → ClassId) (ad tb : Nat → Nat) (M : Nat → Nat → Int64) (Pl : Nat → Nat) (C V : Nat → Int64) (sz : Nat) {k t : Nat} (hk : k < 9) (ht9 : t < 9) : Met l yX0_copyState wsX0_copyState ({ frames := 1, cells := 0, slots := 0, locals := 18 }) (kr_P D vwCl (kw_T ct) (kw_B tb) [.ref (ad 0), .int (nI k), .int (nI t)] (kw_X ct ad M Pl C V) sz) (va_Qv (S := Unit) (fun _ => True) (kr_B D vwCl (kw_T ct) (fun _ => kw_X ct ad (va_up M t (M k)) (va_up Pl t (Pl k)) C V) (va_A (kw_X ct ad M Pl C V) sz)) (va_A (kw_X ct ad M Pl C V) sz)) 0 0 (va_A (kw_X ct ad M Pl C V) sz) := by
  refine Met.ofW (cc := cX0_copyState) (maxL := 3) (ret := none) (by decide) rfl ?_
  intro p e s m args below meth c s₁ B hml hv
  obtain ⟨rfl, hsz, hP, hK, hD0, hB⟩ := hv
  have hx := B.exec
  have hb := B.bytes
  have hr := B.returns
  have hts := atoms_spec (ws := wsX0_copyState) B.pre
  have hown : s.vm.findClass RX0 = some m.cls := findClass_of_methodNamed B.named
  have hlocks := B.notSynchronized
  have hin : ∀ w ∈ u_ws RX0 TX0 4, w ∈ wsX0_copyState := by decide +kernel
  subst hsz
  have hD := hD0.self (sz := s.heap.size)
  generalize hAe : va_A (kw_X ct ad M Pl C V) s.heap.size = A at hD hB ⊢
  have hA : ∀ q : Nat, s.heap.size ≤ q → A q := fun q h => by rw [← hAe]; exact Or.inr h
  have hS : va_S A s.heap s.heap [] := va_S.rf
  have hl := lv_entry ([.ref (ad 0), .int (nI k), .int (nI t)]) (n := 3) (Nat.le_of_ble_eq_true rfl)
  rw [lg_entry_eq]
  generalize (lg_sl ([.ref (ad 0), .int (nI k), .int (nI t)]) ++ List.replicate (3 - (lg_sl ([.ref (ad 0), .int (nI k), .int (nI t)])).length) Slot.unset).toArray = ls at hl ⊢
  have hl : lv_has ls 3 [(0, .ref (ad 0)), (1, .int (nI k)), (2, .int (nI t))] := hl
  refine lv_aload_n hx hb dX0_copyState_0 rfl (lv_at hl 0 rfl) ?_
  refine va_get hx hb hts hin hown hK hP 0 rfl rfl 0 (by decide) (hts (.fieldLink RX0 11 "KeccakLanes" "lanes" "[[J") (by decide +kernel)) (fun _ h => h) rfl dX0_copyState_1 ?_
  refine lv_iload_n hx hb dX0_copyState_4 rfl (lv_at hl 1 rfl) ?_
  refine kr_aald hx hb hK hP 1 0 rfl rfl (n := k) (y := ad (5 + k)) (by omega) (by omega) (if_pos (by omega)) dX0_copyState_5 ?_
  refine lv_iconst (v := nI 0) hx hb dX0_copyState_6 rfl ?_
  refine lv_aload_n hx hb dX0_copyState_7 rfl (lv_at hl 0 rfl) ?_
  refine va_get hx hb hts hin hown hK hP 0 rfl rfl 0 (by decide) (hts (.fieldLink RX0 11 "KeccakLanes" "lanes" "[[J") (by decide +kernel)) (fun _ h => h) rfl dX0_copyState_8 ?_
  refine lv_iload_n hx hb dX0_copyState_11 rfl (lv_at hl 2 rfl) ?_
  refine kr_aald hx hb hK hP 1 0 rfl rfl (n := t) (y := ad (5 + t)) (by omega) (by omega) (if_pos (by omega)) dX0_copyState_12 ?_
  refine lv_iconst (v := nI 0) hx hb dX0_copyState_13 rfl ?_
  refine lv_bipush (v := nI 25) hx hb dX0_copyState_14 (by decide +kernel) ?_
  refine va_copyl hx hb (hml.trans hl.1.symm) hown (hts (.methodLink RX0 54 arraycopyName) (by decide +kernel)) (hts (.native arraycopyName) (by decide +kernel)) (hts (.static arraycopyName) (by decide +kernel)) (hts (.initialized "java/lang/System") (by decide +kernel)) hK hP hD hS (5 + k) (5 + t) 2 2 (kw_Xrow ct ad M Pl C V hk) (kw_Xrow ct ad M Pl C V ht9) rfl rfl rfl (nI_pos (n := 0) (by omega)) (nI_pos (n := 0) (by omega)) (nI_pos (n := 25) (by omega)) (by decide +kernel) (by decide +kernel) (fun _ _ => rfl) (Nat.le_of_ble_eq_true rfl) (by decide +kernel) dX0_copyState_16 (fun H locs hP hD hS => ?_)
  rw [kw_Xset ct ad M Pl C V _ ht9] at hP hD
  have hP : va_P D vwCl (kw_X ct ad (va_up M t (M k)) Pl C V) H := kr_sameL (q0 := 5 + t) hP (kw_Xrg ht9) (fun j hj => (show va_cpy (M k) (M t) (nI 0).toNatClampNeg (nI 0).toNatClampNeg (nI 25).toNatClampNeg j = M k j by rw [show (nI 0).toNatClampNeg = 0 from nI_clamp (by omega), show (nI 25).toNatClampNeg = 25 from nI_clamp (by omega)]; rw [pk_cpy_in (Nat.zero_le j) (by omega), Nat.zero_add, Nat.sub_zero])) (kw_Xsg ht9 _)
  have hD : va_D A (kw_X ct ad (va_up M t (M k)) Pl C V) := kr_sameD (q0 := 5 + t) hD (kw_Xrg ht9) (kw_Xsg ht9 _)
  refine lv_aload_n hx hb dX0_copyState_19 rfl (lv_at hl 0 rfl) ?_
  refine va_get hx hb hts hin hown hK hP 0 rfl rfl 1 (by decide) (hts (.fieldLink RX0 14 "KeccakLanes" "places" "[I") (by decide +kernel)) (fun _ h => h) rfl dX0_copyState_20 ?_
  refine lv_iload_n hx hb dX0_copyState_23 rfl (lv_at hl 2 rfl) ?_
  refine lv_aload_n hx hb dX0_copyState_24 rfl (lv_at hl 0 rfl) ?_
  refine va_get hx hb hts hin hown hK hP 0 rfl rfl 1 (by decide) (hts (.fieldLink RX0 14 "KeccakLanes" "places" "[I") (by decide +kernel)) (fun _ h => h) rfl dX0_copyState_25 ?_
  refine lv_iload_n hx hb dX0_copyState_28 rfl (lv_at hl 1 rfl) ?_
  refine kr_iald hx hb hK hP 2 1 rfl rfl (n := k) (by omega) (by omega) dX0_copyState_29 ?_
  refine kr_iast hx hb hK hP hD hS 2 1 rfl rfl (n := t) (by omega) (by omega) (kw_XsP t (Pl k)) dX0_copyState_30 (fun H locs hP hD hS => ?_)
  exact W.vret hx hb hr (fun t ht hW => ⟨⟨(), rfl, trivial, by rw [ht]; exact hP, va_K.moved hW.alike hK, hD⟩, hS.F ht⟩) hS.2.2 dX0_copyState_31
set_option maxHeartbeats 4000000 in
set_option maxRecDepth 100000 in
theorem kc_takeIn (l : Launch) (D : va_G) (ct : Nat → ClassId) (ad tb : Nat → Nat) (M : Nat → Nat → Int64) (Pl : Nat → Nat) (C V : Nat → Int64) (sz : Nat) (g : Nat → Int64) {k q : Nat} (hk : k < 9) (hq0 : q < 136) (b : Int32) : Met l yX0_takeIn wsX0_takeIn ({ frames := 3, cells := 0, slots := 0, locals := 75 }) (kr_P D vwCl (kw_T ct) (kw_B tb) [.ref (ad 0), .int (nI k), .int b] (kw_X ct ad (va_up M k g) (va_up Pl k q) C V) sz) (va_Qv (S := ((Nat → Int64) × (Nat → Int64))) (fun _ => True) (kr_B D vwCl (kw_T ct) (fun u => kw_X ct ad (va_up M k (kk_in (g, q) b).1) (va_up Pl k (kk_in (g, q) b).2) u.1 u.2) (va_A (kw_X ct ad (va_up M k g) (va_up Pl k q) C V) sz)) (va_A (kw_X ct ad (va_up M k g) (va_up Pl k q) C V) sz)) 0 0 (va_A (kw_X ct ad (va_up M k g) (va_up Pl k q) C V) sz) := by
  refine Met.ofW (cc := cX0_takeIn) (maxL := 3) (ret := none) (by decide) rfl ?_
  intro p e s m args below meth c s₁ B hml hv
  obtain ⟨rfl, hsz, hP, hK, hD0, hB⟩ := hv
  have hx := B.exec
  have hb := B.bytes
  have hr := B.returns
  have hts := atoms_spec (ws := wsX0_takeIn) B.pre
  have hown : s.vm.findClass RX0 = some m.cls := findClass_of_methodNamed B.named
  have hlocks := B.notSynchronized
  have hin : ∀ w ∈ u_ws RX0 TX0 4, w ∈ wsX0_takeIn := by decide +kernel
  subst hsz
  have hD := hD0.self (sz := s.heap.size)
  generalize hAe : va_A (kw_X ct ad (va_up M k g) (va_up Pl k q) C V) s.heap.size = A at hD hB ⊢
  have hA : ∀ q : Nat, s.heap.size ≤ q → A q := fun q h => by rw [← hAe]; exact Or.inr h
  have hS : va_S A s.heap s.heap [] := va_S.rf
  have hl := lv_entry ([.ref (ad 0), .int (nI k), .int b]) (n := 3) (Nat.le_of_ble_eq_true rfl)
  rw [lg_entry_eq]
  generalize (lg_sl ([.ref (ad 0), .int (nI k), .int b]) ++ List.replicate (3 - (lg_sl ([.ref (ad 0), .int (nI k), .int b])).length) Slot.unset).toArray = ls at hl ⊢
  have hl : lv_has ls 3 [(0, .ref (ad 0)), (1, .int (nI k)), (2, .int b)] := hl
  refine lv_aload_n hx hb dX0_takeIn_0 rfl (lv_at hl 0 rfl) ?_
  refine va_get hx hb hts hin hown hK hP 0 rfl rfl 0 (by decide) (hts (.fieldLink RX0 11 "KeccakLanes" "lanes" "[[J") (by decide +kernel)) (fun _ h => h) rfl dX0_takeIn_1 ?_
  refine lv_iload_n hx hb dX0_takeIn_4 rfl (lv_at hl 1 rfl) ?_
  refine kr_aald hx hb hK hP 1 0 rfl rfl (n := k) (y := ad (5 + k)) (by omega) (by omega) (if_pos (by omega)) dX0_takeIn_5 ?_
  refine lv_aload_n hx hb dX0_takeIn_6 rfl (lv_at hl 0 rfl) ?_
  refine va_get hx hb hts hin hown hK hP 0 rfl rfl 1 (by decide) (hts (.fieldLink RX0 14 "KeccakLanes" "places" "[I") (by decide +kernel)) (fun _ h => h) rfl dX0_takeIn_7 ?_
  refine lv_iload_n hx hb dX0_takeIn_10 rfl (lv_at hl 1 rfl) ?_
  refine kr_iald hx hb hK hP 2 1 rfl rfl (n := k) (by omega) (by omega) dX0_takeIn_11 ?_
  rw [va_up_self]
  refine lv_iload_n hx hb dX0_takeIn_12 rfl (lv_at hl 2 rfl) ?_
  refine kr_callv (va_runS (As := [.ref (ad (5 + k)), .int (nI q), .int b]) (rest := []) ⟨hx, hb, hml, hown, hts⟩ (kc_joinByte l D ct ad tb M (va_up Pl k q) C V _ g hk hq0 b) (va_cwS 3 hts gX0_takeIn_X0_joinByte rfl rfl rfl (by decide +kernel) ⟨Nat.le_of_ble_eq_true rfl, Nat.le_of_ble_eq_true rfl⟩) (kr_preS (kw_Bok tb) _ hP hK hD hB hS hA) rfl rfl hl.1 rfl (lv_room (Nat.le_of_ble_eq_true rfl)) dX0_takeIn_13 ⟨Nat.zero_le _, Nat.zero_le _⟩) hD hS hA (fun u H locs hq hP hD hS => ?_)
  have hP : va_P D vwCl (kw_X ct ad (va_up M k (kk_join g q (kk_bt b))) (va_up Pl k q) C V) H := hP
  have hD : va_D A (kw_X ct ad (va_up M k (kk_join g q (kk_bt b))) (va_up Pl k q) C V) := hD
  refine lv_aload_n hx hb dX0_takeIn_16 rfl (lv_at hl 0 rfl) ?_
  refine va_get hx hb hts hin hown hK hP 0 rfl rfl 1 (by decide) (hts (.fieldLink RX0 14 "KeccakLanes" "places" "[I") (by decide +kernel)) (fun _ h => h) rfl dX0_takeIn_17 ?_
  refine lv_iload_n hx hb dX0_takeIn_20 rfl (lv_at hl 1 rfl) ?_
  refine lv_dup2_11 hx hb dX0_takeIn_21 rfl rfl ?_
  refine kr_iald hx hb hK hP 2 1 rfl rfl (n := k) (by omega) (by omega) dX0_takeIn_22 ?_
  rw [va_up_self]
  refine lv_iconst (v := nI 1) hx hb dX0_takeIn_23 rfl ?_
  refine kr_iadd hx hb dX0_takeIn_24 ?_
  refine kr_iast hx hb hK hP hD hS 2 1 rfl rfl (n := k) (by omega) (by omega) ((kw_XsP k (q + 1)).trans (by rw [bx_uu])) dX0_takeIn_25 (fun H locs hP hD hS => ?_)
  have hP : va_P D vwCl (kw_X ct ad (va_up M k (kk_join g q (kk_bt b))) (va_up Pl k (q + 1)) C V) H := hP
  have hD : va_D A (kw_X ct ad (va_up M k (kk_join g q (kk_bt b))) (va_up Pl k (q + 1)) C V) := hD
  refine lv_aload_n hx hb dX0_takeIn_26 rfl (lv_at hl 0 rfl) ?_
  refine va_get hx hb hts hin hown hK hP 0 rfl rfl 1 (by decide) (hts (.fieldLink RX0 14 "KeccakLanes" "places" "[I") (by decide +kernel)) (fun _ h => h) rfl dX0_takeIn_27 ?_
  refine lv_iload_n hx hb dX0_takeIn_30 rfl (lv_at hl 1 rfl) ?_
  refine kr_iald hx hb hK hP 2 1 rfl rfl (n := k) (by omega) (by omega) dX0_takeIn_31 ?_
  rw [va_up_self]
  refine lv_sipush (v := nI 136) hx hb dX0_takeIn_32 (by decide +kernel) ?_
  refine kr_icmp_ne (tgt := 55) hx hb (by omega) (by omega) dX0_takeIn_35 rfl (fun hc => ?_) (fun hc => ?_)
  · have e9 : kk_in (g, q) b = (kk_join g q (kk_bt b), q + 1) := if_neg hc
    refine W.vret hx hb hr (fun t ht hW => ⟨⟨(C, V), rfl, trivial, ?_, va_K.moved hW.alike hK, ?_⟩, hS.F ht⟩) hS.2.2 dX0_takeIn_55
    · rw [ht]; show va_P D vwCl (kw_X ct ad (va_up M k (kk_in (g, q) b).1) (va_up Pl k (kk_in (g, q) b).2) C V) H; rw [e9]; exact hP
    · show va_D A (kw_X ct ad (va_up M k (kk_in (g, q) b).1) (va_up Pl k (kk_in (g, q) b).2) C V); rw [e9]; exact hD
  · have e9 : kk_in (g, q) b = (kk_mix (kk_join g q (kk_bt b)), 0) := if_pos hc
    refine lv_aload_n hx hb dX0_takeIn_38 rfl (lv_at hl 0 rfl) ?_
    refine lv_aload_n hx hb dX0_takeIn_39 rfl (lv_at hl 0 rfl) ?_
    refine va_get hx hb hts hin hown hK hP 0 rfl rfl 0 (by decide) (hts (.fieldLink RX0 11 "KeccakLanes" "lanes" "[[J") (by decide +kernel)) (fun _ h => h) rfl dX0_takeIn_40 ?_
    refine lv_iload_n hx hb dX0_takeIn_43 rfl (lv_at hl 1 rfl) ?_
    refine kr_aald hx hb hK hP 1 0 rfl rfl (n := k) (y := ad (5 + k)) (by omega) (by omega) (if_pos (by omega)) dX0_takeIn_44 ?_
    refine kr_callv (va_runV (As := [.ref (ad (5 + k))]) (rest := []) ⟨hx, hb, hml, hown, hts⟩ (kc_mixLanes l D ct ad tb M (va_up Pl k (q + 1)) C V _ (kk_join g q (kk_bt b)) hk) (cwV 1 hts gX0_takeIn_X0_mixLanes rfl rfl rfl (by decide +kernel) ⟨Nat.le_of_ble_eq_true rfl, Nat.le_of_ble_eq_true rfl⟩) (kr_preV (kw_Bok tb) (q := (RX0, TX0, 4)) (q0 := 0) (ci := 0) _ hP hK hD hB hS hA rfl rfl rfl) rfl rfl hl.1 rfl (lv_room (Nat.le_of_ble_eq_true rfl)) dX0_takeIn_45 ⟨Nat.zero_le _, Nat.zero_le _⟩) hD hS hA (fun u H locs hq hP hD hS => ?_)
    have hP : va_P D vwCl (kw_X ct ad (va_up M k (kk_mix (kk_join g q (kk_bt b)))) (va_up Pl k (q + 1)) u.1 u.2) H := hP
    have hD : va_D A (kw_X ct ad (va_up M k (kk_mix (kk_join g q (kk_bt b)))) (va_up Pl k (q + 1)) u.1 u.2) := hD
    refine lv_aload_n hx hb dX0_takeIn_48 rfl (lv_at hl 0 rfl) ?_
    refine va_get hx hb hts hin hown hK hP 0 rfl rfl 1 (by decide) (hts (.fieldLink RX0 14 "KeccakLanes" "places" "[I") (by decide +kernel)) (fun _ h => h) rfl dX0_takeIn_49 ?_
    refine lv_iload_n hx hb dX0_takeIn_52 rfl (lv_at hl 1 rfl) ?_
    refine lv_iconst (v := nI 0) hx hb dX0_takeIn_53 rfl ?_
    refine kr_iast hx hb hK hP hD hS 2 1 rfl rfl (n := k) (by omega) (by omega) ((kw_XsP k 0).trans (by rw [bx_uu])) dX0_takeIn_54 (fun H locs hP hD hS => ?_)
    have hP : va_P D vwCl (kw_X ct ad (va_up M k (kk_mix (kk_join g q (kk_bt b)))) (va_up Pl k 0) u.1 u.2) H := hP
    have hD : va_D A (kw_X ct ad (va_up M k (kk_mix (kk_join g q (kk_bt b)))) (va_up Pl k 0) u.1 u.2) := hD
    refine W.vret hx hb hr (fun t ht hW => ⟨⟨u, rfl, trivial, ?_, va_K.moved hW.alike hK, ?_⟩, hS.F ht⟩) hS.2.2 dX0_takeIn_55
    · rw [ht]; show va_P D vwCl (kw_X ct ad (va_up M k (kk_in (g, q) b).1) (va_up Pl k (kk_in (g, q) b).2) u.1 u.2) H; rw [e9]; exact hP
    · show va_D A (kw_X ct ad (va_up M k (kk_in (g, q) b).1) (va_up Pl k (kk_in (g, q) b).2) u.1 u.2); rw [e9]; exact hD
end
section
/-! KeccakLanes: requireUpTo, the public methods where they answer -/
/-- byte i of v; byte i of a filling -/
def kk_tb (v : Int64) (i : Nat) : Int32 := ((v.toUInt64 >>> ((nI (8 * i)).toInt64.toUInt64 &&& Int64.toUInt64 63)).toInt64).toInt32
def kk_fb (v t : Int32) (i : Nat) : Int32 := v + nI i * t
set_option maxHeartbeats 4000000 in
set_option maxRecDepth 100000 in
theorem kc_req (l : Launch) (D : va_G) (ct : Nat → ClassId) (ad tb : Nat → Nat) (M : Nat → Nat → Int64) (Pl : Nat → Nat) (C V : Nat → Int64) (sz : Nat) {a b : Nat} (hab : a ≤ b) (hb31 : b < 2 ^ 31) : Met l yX0_requireUpTo wsX0_requireUpTo ({ frames := 0, cells := 0, slots := 0, locals := 0 }) (kr_P D vwCl (kw_T ct) (kw_B tb) [.int (nI a), .int (nI b)] (kw_X ct ad M Pl C V) sz) (va_Qv (S := Unit) (fun _ => True) (kr_B D vwCl (kw_T ct) (fun _ => kw_X ct ad M Pl C V) (va_A (kw_X ct ad M Pl C V) sz)) (va_A (kw_X ct ad M Pl C V) sz)) 0 0 (va_A (kw_X ct ad M Pl C V) sz) := by
  refine Met.ofW (cc := cX0_requireUpTo) (maxL := 2) (ret := none) (by decide) rfl ?_
  intro p e s m args below meth c s₁ B hml hv
  obtain ⟨rfl, hsz, hP, hK, hD0, hB⟩ := hv
  have hx := B.exec
  have hb := B.bytes
  have hr := B.returns
  have hts := atoms_spec (ws := wsX0_requireUpTo) B.pre
  have hown : s.vm.findClass RX0 = some m.cls := findClass_of_methodNamed B.named
  have hlocks := B.notSynchronized
  subst hsz
  have hD := hD0.self (sz := s.heap.size)
  generalize hAe : va_A (kw_X ct ad M Pl C V) s.heap.size = A at hD hB ⊢
  have hA : ∀ q : Nat, s.heap.size ≤ q → A q := fun q h => by rw [← hAe]; exact Or.inr h
  have hS : va_S A s.heap s.heap [] := va_S.rf
  have hl := lv_entry ([.int (nI a), .int (nI b)]) (n := 2) (Nat.le_of_ble_eq_true rfl)
  rw [lg_entry_eq]
  generalize (lg_sl ([.int (nI a), .int (nI b)]) ++ List.replicate (2 - (lg_sl ([.int (nI a), .int (nI b)])).length) Slot.unset).toArray = ls at hl ⊢
  have hl : lv_has ls 2 [(0, .int (nI a)), (1, .int (nI b))] := hl
  refine lv_iload_n hx hb dX0_requireUpTo_0 rfl (lv_at hl 0 rfl) ?_
  refine lv_if_lt (tgt := 9) hx hb dX0_requireUpTo_1 rfl (fun hc => ?_) (fun hc => ?_)
  · exact absurd hc (nI_pos (by omega))
  · clear hc
    refine lv_iload_n hx hb dX0_requireUpTo_4 rfl (lv_at hl 0 rfl) ?_
    refine lv_iload_n hx hb dX0_requireUpTo_5 rfl (lv_at hl 1 rfl) ?_
    refine kr_icmp_le (tgt := 19) hx hb (by omega) (by omega) dX0_requireUpTo_6 rfl (fun hc => ?_) (fun hc => ?_)
    · clear hc
      exact W.vret hx hb hr (fun t ht hW => ⟨⟨(), rfl, trivial, by rw [ht]; exact hP, va_K.moved hW.alike hK, hD⟩, hS.F ht⟩) hS.2.2 dX0_requireUpTo_19
    · omega
set_option maxHeartbeats 4000000 in
set_option maxRecDepth 100000 in
theorem kc_clear (l : Launch) (D : va_G) (ct : Nat → ClassId) (ad tb : Nat → Nat) (M : Nat → Nat → Int64) (Pl : Nat → Nat) (C V : Nat → Int64) (sz : Nat) {k : Nat} (hk : k < 8) : Met l yX0_clear wsX0_clear ({ frames := 1, cells := 0, slots := 0, locals := 21 }) (kr_P D vwCl (kw_T ct) (kw_B tb) [.ref (ad 0), .int (nI k)] (kw_X ct ad M Pl C V) sz) (va_Qv (S := Unit) (fun _ => True) (kr_B D vwCl (kw_T ct) (fun _ => kw_X ct ad (va_up M k (fun _ => 0)) (va_up Pl k 0) C V) (va_A (kw_X ct ad M Pl C V) sz)) (va_A (kw_X ct ad M Pl C V) sz)) 0 0 (va_A (kw_X ct ad M Pl C V) sz) := by
  refine Met.ofW (cc := cX0_clear) (maxL := 4) (ret := none) (by decide) rfl ?_
  intro p e s m args below meth c s₁ B hml hv
  obtain ⟨rfl, hsz, hP, hK, hD0, hB⟩ := hv
  have hx := B.exec
  have hb := B.bytes
  have hr := B.returns
  have hts := atoms_spec (ws := wsX0_clear) B.pre
  have hown : s.vm.findClass RX0 = some m.cls := findClass_of_methodNamed B.named
  have hlocks := B.notSynchronized
  have hin : ∀ w ∈ u_ws RX0 TX0 4, w ∈ wsX0_clear := by decide +kernel
  subst hsz
  have hD := hD0.self (sz := s.heap.size)
  generalize hAe : va_A (kw_X ct ad M Pl C V) s.heap.size = A at hD hB ⊢
  have hA : ∀ q : Nat, s.heap.size ≤ q → A q := fun q h => by rw [← hAe]; exact Or.inr h
  have hS : va_S A s.heap s.heap [] := va_S.rf
  have hl := lv_entry ([.ref (ad 0), .int (nI k)]) (n := 4) (Nat.le_of_ble_eq_true rfl)
  rw [lg_entry_eq]
  generalize (lg_sl ([.ref (ad 0), .int (nI k)]) ++ List.replicate (4 - (lg_sl ([.ref (ad 0), .int (nI k)])).length) Slot.unset).toArray = ls at hl ⊢
  have hl : lv_has ls 4 [(0, .ref (ad 0)), (1, .int (nI k))] := hl
  have hk9 : k < 9 := by omega
  refine lv_iload_n hx hb dX0_clear_0 rfl (lv_at hl 1 rfl) ?_
  refine lv_bipush (v := nI 7) hx hb dX0_clear_1 (by decide +kernel) ?_
  refine kr_callv (va_runS (As := [.int (nI k), .int (nI 7)]) (rest := []) ⟨hx, hb, hml, hown, hts⟩ (kc_req l D ct ad tb M Pl C V _ (a := k) (b := 7) (by omega) (by omega)) (va_cwS 2 hts gX0_clear_X0_requireUpTo rfl rfl rfl (by decide +kernel) ⟨Nat.le_of_ble_eq_true rfl, Nat.le_of_ble_eq_true rfl⟩) (kr_preS (kw_Bok tb) _ hP hK hD hB hS hA) rfl rfl hl.1 rfl (lv_room (Nat.le_of_ble_eq_true rfl)) dX0_clear_3 ⟨Nat.zero_le _, Nat.zero_le _⟩) hD hS hA (fun u H locs hq hP hD hS => ?_)
  have hP : va_P D vwCl (kw_X ct ad M Pl C V) H := hP
  have hD : va_D A (kw_X ct ad M Pl C V) := hD
  refine lv_aload_n hx hb dX0_clear_6 rfl (lv_at hl 0 rfl) ?_
  refine va_get hx hb hts hin hown hK hP 0 rfl rfl 0 (by decide) (hts (.fieldLink RX0 11 "KeccakLanes" "lanes" "[[J") (by decide +kernel)) (fun _ h => h) rfl dX0_clear_7 ?_
  refine lv_iload_n hx hb dX0_clear_10 rfl (lv_at hl 1 rfl) ?_
  refine kr_aald hx hb hK hP 1 0 rfl rfl (n := k) (y := ad (5 + k)) (by omega) (by omega) (if_pos (by omega)) dX0_clear_11 ?_
  refine lv_astore_n hx hb dX0_clear_12 rfl hl (Nat.le_of_ble_eq_true rfl) rfl (fun ls hl => ?_)
  have hl : lv_has ls 4 [(2, .ref (ad (5 + k))), (0, .ref (ad 0)), (1, .int (nI k))] := hl
  refine lv_iconst (v := nI 0) hx hb dX0_clear_13 rfl ?_
  refine lv_istore_n hx hb dX0_clear_14 rfl hl (Nat.le_of_ble_eq_true rfl) rfl (fun ls hl => ?_)
  have hl : lv_has ls 4 [(3, .int (nI 0)), (2, .ref (ad (5 + k))), (0, .ref (ad 0)), (1, .int (nI k))] := hl
  have loop : ∀ (Q : State → Prop), (∀ (g : Nat → Int64) (H : Heap) (locs : List Loc) (ls : Array Slot), (∀ u, u < 25 → g u = 0) → lv_has ls 4 [(3, .int (nI 25)), (2, .ref (ad (5 + k))), (0, .ref (ad 0)), (1, .int (nI k))] → va_P D vwCl (kw_X ct ad (va_up M k g) Pl C V) H → va_D A (kw_X ct ad (va_up M k g) Pl C V) → va_S A s.heap H locs → W p l e (headSpec wsX0_clear ({ frames := 1, cells := 0, slots := 0, locals := 21 })).room s m (([.ref (ad 0), .int (nI k)] : List Value).toArray) below meth c H locs 0 0 Q (F0 m 31 ls [])) → ∀ (n i : Nat) (g : Nat → Int64) (H : Heap) (locs : List Loc) (ls : Array Slot), 25 - i < n → i ≤ 25 → (∀ u, u < i → g u = 0) → lv_has ls 4 [(3, .int (nI i)), (2, .ref (ad (5 + k))), (0, .ref (ad 0)), (1, .int (nI k))] → va_P D vwCl (kw_X ct ad (va_up M k g) Pl C V) H → va_D A (kw_X ct ad (va_up M k g) Pl C V) → va_S A s.heap H locs → W p l e (headSpec wsX0_clear ({ frames := 1, cells := 0, slots := 0, locals := 21 })).room s m (([.ref (ad 0), .int (nI k)] : List Value).toArray) below meth c H locs 0 0 Q (F0 m 15 ls []) := by
    intro Q hend n
    induction n with
    | zero => intro i g H locs ls h; omega
    | succ n ih =>
      intro i g H locs ls hn hi hinv hl hP hD hS
      refine lv_iload_n hx hb dX0_clear_15 rfl (lv_at hl 0 rfl) ?_
      refine lv_bipush (v := nI 25) hx hb dX0_clear_16 (by decide +kernel) ?_
      refine kr_icmp_ge (tgt := 31) hx hb (by omega) (by omega) dX0_clear_18 rfl (fun hc => ?_) (fun hc => ?_)
      · obtain rfl : i = 25 := by omega
        exact hend g H locs ls hinv hl hP hD hS
      · have hi25 : i < 25 := by omega
        refine lv_aload_n hx hb dX0_clear_21 rfl (lv_at hl 1 rfl) ?_
        refine lv_iload_n hx hb dX0_clear_22 rfl (lv_at hl 0 rfl) ?_
        refine lv_lconst (v := 0) hx hb dX0_clear_23 rfl ?_
        refine kr_last (w := kw_X ct ad (va_up M k (vp_updL g i 0)) Pl C V) hx hb hK hP hD hS (5 + k) 2 (kw_Xrg hk9) rfl (n := i) (by omega) (by omega) (kw_Xsg hk9 _) dX0_clear_24 (fun H locs hP hD hS => ?_)
        refine lv_iinc (k := 0) (v := nI (i + 1)) hx hb dX0_clear_25 hl rfl (nI_add i 1) (Nat.le_of_ble_eq_true rfl) rfl (fun ls hl => ?_)
        have hl : lv_has ls 4 [(3, .int (nI (i + 1))), (2, .ref (ad (5 + k))), (0, .ref (ad 0)), (1, .int (nI k))] := hl
        refine lv_goto (tgt := 15) hx hb dX0_clear_28 rfl ?_
        refine ih (i + 1) _ H locs ls (by omega) (by omega) (fun u hu => ?_) hl hP hD hS
        by_cases e9 : u = i
        · subst e9; rw [pk_uLs]
        · rw [pk_uLn e9]; exact hinv u (by omega)
  have hP : va_P D vwCl (kw_X ct ad (va_up M k (M k)) Pl C V) H := by rw [kw_self]; exact hP
  have hD : va_D A (kw_X ct ad (va_up M k (M k)) Pl C V) := by rw [kw_self]; exact hD
  refine loop _ (fun g H locs ls hinv hl hP hD hS => ?_) 26 0 (M k) H locs ls (by omega) (by omega) (fun u hu => absurd hu (by omega)) hl hP hD hS
  have hP : va_P D vwCl (kw_X ct ad (va_up M k (fun _ => 0)) Pl C V) H := kr_sameL (q0 := 5 + k) hP (kw_Xrg hk9) hinv (kw_Xsg hk9 _)
  have hD : va_D A (kw_X ct ad (va_up M k (fun _ => 0)) Pl C V) := kr_sameD (q0 := 5 + k) hD (kw_Xrg hk9) (kw_Xsg hk9 _)
  refine lv_aload_n hx hb dX0_clear_31 rfl (lv_at hl 2 rfl) ?_
  refine va_get hx hb hts hin hown hK hP 0 rfl rfl 1 (by decide) (hts (.fieldLink RX0 14 "KeccakLanes" "places" "[I") (by decide +kernel)) (fun _ h => h) rfl dX0_clear_32 ?_
  refine lv_iload_n hx hb dX0_clear_35 rfl (lv_at hl 3 rfl) ?_
  refine lv_iconst (v := nI 0) hx hb dX0_clear_36 rfl ?_
  refine kr_iast hx hb hK hP hD hS 2 1 rfl rfl (n := k) (by omega) (by omega) (kw_XsP k 0) dX0_clear_37 (fun H locs hP hD hS => ?_)
  exact W.vret hx hb hr (fun t ht hW => ⟨⟨(), rfl, trivial, by rw [ht]; exact hP, va_K.moved hW.alike hK, hD⟩, hS.F ht⟩) hS.2.2 dX0_clear_38
set_option maxHeartbeats 4000000 in
set_option maxRecDepth 100000 in
theorem kc_take (l : Launch) (D : va_G) (ct : Nat → ClassId) (ad tb : Nat → Nat) (M : Nat → Nat → Int64) (Pl : Nat → Nat) (C V : Nat → Int64) (sz : Nat) {k n : Nat} (hk : k < 8) (hn8 : n ≤ 8) (hq0 : (M k, Pl k).2 < 136) (v : Int64) : Met l yX0_take wsX0_take ({ frames := 4, cells := 0, slots := 0, locals := 97 }) (kr_P D vwCl (kw_T ct) (kw_B tb) [.ref (ad 0), .int (nI k), .long v, .int (nI n)] (kw_X ct ad M Pl C V) sz) (va_Qi (S := ((Nat → Int64) × (Nat → Int64))) (fun r _ => r = nI (kk_ins (M k, Pl k) (kk_tb v) n).2) (kr_B D vwCl (kw_T ct) (fun u => kw_X ct ad (va_up M k (kk_ins (M k, Pl k) (kk_tb v) n).1) (va_up Pl k (kk_ins (M k, Pl k) (kk_tb v) n).2) u.1 u.2) (va_A (kw_X ct ad M Pl C V) sz)) (va_A (kw_X ct ad M Pl C V) sz)) 0 0 (va_A (kw_X ct ad M Pl C V) sz) := by
  refine Met.ofW (cc := cX0_take) (maxL := 6) (ret := (some .int)) (by decide) rfl ?_
  intro p e s m args below meth c s₁ B hml hv
  obtain ⟨rfl, hsz, hP, hK, hD0, hB⟩ := hv
  have hx := B.exec
  have hb := B.bytes
  have hr := B.returns
  have hts := atoms_spec (ws := wsX0_take) B.pre
  have hown : s.vm.findClass RX0 = some m.cls := findClass_of_methodNamed B.named
  have hlocks := B.notSynchronized
  have hin : ∀ w ∈ u_ws RX0 TX0 4, w ∈ wsX0_take := by decide +kernel
  subst hsz
  have hD := hD0.self (sz := s.heap.size)
  generalize hAe : va_A (kw_X ct ad M Pl C V) s.heap.size = A at hD hB ⊢
  have hA : ∀ q : Nat, s.heap.size ≤ q → A q := fun q h => by rw [← hAe]; exact Or.inr h
  have hS : va_S A s.heap s.heap [] := va_S.rf
  have hl := lv_entry ([.ref (ad 0), .int (nI k), .long v, .int (nI n)]) (n := 6) (Nat.le_of_ble_eq_true rfl)
  rw [lg_entry_eq]
  generalize (lg_sl ([.ref (ad 0), .int (nI k), .long v, .int (nI n)]) ++ List.replicate (6 - (lg_sl ([.ref (ad 0), .int (nI k), .long v, .int (nI n)])).length) Slot.unset).toArray = ls at hl ⊢
  have hl : lv_has ls 6 [(0, .ref (ad 0)), (1, .int (nI k)), (2, .long v), (4, .int (nI n))] := hl
  have hk9 : k < 9 := by omega
  refine lv_iload_n hx hb dX0_take_0 rfl (lv_at hl 1 rfl) ?_
  refine lv_bipush (v := nI 7) hx hb dX0_take_1 (by decide +kernel) ?_
  refine kr_callv (va_runS (As := [.int (nI k), .int (nI 7)]) (rest := []) ⟨hx, hb, hml, hown, hts⟩ (kc_req l D ct ad tb M Pl C V _ (a := k) (b := 7) (by omega) (by omega)) (va_cwS 2 hts gX0_take_X0_requireUpTo rfl rfl rfl (by decide +kernel) ⟨Nat.le_of_ble_eq_true rfl, Nat.le_of_ble_eq_true rfl⟩) (kr_preS (kw_Bok tb) _ hP hK hD hB hS hA) rfl rfl hl.1 rfl (lv_room (Nat.le_of_ble_eq_true rfl)) dX0_take_3 ⟨Nat.zero_le _, Nat.zero_le _⟩) hD hS hA (fun u H locs hq hP hD hS => ?_)
  have hP : va_P D vwCl (kw_X ct ad M Pl C V) H := hP
  have hD : va_D A (kw_X ct ad M Pl C V) := hD
  refine lv_iload hx hb dX0_take_6 (lv_at hl 3 rfl) ?_
  refine lv_bipush (v := nI 8) hx hb dX0_take_8 (by decide +kernel) ?_
  refine kr_callv (va_runS (As := [.int (nI n), .int (nI 8)]) (rest := []) ⟨hx, hb, hml, hown, hts⟩ (kc_req l D ct ad tb M Pl C V _ (a := n) (b := 8) (by omega) (by omega)) (va_cwS 2 hts gX0_take_X0_requireUpTo rfl rfl rfl (by decide +kernel) ⟨Nat.le_of_ble_eq_true rfl, Nat.le_of_ble_eq_true rfl⟩) (kr_preS (kw_Bok tb) _ hP hK hD hB hS hA) rfl rfl hl.1 rfl (lv_room (Nat.le_of_ble_eq_true rfl)) dX0_take_10 ⟨Nat.zero_le _, Nat.zero_le _⟩) hD hS hA (fun u H locs hq hP hD hS => ?_)
  have hP : va_P D vwCl (kw_X ct ad M Pl C V) H := hP
  have hD : va_D A (kw_X ct ad M Pl C V) := hD
  refine lv_iconst (v := nI 0) hx hb dX0_take_13 rfl ?_
  refine lv_istore hx hb dX0_take_14 hl (Nat.le_of_ble_eq_true rfl) rfl (fun ls hl => ?_)
  have hl : lv_has ls 6 [(5, .int (nI 0)), (0, .ref (ad 0)), (1, .int (nI k)), (2, .long v), (4, .int (nI n))] := hl
  have hl : lv_has ls 6 [(5, .int (nI 0)), (0, .ref (ad 0)), (1, .int (nI k)), (2, .long v), (4, .int (nI n))] := lv_sub hl [0, 1, 2, 3, 4] rfl
  have loop : ∀ (Q : State → Prop), (∀ (C V : Nat → Int64) (H : Heap) (locs : List Loc) (ls : Array Slot), lv_has ls 6 [(5, .int (nI n)), (0, .ref (ad 0)), (1, .int (nI k)), (2, .long v), (4, .int (nI n))] → va_P D vwCl (kw_X ct ad (va_up M k (kk_ins (M k, Pl k) (kk_tb v) n).1) (va_up Pl k (kk_ins (M k, Pl k) (kk_tb v) n).2) C V) H → va_D A (kw_X ct ad (va_up M k (kk_ins (M k, Pl k) (kk_tb v) n).1) (va_up Pl k (kk_ins (M k, Pl k) (kk_tb v) n).2) C V) → va_S A s.heap H locs → W p l e (headSpec wsX0_take ({ frames := 4, cells := 0, slots := 0, locals := 97 })).room s m (([.ref (ad 0), .int (nI k), .long v, .int (nI n)] : List Value).toArray) below meth c H locs 0 0 Q (F0 m 42 ls [])) → ∀ (f i : Nat) (C V : Nat → Int64) (H : Heap) (locs : List Loc) (ls : Array Slot), n - i < f → i ≤ n → lv_has ls 6 [(5, .int (nI i)), (0, .ref (ad 0)), (1, .int (nI k)), (2, .long v), (4, .int (nI n))] → va_P D vwCl (kw_X ct ad (va_up M k (kk_ins (M k, Pl k) (kk_tb v) i).1) (va_up Pl k (kk_ins (M k, Pl k) (kk_tb v) i).2) C V) H → va_D A (kw_X ct ad (va_up M k (kk_ins (M k, Pl k) (kk_tb v) i).1) (va_up Pl k (kk_ins (M k, Pl k) (kk_tb v) i).2) C V) → va_S A s.heap H locs → W p l e (headSpec wsX0_take ({ frames := 4, cells := 0, slots := 0, locals := 97 })).room s m (([.ref (ad 0), .int (nI k), .long v, .int (nI n)] : List Value).toArray) below meth c H locs 0 0 Q (F0 m 16 ls []) := by
    intro Q hend f
    induction f with
    | zero => intro i C V H locs ls h; omega
    | succ f ih =>
      intro i C V H locs ls hn hi hl hP hD hS
      refine lv_iload hx hb dX0_take_16 (lv_at hl 0 rfl) ?_
      refine lv_iload hx hb dX0_take_18 (lv_at hl 4 rfl) ?_
      refine kr_icmp_ge (tgt := 42) hx hb (by omega) (by omega) dX0_take_20 rfl (fun hc => ?_) (fun hc => ?_)
      · obtain rfl : i = n := by omega
        exact hend C V H locs ls hl hP hD hS
      · have hin2 : i < n := by omega
        refine lv_aload_n hx hb dX0_take_23 rfl (lv_at hl 1 rfl) ?_
        refine lv_iload_n hx hb dX0_take_24 rfl (lv_at hl 2 rfl) ?_
        refine lv_lload_n hx hb dX0_take_25 rfl (lv_at hl 3 rfl) ?_
        refine lv_bipush (v := nI 8) hx hb dX0_take_26 (by decide +kernel) ?_
        refine lv_iload hx hb dX0_take_28 (lv_at hl 0 rfl) ?_
        refine kr_imul hx hb dX0_take_30 ?_
        refine lv_lushr hx hb dX0_take_31 rfl ?_
        refine lv_l2i hx hb dX0_take_32 rfl ?_
        refine kr_callv (va_runV (As := [.int (nI k), .int (((v.toUInt64 >>> ((nI (8 * i)).toInt64.toUInt64 &&& Int64.toUInt64 63)).toInt64).toInt32)]) (rest := []) ⟨hx, hb, hml, hown, hts⟩ (kc_takeIn l D ct ad tb M Pl C V _ (kk_ins (M k, Pl k) (kk_tb v) i).1 (q := (kk_ins (M k, Pl k) (kk_tb v) i).2) hk9 (kk_ins_lt hq0 i) ((kk_tb v) i)) (cwV 2 hts gX0_take_X0_takeIn rfl rfl rfl (by decide +kernel) ⟨Nat.le_of_ble_eq_true rfl, Nat.le_of_ble_eq_true rfl⟩) (kr_preV (kw_Bok tb) (q := (RX0, TX0, 4)) (q0 := 0) (ci := 0) _ hP hK hD hB hS hA rfl rfl rfl) rfl rfl hl.1 rfl (lv_room (Nat.le_of_ble_eq_true rfl)) dX0_take_33 ⟨Nat.zero_le _, Nat.zero_le _⟩) hD hS hA (fun u H locs hq hP hD hS => ?_)
        have hP : va_P D vwCl (kw_X ct ad (va_up M k ((kk_ins (M k, Pl k) (kk_tb v) (i + 1)).1)) (va_up Pl k ((kk_ins (M k, Pl k) (kk_tb v) (i + 1)).2)) u.1 u.2) H := hP
        have hD : va_D A (kw_X ct ad (va_up M k ((kk_ins (M k, Pl k) (kk_tb v) (i + 1)).1)) (va_up Pl k ((kk_ins (M k, Pl k) (kk_tb v) (i + 1)).2)) u.1 u.2) := hD
        refine lv_iinc (k := 0) (v := nI (i + 1)) hx hb dX0_take_36 hl rfl (nI_add i 1) (Nat.le_of_ble_eq_true rfl) rfl (fun ls hl => ?_)
        have hl : lv_has ls 6 [(5, .int (nI (i + 1))), (0, .ref (ad 0)), (1, .int (nI k)), (2, .long v), (4, .int (nI n))] := hl
        refine lv_goto (tgt := 16) hx hb dX0_take_39 rfl ?_
        exact ih (i + 1) u.1 u.2 H locs ls (by omega) (by omega) hl hP hD hS
  have hP : va_P D vwCl (kw_X ct ad (va_up M k (kk_ins (M k, Pl k) (kk_tb v) 0).1) (va_up Pl k (kk_ins (M k, Pl k) (kk_tb v) 0).2) C V) H := by show va_P D vwCl (kw_X ct ad (va_up M k (M k)) (va_up Pl k (Pl k)) C V) H; rw [kw_self, kw_self]; exact hP
  have hD : va_D A (kw_X ct ad (va_up M k (kk_ins (M k, Pl k) (kk_tb v) 0).1) (va_up Pl k (kk_ins (M k, Pl k) (kk_tb v) 0).2) C V) := by show va_D A (kw_X ct ad (va_up M k (M k)) (va_up Pl k (Pl k)) C V); rw [kw_self, kw_self]; exact hD
  refine loop _ (fun C V H locs ls hl hP hD hS => ?_) (n + 1) 0 C V H locs ls (by omega) (by omega) hl hP hD hS
  refine lv_aload_n hx hb dX0_take_42 rfl (lv_at hl 1 rfl) ?_
  refine va_get hx hb hts hin hown hK hP 0 rfl rfl 1 (by decide) (hts (.fieldLink RX0 14 "KeccakLanes" "places" "[I") (by decide +kernel)) (fun _ h => h) rfl dX0_take_43 ?_
  refine lv_iload_n hx hb dX0_take_46 rfl (lv_at hl 2 rfl) ?_
  refine kr_iald hx hb hK hP 2 1 rfl rfl (n := k) (by omega) (by omega) dX0_take_47 ?_
  rw [va_up_self]
  exact W.iret hx hb hr (fun t ht hW => ⟨⟨_, (C, V), rfl, rfl, by rw [ht]; exact hP, va_K.moved hW.alike hK, hD⟩, hS.F ht⟩) hS.2.2 dX0_take_48
set_option maxHeartbeats 4000000 in
set_option maxRecDepth 100000 in
theorem kc_fill (l : Launch) (D : va_G) (ct : Nat → ClassId) (ad tb : Nat → Nat) (M : Nat → Nat → Int64) (Pl : Nat → Nat) (C V : Nat → Int64) (sz : Nat) {k n : Nat} (hk : k < 8) (hn8 : n ≤ 2000) (hq0 : (M k, Pl k).2 < 136) (v t : Int32) : Met l yX0_fill wsX0_fill ({ frames := 4, cells := 0, slots := 0, locals := 97 }) (kr_P D vwCl (kw_T ct) (kw_B tb) [.ref (ad 0), .int (nI k), .int v, .int t, .int (nI n)] (kw_X ct ad M Pl C V) sz) (va_Qi (S := ((Nat → Int64) × (Nat → Int64))) (fun r _ => r = nI (kk_ins (M k, Pl k) (kk_fb v t) n).2) (kr_B D vwCl (kw_T ct) (fun u => kw_X ct ad (va_up M k (kk_ins (M k, Pl k) (kk_fb v t) n).1) (va_up Pl k (kk_ins (M k, Pl k) (kk_fb v t) n).2) u.1 u.2) (va_A (kw_X ct ad M Pl C V) sz)) (va_A (kw_X ct ad M Pl C V) sz)) 0 0 (va_A (kw_X ct ad M Pl C V) sz) := by
  refine Met.ofW (cc := cX0_fill) (maxL := 6) (ret := (some .int)) (by decide) rfl ?_
  intro p e s m args below meth c s₁ B hml hv
  obtain ⟨rfl, hsz, hP, hK, hD0, hB⟩ := hv
  have hx := B.exec
  have hb := B.bytes
  have hr := B.returns
  have hts := atoms_spec (ws := wsX0_fill) B.pre
  have hown : s.vm.findClass RX0 = some m.cls := findClass_of_methodNamed B.named
  have hlocks := B.notSynchronized
  have hin : ∀ w ∈ u_ws RX0 TX0 4, w ∈ wsX0_fill := by decide +kernel
  subst hsz
  have hD := hD0.self (sz := s.heap.size)
  generalize hAe : va_A (kw_X ct ad M Pl C V) s.heap.size = A at hD hB ⊢
  have hA : ∀ q : Nat, s.heap.size ≤ q → A q := fun q h => by rw [← hAe]; exact Or.inr h
  have hS : va_S A s.heap s.heap [] := va_S.rf
  have hl := lv_entry ([.ref (ad 0), .int (nI k), .int v, .int t, .int (nI n)]) (n := 6) (Nat.le_of_ble_eq_true rfl)
  rw [lg_entry_eq]
  generalize (lg_sl ([.ref (ad 0), .int (nI k), .int v, .int t, .int (nI n)]) ++ List.replicate (6 - (lg_sl ([.ref (ad 0), .int (nI k), .int v, .int t, .int (nI n)])).length) Slot.unset).toArray = ls at hl ⊢
  have hl : lv_has ls 6 [(0, .ref (ad 0)), (1, .int (nI k)), (2, .int v), (3, .int t), (4, .int (nI n))] := hl
  have hk9 : k < 9 := by omega
  refine lv_iload_n hx hb dX0_fill_0 rfl (lv_at hl 1 rfl) ?_
  refine lv_bipush (v := nI 7) hx hb dX0_fill_1 (by decide +kernel) ?_
  refine kr_callv (va_runS (As := [.int (nI k), .int (nI 7)]) (rest := []) ⟨hx, hb, hml, hown, hts⟩ (kc_req l D ct ad tb M Pl C V _ (a := k) (b := 7) (by omega) (by omega)) (va_cwS 2 hts gX0_fill_X0_requireUpTo rfl rfl rfl (by decide +kernel) ⟨Nat.le_of_ble_eq_true rfl, Nat.le_of_ble_eq_true rfl⟩) (kr_preS (kw_Bok tb) _ hP hK hD hB hS hA) rfl rfl hl.1 rfl (lv_room (Nat.le_of_ble_eq_true rfl)) dX0_fill_3 ⟨Nat.zero_le _, Nat.zero_le _⟩) hD hS hA (fun u H locs hq hP hD hS => ?_)
  have hP : va_P D vwCl (kw_X ct ad M Pl C V) H := hP
  have hD : va_D A (kw_X ct ad M Pl C V) := hD
  refine lv_iload hx hb dX0_fill_6 (lv_at hl 4 rfl) ?_
  refine lv_sipush (v := nI 2000) hx hb dX0_fill_8 (by decide +kernel) ?_
  refine kr_callv (va_runS (As := [.int (nI n), .int (nI 2000)]) (rest := []) ⟨hx, hb, hml, hown, hts⟩ (kc_req l D ct ad tb M Pl C V _ (a := n) (b := 2000) (by omega) (by omega)) (va_cwS 2 hts gX0_fill_X0_requireUpTo rfl rfl rfl (by decide +kernel) ⟨Nat.le_of_ble_eq_true rfl, Nat.le_of_ble_eq_true rfl⟩) (kr_preS (kw_Bok tb) _ hP hK hD hB hS hA) rfl rfl hl.1 rfl (lv_room (Nat.le_of_ble_eq_true rfl)) dX0_fill_11 ⟨Nat.zero_le _, Nat.zero_le _⟩) hD hS hA (fun u H locs hq hP hD hS => ?_)
  have hP : va_P D vwCl (kw_X ct ad M Pl C V) H := hP
  have hD : va_D A (kw_X ct ad M Pl C V) := hD
  refine lv_iconst (v := nI 0) hx hb dX0_fill_14 rfl ?_
  refine lv_istore hx hb dX0_fill_15 hl (Nat.le_of_ble_eq_true rfl) rfl (fun ls hl => ?_)
  have hl : lv_has ls 6 [(5, .int (nI 0)), (0, .ref (ad 0)), (1, .int (nI k)), (2, .int v), (3, .int t), (4, .int (nI n))] := hl
  have hl : lv_has ls 6 [(5, .int (nI 0)), (0, .ref (ad 0)), (1, .int (nI k)), (2, .int v), (3, .int t), (4, .int (nI n))] := lv_sub hl [0, 1, 2, 3, 4, 5] rfl
  have loop : ∀ (Q : State → Prop), (∀ (C V : Nat → Int64) (H : Heap) (locs : List Loc) (ls : Array Slot), lv_has ls 6 [(5, .int (nI n)), (0, .ref (ad 0)), (1, .int (nI k)), (2, .int v), (3, .int t), (4, .int (nI n))] → va_P D vwCl (kw_X ct ad (va_up M k (kk_ins (M k, Pl k) (kk_fb v t) n).1) (va_up Pl k (kk_ins (M k, Pl k) (kk_fb v t) n).2) C V) H → va_D A (kw_X ct ad (va_up M k (kk_ins (M k, Pl k) (kk_fb v t) n).1) (va_up Pl k (kk_ins (M k, Pl k) (kk_fb v t) n).2) C V) → va_S A s.heap H locs → W p l e (headSpec wsX0_fill ({ frames := 4, cells := 0, slots := 0, locals := 97 })).room s m (([.ref (ad 0), .int (nI k), .int v, .int t, .int (nI n)] : List Value).toArray) below meth c H locs 0 0 Q (F0 m 41 ls [])) → ∀ (f i : Nat) (C V : Nat → Int64) (H : Heap) (locs : List Loc) (ls : Array Slot), n - i < f → i ≤ n → lv_has ls 6 [(5, .int (nI i)), (0, .ref (ad 0)), (1, .int (nI k)), (2, .int v), (3, .int t), (4, .int (nI n))] → va_P D vwCl (kw_X ct ad (va_up M k (kk_ins (M k, Pl k) (kk_fb v t) i).1) (va_up Pl k (kk_ins (M k, Pl k) (kk_fb v t) i).2) C V) H → va_D A (kw_X ct ad (va_up M k (kk_ins (M k, Pl k) (kk_fb v t) i).1) (va_up Pl k (kk_ins (M k, Pl k) (kk_fb v t) i).2) C V) → va_S A s.heap H locs → W p l e (headSpec wsX0_fill ({ frames := 4, cells := 0, slots := 0, locals := 97 })).room s m (([.ref (ad 0), .int (nI k), .int v, .int t, .int (nI n)] : List Value).toArray) below meth c H locs 0 0 Q (F0 m 17 ls []) := by
    intro Q hend f
    induction f with
    | zero => intro i C V H locs ls h; omega
    | succ f ih =>
      intro i C V H locs ls hn hi hl hP hD hS
      refine lv_iload hx hb dX0_fill_17 (lv_at hl 0 rfl) ?_
      refine lv_iload hx hb dX0_fill_19 (lv_at hl 5 rfl) ?_
      refine kr_icmp_ge (tgt := 41) hx hb (by omega) (by omega) dX0_fill_21 rfl (fun hc => ?_) (fun hc => ?_)
      · obtain rfl : i = n := by omega
        exact hend C V H locs ls hl hP hD hS
      · have hin2 : i < n := by omega
        refine lv_aload_n hx hb dX0_fill_24 rfl (lv_at hl 1 rfl) ?_
        refine lv_iload_n hx hb dX0_fill_25 rfl (lv_at hl 2 rfl) ?_
        refine lv_iload_n hx hb dX0_fill_26 rfl (lv_at hl 3 rfl) ?_
        refine lv_iload hx hb dX0_fill_27 (lv_at hl 0 rfl) ?_
        refine lv_iload_n hx hb dX0_fill_29 rfl (lv_at hl 4 rfl) ?_
        refine lv_imul hx hb dX0_fill_30 ?_
        refine lv_iadd hx hb dX0_fill_31 ?_
        refine kr_callv (va_runV (As := [.int (nI k), .int (v + ((nI i) * t))]) (rest := []) ⟨hx, hb, hml, hown, hts⟩ (kc_takeIn l D ct ad tb M Pl C V _ (kk_ins (M k, Pl k) (kk_fb v t) i).1 (q := (kk_ins (M k, Pl k) (kk_fb v t) i).2) hk9 (kk_ins_lt hq0 i) ((kk_fb v t) i)) (cwV 2 hts gX0_fill_X0_takeIn rfl rfl rfl (by decide +kernel) ⟨Nat.le_of_ble_eq_true rfl, Nat.le_of_ble_eq_true rfl⟩) (kr_preV (kw_Bok tb) (q := (RX0, TX0, 4)) (q0 := 0) (ci := 0) _ hP hK hD hB hS hA rfl rfl rfl) rfl rfl hl.1 rfl (lv_room (Nat.le_of_ble_eq_true rfl)) dX0_fill_32 ⟨Nat.zero_le _, Nat.zero_le _⟩) hD hS hA (fun u H locs hq hP hD hS => ?_)
        have hP : va_P D vwCl (kw_X ct ad (va_up M k ((kk_ins (M k, Pl k) (kk_fb v t) (i + 1)).1)) (va_up Pl k ((kk_ins (M k, Pl k) (kk_fb v t) (i + 1)).2)) u.1 u.2) H := hP
        have hD : va_D A (kw_X ct ad (va_up M k ((kk_ins (M k, Pl k) (kk_fb v t) (i + 1)).1)) (va_up Pl k ((kk_ins (M k, Pl k) (kk_fb v t) (i + 1)).2)) u.1 u.2) := hD
        refine lv_iinc (k := 0) (v := nI (i + 1)) hx hb dX0_fill_35 hl rfl (nI_add i 1) (Nat.le_of_ble_eq_true rfl) rfl (fun ls hl => ?_)
        have hl : lv_has ls 6 [(5, .int (nI (i + 1))), (0, .ref (ad 0)), (1, .int (nI k)), (2, .int v), (3, .int t), (4, .int (nI n))] := hl
        refine lv_goto (tgt := 17) hx hb dX0_fill_38 rfl ?_
        exact ih (i + 1) u.1 u.2 H locs ls (by omega) (by omega) hl hP hD hS
  have hP : va_P D vwCl (kw_X ct ad (va_up M k (kk_ins (M k, Pl k) (kk_fb v t) 0).1) (va_up Pl k (kk_ins (M k, Pl k) (kk_fb v t) 0).2) C V) H := by show va_P D vwCl (kw_X ct ad (va_up M k (M k)) (va_up Pl k (Pl k)) C V) H; rw [kw_self, kw_self]; exact hP
  have hD : va_D A (kw_X ct ad (va_up M k (kk_ins (M k, Pl k) (kk_fb v t) 0).1) (va_up Pl k (kk_ins (M k, Pl k) (kk_fb v t) 0).2) C V) := by show va_D A (kw_X ct ad (va_up M k (M k)) (va_up Pl k (Pl k)) C V); rw [kw_self, kw_self]; exact hD
  refine loop _ (fun C V H locs ls hl hP hD hS => ?_) (n + 1) 0 C V H locs ls (by omega) (by omega) hl hP hD hS
  refine lv_aload_n hx hb dX0_fill_41 rfl (lv_at hl 1 rfl) ?_
  refine va_get hx hb hts hin hown hK hP 0 rfl rfl 1 (by decide) (hts (.fieldLink RX0 14 "KeccakLanes" "places" "[I") (by decide +kernel)) (fun _ h => h) rfl dX0_fill_42 ?_
  refine lv_iload_n hx hb dX0_fill_45 rfl (lv_at hl 2 rfl) ?_
  refine kr_iald hx hb hK hP 2 1 rfl rfl (n := k) (by omega) (by omega) dX0_fill_46 ?_
  rw [va_up_self]
  exact W.iret hx hb hr (fun t ht hW => ⟨⟨_, (C, V), rfl, rfl, by rw [ht]; exact hP, va_K.moved hW.alike hK, hD⟩, hS.F ht⟩) hS.2.2 dX0_fill_47
set_option maxHeartbeats 4000000 in
set_option maxRecDepth 100000 in
theorem kc_copy (l : Launch) (D : va_G) (ct : Nat → ClassId) (ad tb : Nat → Nat) (M : Nat → Nat → Int64) (Pl : Nat → Nat) (C V : Nat → Int64) (sz : Nat) {k t : Nat} (hk : k < 8) (ht8 : t < 8) : Met l yX0_copy wsX0_copy ({ frames := 2, cells := 0, slots := 0, locals := 40 }) (kr_P D vwCl (kw_T ct) (kw_B tb) [.ref (ad 0), .int (nI k), .int (nI t)] (kw_X ct ad M Pl C V) sz) (va_Qv (S := Unit) (fun _ => True) (kr_B D vwCl (kw_T ct) (fun _ => kw_X ct ad (va_up M t (M k)) (va_up Pl t (Pl k)) C V) (va_A (kw_X ct ad M Pl C V) sz)) (va_A (kw_X ct ad M Pl C V) sz)) 0 0 (va_A (kw_X ct ad M Pl C V) sz) := by
  refine Met.ofW (cc := cX0_copy) (maxL := 3) (ret := none) (by decide) rfl ?_
  intro p e s m args below meth c s₁ B hml hv
  obtain ⟨rfl, hsz, hP, hK, hD0, hB⟩ := hv
  have hx := B.exec
  have hb := B.bytes
  have hr := B.returns
  have hts := atoms_spec (ws := wsX0_copy) B.pre
  have hown : s.vm.findClass RX0 = some m.cls := findClass_of_methodNamed B.named
  have hlocks := B.notSynchronized
  subst hsz
  have hD := hD0.self (sz := s.heap.size)
  generalize hAe : va_A (kw_X ct ad M Pl C V) s.heap.size = A at hD hB ⊢
  have hA : ∀ q : Nat, s.heap.size ≤ q → A q := fun q h => by rw [← hAe]; exact Or.inr h
  have hS : va_S A s.heap s.heap [] := va_S.rf
  have hl := lv_entry ([.ref (ad 0), .int (nI k), .int (nI t)]) (n := 3) (Nat.le_of_ble_eq_true rfl)
  rw [lg_entry_eq]
  generalize (lg_sl ([.ref (ad 0), .int (nI k), .int (nI t)]) ++ List.replicate (3 - (lg_sl ([.ref (ad 0), .int (nI k), .int (nI t)])).length) Slot.unset).toArray = ls at hl ⊢
  have hl : lv_has ls 3 [(0, .ref (ad 0)), (1, .int (nI k)), (2, .int (nI t))] := hl
  refine lv_iload_n hx hb dX0_copy_0 rfl (lv_at hl 1 rfl) ?_
  refine lv_bipush (v := nI 7) hx hb dX0_copy_1 (by decide +kernel) ?_
  refine kr_callv (va_runS (As := [.int (nI k), .int (nI 7)]) (rest := []) ⟨hx, hb, hml, hown, hts⟩ (kc_req l D ct ad tb M Pl C V _ (a := k) (b := 7) (by omega) (by omega)) (va_cwS 2 hts gX0_copy_X0_requireUpTo rfl rfl rfl (by decide +kernel) ⟨Nat.le_of_ble_eq_true rfl, Nat.le_of_ble_eq_true rfl⟩) (kr_preS (kw_Bok tb) _ hP hK hD hB hS hA) rfl rfl hl.1 rfl (lv_room (Nat.le_of_ble_eq_true rfl)) dX0_copy_3 ⟨Nat.zero_le _, Nat.zero_le _⟩) hD hS hA (fun u H locs hq hP hD hS => ?_)
  have hP : va_P D vwCl (kw_X ct ad M Pl C V) H := hP
  have hD : va_D A (kw_X ct ad M Pl C V) := hD
  refine lv_iload_n hx hb dX0_copy_6 rfl (lv_at hl 2 rfl) ?_
  refine lv_bipush (v := nI 7) hx hb dX0_copy_7 (by decide +kernel) ?_
  refine kr_callv (va_runS (As := [.int (nI t), .int (nI 7)]) (rest := []) ⟨hx, hb, hml, hown, hts⟩ (kc_req l D ct ad tb M Pl C V _ (a := t) (b := 7) (by omega) (by omega)) (va_cwS 2 hts gX0_copy_X0_requireUpTo rfl rfl rfl (by decide +kernel) ⟨Nat.le_of_ble_eq_true rfl, Nat.le_of_ble_eq_true rfl⟩) (kr_preS (kw_Bok tb) _ hP hK hD hB hS hA) rfl rfl hl.1 rfl (lv_room (Nat.le_of_ble_eq_true rfl)) dX0_copy_9 ⟨Nat.zero_le _, Nat.zero_le _⟩) hD hS hA (fun u H locs hq hP hD hS => ?_)
  have hP : va_P D vwCl (kw_X ct ad M Pl C V) H := hP
  have hD : va_D A (kw_X ct ad M Pl C V) := hD
  refine lv_aload_n hx hb dX0_copy_12 rfl (lv_at hl 0 rfl) ?_
  refine lv_iload_n hx hb dX0_copy_13 rfl (lv_at hl 1 rfl) ?_
  refine lv_iload_n hx hb dX0_copy_14 rfl (lv_at hl 2 rfl) ?_
  refine kr_callv (va_runV (As := [.int (nI k), .int (nI t)]) (rest := []) ⟨hx, hb, hml, hown, hts⟩ (kc_copyState l D ct ad tb M Pl C V _ (k := k) (t := t) (by omega) (by omega)) (cwV 2 hts gX0_copy_X0_copyState rfl rfl rfl (by decide +kernel) ⟨Nat.le_of_ble_eq_true rfl, Nat.le_of_ble_eq_true rfl⟩) (kr_preV (kw_Bok tb) (q := (RX0, TX0, 4)) (q0 := 0) (ci := 0) _ hP hK hD hB hS hA rfl rfl rfl) rfl rfl hl.1 rfl (lv_room (Nat.le_of_ble_eq_true rfl)) dX0_copy_15 ⟨Nat.zero_le _, Nat.zero_le _⟩) hD hS hA (fun u H locs hq hP hD hS => ?_)
  have hP : va_P D vwCl (kw_X ct ad (va_up M t (M k)) (va_up Pl t (Pl k)) C V) H := hP
  have hD : va_D A (kw_X ct ad (va_up M t (M k)) (va_up Pl t (Pl k)) C V) := hD
  exact W.vret hx hb hr (fun t ht hW => ⟨⟨(), rfl, trivial, by rw [ht]; exact hP, va_K.moved hW.alike hK, hD⟩, hS.F ht⟩) hS.2.2 dX0_copy_18
set_option maxHeartbeats 4000000 in
set_option maxRecDepth 100000 in
theorem kc_mix (l : Launch) (D : va_G) (ct : Nat → ClassId) (ad tb : Nat → Nat) (M : Nat → Nat → Int64) (Pl : Nat → Nat) (C V : Nat → Int64) (sz : Nat) {k : Nat} (hk : k < 8) : Met l yX0_mix wsX0_mix ({ frames := 3, cells := 0, slots := 0, locals := 75 }) (kr_P D vwCl (kw_T ct) (kw_B tb) [.ref (ad 0), .int (nI k)] (kw_X ct ad M Pl C V) sz) (va_Qv (S := ((Nat → Int64) × (Nat → Int64))) (fun _ => True) (kr_B D vwCl (kw_T ct) (fun u => kw_X ct ad (va_up M k (kk_mix (M k))) Pl u.1 u.2) (va_A (kw_X ct ad M Pl C V) sz)) (va_A (kw_X ct ad M Pl C V) sz)) 0 0 (va_A (kw_X ct ad M Pl C V) sz) := by
  refine Met.ofW (cc := cX0_mix) (maxL := 2) (ret := none) (by decide) rfl ?_
  intro p e s m args below meth c s₁ B hml hv
  obtain ⟨rfl, hsz, hP, hK, hD0, hB⟩ := hv
  have hx := B.exec
  have hb := B.bytes
  have hr := B.returns
  have hts := atoms_spec (ws := wsX0_mix) B.pre
  have hown : s.vm.findClass RX0 = some m.cls := findClass_of_methodNamed B.named
  have hlocks := B.notSynchronized
  have hin : ∀ w ∈ u_ws RX0 TX0 4, w ∈ wsX0_mix := by decide +kernel
  subst hsz
  have hD := hD0.self (sz := s.heap.size)
  generalize hAe : va_A (kw_X ct ad M Pl C V) s.heap.size = A at hD hB ⊢
  have hA : ∀ q : Nat, s.heap.size ≤ q → A q := fun q h => by rw [← hAe]; exact Or.inr h
  have hS : va_S A s.heap s.heap [] := va_S.rf
  have hl := lv_entry ([.ref (ad 0), .int (nI k)]) (n := 2) (Nat.le_of_ble_eq_true rfl)
  rw [lg_entry_eq]
  generalize (lg_sl ([.ref (ad 0), .int (nI k)]) ++ List.replicate (2 - (lg_sl ([.ref (ad 0), .int (nI k)])).length) Slot.unset).toArray = ls at hl ⊢
  have hl : lv_has ls 2 [(0, .ref (ad 0)), (1, .int (nI k))] := hl
  have hk9 : k < 9 := by omega
  refine lv_iload_n hx hb dX0_mix_0 rfl (lv_at hl 1 rfl) ?_
  refine lv_bipush (v := nI 7) hx hb dX0_mix_1 (by decide +kernel) ?_
  refine kr_callv (va_runS (As := [.int (nI k), .int (nI 7)]) (rest := []) ⟨hx, hb, hml, hown, hts⟩ (kc_req l D ct ad tb M Pl C V _ (a := k) (b := 7) (by omega) (by omega)) (va_cwS 2 hts gX0_mix_X0_requireUpTo rfl rfl rfl (by decide +kernel) ⟨Nat.le_of_ble_eq_true rfl, Nat.le_of_ble_eq_true rfl⟩) (kr_preS (kw_Bok tb) _ hP hK hD hB hS hA) rfl rfl hl.1 rfl (lv_room (Nat.le_of_ble_eq_true rfl)) dX0_mix_3 ⟨Nat.zero_le _, Nat.zero_le _⟩) hD hS hA (fun u H locs hq hP hD hS => ?_)
  have hP : va_P D vwCl (kw_X ct ad M Pl C V) H := hP
  have hD : va_D A (kw_X ct ad M Pl C V) := hD
  refine lv_aload_n hx hb dX0_mix_6 rfl (lv_at hl 0 rfl) ?_
  refine lv_aload_n hx hb dX0_mix_7 rfl (lv_at hl 0 rfl) ?_
  refine va_get hx hb hts hin hown hK hP 0 rfl rfl 0 (by decide) (hts (.fieldLink RX0 11 "KeccakLanes" "lanes" "[[J") (by decide +kernel)) (fun _ h => h) rfl dX0_mix_8 ?_
  refine lv_iload_n hx hb dX0_mix_11 rfl (lv_at hl 1 rfl) ?_
  refine kr_aald hx hb hK hP 1 0 rfl rfl (n := k) (y := ad (5 + k)) (by omega) (by omega) (if_pos (by omega)) dX0_mix_12 ?_
  have hP : va_P D vwCl (kw_X ct ad (va_up M k (M k)) Pl C V) H := by rw [kw_self]; exact hP
  have hD : va_D A (kw_X ct ad (va_up M k (M k)) Pl C V) := by rw [kw_self]; exact hD
  refine kr_callv (va_runV (As := [.ref (ad (5 + k))]) (rest := []) ⟨hx, hb, hml, hown, hts⟩ (kc_mixLanes l D ct ad tb M Pl C V _ (M k) hk9) (cwV 1 hts gX0_mix_X0_mixLanes rfl rfl rfl (by decide +kernel) ⟨Nat.le_of_ble_eq_true rfl, Nat.le_of_ble_eq_true rfl⟩) (kr_preV (kw_Bok tb) (q := (RX0, TX0, 4)) (q0 := 0) (ci := 0) _ hP hK hD hB hS hA rfl rfl rfl) rfl rfl hl.1 rfl (lv_room (Nat.le_of_ble_eq_true rfl)) dX0_mix_13 ⟨Nat.zero_le _, Nat.zero_le _⟩) hD hS hA (fun u H locs hq hP hD hS => ?_)
  have hP : va_P D vwCl (kw_X ct ad (va_up M k (kk_mix (M k))) Pl u.1 u.2) H := hP
  have hD : va_D A (kw_X ct ad (va_up M k (kk_mix (M k))) Pl u.1 u.2) := hD
  exact W.vret hx hb hr (fun t ht hW => ⟨⟨u, rfl, trivial, by rw [ht]; exact hP, va_K.moved hW.alike hK, hD⟩, hS.F ht⟩) hS.2.2 dX0_mix_16
set_option maxHeartbeats 4000000 in
set_option maxRecDepth 100000 in
theorem kc_lane (l : Launch) (D : va_G) (ct : Nat → ClassId) (ad tb : Nat → Nat) (M : Nat → Nat → Int64) (Pl : Nat → Nat) (C V : Nat → Int64) (sz : Nat) {k i : Nat} (hk : k < 8) (hi25 : i < 25) : Met l yX0_lane wsX0_lane ({ frames := 1, cells := 0, slots := 0, locals := 21 }) (kr_P D vwCl (kw_T ct) (kw_B tb) [.ref (ad 0), .int (nI k), .int (nI i)] (kw_X ct ad M Pl C V) sz) (va_Ql (S := Unit) (fun r _ => r = M k i) (kr_B D vwCl (kw_T ct) (fun _ => kw_X ct ad M Pl C V) (va_A (kw_X ct ad M Pl C V) sz)) (va_A (kw_X ct ad M Pl C V) sz)) 0 0 (va_A (kw_X ct ad M Pl C V) sz) := by
  refine Met.ofW (cc := cX0_lane) (maxL := 3) (ret := (some .long)) (by decide) rfl ?_
  intro p e s m args below meth c s₁ B hml hv
  obtain ⟨rfl, hsz, hP, hK, hD0, hB⟩ := hv
  have hx := B.exec
  have hb := B.bytes
  have hr := B.returns
  have hts := atoms_spec (ws := wsX0_lane) B.pre
  have hown : s.vm.findClass RX0 = some m.cls := findClass_of_methodNamed B.named
  have hlocks := B.notSynchronized
  have hin : ∀ w ∈ u_ws RX0 TX0 4, w ∈ wsX0_lane := by decide +kernel
  subst hsz
  have hD := hD0.self (sz := s.heap.size)
  generalize hAe : va_A (kw_X ct ad M Pl C V) s.heap.size = A at hD hB ⊢
  have hA : ∀ q : Nat, s.heap.size ≤ q → A q := fun q h => by rw [← hAe]; exact Or.inr h
  have hS : va_S A s.heap s.heap [] := va_S.rf
  have hl := lv_entry ([.ref (ad 0), .int (nI k), .int (nI i)]) (n := 3) (Nat.le_of_ble_eq_true rfl)
  rw [lg_entry_eq]
  generalize (lg_sl ([.ref (ad 0), .int (nI k), .int (nI i)]) ++ List.replicate (3 - (lg_sl ([.ref (ad 0), .int (nI k), .int (nI i)])).length) Slot.unset).toArray = ls at hl ⊢
  have hl : lv_has ls 3 [(0, .ref (ad 0)), (1, .int (nI k)), (2, .int (nI i))] := hl
  have hk9 : k < 9 := by omega
  refine lv_iload_n hx hb dX0_lane_0 rfl (lv_at hl 1 rfl) ?_
  refine lv_bipush (v := nI 7) hx hb dX0_lane_1 (by decide +kernel) ?_
  refine kr_callv (va_runS (As := [.int (nI k), .int (nI 7)]) (rest := []) ⟨hx, hb, hml, hown, hts⟩ (kc_req l D ct ad tb M Pl C V _ (a := k) (b := 7) (by omega) (by omega)) (va_cwS 2 hts gX0_lane_X0_requireUpTo rfl rfl rfl (by decide +kernel) ⟨Nat.le_of_ble_eq_true rfl, Nat.le_of_ble_eq_true rfl⟩) (kr_preS (kw_Bok tb) _ hP hK hD hB hS hA) rfl rfl hl.1 rfl (lv_room (Nat.le_of_ble_eq_true rfl)) dX0_lane_3 ⟨Nat.zero_le _, Nat.zero_le _⟩) hD hS hA (fun u H locs hq hP hD hS => ?_)
  have hP : va_P D vwCl (kw_X ct ad M Pl C V) H := hP
  have hD : va_D A (kw_X ct ad M Pl C V) := hD
  refine lv_iload_n hx hb dX0_lane_6 rfl (lv_at hl 2 rfl) ?_
  refine lv_bipush (v := nI 24) hx hb dX0_lane_7 (by decide +kernel) ?_
  refine kr_callv (va_runS (As := [.int (nI i), .int (nI 24)]) (rest := []) ⟨hx, hb, hml, hown, hts⟩ (kc_req l D ct ad tb M Pl C V _ (a := i) (b := 24) (by omega) (by omega)) (va_cwS 2 hts gX0_lane_X0_requireUpTo rfl rfl rfl (by decide +kernel) ⟨Nat.le_of_ble_eq_true rfl, Nat.le_of_ble_eq_true rfl⟩) (kr_preS (kw_Bok tb) _ hP hK hD hB hS hA) rfl rfl hl.1 rfl (lv_room (Nat.le_of_ble_eq_true rfl)) dX0_lane_9 ⟨Nat.zero_le _, Nat.zero_le _⟩) hD hS hA (fun u H locs hq hP hD hS => ?_)
  have hP : va_P D vwCl (kw_X ct ad M Pl C V) H := hP
  have hD : va_D A (kw_X ct ad M Pl C V) := hD
  refine lv_aload_n hx hb dX0_lane_12 rfl (lv_at hl 0 rfl) ?_
  refine va_get hx hb hts hin hown hK hP 0 rfl rfl 0 (by decide) (hts (.fieldLink RX0 11 "KeccakLanes" "lanes" "[[J") (by decide +kernel)) (fun _ h => h) rfl dX0_lane_13 ?_
  refine lv_iload_n hx hb dX0_lane_16 rfl (lv_at hl 1 rfl) ?_
  refine kr_aald hx hb hK hP 1 0 rfl rfl (n := k) (y := ad (5 + k)) (by omega) (by omega) (if_pos (by omega)) dX0_lane_17 ?_
  refine lv_iload_n hx hb dX0_lane_18 rfl (lv_at hl 2 rfl) ?_
  refine kr_lald hx hb hK hP (5 + k) 2 (kw_Xrow ct ad M Pl C V hk9) rfl (n := i) (by omega) (by omega) dX0_lane_19 ?_
  exact W.lret hx hb hr (fun t ht hW => ⟨⟨_, (), rfl, rfl, by rw [ht]; exact hP, va_K.moved hW.alike hK, hD⟩, hS.F ht⟩) hS.2.2 dX0_lane_20
set_option maxHeartbeats 4000000 in
set_option maxRecDepth 100000 in
theorem kc_digest (l : Launch) (D : va_G) (ct : Nat → ClassId) (ad tb : Nat → Nat) (M : Nat → Nat → Int64) (Pl : Nat → Nat) (C V : Nat → Int64) (sz : Nat) {k i : Nat} (hk : k < 8) (hi4 : i < 4) (hq0 : Pl k < 136) : Met l yX0_digest wsX0_digest ({ frames := 3, cells := 0, slots := 0, locals := 75 }) (kr_P D vwCl (kw_T ct) (kw_B tb) [.ref (ad 0), .int (nI k), .int (nI i)] (kw_X ct ad M Pl C V) sz) (va_Ql (S := ((Nat → Int64) × (Nat → Int64))) (fun r _ => r = kk_rev (kk_dg (M k) (Pl k) i) 8) (kr_B D vwCl (kw_T ct) (fun u => kw_X ct ad (va_up M 8 (kk_dg (M k) (Pl k))) (va_up Pl 8 (Pl k)) u.1 u.2) (va_A (kw_X ct ad M Pl C V) sz)) (va_A (kw_X ct ad M Pl C V) sz)) 0 0 (va_A (kw_X ct ad M Pl C V) sz) := by
  refine Met.ofW (cc := cX0_digest) (maxL := 4) (ret := (some .long)) (by decide) rfl ?_
  intro p e s m args below meth c s₁ B hml hv
  obtain ⟨rfl, hsz, hP, hK, hD0, hB⟩ := hv
  have hx := B.exec
  have hb := B.bytes
  have hr := B.returns
  have hts := atoms_spec (ws := wsX0_digest) B.pre
  have hown : s.vm.findClass RX0 = some m.cls := findClass_of_methodNamed B.named
  have hlocks := B.notSynchronized
  have hin : ∀ w ∈ u_ws RX0 TX0 4, w ∈ wsX0_digest := by decide +kernel
  subst hsz
  have hD := hD0.self (sz := s.heap.size)
  generalize hAe : va_A (kw_X ct ad M Pl C V) s.heap.size = A at hD hB ⊢
  have hA : ∀ q : Nat, s.heap.size ≤ q → A q := fun q h => by rw [← hAe]; exact Or.inr h
  have hS : va_S A s.heap s.heap [] := va_S.rf
  have hl := lv_entry ([.ref (ad 0), .int (nI k), .int (nI i)]) (n := 4) (Nat.le_of_ble_eq_true rfl)
  rw [lg_entry_eq]
  generalize (lg_sl ([.ref (ad 0), .int (nI k), .int (nI i)]) ++ List.replicate (4 - (lg_sl ([.ref (ad 0), .int (nI k), .int (nI i)])).length) Slot.unset).toArray = ls at hl ⊢
  have hl : lv_has ls 4 [(0, .ref (ad 0)), (1, .int (nI k)), (2, .int (nI i))] := hl
  have h89 : 8 < 9 := by omega
  refine lv_iload_n hx hb dX0_digest_0 rfl (lv_at hl 1 rfl) ?_
  refine lv_bipush (v := nI 7) hx hb dX0_digest_1 (by decide +kernel) ?_
  refine kr_callv (va_runS (As := [.int (nI k), .int (nI 7)]) (rest := []) ⟨hx, hb, hml, hown, hts⟩ (kc_req l D ct ad tb M Pl C V _ (a := k) (b := 7) (by omega) (by omega)) (va_cwS 2 hts gX0_digest_X0_requireUpTo rfl rfl rfl (by decide +kernel) ⟨Nat.le_of_ble_eq_true rfl, Nat.le_of_ble_eq_true rfl⟩) (kr_preS (kw_Bok tb) _ hP hK hD hB hS hA) rfl rfl hl.1 rfl (lv_room (Nat.le_of_ble_eq_true rfl)) dX0_digest_3 ⟨Nat.zero_le _, Nat.zero_le _⟩) hD hS hA (fun u H locs hq hP hD hS => ?_)
  have hP : va_P D vwCl (kw_X ct ad M Pl C V) H := hP
  have hD : va_D A (kw_X ct ad M Pl C V) := hD
  refine lv_iload_n hx hb dX0_digest_6 rfl (lv_at hl 2 rfl) ?_
  refine lv_iconst (v := nI 3) hx hb dX0_digest_7 rfl ?_
  refine kr_callv (va_runS (As := [.int (nI i), .int (nI 3)]) (rest := []) ⟨hx, hb, hml, hown, hts⟩ (kc_req l D ct ad tb M Pl C V _ (a := i) (b := 3) (by omega) (by omega)) (va_cwS 2 hts gX0_digest_X0_requireUpTo rfl rfl rfl (by decide +kernel) ⟨Nat.le_of_ble_eq_true rfl, Nat.le_of_ble_eq_true rfl⟩) (kr_preS (kw_Bok tb) _ hP hK hD hB hS hA) rfl rfl hl.1 rfl (lv_room (Nat.le_of_ble_eq_true rfl)) dX0_digest_8 ⟨Nat.zero_le _, Nat.zero_le _⟩) hD hS hA (fun u H locs hq hP hD hS => ?_)
  have hP : va_P D vwCl (kw_X ct ad M Pl C V) H := hP
  have hD : va_D A (kw_X ct ad M Pl C V) := hD
  refine lv_aload_n hx hb dX0_digest_11 rfl (lv_at hl 0 rfl) ?_
  refine lv_iload_n hx hb dX0_digest_12 rfl (lv_at hl 1 rfl) ?_
  refine lv_bipush (v := nI 8) hx hb dX0_digest_13 (by decide +kernel) ?_
  refine kr_callv (va_runV (As := [.int (nI k), .int (nI 8)]) (rest := []) ⟨hx, hb, hml, hown, hts⟩ (kc_copyState l D ct ad tb M Pl C V _ (k := k) (t := 8) (by omega) (by omega)) (cwV 2 hts gX0_digest_X0_copyState rfl rfl rfl (by decide +kernel) ⟨Nat.le_of_ble_eq_true rfl, Nat.le_of_ble_eq_true rfl⟩) (kr_preV (kw_Bok tb) (q := (RX0, TX0, 4)) (q0 := 0) (ci := 0) _ hP hK hD hB hS hA rfl rfl rfl) rfl rfl hl.1 rfl (lv_room (Nat.le_of_ble_eq_true rfl)) dX0_digest_15 ⟨Nat.zero_le _, Nat.zero_le _⟩) hD hS hA (fun u H locs hq hP hD hS => ?_)
  have hP : va_P D vwCl (kw_X ct ad (va_up M 8 (M k)) (va_up Pl 8 (Pl k)) C V) H := hP
  have hD : va_D A (kw_X ct ad (va_up M 8 (M k)) (va_up Pl 8 (Pl k)) C V) := hD
  refine lv_aload_n hx hb dX0_digest_18 rfl (lv_at hl 0 rfl) ?_
  refine va_get hx hb hts hin hown hK hP 0 rfl rfl 0 (by decide) (hts (.fieldLink RX0 11 "KeccakLanes" "lanes" "[[J") (by decide +kernel)) (fun _ h => h) rfl dX0_digest_19 ?_
  refine lv_bipush (v := nI 8) hx hb dX0_digest_22 (by decide +kernel) ?_
  refine kr_aald hx hb hK hP 1 0 rfl rfl (n := 8) (y := ad (5 + 8)) (by omega) (by omega) (if_pos (by omega)) dX0_digest_24 ?_
  refine lv_astore_n hx hb dX0_digest_25 rfl hl (Nat.le_of_ble_eq_true rfl) rfl (fun ls hl => ?_)
  have hl : lv_has ls 4 [(3, .ref (ad (5 + 8))), (0, .ref (ad 0)), (1, .int (nI k)), (2, .int (nI i))] := hl
  refine lv_aload_n hx hb dX0_digest_26 rfl (lv_at hl 0 rfl) ?_
  refine lv_aload_n hx hb dX0_digest_27 rfl (lv_at hl 1 rfl) ?_
  refine va_get hx hb hts hin hown hK hP 0 rfl rfl 1 (by decide) (hts (.fieldLink RX0 14 "KeccakLanes" "places" "[I") (by decide +kernel)) (fun _ h => h) rfl dX0_digest_28 ?_
  refine lv_bipush (v := nI 8) hx hb dX0_digest_31 (by decide +kernel) ?_
  refine kr_iald hx hb hK hP 2 1 rfl rfl (n := 8) (by omega) (by omega) dX0_digest_33 ?_
  rw [va_up_self]
  refine lv_iconst (v := nI 1) hx hb dX0_digest_34 rfl ?_
  refine kr_callv (va_runS (As := [.ref (ad (5 + 8)), .int (nI (Pl k)), .int (nI 1)]) (rest := []) ⟨hx, hb, hml, hown, hts⟩ (kc_joinByte l D ct ad tb M (va_up Pl 8 (Pl k)) C V _ (M k) h89 hq0 (nI 1)) (va_cwS 3 hts gX0_digest_X0_joinByte rfl rfl rfl (by decide +kernel) ⟨Nat.le_of_ble_eq_true rfl, Nat.le_of_ble_eq_true rfl⟩) (kr_preS (kw_Bok tb) _ hP hK hD hB hS hA) rfl rfl hl.1 rfl (lv_room (Nat.le_of_ble_eq_true rfl)) dX0_digest_35 ⟨Nat.zero_le _, Nat.zero_le _⟩) hD hS hA (fun u H locs hq hP hD hS => ?_)
  have hP : va_P D vwCl (kw_X ct ad (va_up M 8 (kk_join (M k) (Pl k) (kk_bt (nI 1)))) (va_up Pl 8 (Pl k)) C V) H := hP
  have hD : va_D A (kw_X ct ad (va_up M 8 (kk_join (M k) (Pl k) (kk_bt (nI 1)))) (va_up Pl 8 (Pl k)) C V) := hD
  refine lv_aload_n hx hb dX0_digest_38 rfl (lv_at hl 0 rfl) ?_
  refine lv_sipush (v := nI 135) hx hb dX0_digest_39 (by decide +kernel) ?_
  refine lv_sipush (v := nI 128) hx hb dX0_digest_42 (by decide +kernel) ?_
  refine kr_callv (va_runS (As := [.ref (ad (5 + 8)), .int (nI 135), .int (nI 128)]) (rest := []) ⟨hx, hb, hml, hown, hts⟩ (kc_joinByte l D ct ad tb M (va_up Pl 8 (Pl k)) C V _ (kk_join (M k) (Pl k) (kk_bt (nI 1))) (q := 135) h89 (by omega) (nI 128)) (va_cwS 3 hts gX0_digest_X0_joinByte rfl rfl rfl (by decide +kernel) ⟨Nat.le_of_ble_eq_true rfl, Nat.le_of_ble_eq_true rfl⟩) (kr_preS (kw_Bok tb) _ hP hK hD hB hS hA) rfl rfl hl.1 rfl (lv_room (Nat.le_of_ble_eq_true rfl)) dX0_digest_45 ⟨Nat.zero_le _, Nat.zero_le _⟩) hD hS hA (fun u H locs hq hP hD hS => ?_)
  have hP : va_P D vwCl (kw_X ct ad (va_up M 8 (kk_join (kk_join (M k) (Pl k) (kk_bt (nI 1))) 135 (kk_bt (nI 128)))) (va_up Pl 8 (Pl k)) C V) H := hP
  have hD : va_D A (kw_X ct ad (va_up M 8 (kk_join (kk_join (M k) (Pl k) (kk_bt (nI 1))) 135 (kk_bt (nI 128)))) (va_up Pl 8 (Pl k)) C V) := hD
  refine lv_aload_n hx hb dX0_digest_48 rfl (lv_at hl 1 rfl) ?_
  refine lv_aload_n hx hb dX0_digest_49 rfl (lv_at hl 0 rfl) ?_
  refine kr_callv (va_runV (As := [.ref (ad (5 + 8))]) (rest := []) ⟨hx, hb, hml, hown, hts⟩ (kc_mixLanes l D ct ad tb M (va_up Pl 8 (Pl k)) C V _ (kk_join (kk_join (M k) (Pl k) (kk_bt (nI 1))) 135 (kk_bt (nI 128))) h89) (cwV 1 hts gX0_digest_X0_mixLanes rfl rfl rfl (by decide +kernel) ⟨Nat.le_of_ble_eq_true rfl, Nat.le_of_ble_eq_true rfl⟩) (kr_preV (kw_Bok tb) (q := (RX0, TX0, 4)) (q0 := 0) (ci := 0) _ hP hK hD hB hS hA rfl rfl rfl) rfl rfl hl.1 rfl (lv_room (Nat.le_of_ble_eq_true rfl)) dX0_digest_50 ⟨Nat.zero_le _, Nat.zero_le _⟩) hD hS hA (fun u H locs hq hP hD hS => ?_)
  have hP : va_P D vwCl (kw_X ct ad (va_up M 8 (kk_dg (M k) (Pl k))) (va_up Pl 8 (Pl k)) u.1 u.2) H := hP
  have hD : va_D A (kw_X ct ad (va_up M 8 (kk_dg (M k) (Pl k))) (va_up Pl 8 (Pl k)) u.1 u.2) := hD
  refine lv_aload_n hx hb dX0_digest_53 rfl (lv_at hl 0 rfl) ?_
  refine lv_iload_n hx hb dX0_digest_54 rfl (lv_at hl 3 rfl) ?_
  refine kr_lald hx hb hK hP (5 + 8) 2 (kw_Xrg h89) rfl (n := i) (by omega) (by omega) dX0_digest_55 ?_
  refine kr_calll (va_runS (As := [.long ((kk_dg (M k) (Pl k)) i)]) (rest := []) ⟨hx, hb, hml, hown, hts⟩ (kc_bytesTurnedRound l D ct ad tb (va_up M 8 (kk_dg (M k) (Pl k))) (va_up Pl 8 (Pl k)) u.1 u.2 _ (kk_dg (M k) (Pl k) i)) (va_cwS 1 hts gX0_digest_X0_bytesTurnedRound rfl rfl rfl (by decide +kernel) ⟨Nat.le_of_ble_eq_true rfl, Nat.le_of_ble_eq_true rfl⟩) (kr_preS (kw_Bok tb) _ hP hK hD hB hS hA) rfl rfl hl.1 rfl (lv_room (Nat.le_of_ble_eq_true rfl)) dX0_digest_56 ⟨Nat.zero_le _, Nat.zero_le _⟩) hD hS hA (fun r _ H locs hq hP hD hS => ?_)
  obtain rfl : r = kk_rev (kk_dg (M k) (Pl k) i) 8 := hq
  have hP : va_P D vwCl (kw_X ct ad (va_up M 8 (kk_dg (M k) (Pl k))) (va_up Pl 8 (Pl k)) u.1 u.2) H := hP
  have hD : va_D A (kw_X ct ad (va_up M 8 (kk_dg (M k) (Pl k))) (va_up Pl 8 (Pl k)) u.1 u.2) := hD
  exact W.lret hx hb hr (fun t ht hW => ⟨⟨_, u, rfl, rfl, by rw [ht]; exact hP, va_K.moved hW.alike hK, hD⟩, hS.F ht⟩) hS.2.2 dX0_digest_59
end
section
/-! KeccakLanes: calls that throw, and change nothing -/
abbrev kr_X (D : va_G) (cl : List vw_C) (tys : List (ClassId × FieldType)) (ws : va_W) (A : Nat → Prop) : String → State → State → Prop := vx_X (fun _ : Unit => True) (fun E _ t => E = "java/lang/IllegalArgumentException" ∧ va_P D cl ws t.heap ∧ va_K D cl tys t ∧ va_D A ws) A
section KRX
variable {p : Program} {l : Launch} {e : Env} {R : Room} {s : State} {m : MethodId} {args : Array Value} {below : List Frame} {meth : Method} {c : Code} {H : Heap} {locs : List Loc} {cells slots : Nat} {Q : State → Prop}
variable {pc : Nat} {ls : Array Slot} {rest st0 : List Value} {D : va_G} {cl : List vw_C} {A : Nat → Prop} {tys : List (ClassId × FieldType)} {ws : va_W} {a : Array Value} {mc ms : Nat}
theorem kr_xv (hr : vx_Run p l e R s m args below meth c H locs cells slots mc ms (F0 m pc ls st0) rest (va_Qv (fun _ : Unit => False) (kr_B D cl tys (fun _ => ws) (va_A ws H.size)) (va_A ws H.size) a) (kr_X D cl tys ws (va_A ws H.size)) (va_A ws H.size)) (hD : va_D A ws) (hS : va_S A s.heap H locs) (hA : ∀ q, s.heap.size ≤ q → A q) (kx : ∀ (ce : Cell) (q9 : Addr) (H1 : Heap) (locs1 : List Loc), va_P D cl ws H1 → va_D A ws → va_S A s.heap H1 locs1 → H1[q9]? = some ce → ce.vm = .none → s.vm.findClass "java/lang/IllegalArgumentException" = some ce.cls → vx_W p l e R s m args below meth c H1 locs1 (cells + mc) (slots + ms) Q (F0 m pc ls rest) q9) : W p l e R s m args below meth c H locs cells slots Q (F0 m pc ls st0) :=
  vx_callv hr hS (fun q _ h => kr_free hD hS hA q h) (kr_free hD hS hA) (fun q _ h => kr_free hD hS hA q h) (fun E ce q9 u t H1 locs1 ht hal hp hB _ _ hS1 hce hcv hcl => by
    obtain ⟨rfl, b1, b2, b3⟩ := hB
    exact kx ce q9 H1 locs1 (ht ▸ b1) (b3.weaken (fun _ x _ h => kr_free hD hS hA x.1 h)) hS1 hce hcv hcl) (fun u t H1 locs1 _ _ hf => hf.elim)
theorem kr_xi (hr : vx_Run p l e R s m args below meth c H locs cells slots mc ms (F0 m pc ls st0) rest (va_Qi (fun (_ : Int32) (_ : Unit) => False) (kr_B D cl tys (fun _ => ws) (va_A ws H.size)) (va_A ws H.size) a) (kr_X D cl tys ws (va_A ws H.size)) (va_A ws H.size)) (hD : va_D A ws) (hS : va_S A s.heap H locs) (hA : ∀ q, s.heap.size ≤ q → A q) (kx : ∀ (ce : Cell) (q9 : Addr) (H1 : Heap) (locs1 : List Loc), va_P D cl ws H1 → va_D A ws → va_S A s.heap H1 locs1 → H1[q9]? = some ce → ce.vm = .none → s.vm.findClass "java/lang/IllegalArgumentException" = some ce.cls → vx_W p l e R s m args below meth c H1 locs1 (cells + mc) (slots + ms) Q (F0 m pc ls rest) q9) : W p l e R s m args below meth c H locs cells slots Q (F0 m pc ls st0) :=
  vx_calli hr hS (fun q _ h => kr_free hD hS hA q h) (kr_free hD hS hA) (fun q _ h => kr_free hD hS hA q h) (fun E ce q9 u t H1 locs1 ht hal hp hB _ _ hS1 hce hcv hcl => by
    obtain ⟨rfl, b1, b2, b3⟩ := hB
    exact kx ce q9 H1 locs1 (ht ▸ b1) (b3.weaken (fun _ x _ h => kr_free hD hS hA x.1 h)) hS1 hce hcv hcl) (fun _ u t H1 locs1 _ _ hf => hf.elim)
theorem kr_xl (hr : vx_Run p l e R s m args below meth c H locs cells slots mc ms (F0 m pc ls st0) rest (va_Ql (fun (_ : Int64) (_ : Unit) => False) (kr_B D cl tys (fun _ => ws) (va_A ws H.size)) (va_A ws H.size) a) (kr_X D cl tys ws (va_A ws H.size)) (va_A ws H.size)) (hD : va_D A ws) (hS : va_S A s.heap H locs) (hA : ∀ q, s.heap.size ≤ q → A q) (kx : ∀ (ce : Cell) (q9 : Addr) (H1 : Heap) (locs1 : List Loc), va_P D cl ws H1 → va_D A ws → va_S A s.heap H1 locs1 → H1[q9]? = some ce → ce.vm = .none → s.vm.findClass "java/lang/IllegalArgumentException" = some ce.cls → vx_W p l e R s m args below meth c H1 locs1 (cells + mc) (slots + ms) Q (F0 m pc ls rest) q9) : W p l e R s m args below meth c H locs cells slots Q (F0 m pc ls st0) :=
  vx_calll hr hS (fun q _ h => kr_free hD hS hA q h) (kr_free hD hS hA) (fun q _ h => kr_free hD hS hA q h) (fun E ce q9 u t H1 locs1 ht hal hp hB _ _ hS1 hce hcv hcl => by
    obtain ⟨rfl, b1, b2, b3⟩ := hB
    exact kx ce q9 H1 locs1 (ht ▸ b1) (b3.weaken (fun _ x _ h => kr_free hD hS hA x.1 h)) hS1 hce hcv hcl) (fun _ u t H1 locs1 _ _ hf => hf.elim)
end KRX
set_option maxHeartbeats 4000000 in
set_option maxRecDepth 100000 in
theorem kx_req (l : Launch) (D : va_G) (ct : Nat → ClassId) (ad tb : Nat → Nat) (M : Nat → Nat → Int64) (Pl : Nat → Nat) (C V : Nat → Int64) (hl0 : l.stackTraces = false) (sz : Nat) (x : Int32) {b : Nat} (hbad : x < 0 ∨ ¬ x ≤ nI b) : vx_Met l yX0_requireUpTo wsX0_requireUpTo ({ frames := 6, cells := 1, slots := 6, locals := 82 }) (kr_P D vwCl (kw_T ct) (kw_B tb) [.int x, .int (nI b)] (kw_X ct ad M Pl C V) sz) (va_Qv (fun _ : Unit => False) (kr_B D vwCl (kw_T ct) (fun _ => kw_X ct ad M Pl C V) (va_A (kw_X ct ad M Pl C V) sz)) (va_A (kw_X ct ad M Pl C V) sz)) (kr_X D vwCl (kw_T ct) (kw_X ct ad M Pl C V) (va_A (kw_X ct ad M Pl C V) sz)) 1 6 (va_A (kw_X ct ad M Pl C V) sz) := by
  refine vx_ofW (cc := cX0_requireUpTo) (maxL := 2) (ret := none) (by decide) rfl ?_
  intro p e s m args below meth c s₁ B hml htab hv
  obtain ⟨rfl, hsz, hP, hK, hD0, hB⟩ := hv
  have hx := B.exec
  have hb := B.bytes
  have hr := B.returns
  have hts := atoms_spec (ws := wsX0_requireUpTo) B.pre
  have hown : s.vm.findClass RX0 = some m.cls := findClass_of_methodNamed B.named
  have hlocks := B.notSynchronized
  subst hsz
  have hD := hD0.self (sz := s.heap.size)
  generalize hAe : va_A (kw_X ct ad M Pl C V) s.heap.size = A at hD hB ⊢
  have hA : ∀ q : Nat, s.heap.size ≤ q → A q := fun q h => by rw [← hAe]; exact Or.inr h
  have hS : va_S A s.heap s.heap [] := va_S.rf
  have hl := lv_entry ([.int x, .int (nI b)]) (n := 2) (Nat.le_of_ble_eq_true rfl)
  rw [lg_entry_eq]
  generalize (lg_sl ([.int x, .int (nI b)]) ++ List.replicate (2 - (lg_sl ([.int x, .int (nI b)])).length) Slot.unset).toArray = ls at hl ⊢
  have hl : lv_has ls 2 [(0, .int x), (1, .int (nI b))] := hl
  refine lv_iload_n hx hb dX0_requireUpTo_0 rfl (lv_at hl 0 rfl) ?_
  refine lv_if_lt (tgt := 9) hx hb dX0_requireUpTo_1 rfl (fun hc => ?_) (fun hc => ?_)
  · clear hc
    exact vx_throwS (own := RX0) (cls := "java/lang/IllegalArgumentException") (names := ["java/lang/RuntimeException", "java/lang/Exception"]) (text := "a number is out of range") (ik := 47) (is := 49) (ic := 51) hx hb hl0 hown (by decide +kernel) (by decide +kernel) (hts (.classLink RX0 47 "java/lang/IllegalArgumentException") (by decide +kernel)) (hts (.initialized "java/lang/IllegalArgumentException") (by decide +kernel)) hB.2.2.2.2.2.1 (vx_hat (fun w h => hts w (List.mem_cons_of_mem _ (List.mem_append_right _ h))) kw_good (vx_c (va_Nw.use rfl hB.2.2.2.2.2.2.1) (vx_c (va_Nw.use rfl hB.2.2.2.2.2.2.2.1) (vx_c (va_Nw.use rfl hB.2.2.2.2.2.2.2.2.1) (vx_c (va_Nw.use rfl hB.2.2.2.2.2.2.2.2.2) vx_n))))) (by decide +kernel) hB.2.2.2.1 hB.2.2.2.2.1 hS (hl.1.trans hml.symm) dX0_requireUpTo_9 dX0_requireUpTo_12 dX0_requireUpTo_13 dX0_requireUpTo_15 dX0_requireUpTo_18 (fun x h => (htab x h).elim) (by decide +kernel) (by decide +kernel) (by decide +kernel) (by decide +kernel) hlocks (fun t ha hz hk => ⟨(), trivial, ⟨rfl, hP.kept (fun k q hq => hk q.1 ((hP k q hq).lt)), va_K.moved ha hK, hD⟩, hz, fun q h1 h2 => hk q h1⟩) hS.2.2 (Nat.le_refl _) (Nat.le_refl _)
  · have hc0 := hc
    refine lv_iload_n hx hb dX0_requireUpTo_4 rfl (lv_at hl 0 rfl) ?_
    refine lv_iload_n hx hb dX0_requireUpTo_5 rfl (lv_at hl 1 rfl) ?_
    refine lv_icmp_le (tgt := 19) hx hb dX0_requireUpTo_6 rfl (fun hc => ?_) (fun hc => ?_)
    · exact absurd hbad (fun h => h.elim hc0 (fun h => h hc))
    · clear hc
      exact vx_throwS (own := RX0) (cls := "java/lang/IllegalArgumentException") (names := ["java/lang/RuntimeException", "java/lang/Exception"]) (text := "a number is out of range") (ik := 47) (is := 49) (ic := 51) hx hb hl0 hown (by decide +kernel) (by decide +kernel) (hts (.classLink RX0 47 "java/lang/IllegalArgumentException") (by decide +kernel)) (hts (.initialized "java/lang/IllegalArgumentException") (by decide +kernel)) hB.2.2.2.2.2.1 (vx_hat (fun w h => hts w (List.mem_cons_of_mem _ (List.mem_append_right _ h))) kw_good (vx_c (va_Nw.use rfl hB.2.2.2.2.2.2.1) (vx_c (va_Nw.use rfl hB.2.2.2.2.2.2.2.1) (vx_c (va_Nw.use rfl hB.2.2.2.2.2.2.2.2.1) (vx_c (va_Nw.use rfl hB.2.2.2.2.2.2.2.2.2) vx_n))))) (by decide +kernel) hB.2.2.2.1 hB.2.2.2.2.1 hS (hl.1.trans hml.symm) dX0_requireUpTo_9 dX0_requireUpTo_12 dX0_requireUpTo_13 dX0_requireUpTo_15 dX0_requireUpTo_18 (fun x h => (htab x h).elim) (by decide +kernel) (by decide +kernel) (by decide +kernel) (by decide +kernel) hlocks (fun t ha hz hk => ⟨(), trivial, ⟨rfl, hP.kept (fun k q hq => hk q.1 ((hP k q hq).lt)), va_K.moved ha hK, hD⟩, hz, fun q h1 h2 => hk q h1⟩) hS.2.2 (Nat.le_refl _) (Nat.le_refl _)
set_option maxHeartbeats 4000000 in
set_option maxRecDepth 100000 in
theorem kx_clear1 (l : Launch) (D : va_G) (ct : Nat → ClassId) (ad tb : Nat → Nat) (M : Nat → Nat → Int64) (Pl : Nat → Nat) (C V : Nat → Int64) (hl0 : l.stackTraces = false) (sz : Nat) (x : Int32) (hbad : x < 0 ∨ ¬ x ≤ nI 7) : vx_Met l yX0_clear wsX0_clear ({ frames := 7, cells := 1, slots := 6, locals := 103 }) (kr_P D vwCl (kw_T ct) (kw_B tb) [.ref (ad 0), .int x] (kw_X ct ad M Pl C V) sz) (va_Qv (fun _ : Unit => False) (kr_B D vwCl (kw_T ct) (fun _ => kw_X ct ad M Pl C V) (va_A (kw_X ct ad M Pl C V) sz)) (va_A (kw_X ct ad M Pl C V) sz)) (kr_X D vwCl (kw_T ct) (kw_X ct ad M Pl C V) (va_A (kw_X ct ad M Pl C V) sz)) 1 6 (va_A (kw_X ct ad M Pl C V) sz) := by
  refine vx_ofW (cc := cX0_clear) (maxL := 4) (ret := none) (by decide) rfl ?_
  intro p e s m args below meth c s₁ B hml htab hv
  obtain ⟨rfl, hsz, hP, hK, hD0, hB⟩ := hv
  have hx := B.exec
  have hb := B.bytes
  have hr := B.returns
  have hts := atoms_spec (ws := wsX0_clear) B.pre
  have hown : s.vm.findClass RX0 = some m.cls := findClass_of_methodNamed B.named
  have hlocks := B.notSynchronized
  have hin : ∀ w ∈ u_ws RX0 TX0 4, w ∈ wsX0_clear := by decide +kernel
  subst hsz
  have hD := hD0.self (sz := s.heap.size)
  generalize hAe : va_A (kw_X ct ad M Pl C V) s.heap.size = A at hD hB ⊢
  have hA : ∀ q : Nat, s.heap.size ≤ q → A q := fun q h => by rw [← hAe]; exact Or.inr h
  have hS : va_S A s.heap s.heap [] := va_S.rf
  have hl := lv_entry ([.ref (ad 0), .int x]) (n := 4) (Nat.le_of_ble_eq_true rfl)
  rw [lg_entry_eq]
  generalize (lg_sl ([.ref (ad 0), .int x]) ++ List.replicate (4 - (lg_sl ([.ref (ad 0), .int x])).length) Slot.unset).toArray = ls at hl ⊢
  have hl : lv_has ls 4 [(0, .ref (ad 0)), (1, .int x)] := hl
  refine lv_iload_n hx hb dX0_clear_0 rfl (lv_at hl 1 rfl) ?_
  refine lv_bipush (v := nI 7) hx hb dX0_clear_1 (by decide +kernel) ?_
  refine kr_xv (vx_runS (As := [.int x, .int (nI 7)]) (rest := []) ⟨hx, hb, hml, hown, hts⟩ (kx_req l D ct ad tb M Pl C V hl0 _ x hbad) (va_cwS 2 hts gX0_clear_X0_requireUpTo rfl rfl rfl (by decide +kernel) ⟨Nat.le_of_ble_eq_true rfl, Nat.le_of_ble_eq_true rfl⟩) (kr_preS (kw_Bok tb) _ hP hK hD hB hS hA) rfl rfl hl.1 rfl (lv_room (Nat.le_of_ble_eq_true rfl)) dX0_clear_3 ⟨Nat.le_of_ble_eq_true rfl, Nat.le_of_ble_eq_true rfl⟩) hD hS hA (fun ce q9 H locs hP hD hS hce hcv hcl => ?_)
  exact vx_out (E := "java/lang/IllegalArgumentException") (fun x h => (htab x h).elim) hlocks hce hcv hcl (fun t ht ha => ⟨(), trivial, ⟨rfl, by rw [ht]; exact hP, va_K.moved ha hK, hD⟩, hS.F ht⟩) hS.2.2 (Nat.le_refl _) (Nat.le_refl _)
set_option maxHeartbeats 4000000 in
set_option maxRecDepth 100000 in
theorem kx_take1 (l : Launch) (D : va_G) (ct : Nat → ClassId) (ad tb : Nat → Nat) (M : Nat → Nat → Int64) (Pl : Nat → Nat) (C V : Nat → Int64) (hl0 : l.stackTraces = false) (sz : Nat) (x : Int32) (v : Int64) (y : Int32) (hbad : x < 0 ∨ ¬ x ≤ nI 7) : vx_Met l yX0_take wsX0_take ({ frames := 7, cells := 1, slots := 6, locals := 103 }) (kr_P D vwCl (kw_T ct) (kw_B tb) [.ref (ad 0), .int x, .long v, .int y] (kw_X ct ad M Pl C V) sz) (va_Qi (fun (_ : Int32) (_ : Unit) => False) (kr_B D vwCl (kw_T ct) (fun _ => kw_X ct ad M Pl C V) (va_A (kw_X ct ad M Pl C V) sz)) (va_A (kw_X ct ad M Pl C V) sz)) (kr_X D vwCl (kw_T ct) (kw_X ct ad M Pl C V) (va_A (kw_X ct ad M Pl C V) sz)) 1 6 (va_A (kw_X ct ad M Pl C V) sz) := by
  refine vx_ofW (cc := cX0_take) (maxL := 6) (ret := (some .int)) (by decide) rfl ?_
  intro p e s m args below meth c s₁ B hml htab hv
  obtain ⟨rfl, hsz, hP, hK, hD0, hB⟩ := hv
  have hx := B.exec
  have hb := B.bytes
  have hr := B.returns
  have hts := atoms_spec (ws := wsX0_take) B.pre
  have hown : s.vm.findClass RX0 = some m.cls := findClass_of_methodNamed B.named
  have hlocks := B.notSynchronized
  have hin : ∀ w ∈ u_ws RX0 TX0 4, w ∈ wsX0_take := by decide +kernel
  subst hsz
  have hD := hD0.self (sz := s.heap.size)
  generalize hAe : va_A (kw_X ct ad M Pl C V) s.heap.size = A at hD hB ⊢
  have hA : ∀ q : Nat, s.heap.size ≤ q → A q := fun q h => by rw [← hAe]; exact Or.inr h
  have hS : va_S A s.heap s.heap [] := va_S.rf
  have hl := lv_entry ([.ref (ad 0), .int x, .long v, .int y]) (n := 6) (Nat.le_of_ble_eq_true rfl)
  rw [lg_entry_eq]
  generalize (lg_sl ([.ref (ad 0), .int x, .long v, .int y]) ++ List.replicate (6 - (lg_sl ([.ref (ad 0), .int x, .long v, .int y])).length) Slot.unset).toArray = ls at hl ⊢
  have hl : lv_has ls 6 [(0, .ref (ad 0)), (1, .int x), (2, .long v), (4, .int y)] := hl
  refine lv_iload_n hx hb dX0_take_0 rfl (lv_at hl 1 rfl) ?_
  refine lv_bipush (v := nI 7) hx hb dX0_take_1 (by decide +kernel) ?_
  refine kr_xv (vx_runS (As := [.int x, .int (nI 7)]) (rest := []) ⟨hx, hb, hml, hown, hts⟩ (kx_req l D ct ad tb M Pl C V hl0 _ x hbad) (va_cwS 2 hts gX0_take_X0_requireUpTo rfl rfl rfl (by decide +kernel) ⟨Nat.le_of_ble_eq_true rfl, Nat.le_of_ble_eq_true rfl⟩) (kr_preS (kw_Bok tb) _ hP hK hD hB hS hA) rfl rfl hl.1 rfl (lv_room (Nat.le_of_ble_eq_true rfl)) dX0_take_3 ⟨Nat.le_of_ble_eq_true rfl, Nat.le_of_ble_eq_true rfl⟩) hD hS hA (fun ce q9 H locs hP hD hS hce hcv hcl => ?_)
  exact vx_out (E := "java/lang/IllegalArgumentException") (fun x h => (htab x h).elim) hlocks hce hcv hcl (fun t ht ha => ⟨(), trivial, ⟨rfl, by rw [ht]; exact hP, va_K.moved ha hK, hD⟩, hS.F ht⟩) hS.2.2 (Nat.le_refl _) (Nat.le_refl _)
set_option maxHeartbeats 4000000 in
set_option maxRecDepth 100000 in
theorem kx_take2 (l : Launch) (D : va_G) (ct : Nat → ClassId) (ad tb : Nat → Nat) (M : Nat → Nat → Int64) (Pl : Nat → Nat) (C V : Nat → Int64) (hl0 : l.stackTraces = false) (sz : Nat) {k : Nat} (hk : k < 8) (v : Int64) (x : Int32) (hbad : x < 0 ∨ ¬ x ≤ nI 8) : vx_Met l yX0_take wsX0_take ({ frames := 7, cells := 1, slots := 6, locals := 103 }) (kr_P D vwCl (kw_T ct) (kw_B tb) [.ref (ad 0), .int (nI k), .long v, .int x] (kw_X ct ad M Pl C V) sz) (va_Qi (fun (_ : Int32) (_ : Unit) => False) (kr_B D vwCl (kw_T ct) (fun _ => kw_X ct ad M Pl C V) (va_A (kw_X ct ad M Pl C V) sz)) (va_A (kw_X ct ad M Pl C V) sz)) (kr_X D vwCl (kw_T ct) (kw_X ct ad M Pl C V) (va_A (kw_X ct ad M Pl C V) sz)) 1 6 (va_A (kw_X ct ad M Pl C V) sz) := by
  refine vx_ofW (cc := cX0_take) (maxL := 6) (ret := (some .int)) (by decide) rfl ?_
  intro p e s m args below meth c s₁ B hml htab hv
  obtain ⟨rfl, hsz, hP, hK, hD0, hB⟩ := hv
  have hx := B.exec
  have hb := B.bytes
  have hr := B.returns
  have hts := atoms_spec (ws := wsX0_take) B.pre
  have hown : s.vm.findClass RX0 = some m.cls := findClass_of_methodNamed B.named
  have hlocks := B.notSynchronized
  have hin : ∀ w ∈ u_ws RX0 TX0 4, w ∈ wsX0_take := by decide +kernel
  subst hsz
  have hD := hD0.self (sz := s.heap.size)
  generalize hAe : va_A (kw_X ct ad M Pl C V) s.heap.size = A at hD hB ⊢
  have hA : ∀ q : Nat, s.heap.size ≤ q → A q := fun q h => by rw [← hAe]; exact Or.inr h
  have hS : va_S A s.heap s.heap [] := va_S.rf
  have hl := lv_entry ([.ref (ad 0), .int (nI k), .long v, .int x]) (n := 6) (Nat.le_of_ble_eq_true rfl)
  rw [lg_entry_eq]
  generalize (lg_sl ([.ref (ad 0), .int (nI k), .long v, .int x]) ++ List.replicate (6 - (lg_sl ([.ref (ad 0), .int (nI k), .long v, .int x])).length) Slot.unset).toArray = ls at hl ⊢
  have hl : lv_has ls 6 [(0, .ref (ad 0)), (1, .int (nI k)), (2, .long v), (4, .int x)] := hl
  refine lv_iload_n hx hb dX0_take_0 rfl (lv_at hl 1 rfl) ?_
  refine lv_bipush (v := nI 7) hx hb dX0_take_1 (by decide +kernel) ?_
  refine kr_callv (va_runS (As := [.int (nI k), .int (nI 7)]) (rest := []) ⟨hx, hb, hml, hown, hts⟩ (kc_req l D ct ad tb M Pl C V _ (a := k) (b := 7) (by omega) (by omega)) (va_cwS 2 hts gX0_take_X0_requireUpTo rfl rfl rfl (by decide +kernel) ⟨Nat.le_of_ble_eq_true rfl, Nat.le_of_ble_eq_true rfl⟩) (kr_preS (kw_Bok tb) _ hP hK hD hB hS hA) rfl rfl hl.1 rfl (lv_room (Nat.le_of_ble_eq_true rfl)) dX0_take_3 ⟨Nat.zero_le _, Nat.zero_le _⟩) hD hS hA (fun u H locs hq hP hD hS => ?_)
  have hP : va_P D vwCl (kw_X ct ad M Pl C V) H := hP
  have hD : va_D A (kw_X ct ad M Pl C V) := hD
  refine lv_iload hx hb dX0_take_6 (lv_at hl 3 rfl) ?_
  refine lv_bipush (v := nI 8) hx hb dX0_take_8 (by decide +kernel) ?_
  refine kr_xv (vx_runS (As := [.int x, .int (nI 8)]) (rest := []) ⟨hx, hb, hml, hown, hts⟩ (kx_req l D ct ad tb M Pl C V hl0 _ x hbad) (va_cwS 2 hts gX0_take_X0_requireUpTo rfl rfl rfl (by decide +kernel) ⟨Nat.le_of_ble_eq_true rfl, Nat.le_of_ble_eq_true rfl⟩) (kr_preS (kw_Bok tb) _ hP hK hD hB hS hA) rfl rfl hl.1 rfl (lv_room (Nat.le_of_ble_eq_true rfl)) dX0_take_10 ⟨Nat.le_of_ble_eq_true rfl, Nat.le_of_ble_eq_true rfl⟩) hD hS hA (fun ce q9 H locs hP hD hS hce hcv hcl => ?_)
  exact vx_out (E := "java/lang/IllegalArgumentException") (fun x h => (htab x h).elim) hlocks hce hcv hcl (fun t ht ha => ⟨(), trivial, ⟨rfl, by rw [ht]; exact hP, va_K.moved ha hK, hD⟩, hS.F ht⟩) hS.2.2 (Nat.le_refl _) (Nat.le_refl _)
set_option maxHeartbeats 4000000 in
set_option maxRecDepth 100000 in
theorem kx_fill1 (l : Launch) (D : va_G) (ct : Nat → ClassId) (ad tb : Nat → Nat) (M : Nat → Nat → Int64) (Pl : Nat → Nat) (C V : Nat → Int64) (hl0 : l.stackTraces = false) (sz : Nat) (x v t y : Int32) (hbad : x < 0 ∨ ¬ x ≤ nI 7) : vx_Met l yX0_fill wsX0_fill ({ frames := 7, cells := 1, slots := 6, locals := 103 }) (kr_P D vwCl (kw_T ct) (kw_B tb) [.ref (ad 0), .int x, .int v, .int t, .int y] (kw_X ct ad M Pl C V) sz) (va_Qi (fun (_ : Int32) (_ : Unit) => False) (kr_B D vwCl (kw_T ct) (fun _ => kw_X ct ad M Pl C V) (va_A (kw_X ct ad M Pl C V) sz)) (va_A (kw_X ct ad M Pl C V) sz)) (kr_X D vwCl (kw_T ct) (kw_X ct ad M Pl C V) (va_A (kw_X ct ad M Pl C V) sz)) 1 6 (va_A (kw_X ct ad M Pl C V) sz) := by
  refine vx_ofW (cc := cX0_fill) (maxL := 6) (ret := (some .int)) (by decide) rfl ?_
  intro p e s m args below meth c s₁ B hml htab hv
  obtain ⟨rfl, hsz, hP, hK, hD0, hB⟩ := hv
  have hx := B.exec
  have hb := B.bytes
  have hr := B.returns
  have hts := atoms_spec (ws := wsX0_fill) B.pre
  have hown : s.vm.findClass RX0 = some m.cls := findClass_of_methodNamed B.named
  have hlocks := B.notSynchronized
  have hin : ∀ w ∈ u_ws RX0 TX0 4, w ∈ wsX0_fill := by decide +kernel
  subst hsz
  have hD := hD0.self (sz := s.heap.size)
  generalize hAe : va_A (kw_X ct ad M Pl C V) s.heap.size = A at hD hB ⊢
  have hA : ∀ q : Nat, s.heap.size ≤ q → A q := fun q h => by rw [← hAe]; exact Or.inr h
  have hS : va_S A s.heap s.heap [] := va_S.rf
  have hl := lv_entry ([.ref (ad 0), .int x, .int v, .int t, .int y]) (n := 6) (Nat.le_of_ble_eq_true rfl)
  rw [lg_entry_eq]
  generalize (lg_sl ([.ref (ad 0), .int x, .int v, .int t, .int y]) ++ List.replicate (6 - (lg_sl ([.ref (ad 0), .int x, .int v, .int t, .int y])).length) Slot.unset).toArray = ls at hl ⊢
  have hl : lv_has ls 6 [(0, .ref (ad 0)), (1, .int x), (2, .int v), (3, .int t), (4, .int y)] := hl
  refine lv_iload_n hx hb dX0_fill_0 rfl (lv_at hl 1 rfl) ?_
  refine lv_bipush (v := nI 7) hx hb dX0_fill_1 (by decide +kernel) ?_
  refine kr_xv (vx_runS (As := [.int x, .int (nI 7)]) (rest := []) ⟨hx, hb, hml, hown, hts⟩ (kx_req l D ct ad tb M Pl C V hl0 _ x hbad) (va_cwS 2 hts gX0_fill_X0_requireUpTo rfl rfl rfl (by decide +kernel) ⟨Nat.le_of_ble_eq_true rfl, Nat.le_of_ble_eq_true rfl⟩) (kr_preS (kw_Bok tb) _ hP hK hD hB hS hA) rfl rfl hl.1 rfl (lv_room (Nat.le_of_ble_eq_true rfl)) dX0_fill_3 ⟨Nat.le_of_ble_eq_true rfl, Nat.le_of_ble_eq_true rfl⟩) hD hS hA (fun ce q9 H locs hP hD hS hce hcv hcl => ?_)
  exact vx_out (E := "java/lang/IllegalArgumentException") (fun x h => (htab x h).elim) hlocks hce hcv hcl (fun t ht ha => ⟨(), trivial, ⟨rfl, by rw [ht]; exact hP, va_K.moved ha hK, hD⟩, hS.F ht⟩) hS.2.2 (Nat.le_refl _) (Nat.le_refl _)
set_option maxHeartbeats 4000000 in
set_option maxRecDepth 100000 in
theorem kx_fill2 (l : Launch) (D : va_G) (ct : Nat → ClassId) (ad tb : Nat → Nat) (M : Nat → Nat → Int64) (Pl : Nat → Nat) (C V : Nat → Int64) (hl0 : l.stackTraces = false) (sz : Nat) {k : Nat} (hk : k < 8) (v t x : Int32) (hbad : x < 0 ∨ ¬ x ≤ nI 2000) : vx_Met l yX0_fill wsX0_fill ({ frames := 7, cells := 1, slots := 6, locals := 103 }) (kr_P D vwCl (kw_T ct) (kw_B tb) [.ref (ad 0), .int (nI k), .int v, .int t, .int x] (kw_X ct ad M Pl C V) sz) (va_Qi (fun (_ : Int32) (_ : Unit) => False) (kr_B D vwCl (kw_T ct) (fun _ => kw_X ct ad M Pl C V) (va_A (kw_X ct ad M Pl C V) sz)) (va_A (kw_X ct ad M Pl C V) sz)) (kr_X D vwCl (kw_T ct) (kw_X ct ad M Pl C V) (va_A (kw_X ct ad M Pl C V) sz)) 1 6 (va_A (kw_X ct ad M Pl C V) sz) := by
  refine vx_ofW (cc := cX0_fill) (maxL := 6) (ret := (some .int)) (by decide) rfl ?_
  intro p e s m args below meth c s₁ B hml htab hv
  obtain ⟨rfl, hsz, hP, hK, hD0, hB⟩ := hv
  have hx := B.exec
  have hb := B.bytes
  have hr := B.returns
  have hts := atoms_spec (ws := wsX0_fill) B.pre
  have hown : s.vm.findClass RX0 = some m.cls := findClass_of_methodNamed B.named
  have hlocks := B.notSynchronized
  have hin : ∀ w ∈ u_ws RX0 TX0 4, w ∈ wsX0_fill := by decide +kernel
  subst hsz
  have hD := hD0.self (sz := s.heap.size)
  generalize hAe : va_A (kw_X ct ad M Pl C V) s.heap.size = A at hD hB ⊢
  have hA : ∀ q : Nat, s.heap.size ≤ q → A q := fun q h => by rw [← hAe]; exact Or.inr h
  have hS : va_S A s.heap s.heap [] := va_S.rf
  have hl := lv_entry ([.ref (ad 0), .int (nI k), .int v, .int t, .int x]) (n := 6) (Nat.le_of_ble_eq_true rfl)
  rw [lg_entry_eq]
  generalize (lg_sl ([.ref (ad 0), .int (nI k), .int v, .int t, .int x]) ++ List.replicate (6 - (lg_sl ([.ref (ad 0), .int (nI k), .int v, .int t, .int x])).length) Slot.unset).toArray = ls at hl ⊢
  have hl : lv_has ls 6 [(0, .ref (ad 0)), (1, .int (nI k)), (2, .int v), (3, .int t), (4, .int x)] := hl
  refine lv_iload_n hx hb dX0_fill_0 rfl (lv_at hl 1 rfl) ?_
  refine lv_bipush (v := nI 7) hx hb dX0_fill_1 (by decide +kernel) ?_
  refine kr_callv (va_runS (As := [.int (nI k), .int (nI 7)]) (rest := []) ⟨hx, hb, hml, hown, hts⟩ (kc_req l D ct ad tb M Pl C V _ (a := k) (b := 7) (by omega) (by omega)) (va_cwS 2 hts gX0_fill_X0_requireUpTo rfl rfl rfl (by decide +kernel) ⟨Nat.le_of_ble_eq_true rfl, Nat.le_of_ble_eq_true rfl⟩) (kr_preS (kw_Bok tb) _ hP hK hD hB hS hA) rfl rfl hl.1 rfl (lv_room (Nat.le_of_ble_eq_true rfl)) dX0_fill_3 ⟨Nat.zero_le _, Nat.zero_le _⟩) hD hS hA (fun u H locs hq hP hD hS => ?_)
  have hP : va_P D vwCl (kw_X ct ad M Pl C V) H := hP
  have hD : va_D A (kw_X ct ad M Pl C V) := hD
  refine lv_iload hx hb dX0_fill_6 (lv_at hl 4 rfl) ?_
  refine lv_sipush (v := nI 2000) hx hb dX0_fill_8 (by decide +kernel) ?_
  refine kr_xv (vx_runS (As := [.int x, .int (nI 2000)]) (rest := []) ⟨hx, hb, hml, hown, hts⟩ (kx_req l D ct ad tb M Pl C V hl0 _ x hbad) (va_cwS 2 hts gX0_fill_X0_requireUpTo rfl rfl rfl (by decide +kernel) ⟨Nat.le_of_ble_eq_true rfl, Nat.le_of_ble_eq_true rfl⟩) (kr_preS (kw_Bok tb) _ hP hK hD hB hS hA) rfl rfl hl.1 rfl (lv_room (Nat.le_of_ble_eq_true rfl)) dX0_fill_11 ⟨Nat.le_of_ble_eq_true rfl, Nat.le_of_ble_eq_true rfl⟩) hD hS hA (fun ce q9 H locs hP hD hS hce hcv hcl => ?_)
  exact vx_out (E := "java/lang/IllegalArgumentException") (fun x h => (htab x h).elim) hlocks hce hcv hcl (fun t ht ha => ⟨(), trivial, ⟨rfl, by rw [ht]; exact hP, va_K.moved ha hK, hD⟩, hS.F ht⟩) hS.2.2 (Nat.le_refl _) (Nat.le_refl _)
set_option maxHeartbeats 4000000 in
set_option maxRecDepth 100000 in
theorem kx_copy1 (l : Launch) (D : va_G) (ct : Nat → ClassId) (ad tb : Nat → Nat) (M : Nat → Nat → Int64) (Pl : Nat → Nat) (C V : Nat → Int64) (hl0 : l.stackTraces = false) (sz : Nat) (x y : Int32) (hbad : x < 0 ∨ ¬ x ≤ nI 7) : vx_Met l yX0_copy wsX0_copy ({ frames := 7, cells := 1, slots := 6, locals := 103 }) (kr_P D vwCl (kw_T ct) (kw_B tb) [.ref (ad 0), .int x, .int y] (kw_X ct ad M Pl C V) sz) (va_Qv (fun _ : Unit => False) (kr_B D vwCl (kw_T ct) (fun _ => kw_X ct ad M Pl C V) (va_A (kw_X ct ad M Pl C V) sz)) (va_A (kw_X ct ad M Pl C V) sz)) (kr_X D vwCl (kw_T ct) (kw_X ct ad M Pl C V) (va_A (kw_X ct ad M Pl C V) sz)) 1 6 (va_A (kw_X ct ad M Pl C V) sz) := by
  refine vx_ofW (cc := cX0_copy) (maxL := 3) (ret := none) (by decide) rfl ?_
  intro p e s m args below meth c s₁ B hml htab hv
  obtain ⟨rfl, hsz, hP, hK, hD0, hB⟩ := hv
  have hx := B.exec
  have hb := B.bytes
  have hr := B.returns
  have hts := atoms_spec (ws := wsX0_copy) B.pre
  have hown : s.vm.findClass RX0 = some m.cls := findClass_of_methodNamed B.named
  have hlocks := B.notSynchronized
  subst hsz
  have hD := hD0.self (sz := s.heap.size)
  generalize hAe : va_A (kw_X ct ad M Pl C V) s.heap.size = A at hD hB ⊢
  have hA : ∀ q : Nat, s.heap.size ≤ q → A q := fun q h => by rw [← hAe]; exact Or.inr h
  have hS : va_S A s.heap s.heap [] := va_S.rf
  have hl := lv_entry ([.ref (ad 0), .int x, .int y]) (n := 3) (Nat.le_of_ble_eq_true rfl)
  rw [lg_entry_eq]
  generalize (lg_sl ([.ref (ad 0), .int x, .int y]) ++ List.replicate (3 - (lg_sl ([.ref (ad 0), .int x, .int y])).length) Slot.unset).toArray = ls at hl ⊢
  have hl : lv_has ls 3 [(0, .ref (ad 0)), (1, .int x), (2, .int y)] := hl
  refine lv_iload_n hx hb dX0_copy_0 rfl (lv_at hl 1 rfl) ?_
  refine lv_bipush (v := nI 7) hx hb dX0_copy_1 (by decide +kernel) ?_
  refine kr_xv (vx_runS (As := [.int x, .int (nI 7)]) (rest := []) ⟨hx, hb, hml, hown, hts⟩ (kx_req l D ct ad tb M Pl C V hl0 _ x hbad) (va_cwS 2 hts gX0_copy_X0_requireUpTo rfl rfl rfl (by decide +kernel) ⟨Nat.le_of_ble_eq_true rfl, Nat.le_of_ble_eq_true rfl⟩) (kr_preS (kw_Bok tb) _ hP hK hD hB hS hA) rfl rfl hl.1 rfl (lv_room (Nat.le_of_ble_eq_true rfl)) dX0_copy_3 ⟨Nat.le_of_ble_eq_true rfl, Nat.le_of_ble_eq_true rfl⟩) hD hS hA (fun ce q9 H locs hP hD hS hce hcv hcl => ?_)
  exact vx_out (E := "java/lang/IllegalArgumentException") (fun x h => (htab x h).elim) hlocks hce hcv hcl (fun t ht ha => ⟨(), trivial, ⟨rfl, by rw [ht]; exact hP, va_K.moved ha hK, hD⟩, hS.F ht⟩) hS.2.2 (Nat.le_refl _) (Nat.le_refl _)
set_option maxHeartbeats 4000000 in
set_option maxRecDepth 100000 in
theorem kx_copy2 (l : Launch) (D : va_G) (ct : Nat → ClassId) (ad tb : Nat → Nat) (M : Nat → Nat → Int64) (Pl : Nat → Nat) (C V : Nat → Int64) (hl0 : l.stackTraces = false) (sz : Nat) {k : Nat} (hk : k < 8) (x : Int32) (hbad : x < 0 ∨ ¬ x ≤ nI 7) : vx_Met l yX0_copy wsX0_copy ({ frames := 7, cells := 1, slots := 6, locals := 103 }) (kr_P D vwCl (kw_T ct) (kw_B tb) [.ref (ad 0), .int (nI k), .int x] (kw_X ct ad M Pl C V) sz) (va_Qv (fun _ : Unit => False) (kr_B D vwCl (kw_T ct) (fun _ => kw_X ct ad M Pl C V) (va_A (kw_X ct ad M Pl C V) sz)) (va_A (kw_X ct ad M Pl C V) sz)) (kr_X D vwCl (kw_T ct) (kw_X ct ad M Pl C V) (va_A (kw_X ct ad M Pl C V) sz)) 1 6 (va_A (kw_X ct ad M Pl C V) sz) := by
  refine vx_ofW (cc := cX0_copy) (maxL := 3) (ret := none) (by decide) rfl ?_
  intro p e s m args below meth c s₁ B hml htab hv
  obtain ⟨rfl, hsz, hP, hK, hD0, hB⟩ := hv
  have hx := B.exec
  have hb := B.bytes
  have hr := B.returns
  have hts := atoms_spec (ws := wsX0_copy) B.pre
  have hown : s.vm.findClass RX0 = some m.cls := findClass_of_methodNamed B.named
  have hlocks := B.notSynchronized
  subst hsz
  have hD := hD0.self (sz := s.heap.size)
  generalize hAe : va_A (kw_X ct ad M Pl C V) s.heap.size = A at hD hB ⊢
  have hA : ∀ q : Nat, s.heap.size ≤ q → A q := fun q h => by rw [← hAe]; exact Or.inr h
  have hS : va_S A s.heap s.heap [] := va_S.rf
  have hl := lv_entry ([.ref (ad 0), .int (nI k), .int x]) (n := 3) (Nat.le_of_ble_eq_true rfl)
  rw [lg_entry_eq]
  generalize (lg_sl ([.ref (ad 0), .int (nI k), .int x]) ++ List.replicate (3 - (lg_sl ([.ref (ad 0), .int (nI k), .int x])).length) Slot.unset).toArray = ls at hl ⊢
  have hl : lv_has ls 3 [(0, .ref (ad 0)), (1, .int (nI k)), (2, .int x)] := hl
  refine lv_iload_n hx hb dX0_copy_0 rfl (lv_at hl 1 rfl) ?_
  refine lv_bipush (v := nI 7) hx hb dX0_copy_1 (by decide +kernel) ?_
  refine kr_callv (va_runS (As := [.int (nI k), .int (nI 7)]) (rest := []) ⟨hx, hb, hml, hown, hts⟩ (kc_req l D ct ad tb M Pl C V _ (a := k) (b := 7) (by omega) (by omega)) (va_cwS 2 hts gX0_copy_X0_requireUpTo rfl rfl rfl (by decide +kernel) ⟨Nat.le_of_ble_eq_true rfl, Nat.le_of_ble_eq_true rfl⟩) (kr_preS (kw_Bok tb) _ hP hK hD hB hS hA) rfl rfl hl.1 rfl (lv_room (Nat.le_of_ble_eq_true rfl)) dX0_copy_3 ⟨Nat.zero_le _, Nat.zero_le _⟩) hD hS hA (fun u H locs hq hP hD hS => ?_)
  have hP : va_P D vwCl (kw_X ct ad M Pl C V) H := hP
  have hD : va_D A (kw_X ct ad M Pl C V) := hD
  refine lv_iload_n hx hb dX0_copy_6 rfl (lv_at hl 2 rfl) ?_
  refine lv_bipush (v := nI 7) hx hb dX0_copy_7 (by decide +kernel) ?_
  refine kr_xv (vx_runS (As := [.int x, .int (nI 7)]) (rest := []) ⟨hx, hb, hml, hown, hts⟩ (kx_req l D ct ad tb M Pl C V hl0 _ x hbad) (va_cwS 2 hts gX0_copy_X0_requireUpTo rfl rfl rfl (by decide +kernel) ⟨Nat.le_of_ble_eq_true rfl, Nat.le_of_ble_eq_true rfl⟩) (kr_preS (kw_Bok tb) _ hP hK hD hB hS hA) rfl rfl hl.1 rfl (lv_room (Nat.le_of_ble_eq_true rfl)) dX0_copy_9 ⟨Nat.le_of_ble_eq_true rfl, Nat.le_of_ble_eq_true rfl⟩) hD hS hA (fun ce q9 H locs hP hD hS hce hcv hcl => ?_)
  exact vx_out (E := "java/lang/IllegalArgumentException") (fun x h => (htab x h).elim) hlocks hce hcv hcl (fun t ht ha => ⟨(), trivial, ⟨rfl, by rw [ht]; exact hP, va_K.moved ha hK, hD⟩, hS.F ht⟩) hS.2.2 (Nat.le_refl _) (Nat.le_refl _)
set_option maxHeartbeats 4000000 in
set_option maxRecDepth 100000 in
theorem kx_mix1 (l : Launch) (D : va_G) (ct : Nat → ClassId) (ad tb : Nat → Nat) (M : Nat → Nat → Int64) (Pl : Nat → Nat) (C V : Nat → Int64) (hl0 : l.stackTraces = false) (sz : Nat) (x : Int32) (hbad : x < 0 ∨ ¬ x ≤ nI 7) : vx_Met l yX0_mix wsX0_mix ({ frames := 7, cells := 1, slots := 6, locals := 103 }) (kr_P D vwCl (kw_T ct) (kw_B tb) [.ref (ad 0), .int x] (kw_X ct ad M Pl C V) sz) (va_Qv (fun _ : Unit => False) (kr_B D vwCl (kw_T ct) (fun _ => kw_X ct ad M Pl C V) (va_A (kw_X ct ad M Pl C V) sz)) (va_A (kw_X ct ad M Pl C V) sz)) (kr_X D vwCl (kw_T ct) (kw_X ct ad M Pl C V) (va_A (kw_X ct ad M Pl C V) sz)) 1 6 (va_A (kw_X ct ad M Pl C V) sz) := by
  refine vx_ofW (cc := cX0_mix) (maxL := 2) (ret := none) (by decide) rfl ?_
  intro p e s m args below meth c s₁ B hml htab hv
  obtain ⟨rfl, hsz, hP, hK, hD0, hB⟩ := hv
  have hx := B.exec
  have hb := B.bytes
  have hr := B.returns
  have hts := atoms_spec (ws := wsX0_mix) B.pre
  have hown : s.vm.findClass RX0 = some m.cls := findClass_of_methodNamed B.named
  have hlocks := B.notSynchronized
  have hin : ∀ w ∈ u_ws RX0 TX0 4, w ∈ wsX0_mix := by decide +kernel
  subst hsz
  have hD := hD0.self (sz := s.heap.size)
  generalize hAe : va_A (kw_X ct ad M Pl C V) s.heap.size = A at hD hB ⊢
  have hA : ∀ q : Nat, s.heap.size ≤ q → A q := fun q h => by rw [← hAe]; exact Or.inr h
  have hS : va_S A s.heap s.heap [] := va_S.rf
  have hl := lv_entry ([.ref (ad 0), .int x]) (n := 2) (Nat.le_of_ble_eq_true rfl)
  rw [lg_entry_eq]
  generalize (lg_sl ([.ref (ad 0), .int x]) ++ List.replicate (2 - (lg_sl ([.ref (ad 0), .int x])).length) Slot.unset).toArray = ls at hl ⊢
  have hl : lv_has ls 2 [(0, .ref (ad 0)), (1, .int x)] := hl
  refine lv_iload_n hx hb dX0_mix_0 rfl (lv_at hl 1 rfl) ?_
  refine lv_bipush (v := nI 7) hx hb dX0_mix_1 (by decide +kernel) ?_
  refine kr_xv (vx_runS (As := [.int x, .int (nI 7)]) (rest := []) ⟨hx, hb, hml, hown, hts⟩ (kx_req l D ct ad tb M Pl C V hl0 _ x hbad) (va_cwS 2 hts gX0_mix_X0_requireUpTo rfl rfl rfl (by decide +kernel) ⟨Nat.le_of_ble_eq_true rfl, Nat.le_of_ble_eq_true rfl⟩) (kr_preS (kw_Bok tb) _ hP hK hD hB hS hA) rfl rfl hl.1 rfl (lv_room (Nat.le_of_ble_eq_true rfl)) dX0_mix_3 ⟨Nat.le_of_ble_eq_true rfl, Nat.le_of_ble_eq_true rfl⟩) hD hS hA (fun ce q9 H locs hP hD hS hce hcv hcl => ?_)
  exact vx_out (E := "java/lang/IllegalArgumentException") (fun x h => (htab x h).elim) hlocks hce hcv hcl (fun t ht ha => ⟨(), trivial, ⟨rfl, by rw [ht]; exact hP, va_K.moved ha hK, hD⟩, hS.F ht⟩) hS.2.2 (Nat.le_refl _) (Nat.le_refl _)
set_option maxHeartbeats 4000000 in
set_option maxRecDepth 100000 in
theorem kx_lane1 (l : Launch) (D : va_G) (ct : Nat → ClassId) (ad tb : Nat → Nat) (M : Nat → Nat → Int64) (Pl : Nat → Nat) (C V : Nat → Int64) (hl0 : l.stackTraces = false) (sz : Nat) (x y : Int32) (hbad : x < 0 ∨ ¬ x ≤ nI 7) : vx_Met l yX0_lane wsX0_lane ({ frames := 7, cells := 1, slots := 6, locals := 103 }) (kr_P D vwCl (kw_T ct) (kw_B tb) [.ref (ad 0), .int x, .int y] (kw_X ct ad M Pl C V) sz) (va_Ql (fun (_ : Int64) (_ : Unit) => False) (kr_B D vwCl (kw_T ct) (fun _ => kw_X ct ad M Pl C V) (va_A (kw_X ct ad M Pl C V) sz)) (va_A (kw_X ct ad M Pl C V) sz)) (kr_X D vwCl (kw_T ct) (kw_X ct ad M Pl C V) (va_A (kw_X ct ad M Pl C V) sz)) 1 6 (va_A (kw_X ct ad M Pl C V) sz) := by
  refine vx_ofW (cc := cX0_lane) (maxL := 3) (ret := (some .long)) (by decide) rfl ?_
  intro p e s m args below meth c s₁ B hml htab hv
  obtain ⟨rfl, hsz, hP, hK, hD0, hB⟩ := hv
  have hx := B.exec
  have hb := B.bytes
  have hr := B.returns
  have hts := atoms_spec (ws := wsX0_lane) B.pre
  have hown : s.vm.findClass RX0 = some m.cls := findClass_of_methodNamed B.named
  have hlocks := B.notSynchronized
  have hin : ∀ w ∈ u_ws RX0 TX0 4, w ∈ wsX0_lane := by decide +kernel
  subst hsz
  have hD := hD0.self (sz := s.heap.size)
  generalize hAe : va_A (kw_X ct ad M Pl C V) s.heap.size = A at hD hB ⊢
  have hA : ∀ q : Nat, s.heap.size ≤ q → A q := fun q h => by rw [← hAe]; exact Or.inr h
  have hS : va_S A s.heap s.heap [] := va_S.rf
  have hl := lv_entry ([.ref (ad 0), .int x, .int y]) (n := 3) (Nat.le_of_ble_eq_true rfl)
  rw [lg_entry_eq]
  generalize (lg_sl ([.ref (ad 0), .int x, .int y]) ++ List.replicate (3 - (lg_sl ([.ref (ad 0), .int x, .int y])).length) Slot.unset).toArray = ls at hl ⊢
  have hl : lv_has ls 3 [(0, .ref (ad 0)), (1, .int x), (2, .int y)] := hl
  refine lv_iload_n hx hb dX0_lane_0 rfl (lv_at hl 1 rfl) ?_
  refine lv_bipush (v := nI 7) hx hb dX0_lane_1 (by decide +kernel) ?_
  refine kr_xv (vx_runS (As := [.int x, .int (nI 7)]) (rest := []) ⟨hx, hb, hml, hown, hts⟩ (kx_req l D ct ad tb M Pl C V hl0 _ x hbad) (va_cwS 2 hts gX0_lane_X0_requireUpTo rfl rfl rfl (by decide +kernel) ⟨Nat.le_of_ble_eq_true rfl, Nat.le_of_ble_eq_true rfl⟩) (kr_preS (kw_Bok tb) _ hP hK hD hB hS hA) rfl rfl hl.1 rfl (lv_room (Nat.le_of_ble_eq_true rfl)) dX0_lane_3 ⟨Nat.le_of_ble_eq_true rfl, Nat.le_of_ble_eq_true rfl⟩) hD hS hA (fun ce q9 H locs hP hD hS hce hcv hcl => ?_)
  exact vx_out (E := "java/lang/IllegalArgumentException") (fun x h => (htab x h).elim) hlocks hce hcv hcl (fun t ht ha => ⟨(), trivial, ⟨rfl, by rw [ht]; exact hP, va_K.moved ha hK, hD⟩, hS.F ht⟩) hS.2.2 (Nat.le_refl _) (Nat.le_refl _)
set_option maxHeartbeats 4000000 in
set_option maxRecDepth 100000 in
theorem kx_lane2 (l : Launch) (D : va_G) (ct : Nat → ClassId) (ad tb : Nat → Nat) (M : Nat → Nat → Int64) (Pl : Nat → Nat) (C V : Nat → Int64) (hl0 : l.stackTraces = false) (sz : Nat) {k : Nat} (hk : k < 8) (x : Int32) (hbad : x < 0 ∨ ¬ x ≤ nI 24) : vx_Met l yX0_lane wsX0_lane ({ frames := 7, cells := 1, slots := 6, locals := 103 }) (kr_P D vwCl (kw_T ct) (kw_B tb) [.ref (ad 0), .int (nI k), .int x] (kw_X ct ad M Pl C V) sz) (va_Ql (fun (_ : Int64) (_ : Unit) => False) (kr_B D vwCl (kw_T ct) (fun _ => kw_X ct ad M Pl C V) (va_A (kw_X ct ad M Pl C V) sz)) (va_A (kw_X ct ad M Pl C V) sz)) (kr_X D vwCl (kw_T ct) (kw_X ct ad M Pl C V) (va_A (kw_X ct ad M Pl C V) sz)) 1 6 (va_A (kw_X ct ad M Pl C V) sz) := by
  refine vx_ofW (cc := cX0_lane) (maxL := 3) (ret := (some .long)) (by decide) rfl ?_
  intro p e s m args below meth c s₁ B hml htab hv
  obtain ⟨rfl, hsz, hP, hK, hD0, hB⟩ := hv
  have hx := B.exec
  have hb := B.bytes
  have hr := B.returns
  have hts := atoms_spec (ws := wsX0_lane) B.pre
  have hown : s.vm.findClass RX0 = some m.cls := findClass_of_methodNamed B.named
  have hlocks := B.notSynchronized
  have hin : ∀ w ∈ u_ws RX0 TX0 4, w ∈ wsX0_lane := by decide +kernel
  subst hsz
  have hD := hD0.self (sz := s.heap.size)
  generalize hAe : va_A (kw_X ct ad M Pl C V) s.heap.size = A at hD hB ⊢
  have hA : ∀ q : Nat, s.heap.size ≤ q → A q := fun q h => by rw [← hAe]; exact Or.inr h
  have hS : va_S A s.heap s.heap [] := va_S.rf
  have hl := lv_entry ([.ref (ad 0), .int (nI k), .int x]) (n := 3) (Nat.le_of_ble_eq_true rfl)
  rw [lg_entry_eq]
  generalize (lg_sl ([.ref (ad 0), .int (nI k), .int x]) ++ List.replicate (3 - (lg_sl ([.ref (ad 0), .int (nI k), .int x])).length) Slot.unset).toArray = ls at hl ⊢
  have hl : lv_has ls 3 [(0, .ref (ad 0)), (1, .int (nI k)), (2, .int x)] := hl
  refine lv_iload_n hx hb dX0_lane_0 rfl (lv_at hl 1 rfl) ?_
  refine lv_bipush (v := nI 7) hx hb dX0_lane_1 (by decide +kernel) ?_
  refine kr_callv (va_runS (As := [.int (nI k), .int (nI 7)]) (rest := []) ⟨hx, hb, hml, hown, hts⟩ (kc_req l D ct ad tb M Pl C V _ (a := k) (b := 7) (by omega) (by omega)) (va_cwS 2 hts gX0_lane_X0_requireUpTo rfl rfl rfl (by decide +kernel) ⟨Nat.le_of_ble_eq_true rfl, Nat.le_of_ble_eq_true rfl⟩) (kr_preS (kw_Bok tb) _ hP hK hD hB hS hA) rfl rfl hl.1 rfl (lv_room (Nat.le_of_ble_eq_true rfl)) dX0_lane_3 ⟨Nat.zero_le _, Nat.zero_le _⟩) hD hS hA (fun u H locs hq hP hD hS => ?_)
  have hP : va_P D vwCl (kw_X ct ad M Pl C V) H := hP
  have hD : va_D A (kw_X ct ad M Pl C V) := hD
  refine lv_iload_n hx hb dX0_lane_6 rfl (lv_at hl 2 rfl) ?_
  refine lv_bipush (v := nI 24) hx hb dX0_lane_7 (by decide +kernel) ?_
  refine kr_xv (vx_runS (As := [.int x, .int (nI 24)]) (rest := []) ⟨hx, hb, hml, hown, hts⟩ (kx_req l D ct ad tb M Pl C V hl0 _ x hbad) (va_cwS 2 hts gX0_lane_X0_requireUpTo rfl rfl rfl (by decide +kernel) ⟨Nat.le_of_ble_eq_true rfl, Nat.le_of_ble_eq_true rfl⟩) (kr_preS (kw_Bok tb) _ hP hK hD hB hS hA) rfl rfl hl.1 rfl (lv_room (Nat.le_of_ble_eq_true rfl)) dX0_lane_9 ⟨Nat.le_of_ble_eq_true rfl, Nat.le_of_ble_eq_true rfl⟩) hD hS hA (fun ce q9 H locs hP hD hS hce hcv hcl => ?_)
  exact vx_out (E := "java/lang/IllegalArgumentException") (fun x h => (htab x h).elim) hlocks hce hcv hcl (fun t ht ha => ⟨(), trivial, ⟨rfl, by rw [ht]; exact hP, va_K.moved ha hK, hD⟩, hS.F ht⟩) hS.2.2 (Nat.le_refl _) (Nat.le_refl _)
set_option maxHeartbeats 4000000 in
set_option maxRecDepth 100000 in
theorem kx_digest1 (l : Launch) (D : va_G) (ct : Nat → ClassId) (ad tb : Nat → Nat) (M : Nat → Nat → Int64) (Pl : Nat → Nat) (C V : Nat → Int64) (hl0 : l.stackTraces = false) (sz : Nat) (x y : Int32) (hbad : x < 0 ∨ ¬ x ≤ nI 7) : vx_Met l yX0_digest wsX0_digest ({ frames := 7, cells := 1, slots := 6, locals := 103 }) (kr_P D vwCl (kw_T ct) (kw_B tb) [.ref (ad 0), .int x, .int y] (kw_X ct ad M Pl C V) sz) (va_Ql (fun (_ : Int64) (_ : Unit) => False) (kr_B D vwCl (kw_T ct) (fun _ => kw_X ct ad M Pl C V) (va_A (kw_X ct ad M Pl C V) sz)) (va_A (kw_X ct ad M Pl C V) sz)) (kr_X D vwCl (kw_T ct) (kw_X ct ad M Pl C V) (va_A (kw_X ct ad M Pl C V) sz)) 1 6 (va_A (kw_X ct ad M Pl C V) sz) := by
  refine vx_ofW (cc := cX0_digest) (maxL := 4) (ret := (some .long)) (by decide) rfl ?_
  intro p e s m args below meth c s₁ B hml htab hv
  obtain ⟨rfl, hsz, hP, hK, hD0, hB⟩ := hv
  have hx := B.exec
  have hb := B.bytes
  have hr := B.returns
  have hts := atoms_spec (ws := wsX0_digest) B.pre
  have hown : s.vm.findClass RX0 = some m.cls := findClass_of_methodNamed B.named
  have hlocks := B.notSynchronized
  have hin : ∀ w ∈ u_ws RX0 TX0 4, w ∈ wsX0_digest := by decide +kernel
  subst hsz
  have hD := hD0.self (sz := s.heap.size)
  generalize hAe : va_A (kw_X ct ad M Pl C V) s.heap.size = A at hD hB ⊢
  have hA : ∀ q : Nat, s.heap.size ≤ q → A q := fun q h => by rw [← hAe]; exact Or.inr h
  have hS : va_S A s.heap s.heap [] := va_S.rf
  have hl := lv_entry ([.ref (ad 0), .int x, .int y]) (n := 4) (Nat.le_of_ble_eq_true rfl)
  rw [lg_entry_eq]
  generalize (lg_sl ([.ref (ad 0), .int x, .int y]) ++ List.replicate (4 - (lg_sl ([.ref (ad 0), .int x, .int y])).length) Slot.unset).toArray = ls at hl ⊢
  have hl : lv_has ls 4 [(0, .ref (ad 0)), (1, .int x), (2, .int y)] := hl
  refine lv_iload_n hx hb dX0_digest_0 rfl (lv_at hl 1 rfl) ?_
  refine lv_bipush (v := nI 7) hx hb dX0_digest_1 (by decide +kernel) ?_
  refine kr_xv (vx_runS (As := [.int x, .int (nI 7)]) (rest := []) ⟨hx, hb, hml, hown, hts⟩ (kx_req l D ct ad tb M Pl C V hl0 _ x hbad) (va_cwS 2 hts gX0_digest_X0_requireUpTo rfl rfl rfl (by decide +kernel) ⟨Nat.le_of_ble_eq_true rfl, Nat.le_of_ble_eq_true rfl⟩) (kr_preS (kw_Bok tb) _ hP hK hD hB hS hA) rfl rfl hl.1 rfl (lv_room (Nat.le_of_ble_eq_true rfl)) dX0_digest_3 ⟨Nat.le_of_ble_eq_true rfl, Nat.le_of_ble_eq_true rfl⟩) hD hS hA (fun ce q9 H locs hP hD hS hce hcv hcl => ?_)
  exact vx_out (E := "java/lang/IllegalArgumentException") (fun x h => (htab x h).elim) hlocks hce hcv hcl (fun t ht ha => ⟨(), trivial, ⟨rfl, by rw [ht]; exact hP, va_K.moved ha hK, hD⟩, hS.F ht⟩) hS.2.2 (Nat.le_refl _) (Nat.le_refl _)
set_option maxHeartbeats 4000000 in
set_option maxRecDepth 100000 in
theorem kx_digest2 (l : Launch) (D : va_G) (ct : Nat → ClassId) (ad tb : Nat → Nat) (M : Nat → Nat → Int64) (Pl : Nat → Nat) (C V : Nat → Int64) (hl0 : l.stackTraces = false) (sz : Nat) {k : Nat} (hk : k < 8) (x : Int32) (hbad : x < 0 ∨ ¬ x ≤ nI 3) : vx_Met l yX0_digest wsX0_digest ({ frames := 7, cells := 1, slots := 6, locals := 103 }) (kr_P D vwCl (kw_T ct) (kw_B tb) [.ref (ad 0), .int (nI k), .int x] (kw_X ct ad M Pl C V) sz) (va_Ql (fun (_ : Int64) (_ : Unit) => False) (kr_B D vwCl (kw_T ct) (fun _ => kw_X ct ad M Pl C V) (va_A (kw_X ct ad M Pl C V) sz)) (va_A (kw_X ct ad M Pl C V) sz)) (kr_X D vwCl (kw_T ct) (kw_X ct ad M Pl C V) (va_A (kw_X ct ad M Pl C V) sz)) 1 6 (va_A (kw_X ct ad M Pl C V) sz) := by
  refine vx_ofW (cc := cX0_digest) (maxL := 4) (ret := (some .long)) (by decide) rfl ?_
  intro p e s m args below meth c s₁ B hml htab hv
  obtain ⟨rfl, hsz, hP, hK, hD0, hB⟩ := hv
  have hx := B.exec
  have hb := B.bytes
  have hr := B.returns
  have hts := atoms_spec (ws := wsX0_digest) B.pre
  have hown : s.vm.findClass RX0 = some m.cls := findClass_of_methodNamed B.named
  have hlocks := B.notSynchronized
  have hin : ∀ w ∈ u_ws RX0 TX0 4, w ∈ wsX0_digest := by decide +kernel
  subst hsz
  have hD := hD0.self (sz := s.heap.size)
  generalize hAe : va_A (kw_X ct ad M Pl C V) s.heap.size = A at hD hB ⊢
  have hA : ∀ q : Nat, s.heap.size ≤ q → A q := fun q h => by rw [← hAe]; exact Or.inr h
  have hS : va_S A s.heap s.heap [] := va_S.rf
  have hl := lv_entry ([.ref (ad 0), .int (nI k), .int x]) (n := 4) (Nat.le_of_ble_eq_true rfl)
  rw [lg_entry_eq]
  generalize (lg_sl ([.ref (ad 0), .int (nI k), .int x]) ++ List.replicate (4 - (lg_sl ([.ref (ad 0), .int (nI k), .int x])).length) Slot.unset).toArray = ls at hl ⊢
  have hl : lv_has ls 4 [(0, .ref (ad 0)), (1, .int (nI k)), (2, .int x)] := hl
  refine lv_iload_n hx hb dX0_digest_0 rfl (lv_at hl 1 rfl) ?_
  refine lv_bipush (v := nI 7) hx hb dX0_digest_1 (by decide +kernel) ?_
  refine kr_callv (va_runS (As := [.int (nI k), .int (nI 7)]) (rest := []) ⟨hx, hb, hml, hown, hts⟩ (kc_req l D ct ad tb M Pl C V _ (a := k) (b := 7) (by omega) (by omega)) (va_cwS 2 hts gX0_digest_X0_requireUpTo rfl rfl rfl (by decide +kernel) ⟨Nat.le_of_ble_eq_true rfl, Nat.le_of_ble_eq_true rfl⟩) (kr_preS (kw_Bok tb) _ hP hK hD hB hS hA) rfl rfl hl.1 rfl (lv_room (Nat.le_of_ble_eq_true rfl)) dX0_digest_3 ⟨Nat.zero_le _, Nat.zero_le _⟩) hD hS hA (fun u H locs hq hP hD hS => ?_)
  have hP : va_P D vwCl (kw_X ct ad M Pl C V) H := hP
  have hD : va_D A (kw_X ct ad M Pl C V) := hD
  refine lv_iload_n hx hb dX0_digest_6 rfl (lv_at hl 2 rfl) ?_
  refine lv_iconst (v := nI 3) hx hb dX0_digest_7 rfl ?_
  refine kr_xv (vx_runS (As := [.int x, .int (nI 3)]) (rest := []) ⟨hx, hb, hml, hown, hts⟩ (kx_req l D ct ad tb M Pl C V hl0 _ x hbad) (va_cwS 2 hts gX0_digest_X0_requireUpTo rfl rfl rfl (by decide +kernel) ⟨Nat.le_of_ble_eq_true rfl, Nat.le_of_ble_eq_true rfl⟩) (kr_preS (kw_Bok tb) _ hP hK hD hB hS hA) rfl rfl hl.1 rfl (lv_room (Nat.le_of_ble_eq_true rfl)) dX0_digest_8 ⟨Nat.le_of_ble_eq_true rfl, Nat.le_of_ble_eq_true rfl⟩) hD hS hA (fun ce q9 H locs hP hD hS hce hcv hcl => ?_)
  exact vx_out (E := "java/lang/IllegalArgumentException") (fun x h => (htab x h).elim) hlocks hce hcv hcl (fun t ht ha => ⟨(), trivial, ⟨rfl, by rw [ht]; exact hP, va_K.moved ha hK, hD⟩, hS.F ht⟩) hS.2.2 (Nat.le_refl _) (Nat.le_refl _)
end
section
/-! KeccakLanes(): nine rows, places, columns, moved: all 0 -/
def kw_J (_ : Nat → Prop) (U : State) (_ : Heap) : Prop := va_AOA .long U
theorem kw_Jok : kr_ok kw_J := ⟨⟨fun _ u U _ hv h => over_moved (a := #[]) (a' := #[]) (by rw [hv]; exact Vm.Alike.refl _) h, fun _ _ _ _ hW h => over_moved (a := #[]) (a' := #[]) hW.alike h⟩, fun _ _ _ _ _ h => h, fun _ _ _ _ _ h => h⟩
theorem kv_rows (l : List Nat) (f : Nat → va_E) (e : va_E) : va_pl ([] ++ l) (vr_up f l e) = l.map (fun a => (a, e)) := by
  unfold va_pl
  rw [List.nil_append]
  apply List.map_congr_left
  intro a ha
  rw [vr_up_in ha]
theorem kv_cls {D : va_G} {cl : List vw_C} {tys : List (ClassId × FieldType)} {s : State} {ct : Nat → ClassId} {c : ClassId} {ty : FieldType} {i : Nat} (hK : va_K D cl (kw_T ct) s) (hi : (kw_T ct)[i]? = some (ct i, ty)) (ho : ∀ C, ty ≠ .object C) (h : va_K D cl (tys ++ [(c, ty)]) s) : c = ct i := by
  have h1 := (hK.2 i _ hi).2
  have h2 := (h.2 tys.length (c, ty) (by rw [List.getElem?_append_right (Nat.le_refl _), Nat.sub_self]; rfl)).2
  cases ty <;> first | exact Option.some.inj (Eq.trans (Eq.symm h2) h1) | exact absurd rfl (ho _)
def kv_ad (h q q2 q3 q4 : Nat) (r : Nat → Nat) (i : Nat) : Nat := if i = 0 then h else if i = 1 then q else if i = 2 then q2 else if i = 3 then q3 else if i = 4 then q4 else r (i - 5)
theorem kv_ad5 (h q q2 q3 q4 : Nat) (r : Nat → Nat) (i : Nat) : kv_ad h q q2 q3 q4 r (5 + i) = r i := by
  unfold kv_ad
  rw [if_neg (by omega), if_neg (by omega), if_neg (by omega), if_neg (by omega), if_neg (by omega), Nat.add_sub_cancel_left]
theorem kv_tab (h q q2 q3 q4 : Nat) (r : Nat → Nat) : (fun i => if i < 9 then some (r i) else none) = fun i => if i < 9 then some (kv_ad h q q2 q3 q4 r (5 + i)) else none := by
  funext i
  rw [kv_ad5]
set_option maxHeartbeats 4000000 in
set_option maxRecDepth 100000 in
theorem kc_init (l : Launch) (D : va_G) (ct : Nat → ClassId) (h0 sz : Nat) : Met l yX0_init wsX0_init ({ frames := 1, cells := 13, slots := 273, locals := 12 }) (kr_P D vwCl (kw_T ct) kw_J [.ref h0] [(h0, .inr (0, [.null, .null, .null, .null]))] sz) (va_Qv (S := Nat → Nat) (fun u => u 0 = h0) (kr_B D vwCl (kw_T ct) (fun u => kw_X ct u (fun _ _ => 0) (fun _ => 0) (fun _ => 0) (fun _ => 0)) (va_A ([(h0, .inr (0, [.null, .null, .null, .null]))]) sz)) (va_A ([(h0, .inr (0, [.null, .null, .null, .null]))]) sz)) 13 273 (va_A ([(h0, .inr (0, [.null, .null, .null, .null]))]) sz) := by
  refine Met.ofW (cc := cX0_init) (maxL := 1) (ret := none) (by decide) rfl ?_
  intro p e s m args below meth c s₁ B hml hv
  obtain ⟨rfl, hsz, hP, hK, hD0, hB⟩ := hv
  have hin2 : meth.name = "<init>" := (name_of_methodNamed B.named B.method).1
  have hx := B.exec
  have hb := B.bytes
  have hr := B.returns
  have hts := atoms_spec (ws := wsX0_init) B.pre
  have hown : s.vm.findClass RX0 = some m.cls := findClass_of_methodNamed B.named
  have hlocks := B.notSynchronized
  have hin : ∀ w ∈ u_ws RX0 TX0 4, w ∈ wsX0_init := by decide +kernel
  subst hsz
  have hD := hD0.self (sz := s.heap.size)
  generalize hAe : va_A ([(h0, .inr (0, [.null, .null, .null, .null]))]) s.heap.size = A at hD hB ⊢
  have hA : ∀ q : Nat, s.heap.size ≤ q → A q := fun q h => by rw [← hAe]; exact Or.inr h
  have hS : va_S A s.heap s.heap [] := va_S.rf
  have hl := lv_entry ([.ref h0]) (n := 1) (Nat.le_of_ble_eq_true rfl)
  rw [lg_entry_eq]
  generalize (lg_sl ([.ref h0]) ++ List.replicate (1 - (lg_sl ([.ref h0])).length) Slot.unset).toArray = ls at hl ⊢
  have hl : lv_has ls 1 [(0, .ref h0)] := hl
  refine lv_aload_n hx hb dX0_init_0 rfl (lv_at hl 0 rfl) ?_
  refine W.objInit hx hb hown (hts (.methodLink RX0 3 objectInit) (by decide +kernel)) (hts (.instanceMethod objectInit) (by decide +kernel)) (hts _ (List.mem_cons_of_mem _ (List.mem_append_left _ (List.mem_of_getElem? (i := 2) rfl)))) rfl (by rw [hml]; exact hl.1) rfl dX0_init_1 (Nat.le_of_ble_eq_true rfl) (Nat.le_of_ble_eq_true rfl) ?_
  refine W.eq (g2 := F0 m 4 ls []) rfl ?_
  refine lv_aload_n hx hb dX0_init_4 rfl (lv_at hl 0 rfl) ?_
  refine lv_bipush (v := nI 9) hx hb dX0_init_5 (by decide +kernel) ?_
  refine lv_bipush (v := nI 25) hx hb dX0_init_7 (by decide +kernel) ?_
  refine va_mna (X := [(h0, .inr (0, [.null, .null, .null, .null]))]) (L := []) (f := fun _ => .inr (0, [])) (ty := .long) (cy := ct 2) (N' := 9) (K' := 25) (z := (25, .inr (.inl (fun _ => 0)))) (own := RX0) (index := 9) hx hb hown (show (Cond.classLink RX0 9 "[[J").before _ s = true from hts (.classLink RX0 9 "[[J") (by decide +kernel)) hB (hts (.arrayClass .long) (by decide +kernel)) (hK.2 2 (ct 2, .long) rfl).2 hK hP hD hS hA (nI_pos (n := 9) (by omega)) (nI_pos (n := 25) (by omega)) (nI_clamp (by omega)) (nI_clamp (by omega)) (by decide +kernel) (by decide +kernel) (by decide +kernel) rfl rfl (by decide +kernel) (by decide +kernel) (fun c => by show ({ cls := c, slots := Array.replicate 25 (Value.long 0), vm := .none } : Cell) = _; rw [arrV_new]; rfl) dX0_init_9 (fun q r cA H hinj hnl hK1 hP hD hS => ?_)
  obtain rfl : cA = ct 0 := kv_cls (i := 0) hK rfl (fun _ h => by cases h) hK1
  rw [kv_rows] at hP hD
  have hP : va_P D vwCl ([(h0, .inr (0, [.null, .null, .null, .null])), (q, .inl (ct 0, 9, .inr (.inr (.inr (.inr (fun i => if i < 9 then some (r i) else none)))))), (r 0, .inl (ct 2, 25, .inr (.inl (fun _ => 0)))), (r 1, .inl (ct 2, 25, .inr (.inl (fun _ => 0)))), (r 2, .inl (ct 2, 25, .inr (.inl (fun _ => 0)))), (r 3, .inl (ct 2, 25, .inr (.inl (fun _ => 0)))), (r 4, .inl (ct 2, 25, .inr (.inl (fun _ => 0)))), (r 5, .inl (ct 2, 25, .inr (.inl (fun _ => 0)))), (r 6, .inl (ct 2, 25, .inr (.inl (fun _ => 0)))), (r 7, .inl (ct 2, 25, .inr (.inl (fun _ => 0)))), (r 8, .inl (ct 2, 25, .inr (.inl (fun _ => 0))))]) H := hP
  have hD : va_D A ([(h0, .inr (0, [.null, .null, .null, .null])), (q, .inl (ct 0, 9, .inr (.inr (.inr (.inr (fun i => if i < 9 then some (r i) else none)))))), (r 0, .inl (ct 2, 25, .inr (.inl (fun _ => 0)))), (r 1, .inl (ct 2, 25, .inr (.inl (fun _ => 0)))), (r 2, .inl (ct 2, 25, .inr (.inl (fun _ => 0)))), (r 3, .inl (ct 2, 25, .inr (.inl (fun _ => 0)))), (r 4, .inl (ct 2, 25, .inr (.inl (fun _ => 0)))), (r 5, .inl (ct 2, 25, .inr (.inl (fun _ => 0)))), (r 6, .inl (ct 2, 25, .inr (.inl (fun _ => 0)))), (r 7, .inl (ct 2, 25, .inr (.inl (fun _ => 0)))), (r 8, .inl (ct 2, 25, .inr (.inl (fun _ => 0))))]) := hD
  refine va_putF (ci := 0) (v := .ref q) (ty := .array (.array .long)) (C := RX0) (T := TX0) (N := 4) hx hb hts hin tyX0 tyX0_ok nmX0 hown hK hP hD hS 0 rfl rfl 0 (by decide) (hts (.fieldLink RX0 11 "KeccakLanes" "lanes" "[[J") (by decide +kernel)) (fun _ h9 => h9) rfl hin2 rfl (by decide +kernel) rfl rfl (Nat.le_of_ble_eq_true rfl) dX0_init_13 (fun H locs hP hD hS => ?_)
  have hP : va_P D vwCl ([(h0, .inr (0, [.ref q, .null, .null, .null])), (q, .inl (ct 0, 9, .inr (.inr (.inr (.inr (fun i => if i < 9 then some (r i) else none)))))), (r 0, .inl (ct 2, 25, .inr (.inl (fun _ => 0)))), (r 1, .inl (ct 2, 25, .inr (.inl (fun _ => 0)))), (r 2, .inl (ct 2, 25, .inr (.inl (fun _ => 0)))), (r 3, .inl (ct 2, 25, .inr (.inl (fun _ => 0)))), (r 4, .inl (ct 2, 25, .inr (.inl (fun _ => 0)))), (r 5, .inl (ct 2, 25, .inr (.inl (fun _ => 0)))), (r 6, .inl (ct 2, 25, .inr (.inl (fun _ => 0)))), (r 7, .inl (ct 2, 25, .inr (.inl (fun _ => 0)))), (r 8, .inl (ct 2, 25, .inr (.inl (fun _ => 0))))]) H := hP
  have hD : va_D A ([(h0, .inr (0, [.ref q, .null, .null, .null])), (q, .inl (ct 0, 9, .inr (.inr (.inr (.inr (fun i => if i < 9 then some (r i) else none)))))), (r 0, .inl (ct 2, 25, .inr (.inl (fun _ => 0)))), (r 1, .inl (ct 2, 25, .inr (.inl (fun _ => 0)))), (r 2, .inl (ct 2, 25, .inr (.inl (fun _ => 0)))), (r 3, .inl (ct 2, 25, .inr (.inl (fun _ => 0)))), (r 4, .inl (ct 2, 25, .inr (.inl (fun _ => 0)))), (r 5, .inl (ct 2, 25, .inr (.inl (fun _ => 0)))), (r 6, .inl (ct 2, 25, .inr (.inl (fun _ => 0)))), (r 7, .inl (ct 2, 25, .inr (.inl (fun _ => 0)))), (r 8, .inl (ct 2, 25, .inr (.inl (fun _ => 0))))]) := hD
  refine lv_aload_n hx hb dX0_init_16 rfl (lv_at hl 0 rfl) ?_
  refine lv_bipush (v := nI 9) hx hb dX0_init_17 (by decide +kernel) ?_
  refine va_newa (atype := .int) (ty := .int) (N' := 9) (a0 := (9, .inl (fun _ => nI 0))) hx hb (hts (.arrayClass .int) (by decide +kernel)) rfl hK hP hD hS hA (fun _ => rfl) (nI_pos (n := 9) (by omega)) (nI_clamp (by omega)) (by decide +kernel) (by decide +kernel) (by decide +kernel) dX0_init_19 (fun q2 cA H hK1 hP hD hS => ?_)
  obtain rfl : cA = ct 1 := kv_cls (i := 1) hK rfl (fun _ h => by cases h) hK1
  have hP : va_P D vwCl ([(h0, .inr (0, [.ref q, .null, .null, .null])), (q, .inl (ct 0, 9, .inr (.inr (.inr (.inr (fun i => if i < 9 then some (r i) else none)))))), (r 0, .inl (ct 2, 25, .inr (.inl (fun _ => 0)))), (r 1, .inl (ct 2, 25, .inr (.inl (fun _ => 0)))), (r 2, .inl (ct 2, 25, .inr (.inl (fun _ => 0)))), (r 3, .inl (ct 2, 25, .inr (.inl (fun _ => 0)))), (r 4, .inl (ct 2, 25, .inr (.inl (fun _ => 0)))), (r 5, .inl (ct 2, 25, .inr (.inl (fun _ => 0)))), (r 6, .inl (ct 2, 25, .inr (.inl (fun _ => 0)))), (r 7, .inl (ct 2, 25, .inr (.inl (fun _ => 0)))), (r 8, .inl (ct 2, 25, .inr (.inl (fun _ => 0)))), (q2, .inl (ct 1, 9, .inl (fun _ => nI 0)))]) H := hP
  have hD : va_D A ([(h0, .inr (0, [.ref q, .null, .null, .null])), (q, .inl (ct 0, 9, .inr (.inr (.inr (.inr (fun i => if i < 9 then some (r i) else none)))))), (r 0, .inl (ct 2, 25, .inr (.inl (fun _ => 0)))), (r 1, .inl (ct 2, 25, .inr (.inl (fun _ => 0)))), (r 2, .inl (ct 2, 25, .inr (.inl (fun _ => 0)))), (r 3, .inl (ct 2, 25, .inr (.inl (fun _ => 0)))), (r 4, .inl (ct 2, 25, .inr (.inl (fun _ => 0)))), (r 5, .inl (ct 2, 25, .inr (.inl (fun _ => 0)))), (r 6, .inl (ct 2, 25, .inr (.inl (fun _ => 0)))), (r 7, .inl (ct 2, 25, .inr (.inl (fun _ => 0)))), (r 8, .inl (ct 2, 25, .inr (.inl (fun _ => 0)))), (q2, .inl (ct 1, 9, .inl (fun _ => nI 0)))]) := hD
  refine va_putF (ci := 0) (v := .ref q2) (ty := .array .int) (C := RX0) (T := TX0) (N := 4) hx hb hts hin tyX0 tyX0_ok nmX0 hown hK hP hD hS 0 rfl rfl 1 (by decide) (hts (.fieldLink RX0 14 "KeccakLanes" "places" "[I") (by decide +kernel)) (fun _ h9 => h9) rfl hin2 rfl (by decide +kernel) rfl rfl (Nat.le_of_ble_eq_true rfl) dX0_init_21 (fun H locs hP hD hS => ?_)
  have hP : va_P D vwCl ([(h0, .inr (0, [.ref q, .ref q2, .null, .null])), (q, .inl (ct 0, 9, .inr (.inr (.inr (.inr (fun i => if i < 9 then some (r i) else none)))))), (r 0, .inl (ct 2, 25, .inr (.inl (fun _ => 0)))), (r 1, .inl (ct 2, 25, .inr (.inl (fun _ => 0)))), (r 2, .inl (ct 2, 25, .inr (.inl (fun _ => 0)))), (r 3, .inl (ct 2, 25, .inr (.inl (fun _ => 0)))), (r 4, .inl (ct 2, 25, .inr (.inl (fun _ => 0)))), (r 5, .inl (ct 2, 25, .inr (.inl (fun _ => 0)))), (r 6, .inl (ct 2, 25, .inr (.inl (fun _ => 0)))), (r 7, .inl (ct 2, 25, .inr (.inl (fun _ => 0)))), (r 8, .inl (ct 2, 25, .inr (.inl (fun _ => 0)))), (q2, .inl (ct 1, 9, .inl (fun _ => nI 0)))]) H := hP
  have hD : va_D A ([(h0, .inr (0, [.ref q, .ref q2, .null, .null])), (q, .inl (ct 0, 9, .inr (.inr (.inr (.inr (fun i => if i < 9 then some (r i) else none)))))), (r 0, .inl (ct 2, 25, .inr (.inl (fun _ => 0)))), (r 1, .inl (ct 2, 25, .inr (.inl (fun _ => 0)))), (r 2, .inl (ct 2, 25, .inr (.inl (fun _ => 0)))), (r 3, .inl (ct 2, 25, .inr (.inl (fun _ => 0)))), (r 4, .inl (ct 2, 25, .inr (.inl (fun _ => 0)))), (r 5, .inl (ct 2, 25, .inr (.inl (fun _ => 0)))), (r 6, .inl (ct 2, 25, .inr (.inl (fun _ => 0)))), (r 7, .inl (ct 2, 25, .inr (.inl (fun _ => 0)))), (r 8, .inl (ct 2, 25, .inr (.inl (fun _ => 0)))), (q2, .inl (ct 1, 9, .inl (fun _ => nI 0)))]) := hD
  refine lv_aload_n hx hb dX0_init_24 rfl (lv_at hl 0 rfl) ?_
  refine lv_iconst (v := nI 5) hx hb dX0_init_25 rfl ?_
  refine va_newa (atype := .long) (ty := .long) (N' := 5) (a0 := (5, .inr (.inl (fun _ => 0)))) hx hb (hts (.arrayClass .long) (by decide +kernel)) rfl hK hP hD hS hA (fun _ => rfl) (nI_pos (n := 5) (by omega)) (nI_clamp (by omega)) (by decide +kernel) (by decide +kernel) (by decide +kernel) dX0_init_26 (fun q3 cA H hK1 hP hD hS => ?_)
  obtain rfl : cA = ct 2 := kv_cls (i := 2) hK rfl (fun _ h => by cases h) hK1
  have hP : va_P D vwCl ([(h0, .inr (0, [.ref q, .ref q2, .null, .null])), (q, .inl (ct 0, 9, .inr (.inr (.inr (.inr (fun i => if i < 9 then some (r i) else none)))))), (r 0, .inl (ct 2, 25, .inr (.inl (fun _ => 0)))), (r 1, .inl (ct 2, 25, .inr (.inl (fun _ => 0)))), (r 2, .inl (ct 2, 25, .inr (.inl (fun _ => 0)))), (r 3, .inl (ct 2, 25, .inr (.inl (fun _ => 0)))), (r 4, .inl (ct 2, 25, .inr (.inl (fun _ => 0)))), (r 5, .inl (ct 2, 25, .inr (.inl (fun _ => 0)))), (r 6, .inl (ct 2, 25, .inr (.inl (fun _ => 0)))), (r 7, .inl (ct 2, 25, .inr (.inl (fun _ => 0)))), (r 8, .inl (ct 2, 25, .inr (.inl (fun _ => 0)))), (q2, .inl (ct 1, 9, .inl (fun _ => nI 0))), (q3, .inl (ct 2, 5, .inr (.inl (fun _ => 0))))]) H := hP
  have hD : va_D A ([(h0, .inr (0, [.ref q, .ref q2, .null, .null])), (q, .inl (ct 0, 9, .inr (.inr (.inr (.inr (fun i => if i < 9 then some (r i) else none)))))), (r 0, .inl (ct 2, 25, .inr (.inl (fun _ => 0)))), (r 1, .inl (ct 2, 25, .inr (.inl (fun _ => 0)))), (r 2, .inl (ct 2, 25, .inr (.inl (fun _ => 0)))), (r 3, .inl (ct 2, 25, .inr (.inl (fun _ => 0)))), (r 4, .inl (ct 2, 25, .inr (.inl (fun _ => 0)))), (r 5, .inl (ct 2, 25, .inr (.inl (fun _ => 0)))), (r 6, .inl (ct 2, 25, .inr (.inl (fun _ => 0)))), (r 7, .inl (ct 2, 25, .inr (.inl (fun _ => 0)))), (r 8, .inl (ct 2, 25, .inr (.inl (fun _ => 0)))), (q2, .inl (ct 1, 9, .inl (fun _ => nI 0))), (q3, .inl (ct 2, 5, .inr (.inl (fun _ => 0))))]) := hD
  refine va_putF (ci := 0) (v := .ref q3) (ty := .array .long) (C := RX0) (T := TX0) (N := 4) hx hb hts hin tyX0 tyX0_ok nmX0 hown hK hP hD hS 0 rfl rfl 2 (by decide) (hts (.fieldLink RX0 18 "KeccakLanes" "columns" "[J") (by decide +kernel)) (fun _ h9 => h9) rfl hin2 rfl (by decide +kernel) rfl rfl (Nat.le_of_ble_eq_true rfl) dX0_init_28 (fun H locs hP hD hS => ?_)
  have hP : va_P D vwCl ([(h0, .inr (0, [.ref q, .ref q2, .ref q3, .null])), (q, .inl (ct 0, 9, .inr (.inr (.inr (.inr (fun i => if i < 9 then some (r i) else none)))))), (r 0, .inl (ct 2, 25, .inr (.inl (fun _ => 0)))), (r 1, .inl (ct 2, 25, .inr (.inl (fun _ => 0)))), (r 2, .inl (ct 2, 25, .inr (.inl (fun _ => 0)))), (r 3, .inl (ct 2, 25, .inr (.inl (fun _ => 0)))), (r 4, .inl (ct 2, 25, .inr (.inl (fun _ => 0)))), (r 5, .inl (ct 2, 25, .inr (.inl (fun _ => 0)))), (r 6, .inl (ct 2, 25, .inr (.inl (fun _ => 0)))), (r 7, .inl (ct 2, 25, .inr (.inl (fun _ => 0)))), (r 8, .inl (ct 2, 25, .inr (.inl (fun _ => 0)))), (q2, .inl (ct 1, 9, .inl (fun _ => nI 0))), (q3, .inl (ct 2, 5, .inr (.inl (fun _ => 0))))]) H := hP
  have hD : va_D A ([(h0, .inr (0, [.ref q, .ref q2, .ref q3, .null])), (q, .inl (ct 0, 9, .inr (.inr (.inr (.inr (fun i => if i < 9 then some (r i) else none)))))), (r 0, .inl (ct 2, 25, .inr (.inl (fun _ => 0)))), (r 1, .inl (ct 2, 25, .inr (.inl (fun _ => 0)))), (r 2, .inl (ct 2, 25, .inr (.inl (fun _ => 0)))), (r 3, .inl (ct 2, 25, .inr (.inl (fun _ => 0)))), (r 4, .inl (ct 2, 25, .inr (.inl (fun _ => 0)))), (r 5, .inl (ct 2, 25, .inr (.inl (fun _ => 0)))), (r 6, .inl (ct 2, 25, .inr (.inl (fun _ => 0)))), (r 7, .inl (ct 2, 25, .inr (.inl (fun _ => 0)))), (r 8, .inl (ct 2, 25, .inr (.inl (fun _ => 0)))), (q2, .inl (ct 1, 9, .inl (fun _ => nI 0))), (q3, .inl (ct 2, 5, .inr (.inl (fun _ => 0))))]) := hD
  refine lv_aload_n hx hb dX0_init_31 rfl (lv_at hl 0 rfl) ?_
  refine lv_bipush (v := nI 25) hx hb dX0_init_32 (by decide +kernel) ?_
  refine va_newa (atype := .long) (ty := .long) (N' := 25) (a0 := (25, .inr (.inl (fun _ => 0)))) hx hb (hts (.arrayClass .long) (by decide +kernel)) rfl hK hP hD hS hA (fun _ => rfl) (nI_pos (n := 25) (by omega)) (nI_clamp (by omega)) (by decide +kernel) (by decide +kernel) (by decide +kernel) dX0_init_34 (fun q4 cA H hK1 hP hD hS => ?_)
  obtain rfl : cA = ct 2 := kv_cls (i := 2) hK rfl (fun _ h => by cases h) hK1
  have hP : va_P D vwCl ([(h0, .inr (0, [.ref q, .ref q2, .ref q3, .null])), (q, .inl (ct 0, 9, .inr (.inr (.inr (.inr (fun i => if i < 9 then some (r i) else none)))))), (r 0, .inl (ct 2, 25, .inr (.inl (fun _ => 0)))), (r 1, .inl (ct 2, 25, .inr (.inl (fun _ => 0)))), (r 2, .inl (ct 2, 25, .inr (.inl (fun _ => 0)))), (r 3, .inl (ct 2, 25, .inr (.inl (fun _ => 0)))), (r 4, .inl (ct 2, 25, .inr (.inl (fun _ => 0)))), (r 5, .inl (ct 2, 25, .inr (.inl (fun _ => 0)))), (r 6, .inl (ct 2, 25, .inr (.inl (fun _ => 0)))), (r 7, .inl (ct 2, 25, .inr (.inl (fun _ => 0)))), (r 8, .inl (ct 2, 25, .inr (.inl (fun _ => 0)))), (q2, .inl (ct 1, 9, .inl (fun _ => nI 0))), (q3, .inl (ct 2, 5, .inr (.inl (fun _ => 0)))), (q4, .inl (ct 2, 25, .inr (.inl (fun _ => 0))))]) H := hP
  have hD : va_D A ([(h0, .inr (0, [.ref q, .ref q2, .ref q3, .null])), (q, .inl (ct 0, 9, .inr (.inr (.inr (.inr (fun i => if i < 9 then some (r i) else none)))))), (r 0, .inl (ct 2, 25, .inr (.inl (fun _ => 0)))), (r 1, .inl (ct 2, 25, .inr (.inl (fun _ => 0)))), (r 2, .inl (ct 2, 25, .inr (.inl (fun _ => 0)))), (r 3, .inl (ct 2, 25, .inr (.inl (fun _ => 0)))), (r 4, .inl (ct 2, 25, .inr (.inl (fun _ => 0)))), (r 5, .inl (ct 2, 25, .inr (.inl (fun _ => 0)))), (r 6, .inl (ct 2, 25, .inr (.inl (fun _ => 0)))), (r 7, .inl (ct 2, 25, .inr (.inl (fun _ => 0)))), (r 8, .inl (ct 2, 25, .inr (.inl (fun _ => 0)))), (q2, .inl (ct 1, 9, .inl (fun _ => nI 0))), (q3, .inl (ct 2, 5, .inr (.inl (fun _ => 0)))), (q4, .inl (ct 2, 25, .inr (.inl (fun _ => 0))))]) := hD
  refine va_putF (ci := 0) (v := .ref q4) (ty := .array .long) (C := RX0) (T := TX0) (N := 4) hx hb hts hin tyX0 tyX0_ok nmX0 hown hK hP hD hS 0 rfl rfl 3 (by decide) (hts (.fieldLink RX0 22 "KeccakLanes" "moved" "[J") (by decide +kernel)) (fun _ h9 => h9) rfl hin2 rfl (by decide +kernel) rfl rfl (Nat.le_of_ble_eq_true rfl) dX0_init_36 (fun H locs hP hD hS => ?_)
  have hP : va_P D vwCl ([(h0, .inr (0, [.ref q, .ref q2, .ref q3, .ref q4])), (q, .inl (ct 0, 9, .inr (.inr (.inr (.inr (fun i => if i < 9 then some (r i) else none)))))), (r 0, .inl (ct 2, 25, .inr (.inl (fun _ => 0)))), (r 1, .inl (ct 2, 25, .inr (.inl (fun _ => 0)))), (r 2, .inl (ct 2, 25, .inr (.inl (fun _ => 0)))), (r 3, .inl (ct 2, 25, .inr (.inl (fun _ => 0)))), (r 4, .inl (ct 2, 25, .inr (.inl (fun _ => 0)))), (r 5, .inl (ct 2, 25, .inr (.inl (fun _ => 0)))), (r 6, .inl (ct 2, 25, .inr (.inl (fun _ => 0)))), (r 7, .inl (ct 2, 25, .inr (.inl (fun _ => 0)))), (r 8, .inl (ct 2, 25, .inr (.inl (fun _ => 0)))), (q2, .inl (ct 1, 9, .inl (fun _ => nI 0))), (q3, .inl (ct 2, 5, .inr (.inl (fun _ => 0)))), (q4, .inl (ct 2, 25, .inr (.inl (fun _ => 0))))]) H := hP
  have hD : va_D A ([(h0, .inr (0, [.ref q, .ref q2, .ref q3, .ref q4])), (q, .inl (ct 0, 9, .inr (.inr (.inr (.inr (fun i => if i < 9 then some (r i) else none)))))), (r 0, .inl (ct 2, 25, .inr (.inl (fun _ => 0)))), (r 1, .inl (ct 2, 25, .inr (.inl (fun _ => 0)))), (r 2, .inl (ct 2, 25, .inr (.inl (fun _ => 0)))), (r 3, .inl (ct 2, 25, .inr (.inl (fun _ => 0)))), (r 4, .inl (ct 2, 25, .inr (.inl (fun _ => 0)))), (r 5, .inl (ct 2, 25, .inr (.inl (fun _ => 0)))), (r 6, .inl (ct 2, 25, .inr (.inl (fun _ => 0)))), (r 7, .inl (ct 2, 25, .inr (.inl (fun _ => 0)))), (r 8, .inl (ct 2, 25, .inr (.inl (fun _ => 0)))), (q2, .inl (ct 1, 9, .inl (fun _ => nI 0))), (q3, .inl (ct 2, 5, .inr (.inl (fun _ => 0)))), (q4, .inl (ct 2, 25, .inr (.inl (fun _ => 0))))]) := hD
  rw [kv_tab h0 q q2 q3 q4 r] at hP hD
  have hP9 : va_P D vwCl (kw_X ct (kv_ad h0 q q2 q3 q4 r) (fun _ _ => 0) (fun _ => 0) (fun _ => 0) (fun _ => 0)) H := hP.sub [0, 1, 11, 12, 13, 2, 3, 4, 5, 6, 7, 8, 9, 10] rfl
  have hD9 : va_D A (kw_X ct (kv_ad h0 q q2 q3 q4 r) (fun _ _ => 0) (fun _ => 0) (fun _ => 0) (fun _ => 0)) := hD.sub [0, 1, 11, 12, 13, 2, 3, 4, 5, 6, 7, 8, 9, 10] (by decide) rfl
  exact W.vret hx hb hr (fun t ht hW => ⟨⟨kv_ad h0 q q2 q3 q4 r, rfl, rfl, by rw [ht]; exact hP9, va_K.moved hW.alike hK, hD9⟩, hS.F ht⟩) hS.2.2 dX0_init_39
end
section
/-! KeccakLanesModel: the names that the printed ones leave out; Long.rotateLeft -/
abbrev cX1_permute : ByteArray := prog_3_method_2_code
def yX1_permute : MethodName := ⟨RX1, "permute", "()V"⟩
abbrev cX1_fail : ByteArray := prog_3_method_5_code
def yX1_fail : MethodName := ⟨RX1, "fail", "(I)I"⟩
abbrev cX1_out : ByteArray := prog_3_method_6_code
def yX1_out : MethodName := ⟨RX1, "out", "(I)Z"⟩
abbrev cX1_get : ByteArray := prog_3_method_7_code
def yX1_get : MethodName := ⟨RX1, "get", "(I)V"⟩
abbrev cX1_put : ByteArray := prog_3_method_8_code
def yX1_put : MethodName := ⟨RX1, "put", "(I)V"⟩
abbrev cX1_taken : ByteArray := prog_3_method_10_code
def yX1_taken : MethodName := ⟨RX1, "taken", "(II)V"⟩
abbrev cX1_take : ByteArray := prog_3_method_11_code
def yX1_take : MethodName := ⟨RX1, "take", "(IJI)I"⟩
abbrev cX1_fill : ByteArray := prog_3_method_12_code
def yX1_fill : MethodName := ⟨RX1, "fill", "(IIII)I"⟩
abbrev cX1_copy : ByteArray := prog_3_method_13_code
def yX1_copy : MethodName := ⟨RX1, "copy", "(II)V"⟩
abbrev cX1_mix : ByteArray := prog_3_method_14_code
def yX1_mix : MethodName := ⟨RX1, "mix", "(I)V"⟩
abbrev cX1_lane : ByteArray := prog_3_method_15_code
def yX1_lane : MethodName := ⟨RX1, "lane", "(II)J"⟩
abbrev cX1_digest : ByteArray := prog_3_method_16_code
def yX1_digest : MethodName := ⟨RX1, "digest", "(II)J"⟩
abbrev cJ_rot : ByteArray := prog_6_method_51_code
def yJ_rot : MethodName := ⟨RJ13, "rotateLeft", "(JI)J"⟩
def wsJ_rot : List Cond := [.code yJ_rot cJ_rot 3 (some .long)]
def kM_all : List Cond := [.initialized RX1, .initialized RJ13, .fieldLink RX1 43 "KeccakLanesModel" "failed" "I", .fieldLink RX1 32 "KeccakLanesModel" "states" "[[J", .fieldLink RX1 35 "KeccakLanesModel" "places" "[I", .fieldLink RX1 7 "KeccakLanesModel" "lanes" "[J", .fieldLink RX1 1 "KeccakLanesModel" "column" "[J", .fieldLink RX1 16 "KeccakLanesModel" "moved" "[J", .fieldLink RX1 21 "KeccakLanesModel" "constants" "[J", .constantLong RX1 19 (-1), .constantLong RX1 69 (-9223372036854775808), .constantLong RX1 71 255, .methodLink RX1 47 yX1_out, .instanceMethod yX1_out, .selects RX1 yX1_out yX1_out, .code yX1_out cX1_out 2 (some .boolean), .methodLink RX1 54 yX1_fail, .instanceMethod yX1_fail, .selects RX1 yX1_fail yX1_fail, .code yX1_fail cX1_fail 2 (some .int), .methodLink RX1 58 yX1_get, .instanceMethod yX1_get, .selects RX1 yX1_get yX1_get, .code yX1_get cX1_get 3 none, .methodLink RX1 62 yX1_taken, .instanceMethod yX1_taken, .selects RX1 yX1_taken yX1_taken, .code yX1_taken cX1_taken 4 none, .methodLink RX1 51 yX1_permute, .instanceMethod yX1_permute, .selects RX1 yX1_permute yX1_permute, .code yX1_permute cX1_permute 6 none, .methodLink RX1 66 yX1_put, .instanceMethod yX1_put, .selects RX1 yX1_put yX1_put, .code yX1_put cX1_put 3 none, .methodLink RX1 10 yJ_rot, .static yJ_rot, .code yJ_rot cJ_rot 3 (some .long)] ++ wsX10
theorem kM_good : kM_all.all goodWord = true := by decide +kernel
theorem kM_in : ∀ w ∈ u_ws RX1 TX1 7, w ∈ kM_all := fun _ h => List.mem_append_right _ h
theorem kM_gv {c0 c1 : Cond} {i : Nat} {y : MethodName} (h : ∀ w ∈ [Cond.methodLink RX1 i y, .instanceMethod y, .selects RX1 y y, .initialized RX1, c1], w ∈ kM_all) : GoodIn (c0 :: kM_all) (wsV RX1 i RX1 y (c1 :: kM_all)) := by
  intro w hw
  have hm : w ∈ kM_all := by
    unfold wsV at hw
    rcases List.mem_append.mp hw with h1 | h1
    · exact h w (List.mem_append_left [c1] h1)
    · rcases List.mem_cons.mp h1 with h2 | h2
      · rw [h2]
        exact h c1 (by simp)
      · exact h2
  exact ⟨List.mem_cons_of_mem _ hm, good_of_word (List.all_eq_true.mp kM_good w hm)⟩
theorem kM_gr {c0 : Cond} : GoodIn (c0 :: kM_all) (va_wsS RX1 10 yJ_rot wsJ_rot) := by
  intro w hw
  have hm : w ∈ kM_all := (by decide +kernel : ∀ w ∈ va_wsS RX1 10 yJ_rot wsJ_rot, w ∈ kM_all) w hw
  exact ⟨List.mem_cons_of_mem _ hm, good_of_word (List.all_eq_true.mp kM_good w hm)⟩
def wsM_permute : List Cond := .code yX1_permute cX1_permute 6 none :: kM_all
def wsM_thrown : List Cond := .code yX1_thrown cX1_thrown 1 (some .int) :: kM_all
def wsM_fail : List Cond := .code yX1_fail cX1_fail 2 (some .int) :: kM_all
def wsM_out : List Cond := .code yX1_out cX1_out 2 (some .boolean) :: kM_all
def wsM_get : List Cond := .code yX1_get cX1_get 3 none :: kM_all
def wsM_put : List Cond := .code yX1_put cX1_put 3 none :: kM_all
def wsM_clear : List Cond := .code yX1_clear cX1_clear 3 none :: kM_all
def wsM_taken : List Cond := .code yX1_taken cX1_taken 4 none :: kM_all
def wsM_take : List Cond := .code yX1_take cX1_take 6 (some .int) :: kM_all
def wsM_fill : List Cond := .code yX1_fill cX1_fill 6 (some .int) :: kM_all
def wsM_copy : List Cond := .code yX1_copy cX1_copy 3 none :: kM_all
def wsM_mix : List Cond := .code yX1_mix cX1_mix 2 none :: kM_all
def wsM_lane : List Cond := .code yX1_lane cX1_lane 3 (some .long) :: kM_all
def wsM_digest : List Cond := .code yX1_digest cX1_digest 7 (some .long) :: kM_all
theorem gM_clear_out : GoodIn wsM_clear (wsV RX1 47 RX1 yX1_out wsM_out) := kM_gv (by decide +kernel)
theorem gM_taken_permute : GoodIn wsM_taken (wsV RX1 51 RX1 yX1_permute wsM_permute) := kM_gv (by decide +kernel)
theorem gM_take_out : GoodIn wsM_take (wsV RX1 47 RX1 yX1_out wsM_out) := kM_gv (by decide +kernel)
theorem gM_take_fail : GoodIn wsM_take (wsV RX1 54 RX1 yX1_fail wsM_fail) := kM_gv (by decide +kernel)
theorem gM_take_get : GoodIn wsM_take (wsV RX1 58 RX1 yX1_get wsM_get) := kM_gv (by decide +kernel)
theorem gM_take_taken : GoodIn wsM_take (wsV RX1 62 RX1 yX1_taken wsM_taken) := kM_gv (by decide +kernel)
theorem gM_take_put : GoodIn wsM_take (wsV RX1 66 RX1 yX1_put wsM_put) := kM_gv (by decide +kernel)
theorem gM_fill_out : GoodIn wsM_fill (wsV RX1 47 RX1 yX1_out wsM_out) := kM_gv (by decide +kernel)
theorem gM_fill_fail : GoodIn wsM_fill (wsV RX1 54 RX1 yX1_fail wsM_fail) := kM_gv (by decide +kernel)
theorem gM_fill_get : GoodIn wsM_fill (wsV RX1 58 RX1 yX1_get wsM_get) := kM_gv (by decide +kernel)
theorem gM_fill_taken : GoodIn wsM_fill (wsV RX1 62 RX1 yX1_taken wsM_taken) := kM_gv (by decide +kernel)
theorem gM_fill_put : GoodIn wsM_fill (wsV RX1 66 RX1 yX1_put wsM_put) := kM_gv (by decide +kernel)
theorem gM_copy_out : GoodIn wsM_copy (wsV RX1 47 RX1 yX1_out wsM_out) := kM_gv (by decide +kernel)
theorem gM_copy_get : GoodIn wsM_copy (wsV RX1 58 RX1 yX1_get wsM_get) := kM_gv (by decide +kernel)
theorem gM_copy_put : GoodIn wsM_copy (wsV RX1 66 RX1 yX1_put wsM_put) := kM_gv (by decide +kernel)
theorem gM_mix_out : GoodIn wsM_mix (wsV RX1 47 RX1 yX1_out wsM_out) := kM_gv (by decide +kernel)
theorem gM_mix_get : GoodIn wsM_mix (wsV RX1 58 RX1 yX1_get wsM_get) := kM_gv (by decide +kernel)
theorem gM_mix_permute : GoodIn wsM_mix (wsV RX1 51 RX1 yX1_permute wsM_permute) := kM_gv (by decide +kernel)
theorem gM_mix_put : GoodIn wsM_mix (wsV RX1 66 RX1 yX1_put wsM_put) := kM_gv (by decide +kernel)
theorem gM_lane_out : GoodIn wsM_lane (wsV RX1 47 RX1 yX1_out wsM_out) := kM_gv (by decide +kernel)
theorem gM_lane_fail : GoodIn wsM_lane (wsV RX1 54 RX1 yX1_fail wsM_fail) := kM_gv (by decide +kernel)
theorem gM_digest_out : GoodIn wsM_digest (wsV RX1 47 RX1 yX1_out wsM_out) := kM_gv (by decide +kernel)
theorem gM_digest_fail : GoodIn wsM_digest (wsV RX1 54 RX1 yX1_fail wsM_fail) := kM_gv (by decide +kernel)
theorem gM_digest_get : GoodIn wsM_digest (wsV RX1 58 RX1 yX1_get wsM_get) := kM_gv (by decide +kernel)
theorem gM_digest_permute : GoodIn wsM_digest (wsV RX1 51 RX1 yX1_permute wsM_permute) := kM_gv (by decide +kernel)
theorem dX1_permute_0 : decode cX1_permute 0 = .ok (.iconst 0, 1) := by decide +kernel
theorem dX1_permute_1 : decode cX1_permute 1 = .ok (.istore_n 1, 1) := by decide +kernel
theorem dX1_permute_2 : decode cX1_permute 2 = .ok (.iload_n 1, 1) := by decide +kernel
theorem dX1_permute_3 : decode cX1_permute 3 = .ok (.bipush 24, 2) := by decide +kernel
theorem dX1_permute_5 : decode cX1_permute 5 = .ok (.if_icmp .ge 327, 3) := by decide +kernel
theorem dX1_permute_8 : decode cX1_permute 8 = .ok (.iconst 0, 1) := by decide +kernel
theorem dX1_permute_9 : decode cX1_permute 9 = .ok (.istore_n 2, 1) := by decide +kernel
theorem dX1_permute_10 : decode cX1_permute 10 = .ok (.iload_n 2, 1) := by decide +kernel
theorem dX1_permute_11 : decode cX1_permute 11 = .ok (.iconst 5, 1) := by decide +kernel
theorem dX1_permute_12 : decode cX1_permute 12 = .ok (.if_icmp .ge 60, 3) := by decide +kernel
theorem dX1_permute_15 : decode cX1_permute 15 = .ok (.aload_n 0, 1) := by decide +kernel
theorem dX1_permute_16 : decode cX1_permute 16 = .ok (.getfield 1, 3) := by decide +kernel
theorem dX1_permute_19 : decode cX1_permute 19 = .ok (.iload_n 2, 1) := by decide +kernel
theorem dX1_permute_20 : decode cX1_permute 20 = .ok (.aload_n 0, 1) := by decide +kernel
theorem dX1_permute_21 : decode cX1_permute 21 = .ok (.getfield 7, 3) := by decide +kernel
theorem dX1_permute_24 : decode cX1_permute 24 = .ok (.iload_n 2, 1) := by decide +kernel
theorem dX1_permute_25 : decode cX1_permute 25 = .ok (.laload, 1) := by decide +kernel
theorem dX1_permute_26 : decode cX1_permute 26 = .ok (.aload_n 0, 1) := by decide +kernel
theorem dX1_permute_27 : decode cX1_permute 27 = .ok (.getfield 7, 3) := by decide +kernel
theorem dX1_permute_30 : decode cX1_permute 30 = .ok (.iload_n 2, 1) := by decide +kernel
theorem dX1_permute_31 : decode cX1_permute 31 = .ok (.iconst 5, 1) := by decide +kernel
theorem dX1_permute_32 : decode cX1_permute 32 = .ok (.iadd, 1) := by decide +kernel
theorem dX1_permute_33 : decode cX1_permute 33 = .ok (.laload, 1) := by decide +kernel
theorem dX1_permute_34 : decode cX1_permute 34 = .ok (.lxor, 1) := by decide +kernel
theorem dX1_permute_35 : decode cX1_permute 35 = .ok (.aload_n 0, 1) := by decide +kernel
theorem dX1_permute_36 : decode cX1_permute 36 = .ok (.getfield 7, 3) := by decide +kernel
theorem dX1_permute_39 : decode cX1_permute 39 = .ok (.iload_n 2, 1) := by decide +kernel
theorem dX1_permute_40 : decode cX1_permute 40 = .ok (.bipush 10, 2) := by decide +kernel
theorem dX1_permute_42 : decode cX1_permute 42 = .ok (.iadd, 1) := by decide +kernel
theorem dX1_permute_43 : decode cX1_permute 43 = .ok (.laload, 1) := by decide +kernel
theorem dX1_permute_44 : decode cX1_permute 44 = .ok (.lxor, 1) := by decide +kernel
theorem dX1_permute_45 : decode cX1_permute 45 = .ok (.aload_n 0, 1) := by decide +kernel
theorem dX1_permute_46 : decode cX1_permute 46 = .ok (.getfield 7, 3) := by decide +kernel
theorem dX1_permute_49 : decode cX1_permute 49 = .ok (.iload_n 2, 1) := by decide +kernel
theorem dX1_permute_50 : decode cX1_permute 50 = .ok (.bipush 15, 2) := by decide +kernel
theorem dX1_permute_52 : decode cX1_permute 52 = .ok (.iadd, 1) := by decide +kernel
theorem dX1_permute_53 : decode cX1_permute 53 = .ok (.laload, 1) := by decide +kernel
theorem dX1_permute_54 : decode cX1_permute 54 = .ok (.lxor, 1) := by decide +kernel
theorem dX1_permute_55 : decode cX1_permute 55 = .ok (.aload_n 0, 1) := by decide +kernel
theorem dX1_permute_56 : decode cX1_permute 56 = .ok (.getfield 7, 3) := by decide +kernel
theorem dX1_permute_59 : decode cX1_permute 59 = .ok (.iload_n 2, 1) := by decide +kernel
theorem dX1_permute_60 : decode cX1_permute 60 = .ok (.bipush 20, 2) := by decide +kernel
theorem dX1_permute_62 : decode cX1_permute 62 = .ok (.iadd, 1) := by decide +kernel
theorem dX1_permute_63 : decode cX1_permute 63 = .ok (.laload, 1) := by decide +kernel
theorem dX1_permute_64 : decode cX1_permute 64 = .ok (.lxor, 1) := by decide +kernel
theorem dX1_permute_65 : decode cX1_permute 65 = .ok (.lastore, 1) := by decide +kernel
theorem dX1_permute_66 : decode cX1_permute 66 = .ok (.iinc 2 1, 3) := by decide +kernel
theorem dX1_permute_69 : decode cX1_permute 69 = .ok (.goto (-59), 3) := by decide +kernel
theorem dX1_permute_72 : decode cX1_permute 72 = .ok (.iconst 0, 1) := by decide +kernel
theorem dX1_permute_73 : decode cX1_permute 73 = .ok (.istore_n 2, 1) := by decide +kernel
theorem dX1_permute_74 : decode cX1_permute 74 = .ok (.iload_n 2, 1) := by decide +kernel
theorem dX1_permute_75 : decode cX1_permute 75 = .ok (.iconst 5, 1) := by decide +kernel
theorem dX1_permute_76 : decode cX1_permute 76 = .ok (.if_icmp .ge 64, 3) := by decide +kernel
theorem dX1_permute_79 : decode cX1_permute 79 = .ok (.aload_n 0, 1) := by decide +kernel
theorem dX1_permute_80 : decode cX1_permute 80 = .ok (.getfield 1, 3) := by decide +kernel
theorem dX1_permute_83 : decode cX1_permute 83 = .ok (.iload_n 2, 1) := by decide +kernel
theorem dX1_permute_84 : decode cX1_permute 84 = .ok (.iconst 4, 1) := by decide +kernel
theorem dX1_permute_85 : decode cX1_permute 85 = .ok (.iadd, 1) := by decide +kernel
theorem dX1_permute_86 : decode cX1_permute 86 = .ok (.iconst 5, 1) := by decide +kernel
theorem dX1_permute_87 : decode cX1_permute 87 = .ok (.irem, 1) := by decide +kernel
theorem dX1_permute_88 : decode cX1_permute 88 = .ok (.laload, 1) := by decide +kernel
theorem dX1_permute_89 : decode cX1_permute 89 = .ok (.aload_n 0, 1) := by decide +kernel
theorem dX1_permute_90 : decode cX1_permute 90 = .ok (.getfield 1, 3) := by decide +kernel
theorem dX1_permute_93 : decode cX1_permute 93 = .ok (.iload_n 2, 1) := by decide +kernel
theorem dX1_permute_94 : decode cX1_permute 94 = .ok (.iconst 1, 1) := by decide +kernel
theorem dX1_permute_95 : decode cX1_permute 95 = .ok (.iadd, 1) := by decide +kernel
theorem dX1_permute_96 : decode cX1_permute 96 = .ok (.iconst 5, 1) := by decide +kernel
theorem dX1_permute_97 : decode cX1_permute 97 = .ok (.irem, 1) := by decide +kernel
theorem dX1_permute_98 : decode cX1_permute 98 = .ok (.laload, 1) := by decide +kernel
theorem dX1_permute_99 : decode cX1_permute 99 = .ok (.iconst 1, 1) := by decide +kernel
theorem dX1_permute_100 : decode cX1_permute 100 = .ok (.invokestatic 10, 3) := by decide +kernel
theorem dX1_permute_103 : decode cX1_permute 103 = .ok (.lxor, 1) := by decide +kernel
theorem dX1_permute_104 : decode cX1_permute 104 = .ok (.lstore_n 3, 1) := by decide +kernel
theorem dX1_permute_105 : decode cX1_permute 105 = .ok (.iconst 0, 1) := by decide +kernel
theorem dX1_permute_106 : decode cX1_permute 106 = .ok (.istore 5, 2) := by decide +kernel
theorem dX1_permute_108 : decode cX1_permute 108 = .ok (.iload 5, 2) := by decide +kernel
theorem dX1_permute_110 : decode cX1_permute 110 = .ok (.bipush 25, 2) := by decide +kernel
theorem dX1_permute_112 : decode cX1_permute 112 = .ok (.if_icmp .ge 22, 3) := by decide +kernel
theorem dX1_permute_115 : decode cX1_permute 115 = .ok (.aload_n 0, 1) := by decide +kernel
theorem dX1_permute_116 : decode cX1_permute 116 = .ok (.getfield 7, 3) := by decide +kernel
theorem dX1_permute_119 : decode cX1_permute 119 = .ok (.iload 5, 2) := by decide +kernel
theorem dX1_permute_121 : decode cX1_permute 121 = .ok (.iload_n 2, 1) := by decide +kernel
theorem dX1_permute_122 : decode cX1_permute 122 = .ok (.iadd, 1) := by decide +kernel
theorem dX1_permute_123 : decode cX1_permute 123 = .ok (.dup2, 1) := by decide +kernel
theorem dX1_permute_124 : decode cX1_permute 124 = .ok (.laload, 1) := by decide +kernel
theorem dX1_permute_125 : decode cX1_permute 125 = .ok (.lload_n 3, 1) := by decide +kernel
theorem dX1_permute_126 : decode cX1_permute 126 = .ok (.lxor, 1) := by decide +kernel
theorem dX1_permute_127 : decode cX1_permute 127 = .ok (.lastore, 1) := by decide +kernel
theorem dX1_permute_128 : decode cX1_permute 128 = .ok (.iinc 5 5, 3) := by decide +kernel
theorem dX1_permute_131 : decode cX1_permute 131 = .ok (.goto (-23), 3) := by decide +kernel
theorem dX1_permute_134 : decode cX1_permute 134 = .ok (.iinc 2 1, 3) := by decide +kernel
theorem dX1_permute_137 : decode cX1_permute 137 = .ok (.goto (-63), 3) := by decide +kernel
theorem dX1_permute_140 : decode cX1_permute 140 = .ok (.aload_n 0, 1) := by decide +kernel
theorem dX1_permute_141 : decode cX1_permute 141 = .ok (.getfield 16, 3) := by decide +kernel
theorem dX1_permute_144 : decode cX1_permute 144 = .ok (.iconst 0, 1) := by decide +kernel
theorem dX1_permute_145 : decode cX1_permute 145 = .ok (.aload_n 0, 1) := by decide +kernel
theorem dX1_permute_146 : decode cX1_permute 146 = .ok (.getfield 7, 3) := by decide +kernel
theorem dX1_permute_149 : decode cX1_permute 149 = .ok (.iconst 0, 1) := by decide +kernel
theorem dX1_permute_150 : decode cX1_permute 150 = .ok (.laload, 1) := by decide +kernel
theorem dX1_permute_151 : decode cX1_permute 151 = .ok (.lastore, 1) := by decide +kernel
theorem dX1_permute_152 : decode cX1_permute 152 = .ok (.iconst 1, 1) := by decide +kernel
theorem dX1_permute_153 : decode cX1_permute 153 = .ok (.istore_n 2, 1) := by decide +kernel
theorem dX1_permute_154 : decode cX1_permute 154 = .ok (.iconst 0, 1) := by decide +kernel
theorem dX1_permute_155 : decode cX1_permute 155 = .ok (.istore_n 3, 1) := by decide +kernel
theorem dX1_permute_156 : decode cX1_permute 156 = .ok (.iconst 0, 1) := by decide +kernel
theorem dX1_permute_157 : decode cX1_permute 157 = .ok (.istore 4, 2) := by decide +kernel
theorem dX1_permute_159 : decode cX1_permute 159 = .ok (.iload 4, 2) := by decide +kernel
theorem dX1_permute_161 : decode cX1_permute 161 = .ok (.bipush 24, 2) := by decide +kernel
theorem dX1_permute_163 : decode cX1_permute 163 = .ok (.if_icmp .ge 63, 3) := by decide +kernel
theorem dX1_permute_166 : decode cX1_permute 166 = .ok (.iconst 2, 1) := by decide +kernel
theorem dX1_permute_167 : decode cX1_permute 167 = .ok (.iload_n 2, 1) := by decide +kernel
theorem dX1_permute_168 : decode cX1_permute 168 = .ok (.imul, 1) := by decide +kernel
theorem dX1_permute_169 : decode cX1_permute 169 = .ok (.iconst 3, 1) := by decide +kernel
theorem dX1_permute_170 : decode cX1_permute 170 = .ok (.iload_n 3, 1) := by decide +kernel
theorem dX1_permute_171 : decode cX1_permute 171 = .ok (.imul, 1) := by decide +kernel
theorem dX1_permute_172 : decode cX1_permute 172 = .ok (.iadd, 1) := by decide +kernel
theorem dX1_permute_173 : decode cX1_permute 173 = .ok (.iconst 5, 1) := by decide +kernel
theorem dX1_permute_174 : decode cX1_permute 174 = .ok (.irem, 1) := by decide +kernel
theorem dX1_permute_175 : decode cX1_permute 175 = .ok (.istore 5, 2) := by decide +kernel
theorem dX1_permute_177 : decode cX1_permute 177 = .ok (.aload_n 0, 1) := by decide +kernel
theorem dX1_permute_178 : decode cX1_permute 178 = .ok (.getfield 16, 3) := by decide +kernel
theorem dX1_permute_181 : decode cX1_permute 181 = .ok (.iconst 5, 1) := by decide +kernel
theorem dX1_permute_182 : decode cX1_permute 182 = .ok (.iload 5, 2) := by decide +kernel
theorem dX1_permute_184 : decode cX1_permute 184 = .ok (.imul, 1) := by decide +kernel
theorem dX1_permute_185 : decode cX1_permute 185 = .ok (.iload_n 3, 1) := by decide +kernel
theorem dX1_permute_186 : decode cX1_permute 186 = .ok (.iadd, 1) := by decide +kernel
theorem dX1_permute_187 : decode cX1_permute 187 = .ok (.aload_n 0, 1) := by decide +kernel
theorem dX1_permute_188 : decode cX1_permute 188 = .ok (.getfield 7, 3) := by decide +kernel
theorem dX1_permute_191 : decode cX1_permute 191 = .ok (.iconst 5, 1) := by decide +kernel
theorem dX1_permute_192 : decode cX1_permute 192 = .ok (.iload_n 3, 1) := by decide +kernel
theorem dX1_permute_193 : decode cX1_permute 193 = .ok (.imul, 1) := by decide +kernel
theorem dX1_permute_194 : decode cX1_permute 194 = .ok (.iload_n 2, 1) := by decide +kernel
theorem dX1_permute_195 : decode cX1_permute 195 = .ok (.iadd, 1) := by decide +kernel
theorem dX1_permute_196 : decode cX1_permute 196 = .ok (.laload, 1) := by decide +kernel
theorem dX1_permute_197 : decode cX1_permute 197 = .ok (.iload 4, 2) := by decide +kernel
theorem dX1_permute_199 : decode cX1_permute 199 = .ok (.iconst 1, 1) := by decide +kernel
theorem dX1_permute_200 : decode cX1_permute 200 = .ok (.iadd, 1) := by decide +kernel
theorem dX1_permute_201 : decode cX1_permute 201 = .ok (.iload 4, 2) := by decide +kernel
theorem dX1_permute_203 : decode cX1_permute 203 = .ok (.iconst 2, 1) := by decide +kernel
theorem dX1_permute_204 : decode cX1_permute 204 = .ok (.iadd, 1) := by decide +kernel
theorem dX1_permute_205 : decode cX1_permute 205 = .ok (.imul, 1) := by decide +kernel
theorem dX1_permute_206 : decode cX1_permute 206 = .ok (.iconst 2, 1) := by decide +kernel
theorem dX1_permute_207 : decode cX1_permute 207 = .ok (.idiv, 1) := by decide +kernel
theorem dX1_permute_208 : decode cX1_permute 208 = .ok (.bipush 64, 2) := by decide +kernel
theorem dX1_permute_210 : decode cX1_permute 210 = .ok (.irem, 1) := by decide +kernel
theorem dX1_permute_211 : decode cX1_permute 211 = .ok (.invokestatic 10, 3) := by decide +kernel
theorem dX1_permute_214 : decode cX1_permute 214 = .ok (.lastore, 1) := by decide +kernel
theorem dX1_permute_215 : decode cX1_permute 215 = .ok (.iload_n 3, 1) := by decide +kernel
theorem dX1_permute_216 : decode cX1_permute 216 = .ok (.istore_n 2, 1) := by decide +kernel
theorem dX1_permute_217 : decode cX1_permute 217 = .ok (.iload 5, 2) := by decide +kernel
theorem dX1_permute_219 : decode cX1_permute 219 = .ok (.istore_n 3, 1) := by decide +kernel
theorem dX1_permute_220 : decode cX1_permute 220 = .ok (.iinc 4 1, 3) := by decide +kernel
theorem dX1_permute_223 : decode cX1_permute 223 = .ok (.goto (-64), 3) := by decide +kernel
theorem dX1_permute_226 : decode cX1_permute 226 = .ok (.iconst 0, 1) := by decide +kernel
theorem dX1_permute_227 : decode cX1_permute 227 = .ok (.istore 4, 2) := by decide +kernel
theorem dX1_permute_229 : decode cX1_permute 229 = .ok (.iload 4, 2) := by decide +kernel
theorem dX1_permute_231 : decode cX1_permute 231 = .ok (.bipush 25, 2) := by decide +kernel
theorem dX1_permute_233 : decode cX1_permute 233 = .ok (.if_icmp .ge 78, 3) := by decide +kernel
theorem dX1_permute_236 : decode cX1_permute 236 = .ok (.iconst 0, 1) := by decide +kernel
theorem dX1_permute_237 : decode cX1_permute 237 = .ok (.istore 5, 2) := by decide +kernel
theorem dX1_permute_239 : decode cX1_permute 239 = .ok (.iload 5, 2) := by decide +kernel
theorem dX1_permute_241 : decode cX1_permute 241 = .ok (.iconst 5, 1) := by decide +kernel
theorem dX1_permute_242 : decode cX1_permute 242 = .ok (.if_icmp .ge 63, 3) := by decide +kernel
theorem dX1_permute_245 : decode cX1_permute 245 = .ok (.aload_n 0, 1) := by decide +kernel
theorem dX1_permute_246 : decode cX1_permute 246 = .ok (.getfield 7, 3) := by decide +kernel
theorem dX1_permute_249 : decode cX1_permute 249 = .ok (.iload 4, 2) := by decide +kernel
theorem dX1_permute_251 : decode cX1_permute 251 = .ok (.iload 5, 2) := by decide +kernel
theorem dX1_permute_253 : decode cX1_permute 253 = .ok (.iadd, 1) := by decide +kernel
theorem dX1_permute_254 : decode cX1_permute 254 = .ok (.aload_n 0, 1) := by decide +kernel
theorem dX1_permute_255 : decode cX1_permute 255 = .ok (.getfield 16, 3) := by decide +kernel
theorem dX1_permute_258 : decode cX1_permute 258 = .ok (.iload 4, 2) := by decide +kernel
theorem dX1_permute_260 : decode cX1_permute 260 = .ok (.iload 5, 2) := by decide +kernel
theorem dX1_permute_262 : decode cX1_permute 262 = .ok (.iadd, 1) := by decide +kernel
theorem dX1_permute_263 : decode cX1_permute 263 = .ok (.laload, 1) := by decide +kernel
theorem dX1_permute_264 : decode cX1_permute 264 = .ok (.aload_n 0, 1) := by decide +kernel
theorem dX1_permute_265 : decode cX1_permute 265 = .ok (.getfield 16, 3) := by decide +kernel
theorem dX1_permute_268 : decode cX1_permute 268 = .ok (.iload 4, 2) := by decide +kernel
theorem dX1_permute_270 : decode cX1_permute 270 = .ok (.iload 5, 2) := by decide +kernel
theorem dX1_permute_272 : decode cX1_permute 272 = .ok (.iconst 1, 1) := by decide +kernel
theorem dX1_permute_273 : decode cX1_permute 273 = .ok (.iadd, 1) := by decide +kernel
theorem dX1_permute_274 : decode cX1_permute 274 = .ok (.iconst 5, 1) := by decide +kernel
theorem dX1_permute_275 : decode cX1_permute 275 = .ok (.irem, 1) := by decide +kernel
theorem dX1_permute_276 : decode cX1_permute 276 = .ok (.iadd, 1) := by decide +kernel
theorem dX1_permute_277 : decode cX1_permute 277 = .ok (.laload, 1) := by decide +kernel
theorem dX1_permute_278 : decode cX1_permute 278 = .ok (.ldc2_w 19, 3) := by decide +kernel
theorem dX1_permute_281 : decode cX1_permute 281 = .ok (.lxor, 1) := by decide +kernel
theorem dX1_permute_282 : decode cX1_permute 282 = .ok (.aload_n 0, 1) := by decide +kernel
theorem dX1_permute_283 : decode cX1_permute 283 = .ok (.getfield 16, 3) := by decide +kernel
theorem dX1_permute_286 : decode cX1_permute 286 = .ok (.iload 4, 2) := by decide +kernel
theorem dX1_permute_288 : decode cX1_permute 288 = .ok (.iload 5, 2) := by decide +kernel
theorem dX1_permute_290 : decode cX1_permute 290 = .ok (.iconst 2, 1) := by decide +kernel
theorem dX1_permute_291 : decode cX1_permute 291 = .ok (.iadd, 1) := by decide +kernel
theorem dX1_permute_292 : decode cX1_permute 292 = .ok (.iconst 5, 1) := by decide +kernel
theorem dX1_permute_293 : decode cX1_permute 293 = .ok (.irem, 1) := by decide +kernel
theorem dX1_permute_294 : decode cX1_permute 294 = .ok (.iadd, 1) := by decide +kernel
theorem dX1_permute_295 : decode cX1_permute 295 = .ok (.laload, 1) := by decide +kernel
theorem dX1_permute_296 : decode cX1_permute 296 = .ok (.land, 1) := by decide +kernel
theorem dX1_permute_297 : decode cX1_permute 297 = .ok (.lxor, 1) := by decide +kernel
theorem dX1_permute_298 : decode cX1_permute 298 = .ok (.lastore, 1) := by decide +kernel
theorem dX1_permute_299 : decode cX1_permute 299 = .ok (.iinc 5 1, 3) := by decide +kernel
theorem dX1_permute_302 : decode cX1_permute 302 = .ok (.goto (-63), 3) := by decide +kernel
theorem dX1_permute_305 : decode cX1_permute 305 = .ok (.iinc 4 5, 3) := by decide +kernel
theorem dX1_permute_308 : decode cX1_permute 308 = .ok (.goto (-79), 3) := by decide +kernel
theorem dX1_permute_311 : decode cX1_permute 311 = .ok (.aload_n 0, 1) := by decide +kernel
theorem dX1_permute_312 : decode cX1_permute 312 = .ok (.getfield 7, 3) := by decide +kernel
theorem dX1_permute_315 : decode cX1_permute 315 = .ok (.iconst 0, 1) := by decide +kernel
theorem dX1_permute_316 : decode cX1_permute 316 = .ok (.dup2, 1) := by decide +kernel
theorem dX1_permute_317 : decode cX1_permute 317 = .ok (.laload, 1) := by decide +kernel
theorem dX1_permute_318 : decode cX1_permute 318 = .ok (.aload_n 0, 1) := by decide +kernel
theorem dX1_permute_319 : decode cX1_permute 319 = .ok (.getfield 21, 3) := by decide +kernel
theorem dX1_permute_322 : decode cX1_permute 322 = .ok (.iload_n 1, 1) := by decide +kernel
theorem dX1_permute_323 : decode cX1_permute 323 = .ok (.laload, 1) := by decide +kernel
theorem dX1_permute_324 : decode cX1_permute 324 = .ok (.lxor, 1) := by decide +kernel
theorem dX1_permute_325 : decode cX1_permute 325 = .ok (.lastore, 1) := by decide +kernel
theorem dX1_permute_326 : decode cX1_permute 326 = .ok (.iinc 1 1, 3) := by decide +kernel
theorem dX1_permute_329 : decode cX1_permute 329 = .ok (.goto (-327), 3) := by decide +kernel
theorem dX1_permute_332 : decode cX1_permute 332 = .ok (.return_, 1) := by decide +kernel
theorem dX1_fail_0 : decode cX1_fail 0 = .ok (.aload_n 0, 1) := by decide +kernel
theorem dX1_fail_1 : decode cX1_fail 1 = .ok (.iload_n 1, 1) := by decide +kernel
theorem dX1_fail_2 : decode cX1_fail 2 = .ok (.putfield 43, 3) := by decide +kernel
theorem dX1_fail_5 : decode cX1_fail 5 = .ok (.iconst 0, 1) := by decide +kernel
theorem dX1_fail_6 : decode cX1_fail 6 = .ok (.ireturn, 1) := by decide +kernel
theorem dX1_out_0 : decode cX1_out 0 = .ok (.iload_n 1, 1) := by decide +kernel
theorem dX1_out_1 : decode cX1_out 1 = .ok (.ifCond .lt 9, 3) := by decide +kernel
theorem dX1_out_4 : decode cX1_out 4 = .ok (.iload_n 1, 1) := by decide +kernel
theorem dX1_out_5 : decode cX1_out 5 = .ok (.bipush 7, 2) := by decide +kernel
theorem dX1_out_7 : decode cX1_out 7 = .ok (.if_icmp .le 7, 3) := by decide +kernel
theorem dX1_out_10 : decode cX1_out 10 = .ok (.iconst 1, 1) := by decide +kernel
theorem dX1_out_11 : decode cX1_out 11 = .ok (.goto 4, 3) := by decide +kernel
theorem dX1_out_14 : decode cX1_out 14 = .ok (.iconst 0, 1) := by decide +kernel
theorem dX1_out_15 : decode cX1_out 15 = .ok (.ireturn, 1) := by decide +kernel
theorem dX1_get_0 : decode cX1_get 0 = .ok (.iconst 0, 1) := by decide +kernel
theorem dX1_get_1 : decode cX1_get 1 = .ok (.istore_n 2, 1) := by decide +kernel
theorem dX1_get_2 : decode cX1_get 2 = .ok (.iload_n 2, 1) := by decide +kernel
theorem dX1_get_3 : decode cX1_get 3 = .ok (.bipush 25, 2) := by decide +kernel
theorem dX1_get_5 : decode cX1_get 5 = .ok (.if_icmp .ge 23, 3) := by decide +kernel
theorem dX1_get_8 : decode cX1_get 8 = .ok (.aload_n 0, 1) := by decide +kernel
theorem dX1_get_9 : decode cX1_get 9 = .ok (.getfield 7, 3) := by decide +kernel
theorem dX1_get_12 : decode cX1_get 12 = .ok (.iload_n 2, 1) := by decide +kernel
theorem dX1_get_13 : decode cX1_get 13 = .ok (.aload_n 0, 1) := by decide +kernel
theorem dX1_get_14 : decode cX1_get 14 = .ok (.getfield 32, 3) := by decide +kernel
theorem dX1_get_17 : decode cX1_get 17 = .ok (.iload_n 1, 1) := by decide +kernel
theorem dX1_get_18 : decode cX1_get 18 = .ok (.aaload, 1) := by decide +kernel
theorem dX1_get_19 : decode cX1_get 19 = .ok (.iload_n 2, 1) := by decide +kernel
theorem dX1_get_20 : decode cX1_get 20 = .ok (.laload, 1) := by decide +kernel
theorem dX1_get_21 : decode cX1_get 21 = .ok (.lastore, 1) := by decide +kernel
theorem dX1_get_22 : decode cX1_get 22 = .ok (.iinc 2 1, 3) := by decide +kernel
theorem dX1_get_25 : decode cX1_get 25 = .ok (.goto (-23), 3) := by decide +kernel
theorem dX1_get_28 : decode cX1_get 28 = .ok (.return_, 1) := by decide +kernel
theorem dX1_put_0 : decode cX1_put 0 = .ok (.iconst 0, 1) := by decide +kernel
theorem dX1_put_1 : decode cX1_put 1 = .ok (.istore_n 2, 1) := by decide +kernel
theorem dX1_put_2 : decode cX1_put 2 = .ok (.iload_n 2, 1) := by decide +kernel
theorem dX1_put_3 : decode cX1_put 3 = .ok (.bipush 25, 2) := by decide +kernel
theorem dX1_put_5 : decode cX1_put 5 = .ok (.if_icmp .ge 23, 3) := by decide +kernel
theorem dX1_put_8 : decode cX1_put 8 = .ok (.aload_n 0, 1) := by decide +kernel
theorem dX1_put_9 : decode cX1_put 9 = .ok (.getfield 32, 3) := by decide +kernel
theorem dX1_put_12 : decode cX1_put 12 = .ok (.iload_n 1, 1) := by decide +kernel
theorem dX1_put_13 : decode cX1_put 13 = .ok (.aaload, 1) := by decide +kernel
theorem dX1_put_14 : decode cX1_put 14 = .ok (.iload_n 2, 1) := by decide +kernel
theorem dX1_put_15 : decode cX1_put 15 = .ok (.aload_n 0, 1) := by decide +kernel
theorem dX1_put_16 : decode cX1_put 16 = .ok (.getfield 7, 3) := by decide +kernel
theorem dX1_put_19 : decode cX1_put 19 = .ok (.iload_n 2, 1) := by decide +kernel
theorem dX1_put_20 : decode cX1_put 20 = .ok (.laload, 1) := by decide +kernel
theorem dX1_put_21 : decode cX1_put 21 = .ok (.lastore, 1) := by decide +kernel
theorem dX1_put_22 : decode cX1_put 22 = .ok (.iinc 2 1, 3) := by decide +kernel
theorem dX1_put_25 : decode cX1_put 25 = .ok (.goto (-23), 3) := by decide +kernel
theorem dX1_put_28 : decode cX1_put 28 = .ok (.return_, 1) := by decide +kernel
theorem dX1_taken_0 : decode cX1_taken 0 = .ok (.aload_n 0, 1) := by decide +kernel
theorem dX1_taken_1 : decode cX1_taken 1 = .ok (.getfield 35, 3) := by decide +kernel
theorem dX1_taken_4 : decode cX1_taken 4 = .ok (.iload_n 1, 1) := by decide +kernel
theorem dX1_taken_5 : decode cX1_taken 5 = .ok (.iaload, 1) := by decide +kernel
theorem dX1_taken_6 : decode cX1_taken 6 = .ok (.istore_n 3, 1) := by decide +kernel
theorem dX1_taken_7 : decode cX1_taken 7 = .ok (.aload_n 0, 1) := by decide +kernel
theorem dX1_taken_8 : decode cX1_taken 8 = .ok (.getfield 7, 3) := by decide +kernel
theorem dX1_taken_11 : decode cX1_taken 11 = .ok (.iload_n 3, 1) := by decide +kernel
theorem dX1_taken_12 : decode cX1_taken 12 = .ok (.bipush 8, 2) := by decide +kernel
theorem dX1_taken_14 : decode cX1_taken 14 = .ok (.idiv, 1) := by decide +kernel
theorem dX1_taken_15 : decode cX1_taken 15 = .ok (.dup2, 1) := by decide +kernel
theorem dX1_taken_16 : decode cX1_taken 16 = .ok (.laload, 1) := by decide +kernel
theorem dX1_taken_17 : decode cX1_taken 17 = .ok (.iload_n 2, 1) := by decide +kernel
theorem dX1_taken_18 : decode cX1_taken 18 = .ok (.sipush 255, 3) := by decide +kernel
theorem dX1_taken_21 : decode cX1_taken 21 = .ok (.iand, 1) := by decide +kernel
theorem dX1_taken_22 : decode cX1_taken 22 = .ok (.i2l, 1) := by decide +kernel
theorem dX1_taken_23 : decode cX1_taken 23 = .ok (.bipush 8, 2) := by decide +kernel
theorem dX1_taken_25 : decode cX1_taken 25 = .ok (.iload_n 3, 1) := by decide +kernel
theorem dX1_taken_26 : decode cX1_taken 26 = .ok (.bipush 8, 2) := by decide +kernel
theorem dX1_taken_28 : decode cX1_taken 28 = .ok (.irem, 1) := by decide +kernel
theorem dX1_taken_29 : decode cX1_taken 29 = .ok (.imul, 1) := by decide +kernel
theorem dX1_taken_30 : decode cX1_taken 30 = .ok (.lshl, 1) := by decide +kernel
theorem dX1_taken_31 : decode cX1_taken 31 = .ok (.lxor, 1) := by decide +kernel
theorem dX1_taken_32 : decode cX1_taken 32 = .ok (.lastore, 1) := by decide +kernel
theorem dX1_taken_33 : decode cX1_taken 33 = .ok (.aload_n 0, 1) := by decide +kernel
theorem dX1_taken_34 : decode cX1_taken 34 = .ok (.getfield 35, 3) := by decide +kernel
theorem dX1_taken_37 : decode cX1_taken 37 = .ok (.iload_n 1, 1) := by decide +kernel
theorem dX1_taken_38 : decode cX1_taken 38 = .ok (.dup2, 1) := by decide +kernel
theorem dX1_taken_39 : decode cX1_taken 39 = .ok (.iaload, 1) := by decide +kernel
theorem dX1_taken_40 : decode cX1_taken 40 = .ok (.iconst 1, 1) := by decide +kernel
theorem dX1_taken_41 : decode cX1_taken 41 = .ok (.iadd, 1) := by decide +kernel
theorem dX1_taken_42 : decode cX1_taken 42 = .ok (.iastore, 1) := by decide +kernel
theorem dX1_taken_43 : decode cX1_taken 43 = .ok (.aload_n 0, 1) := by decide +kernel
theorem dX1_taken_44 : decode cX1_taken 44 = .ok (.getfield 35, 3) := by decide +kernel
theorem dX1_taken_47 : decode cX1_taken 47 = .ok (.iload_n 1, 1) := by decide +kernel
theorem dX1_taken_48 : decode cX1_taken 48 = .ok (.iaload, 1) := by decide +kernel
theorem dX1_taken_49 : decode cX1_taken 49 = .ok (.sipush 136, 3) := by decide +kernel
theorem dX1_taken_52 : decode cX1_taken 52 = .ok (.if_icmp .ge 4, 3) := by decide +kernel
theorem dX1_taken_55 : decode cX1_taken 55 = .ok (.return_, 1) := by decide +kernel
theorem dX1_taken_56 : decode cX1_taken 56 = .ok (.aload_n 0, 1) := by decide +kernel
theorem dX1_taken_57 : decode cX1_taken 57 = .ok (.invokevirtual 51, 3) := by decide +kernel
theorem dX1_taken_60 : decode cX1_taken 60 = .ok (.aload_n 0, 1) := by decide +kernel
theorem dX1_taken_61 : decode cX1_taken 61 = .ok (.getfield 35, 3) := by decide +kernel
theorem dX1_taken_64 : decode cX1_taken 64 = .ok (.iload_n 1, 1) := by decide +kernel
theorem dX1_taken_65 : decode cX1_taken 65 = .ok (.iconst 0, 1) := by decide +kernel
theorem dX1_taken_66 : decode cX1_taken 66 = .ok (.iastore, 1) := by decide +kernel
theorem dX1_taken_67 : decode cX1_taken 67 = .ok (.return_, 1) := by decide +kernel
theorem dX1_take_0 : decode cX1_take 0 = .ok (.aload_n 0, 1) := by decide +kernel
theorem dX1_take_1 : decode cX1_take 1 = .ok (.iconst 0, 1) := by decide +kernel
theorem dX1_take_2 : decode cX1_take 2 = .ok (.putfield 43, 3) := by decide +kernel
theorem dX1_take_5 : decode cX1_take 5 = .ok (.aload_n 0, 1) := by decide +kernel
theorem dX1_take_6 : decode cX1_take 6 = .ok (.iload_n 1, 1) := by decide +kernel
theorem dX1_take_7 : decode cX1_take 7 = .ok (.invokevirtual 47, 3) := by decide +kernel
theorem dX1_take_10 : decode cX1_take 10 = .ok (.ifCond .ne 15, 3) := by decide +kernel
theorem dX1_take_13 : decode cX1_take 13 = .ok (.iload 4, 2) := by decide +kernel
theorem dX1_take_15 : decode cX1_take 15 = .ok (.ifCond .lt 10, 3) := by decide +kernel
theorem dX1_take_18 : decode cX1_take 18 = .ok (.iload 4, 2) := by decide +kernel
theorem dX1_take_20 : decode cX1_take 20 = .ok (.bipush 8, 2) := by decide +kernel
theorem dX1_take_22 : decode cX1_take 22 = .ok (.if_icmp .le 9, 3) := by decide +kernel
theorem dX1_take_25 : decode cX1_take 25 = .ok (.aload_n 0, 1) := by decide +kernel
theorem dX1_take_26 : decode cX1_take 26 = .ok (.iconst 1, 1) := by decide +kernel
theorem dX1_take_27 : decode cX1_take 27 = .ok (.invokevirtual 54, 3) := by decide +kernel
theorem dX1_take_30 : decode cX1_take 30 = .ok (.ireturn, 1) := by decide +kernel
theorem dX1_take_31 : decode cX1_take 31 = .ok (.aload_n 0, 1) := by decide +kernel
theorem dX1_take_32 : decode cX1_take 32 = .ok (.iload_n 1, 1) := by decide +kernel
theorem dX1_take_33 : decode cX1_take 33 = .ok (.invokevirtual 58, 3) := by decide +kernel
theorem dX1_take_36 : decode cX1_take 36 = .ok (.iconst 0, 1) := by decide +kernel
theorem dX1_take_37 : decode cX1_take 37 = .ok (.istore 5, 2) := by decide +kernel
theorem dX1_take_39 : decode cX1_take 39 = .ok (.iload 5, 2) := by decide +kernel
theorem dX1_take_41 : decode cX1_take 41 = .ok (.iload 4, 2) := by decide +kernel
theorem dX1_take_43 : decode cX1_take 43 = .ok (.if_icmp .ge 22, 3) := by decide +kernel
theorem dX1_take_46 : decode cX1_take 46 = .ok (.aload_n 0, 1) := by decide +kernel
theorem dX1_take_47 : decode cX1_take 47 = .ok (.iload_n 1, 1) := by decide +kernel
theorem dX1_take_48 : decode cX1_take 48 = .ok (.lload_n 2, 1) := by decide +kernel
theorem dX1_take_49 : decode cX1_take 49 = .ok (.bipush 8, 2) := by decide +kernel
theorem dX1_take_51 : decode cX1_take 51 = .ok (.iload 5, 2) := by decide +kernel
theorem dX1_take_53 : decode cX1_take 53 = .ok (.imul, 1) := by decide +kernel
theorem dX1_take_54 : decode cX1_take 54 = .ok (.lushr, 1) := by decide +kernel
theorem dX1_take_55 : decode cX1_take 55 = .ok (.l2i, 1) := by decide +kernel
theorem dX1_take_56 : decode cX1_take 56 = .ok (.invokevirtual 62, 3) := by decide +kernel
theorem dX1_take_59 : decode cX1_take 59 = .ok (.iinc 5 1, 3) := by decide +kernel
theorem dX1_take_62 : decode cX1_take 62 = .ok (.goto (-23), 3) := by decide +kernel
theorem dX1_take_65 : decode cX1_take 65 = .ok (.aload_n 0, 1) := by decide +kernel
theorem dX1_take_66 : decode cX1_take 66 = .ok (.iload_n 1, 1) := by decide +kernel
theorem dX1_take_67 : decode cX1_take 67 = .ok (.invokevirtual 66, 3) := by decide +kernel
theorem dX1_take_70 : decode cX1_take 70 = .ok (.aload_n 0, 1) := by decide +kernel
theorem dX1_take_71 : decode cX1_take 71 = .ok (.getfield 35, 3) := by decide +kernel
theorem dX1_take_74 : decode cX1_take 74 = .ok (.iload_n 1, 1) := by decide +kernel
theorem dX1_take_75 : decode cX1_take 75 = .ok (.iaload, 1) := by decide +kernel
theorem dX1_take_76 : decode cX1_take 76 = .ok (.ireturn, 1) := by decide +kernel
theorem dX1_fill_0 : decode cX1_fill 0 = .ok (.aload_n 0, 1) := by decide +kernel
theorem dX1_fill_1 : decode cX1_fill 1 = .ok (.iconst 0, 1) := by decide +kernel
theorem dX1_fill_2 : decode cX1_fill 2 = .ok (.putfield 43, 3) := by decide +kernel
theorem dX1_fill_5 : decode cX1_fill 5 = .ok (.aload_n 0, 1) := by decide +kernel
theorem dX1_fill_6 : decode cX1_fill 6 = .ok (.iload_n 1, 1) := by decide +kernel
theorem dX1_fill_7 : decode cX1_fill 7 = .ok (.invokevirtual 47, 3) := by decide +kernel
theorem dX1_fill_10 : decode cX1_fill 10 = .ok (.ifCond .ne 16, 3) := by decide +kernel
theorem dX1_fill_13 : decode cX1_fill 13 = .ok (.iload 4, 2) := by decide +kernel
theorem dX1_fill_15 : decode cX1_fill 15 = .ok (.ifCond .lt 11, 3) := by decide +kernel
theorem dX1_fill_18 : decode cX1_fill 18 = .ok (.iload 4, 2) := by decide +kernel
theorem dX1_fill_20 : decode cX1_fill 20 = .ok (.sipush 2000, 3) := by decide +kernel
theorem dX1_fill_23 : decode cX1_fill 23 = .ok (.if_icmp .le 9, 3) := by decide +kernel
theorem dX1_fill_26 : decode cX1_fill 26 = .ok (.aload_n 0, 1) := by decide +kernel
theorem dX1_fill_27 : decode cX1_fill 27 = .ok (.iconst 1, 1) := by decide +kernel
theorem dX1_fill_28 : decode cX1_fill 28 = .ok (.invokevirtual 54, 3) := by decide +kernel
theorem dX1_fill_31 : decode cX1_fill 31 = .ok (.ireturn, 1) := by decide +kernel
theorem dX1_fill_32 : decode cX1_fill 32 = .ok (.aload_n 0, 1) := by decide +kernel
theorem dX1_fill_33 : decode cX1_fill 33 = .ok (.iload_n 1, 1) := by decide +kernel
theorem dX1_fill_34 : decode cX1_fill 34 = .ok (.invokevirtual 58, 3) := by decide +kernel
theorem dX1_fill_37 : decode cX1_fill 37 = .ok (.iconst 0, 1) := by decide +kernel
theorem dX1_fill_38 : decode cX1_fill 38 = .ok (.istore 5, 2) := by decide +kernel
theorem dX1_fill_40 : decode cX1_fill 40 = .ok (.iload 5, 2) := by decide +kernel
theorem dX1_fill_42 : decode cX1_fill 42 = .ok (.iload 4, 2) := by decide +kernel
theorem dX1_fill_44 : decode cX1_fill 44 = .ok (.if_icmp .ge 20, 3) := by decide +kernel
theorem dX1_fill_47 : decode cX1_fill 47 = .ok (.aload_n 0, 1) := by decide +kernel
theorem dX1_fill_48 : decode cX1_fill 48 = .ok (.iload_n 1, 1) := by decide +kernel
theorem dX1_fill_49 : decode cX1_fill 49 = .ok (.iload_n 2, 1) := by decide +kernel
theorem dX1_fill_50 : decode cX1_fill 50 = .ok (.iload 5, 2) := by decide +kernel
theorem dX1_fill_52 : decode cX1_fill 52 = .ok (.iload_n 3, 1) := by decide +kernel
theorem dX1_fill_53 : decode cX1_fill 53 = .ok (.imul, 1) := by decide +kernel
theorem dX1_fill_54 : decode cX1_fill 54 = .ok (.iadd, 1) := by decide +kernel
theorem dX1_fill_55 : decode cX1_fill 55 = .ok (.invokevirtual 62, 3) := by decide +kernel
theorem dX1_fill_58 : decode cX1_fill 58 = .ok (.iinc 5 1, 3) := by decide +kernel
theorem dX1_fill_61 : decode cX1_fill 61 = .ok (.goto (-21), 3) := by decide +kernel
theorem dX1_fill_64 : decode cX1_fill 64 = .ok (.aload_n 0, 1) := by decide +kernel
theorem dX1_fill_65 : decode cX1_fill 65 = .ok (.iload_n 1, 1) := by decide +kernel
theorem dX1_fill_66 : decode cX1_fill 66 = .ok (.invokevirtual 66, 3) := by decide +kernel
theorem dX1_fill_69 : decode cX1_fill 69 = .ok (.aload_n 0, 1) := by decide +kernel
theorem dX1_fill_70 : decode cX1_fill 70 = .ok (.getfield 35, 3) := by decide +kernel
theorem dX1_fill_73 : decode cX1_fill 73 = .ok (.iload_n 1, 1) := by decide +kernel
theorem dX1_fill_74 : decode cX1_fill 74 = .ok (.iaload, 1) := by decide +kernel
theorem dX1_fill_75 : decode cX1_fill 75 = .ok (.ireturn, 1) := by decide +kernel
theorem dX1_copy_0 : decode cX1_copy 0 = .ok (.aload_n 0, 1) := by decide +kernel
theorem dX1_copy_1 : decode cX1_copy 1 = .ok (.iconst 0, 1) := by decide +kernel
theorem dX1_copy_2 : decode cX1_copy 2 = .ok (.putfield 43, 3) := by decide +kernel
theorem dX1_copy_5 : decode cX1_copy 5 = .ok (.aload_n 0, 1) := by decide +kernel
theorem dX1_copy_6 : decode cX1_copy 6 = .ok (.iload_n 1, 1) := by decide +kernel
theorem dX1_copy_7 : decode cX1_copy 7 = .ok (.invokevirtual 47, 3) := by decide +kernel
theorem dX1_copy_10 : decode cX1_copy 10 = .ok (.ifCond .ne 11, 3) := by decide +kernel
theorem dX1_copy_13 : decode cX1_copy 13 = .ok (.aload_n 0, 1) := by decide +kernel
theorem dX1_copy_14 : decode cX1_copy 14 = .ok (.iload_n 2, 1) := by decide +kernel
theorem dX1_copy_15 : decode cX1_copy 15 = .ok (.invokevirtual 47, 3) := by decide +kernel
theorem dX1_copy_18 : decode cX1_copy 18 = .ok (.ifCond .eq 11, 3) := by decide +kernel
theorem dX1_copy_21 : decode cX1_copy 21 = .ok (.aload_n 0, 1) := by decide +kernel
theorem dX1_copy_22 : decode cX1_copy 22 = .ok (.iconst 1, 1) := by decide +kernel
theorem dX1_copy_23 : decode cX1_copy 23 = .ok (.putfield 43, 3) := by decide +kernel
theorem dX1_copy_26 : decode cX1_copy 26 = .ok (.goto 25, 3) := by decide +kernel
theorem dX1_copy_29 : decode cX1_copy 29 = .ok (.aload_n 0, 1) := by decide +kernel
theorem dX1_copy_30 : decode cX1_copy 30 = .ok (.iload_n 1, 1) := by decide +kernel
theorem dX1_copy_31 : decode cX1_copy 31 = .ok (.invokevirtual 58, 3) := by decide +kernel
theorem dX1_copy_34 : decode cX1_copy 34 = .ok (.aload_n 0, 1) := by decide +kernel
theorem dX1_copy_35 : decode cX1_copy 35 = .ok (.iload_n 2, 1) := by decide +kernel
theorem dX1_copy_36 : decode cX1_copy 36 = .ok (.invokevirtual 66, 3) := by decide +kernel
theorem dX1_copy_39 : decode cX1_copy 39 = .ok (.aload_n 0, 1) := by decide +kernel
theorem dX1_copy_40 : decode cX1_copy 40 = .ok (.getfield 35, 3) := by decide +kernel
theorem dX1_copy_43 : decode cX1_copy 43 = .ok (.iload_n 2, 1) := by decide +kernel
theorem dX1_copy_44 : decode cX1_copy 44 = .ok (.aload_n 0, 1) := by decide +kernel
theorem dX1_copy_45 : decode cX1_copy 45 = .ok (.getfield 35, 3) := by decide +kernel
theorem dX1_copy_48 : decode cX1_copy 48 = .ok (.iload_n 1, 1) := by decide +kernel
theorem dX1_copy_49 : decode cX1_copy 49 = .ok (.iaload, 1) := by decide +kernel
theorem dX1_copy_50 : decode cX1_copy 50 = .ok (.iastore, 1) := by decide +kernel
theorem dX1_copy_51 : decode cX1_copy 51 = .ok (.return_, 1) := by decide +kernel
theorem dX1_mix_0 : decode cX1_mix 0 = .ok (.aload_n 0, 1) := by decide +kernel
theorem dX1_mix_1 : decode cX1_mix 1 = .ok (.iconst 0, 1) := by decide +kernel
theorem dX1_mix_2 : decode cX1_mix 2 = .ok (.putfield 43, 3) := by decide +kernel
theorem dX1_mix_5 : decode cX1_mix 5 = .ok (.aload_n 0, 1) := by decide +kernel
theorem dX1_mix_6 : decode cX1_mix 6 = .ok (.iload_n 1, 1) := by decide +kernel
theorem dX1_mix_7 : decode cX1_mix 7 = .ok (.invokevirtual 47, 3) := by decide +kernel
theorem dX1_mix_10 : decode cX1_mix 10 = .ok (.ifCond .eq 11, 3) := by decide +kernel
theorem dX1_mix_13 : decode cX1_mix 13 = .ok (.aload_n 0, 1) := by decide +kernel
theorem dX1_mix_14 : decode cX1_mix 14 = .ok (.iconst 1, 1) := by decide +kernel
theorem dX1_mix_15 : decode cX1_mix 15 = .ok (.putfield 43, 3) := by decide +kernel
theorem dX1_mix_18 : decode cX1_mix 18 = .ok (.goto 17, 3) := by decide +kernel
theorem dX1_mix_21 : decode cX1_mix 21 = .ok (.aload_n 0, 1) := by decide +kernel
theorem dX1_mix_22 : decode cX1_mix 22 = .ok (.iload_n 1, 1) := by decide +kernel
theorem dX1_mix_23 : decode cX1_mix 23 = .ok (.invokevirtual 58, 3) := by decide +kernel
theorem dX1_mix_26 : decode cX1_mix 26 = .ok (.aload_n 0, 1) := by decide +kernel
theorem dX1_mix_27 : decode cX1_mix 27 = .ok (.invokevirtual 51, 3) := by decide +kernel
theorem dX1_mix_30 : decode cX1_mix 30 = .ok (.aload_n 0, 1) := by decide +kernel
theorem dX1_mix_31 : decode cX1_mix 31 = .ok (.iload_n 1, 1) := by decide +kernel
theorem dX1_mix_32 : decode cX1_mix 32 = .ok (.invokevirtual 66, 3) := by decide +kernel
theorem dX1_mix_35 : decode cX1_mix 35 = .ok (.return_, 1) := by decide +kernel
theorem dX1_lane_0 : decode cX1_lane 0 = .ok (.aload_n 0, 1) := by decide +kernel
theorem dX1_lane_1 : decode cX1_lane 1 = .ok (.iconst 0, 1) := by decide +kernel
theorem dX1_lane_2 : decode cX1_lane 2 = .ok (.putfield 43, 3) := by decide +kernel
theorem dX1_lane_5 : decode cX1_lane 5 = .ok (.aload_n 0, 1) := by decide +kernel
theorem dX1_lane_6 : decode cX1_lane 6 = .ok (.iload_n 1, 1) := by decide +kernel
theorem dX1_lane_7 : decode cX1_lane 7 = .ok (.invokevirtual 47, 3) := by decide +kernel
theorem dX1_lane_10 : decode cX1_lane 10 = .ok (.ifCond .ne 13, 3) := by decide +kernel
theorem dX1_lane_13 : decode cX1_lane 13 = .ok (.iload_n 2, 1) := by decide +kernel
theorem dX1_lane_14 : decode cX1_lane 14 = .ok (.ifCond .lt 9, 3) := by decide +kernel
theorem dX1_lane_17 : decode cX1_lane 17 = .ok (.iload_n 2, 1) := by decide +kernel
theorem dX1_lane_18 : decode cX1_lane 18 = .ok (.bipush 24, 2) := by decide +kernel
theorem dX1_lane_20 : decode cX1_lane 20 = .ok (.if_icmp .le 12, 3) := by decide +kernel
theorem dX1_lane_23 : decode cX1_lane 23 = .ok (.aload_n 0, 1) := by decide +kernel
theorem dX1_lane_24 : decode cX1_lane 24 = .ok (.iconst 1, 1) := by decide +kernel
theorem dX1_lane_25 : decode cX1_lane 25 = .ok (.invokevirtual 54, 3) := by decide +kernel
theorem dX1_lane_28 : decode cX1_lane 28 = .ok (.i2l, 1) := by decide +kernel
theorem dX1_lane_29 : decode cX1_lane 29 = .ok (.goto 11, 3) := by decide +kernel
theorem dX1_lane_32 : decode cX1_lane 32 = .ok (.aload_n 0, 1) := by decide +kernel
theorem dX1_lane_33 : decode cX1_lane 33 = .ok (.getfield 32, 3) := by decide +kernel
theorem dX1_lane_36 : decode cX1_lane 36 = .ok (.iload_n 1, 1) := by decide +kernel
theorem dX1_lane_37 : decode cX1_lane 37 = .ok (.aaload, 1) := by decide +kernel
theorem dX1_lane_38 : decode cX1_lane 38 = .ok (.iload_n 2, 1) := by decide +kernel
theorem dX1_lane_39 : decode cX1_lane 39 = .ok (.laload, 1) := by decide +kernel
theorem dX1_lane_40 : decode cX1_lane 40 = .ok (.lreturn, 1) := by decide +kernel
theorem dX1_digest_0 : decode cX1_digest 0 = .ok (.aload_n 0, 1) := by decide +kernel
theorem dX1_digest_1 : decode cX1_digest 1 = .ok (.iconst 0, 1) := by decide +kernel
theorem dX1_digest_2 : decode cX1_digest 2 = .ok (.putfield 43, 3) := by decide +kernel
theorem dX1_digest_5 : decode cX1_digest 5 = .ok (.aload_n 0, 1) := by decide +kernel
theorem dX1_digest_6 : decode cX1_digest 6 = .ok (.iload_n 1, 1) := by decide +kernel
theorem dX1_digest_7 : decode cX1_digest 7 = .ok (.invokevirtual 47, 3) := by decide +kernel
theorem dX1_digest_10 : decode cX1_digest 10 = .ok (.ifCond .ne 12, 3) := by decide +kernel
theorem dX1_digest_13 : decode cX1_digest 13 = .ok (.iload_n 2, 1) := by decide +kernel
theorem dX1_digest_14 : decode cX1_digest 14 = .ok (.ifCond .lt 8, 3) := by decide +kernel
theorem dX1_digest_17 : decode cX1_digest 17 = .ok (.iload_n 2, 1) := by decide +kernel
theorem dX1_digest_18 : decode cX1_digest 18 = .ok (.iconst 3, 1) := by decide +kernel
theorem dX1_digest_19 : decode cX1_digest 19 = .ok (.if_icmp .le 10, 3) := by decide +kernel
theorem dX1_digest_22 : decode cX1_digest 22 = .ok (.aload_n 0, 1) := by decide +kernel
theorem dX1_digest_23 : decode cX1_digest 23 = .ok (.iconst 1, 1) := by decide +kernel
theorem dX1_digest_24 : decode cX1_digest 24 = .ok (.invokevirtual 54, 3) := by decide +kernel
theorem dX1_digest_27 : decode cX1_digest 27 = .ok (.i2l, 1) := by decide +kernel
theorem dX1_digest_28 : decode cX1_digest 28 = .ok (.lreturn, 1) := by decide +kernel
theorem dX1_digest_29 : decode cX1_digest 29 = .ok (.aload_n 0, 1) := by decide +kernel
theorem dX1_digest_30 : decode cX1_digest 30 = .ok (.iload_n 1, 1) := by decide +kernel
theorem dX1_digest_31 : decode cX1_digest 31 = .ok (.invokevirtual 58, 3) := by decide +kernel
theorem dX1_digest_34 : decode cX1_digest 34 = .ok (.aload_n 0, 1) := by decide +kernel
theorem dX1_digest_35 : decode cX1_digest 35 = .ok (.getfield 35, 3) := by decide +kernel
theorem dX1_digest_38 : decode cX1_digest 38 = .ok (.iload_n 1, 1) := by decide +kernel
theorem dX1_digest_39 : decode cX1_digest 39 = .ok (.iaload, 1) := by decide +kernel
theorem dX1_digest_40 : decode cX1_digest 40 = .ok (.istore_n 3, 1) := by decide +kernel
theorem dX1_digest_41 : decode cX1_digest 41 = .ok (.aload_n 0, 1) := by decide +kernel
theorem dX1_digest_42 : decode cX1_digest 42 = .ok (.getfield 7, 3) := by decide +kernel
theorem dX1_digest_45 : decode cX1_digest 45 = .ok (.iload_n 3, 1) := by decide +kernel
theorem dX1_digest_46 : decode cX1_digest 46 = .ok (.bipush 8, 2) := by decide +kernel
theorem dX1_digest_48 : decode cX1_digest 48 = .ok (.idiv, 1) := by decide +kernel
theorem dX1_digest_49 : decode cX1_digest 49 = .ok (.dup2, 1) := by decide +kernel
theorem dX1_digest_50 : decode cX1_digest 50 = .ok (.laload, 1) := by decide +kernel
theorem dX1_digest_51 : decode cX1_digest 51 = .ok (.lconst 1, 1) := by decide +kernel
theorem dX1_digest_52 : decode cX1_digest 52 = .ok (.bipush 8, 2) := by decide +kernel
theorem dX1_digest_54 : decode cX1_digest 54 = .ok (.iload_n 3, 1) := by decide +kernel
theorem dX1_digest_55 : decode cX1_digest 55 = .ok (.bipush 8, 2) := by decide +kernel
theorem dX1_digest_57 : decode cX1_digest 57 = .ok (.irem, 1) := by decide +kernel
theorem dX1_digest_58 : decode cX1_digest 58 = .ok (.imul, 1) := by decide +kernel
theorem dX1_digest_59 : decode cX1_digest 59 = .ok (.lshl, 1) := by decide +kernel
theorem dX1_digest_60 : decode cX1_digest 60 = .ok (.lxor, 1) := by decide +kernel
theorem dX1_digest_61 : decode cX1_digest 61 = .ok (.lastore, 1) := by decide +kernel
theorem dX1_digest_62 : decode cX1_digest 62 = .ok (.aload_n 0, 1) := by decide +kernel
theorem dX1_digest_63 : decode cX1_digest 63 = .ok (.getfield 7, 3) := by decide +kernel
theorem dX1_digest_66 : decode cX1_digest 66 = .ok (.bipush 16, 2) := by decide +kernel
theorem dX1_digest_68 : decode cX1_digest 68 = .ok (.dup2, 1) := by decide +kernel
theorem dX1_digest_69 : decode cX1_digest 69 = .ok (.laload, 1) := by decide +kernel
theorem dX1_digest_70 : decode cX1_digest 70 = .ok (.ldc2_w 69, 3) := by decide +kernel
theorem dX1_digest_73 : decode cX1_digest 73 = .ok (.lxor, 1) := by decide +kernel
theorem dX1_digest_74 : decode cX1_digest 74 = .ok (.lastore, 1) := by decide +kernel
theorem dX1_digest_75 : decode cX1_digest 75 = .ok (.aload_n 0, 1) := by decide +kernel
theorem dX1_digest_76 : decode cX1_digest 76 = .ok (.invokevirtual 51, 3) := by decide +kernel
theorem dX1_digest_79 : decode cX1_digest 79 = .ok (.lconst 0, 1) := by decide +kernel
theorem dX1_digest_80 : decode cX1_digest 80 = .ok (.lstore 4, 2) := by decide +kernel
theorem dX1_digest_82 : decode cX1_digest 82 = .ok (.iconst 0, 1) := by decide +kernel
theorem dX1_digest_83 : decode cX1_digest 83 = .ok (.istore 6, 2) := by decide +kernel
theorem dX1_digest_85 : decode cX1_digest 85 = .ok (.iload 6, 2) := by decide +kernel
theorem dX1_digest_87 : decode cX1_digest 87 = .ok (.bipush 8, 2) := by decide +kernel
theorem dX1_digest_89 : decode cX1_digest 89 = .ok (.if_icmp .ge 33, 3) := by decide +kernel
theorem dX1_digest_92 : decode cX1_digest 92 = .ok (.lload 4, 2) := by decide +kernel
theorem dX1_digest_94 : decode cX1_digest 94 = .ok (.bipush 8, 2) := by decide +kernel
theorem dX1_digest_96 : decode cX1_digest 96 = .ok (.lshl, 1) := by decide +kernel
theorem dX1_digest_97 : decode cX1_digest 97 = .ok (.aload_n 0, 1) := by decide +kernel
theorem dX1_digest_98 : decode cX1_digest 98 = .ok (.getfield 7, 3) := by decide +kernel
theorem dX1_digest_101 : decode cX1_digest 101 = .ok (.iload_n 2, 1) := by decide +kernel
theorem dX1_digest_102 : decode cX1_digest 102 = .ok (.laload, 1) := by decide +kernel
theorem dX1_digest_103 : decode cX1_digest 103 = .ok (.bipush 8, 2) := by decide +kernel
theorem dX1_digest_105 : decode cX1_digest 105 = .ok (.iload 6, 2) := by decide +kernel
theorem dX1_digest_107 : decode cX1_digest 107 = .ok (.imul, 1) := by decide +kernel
theorem dX1_digest_108 : decode cX1_digest 108 = .ok (.lushr, 1) := by decide +kernel
theorem dX1_digest_109 : decode cX1_digest 109 = .ok (.ldc2_w 71, 3) := by decide +kernel
theorem dX1_digest_112 : decode cX1_digest 112 = .ok (.land, 1) := by decide +kernel
theorem dX1_digest_113 : decode cX1_digest 113 = .ok (.lor, 1) := by decide +kernel
theorem dX1_digest_114 : decode cX1_digest 114 = .ok (.lstore 4, 2) := by decide +kernel
theorem dX1_digest_116 : decode cX1_digest 116 = .ok (.iinc 6 1, 3) := by decide +kernel
theorem dX1_digest_119 : decode cX1_digest 119 = .ok (.goto (-34), 3) := by decide +kernel
theorem dX1_digest_122 : decode cX1_digest 122 = .ok (.lload 4, 2) := by decide +kernel
theorem dX1_digest_124 : decode cX1_digest 124 = .ok (.lreturn, 1) := by decide +kernel
theorem dJ_rot_0 : decode cJ_rot 0 = .ok (.lload_n 0, 1) := by decide +kernel
theorem dJ_rot_1 : decode cJ_rot 1 = .ok (.iload_n 2, 1) := by decide +kernel
theorem dJ_rot_2 : decode cJ_rot 2 = .ok (.lshl, 1) := by decide +kernel
theorem dJ_rot_3 : decode cJ_rot 3 = .ok (.lload_n 0, 1) := by decide +kernel
theorem dJ_rot_4 : decode cJ_rot 4 = .ok (.iload_n 2, 1) := by decide +kernel
theorem dJ_rot_5 : decode cJ_rot 5 = .ok (.ineg, 1) := by decide +kernel
theorem dJ_rot_6 : decode cJ_rot 6 = .ok (.lushr, 1) := by decide +kernel
theorem dJ_rot_7 : decode cJ_rot 7 = .ok (.lor, 1) := by decide +kernel
theorem dJ_rot_8 : decode cJ_rot 8 = .ok (.lreturn, 1) := by decide +kernel
end
section
/-! KeccakLanesModel: further pure words; rotateLeft, constant, out, fail, thrown, get, put -/
theorem kk_tl0 (v : Int64) : kk_tl v (nI 0) = v := by
  unfold kk_tl
  rw [show ((nI 0).toInt64 &&& 63) = 0 by decide +kernel, show ((64 - nI 0).toInt64.toUInt64 &&& Int64.toUInt64 63) = 0 by decide +kernel]
  simp
def kk_th (f : Nat → Int64) (x i j : Nat) : Int64 := if j % 5 < x ∨ (j % 5 = x ∧ j / 5 < i) then f j ^^^ kk_d f (j % 5) else f j
theorem kk_th_step (f : Nat → Int64) {x i : Nat} (hx : x < 5) : vp_updL (kk_th f x i) (5 * i + x) (kk_th f x i (5 * i + x) ^^^ kk_d f x) = kk_th f x (i + 1) := by
  funext j
  by_cases e : j = 5 * i + x
  · subst e
    rw [pk_uLs]
    unfold kk_th
    rw [show (5 * i + x) % 5 = x by omega, show (5 * i + x) / 5 = i by omega, if_neg (by omega), if_pos (by omega)]
  · rw [pk_uLn e]
    unfold kk_th
    by_cases h : j % 5 < x ∨ (j % 5 = x ∧ j / 5 < i)
    · rw [if_pos h, if_pos (by omega)]
    · rw [if_neg h, if_neg (by omega)]
theorem kk_th_next (f : Nat → Int64) {x j : Nat} (hj : j < 25) : kk_th f x 5 j = kk_th f (x + 1) 0 j := by
  unfold kk_th
  by_cases h : j % 5 < x + 1
  · rw [if_pos (by omega), if_pos (Or.inl h)]
  · rw [if_neg (by omega), if_neg (by omega)]
theorem kk_th_0 (f : Nat → Int64) : kk_th f 0 0 = f := by
  funext j
  unfold kk_th
  rw [if_neg (by omega)]
def kk_tt (f : Nat → Int64) (j : Nat) : Int64 := f j ^^^ kk_d f (j % 5)
theorem kk_th_end (f : Nat → Int64) (j : Nat) : kk_th f 5 0 j = kk_tt f j := if_pos (Or.inl (Nat.mod_lt _ (by omega)))
theorem kk_mv_of {f V : Nat → Int64} (h0 : V 0 = kk_tt f 0) (h : ∀ u, u < 24 → V (kk_wt u) = kk_rl (kk_tt f (kk_ws u)) (nI ((u + 1) * (u + 2) / 2 % 64))) : ∀ j, j < 25 → V j = kk_mv f j := by
  intro j hj
  by_cases e : j = 0
  · subst e
    rw [h0]
    show _ = kk_tl (f (kk_sr 0) ^^^ kk_d f (kk_sr 0 % 5)) (nI (kk_tn (kk_sr 0)))
    rw [show kk_sr 0 = 0 from rfl, show kk_tn 0 = 0 from rfl, kk_tl0]
    rfl
  · obtain ⟨h1, h2⟩ := kk_w_ti j hj e
    obtain ⟨a1, a2, -, -, -⟩ := kk_w_st (kk_ti j) h1
    have h3 := h (kk_ti j) h1
    rw [h2, kk_rl_tl _ (Nat.mod_lt _ (by omega))] at h3
    rw [h3]
    show _ = kk_tl (f (kk_sr j) ^^^ kk_d f (kk_sr j % 5)) (nI (kk_tn (kk_sr j)))
    rw [show kk_sr j = kk_ws (kk_ti j) by rw [← a1, h2], a2]
    rfl
theorem kk_bt_n (b : Int32) : (b &&& nI 255).toInt64 = kk_bt b := kk_bt_i b
set_option maxHeartbeats 4000000 in
set_option maxRecDepth 100000 in
theorem kc_rot (l : Launch) (D : va_G) (ct : Nat → ClassId) (ad : Nat → Nat) (F : Int32) (M : Nat → Nat → Int64) (Pl : Nat → Nat) (L C V K : Nat → Int64) (sz : Nat) (v : Int64) (n : Int32) : Met l yJ_rot wsJ_rot ({ frames := 0, cells := 0, slots := 0, locals := 0 }) (kr_P D vwCl (kw_T ct) kw_N [.long v, .int n] (kw_M ct ad F M Pl L C V K) sz) (va_Ql (S := Unit) (fun r _ => r = kk_rl v n) (kr_B D vwCl (kw_T ct) (fun _ => kw_M ct ad F M Pl L C V K) (va_A (kw_M ct ad F M Pl L C V K) sz)) (va_A (kw_M ct ad F M Pl L C V K) sz)) 0 0 (va_A (kw_M ct ad F M Pl L C V K) sz) := by
  refine Met.ofW (cc := cJ_rot) (maxL := 3) (ret := some .long) (by decide) rfl ?_
  intro p e s m args below meth c s₁ B hml hv
  obtain ⟨rfl, hsz, hP, hK, hD0, hB⟩ := hv
  have hx := B.exec
  have hb := B.bytes
  have hr := B.returns
  have hlocks := B.notSynchronized
  subst hsz
  have hD := hD0.self (sz := s.heap.size)
  generalize hAe : va_A (kw_M ct ad F M Pl L C V K) s.heap.size = A at hD hB ⊢
  have hS : va_S A s.heap s.heap [] := va_S.rf
  have hl := lv_entry ([.long v, .int n]) (n := 3) (Nat.le_of_ble_eq_true rfl)
  rw [lg_entry_eq]
  generalize (lg_sl ([.long v, .int n]) ++ List.replicate (3 - (lg_sl ([.long v, .int n])).length) Slot.unset).toArray = ls at hl ⊢
  have hl : lv_has ls 3 [(0, .long v), (2, .int n)] := hl
  refine lv_lload_n hx hb dJ_rot_0 rfl (lv_at hl 0 rfl) ?_
  refine lv_iload_n hx hb dJ_rot_1 rfl (lv_at hl 1 rfl) ?_
  refine lv_lshl hx hb dJ_rot_2 rfl ?_
  refine lv_lload_n hx hb dJ_rot_3 rfl (lv_at hl 0 rfl) ?_
  refine lv_iload_n hx hb dJ_rot_4 rfl (lv_at hl 1 rfl) ?_
  refine lv_ineg hx hb dJ_rot_5 ?_
  refine lv_lushr hx hb dJ_rot_6 rfl ?_
  refine lv_lor hx hb dJ_rot_7 ?_
  exact W.lret hx hb hr (fun t ht hW => ⟨⟨_, (), rfl, rfl, by rw [ht]; exact hP, va_K.moved hW.alike hK, hD⟩, hS.F ht⟩) hS.2.2 dJ_rot_8
set_option maxHeartbeats 4000000 in
set_option maxRecDepth 100000 in
theorem kc_constant (l : Launch) (D : va_G) (tys : List (ClassId × FieldType)) (TB : (Nat → Prop) → State → Heap → Prop) (ws : va_W) (sz : Nat) {i : Nat} (hi24 : i < 24) : Met l yX1_constant wsX1_constant ({ frames := 0, cells := 0, slots := 0, locals := 0 }) (kr_P D vwCl tys TB [.int (nI i)] ws sz) (va_Ql (S := Unit) (fun r _ => r = kk_rc i) (kr_B D vwCl tys (fun _ => ws) (va_A ws sz)) (va_A ws sz)) 0 0 (va_A ws sz) := by
  refine Met.ofW (cc := cX1_constant) (maxL := 7) (ret := some .long) (by decide) rfl ?_
  intro p e s m args below meth c s₁ B hml hv
  obtain ⟨rfl, hsz, hP, hK, hD0, hB⟩ := hv
  have hx := B.exec
  have hb := B.bytes
  have hr := B.returns
  have hlocks := B.notSynchronized
  subst hsz
  have hD := hD0.self (sz := s.heap.size)
  generalize hAe : va_A ws s.heap.size = A at hD hB ⊢
  have hS : va_S A s.heap s.heap [] := va_S.rf
  have hl := lv_entry ([.int (nI i)]) (n := 7) (Nat.le_of_ble_eq_true rfl)
  rw [lg_entry_eq]
  generalize (lg_sl ([.int (nI i)]) ++ List.replicate (7 - (lg_sl ([.int (nI i)])).length) Slot.unset).toArray = ls at hl ⊢
  have hl : lv_has ls 7 [(0, .int (nI i))] := hl
  refine lv_lconst (v := 0) hx hb dX1_constant_0 rfl ?_
  refine lv_lstore_n hx hb dX1_constant_1 rfl hl (Nat.le_of_ble_eq_true rfl) rfl (fun ls hl => ?_)
  have hl : lv_has ls 7 [(1, .long 0), (0, .int (nI i))] := hl
  refine lv_iconst (v := nI 0) hx hb dX1_constant_2 rfl ?_
  refine lv_istore_n hx hb dX1_constant_3 rfl hl (Nat.le_of_ble_eq_true rfl) rfl (fun ls hl => ?_)
  have hl : lv_has ls 7 [(3, .int (nI 0)), (1, .long 0), (0, .int (nI i))] := hl
  have inner : ∀ (Q : State → Prop) (j : Nat), (∀ ls : Array Slot, lv_has ls 7 [(6, .int (nI ((j + 7 * i) % 255))), (5, .int (kk_lf ((j + 7 * i) % 255))), (4, .int (nI ((j + 7 * i) % 255))), (3, .int (nI j)), (1, .long (kk_cs i j)), (0, .int (nI i))] → W p l e (headSpec wsX1_constant ({ frames := 0, cells := 0, slots := 0, locals := 0 })).room s m (([.int (nI i)] : List Value).toArray) below meth c s.heap [] 0 0 Q (F0 m 72 ls [])) → ∀ (n k : Nat) (ls : Array Slot), (j + 7 * i) % 255 - k < n → k ≤ (j + 7 * i) % 255 → lv_has ls 7 [(6, .int (nI k)), (5, .int (kk_lf k)), (4, .int (nI ((j + 7 * i) % 255))), (3, .int (nI j)), (1, .long (kk_cs i j)), (0, .int (nI i))] → W p l e (headSpec wsX1_constant ({ frames := 0, cells := 0, slots := 0, locals := 0 })).room s m (([.int (nI i)] : List Value).toArray) below meth c s.heap [] 0 0 Q (F0 m 28 ls []) := by
    intro Q j hend n
    induction n with
    | zero => intro k ls h; omega
    | succ n ih =>
      intro k ls hn hk hl
      have hT255 : (j + 7 * i) % 255 < 255 := Nat.mod_lt _ (by omega)
      refine lv_iload hx hb dX1_constant_28 (lv_at hl 0 rfl) ?_
      refine lv_iload hx hb dX1_constant_30 (lv_at hl 2 rfl) ?_
      refine kr_icmp_ge (tgt := 72) hx hb (by omega) (by omega) dX1_constant_32 rfl (fun hc => ?_) (fun hc => ?_)
      · obtain rfl : k = (j + 7 * i) % 255 := by omega
        exact hend ls hl
      · have hkt : k < (j + 7 * i) % 255 := hc
        clear hc
        refine lv_iload hx hb dX1_constant_35 (lv_at hl 1 rfl) ?_
        refine lv_iconst (v := nI 1) hx hb dX1_constant_37 rfl ?_
        refine lv_ishl hx hb dX1_constant_38 ?_
        refine lv_istore hx hb dX1_constant_39 hl (Nat.le_of_ble_eq_true rfl) rfl (fun ls hl => ?_)
        have hl : lv_has ls 7 [(5, .int ((kk_lf k) <<< ((nI 1) &&& 31))), (6, .int (nI k)), (4, .int (nI ((j + 7 * i) % 255))), (3, .int (nI j)), (1, .long (kk_cs i j)), (0, .int (nI i))] := hl
        refine lv_iload hx hb dX1_constant_41 (lv_at hl 0 rfl) ?_
        refine lv_sipush (v := nI 256) hx hb dX1_constant_43 (by decide +kernel) ?_
        refine lv_iand hx hb dX1_constant_46 ?_
        refine lv_if_eq (tgt := 58) hx hb dX1_constant_47 rfl (fun hc => ?_) (fun hc => ?_)
        · have e9 : kk_lf (k + 1) = (((kk_lf k) <<< ((nI 1) &&& 31)) &&& nI 255) := congrArg (fun z => z &&& (255 : Int32)) (if_pos hc)
          refine lv_iload hx hb dX1_constant_58 (lv_at hl 0 rfl) ?_
          refine lv_sipush (v := nI 255) hx hb dX1_constant_60 (by decide +kernel) ?_
          refine lv_iand hx hb dX1_constant_63 ?_
          refine lv_istore hx hb dX1_constant_64 hl (Nat.le_of_ble_eq_true rfl) rfl (fun ls hl => ?_)
          have hl : lv_has ls 7 [(5, .int (((kk_lf k) <<< ((nI 1) &&& 31)) &&& (nI 255))), (6, .int (nI k)), (4, .int (nI ((j + 7 * i) % 255))), (3, .int (nI j)), (1, .long (kk_cs i j)), (0, .int (nI i))] := hl
          refine lv_iinc (k := 1) (v := nI (k + 1)) hx hb dX1_constant_66 hl rfl (nI_add k 1) (Nat.le_of_ble_eq_true rfl) rfl (fun ls hl => ?_)
          have hl : lv_has ls 7 [(6, .int (nI (k + 1))), (5, .int (((kk_lf k) <<< ((nI 1) &&& 31)) &&& (nI 255))), (4, .int (nI ((j + 7 * i) % 255))), (3, .int (nI j)), (1, .long (kk_cs i j)), (0, .int (nI i))] := hl
          refine lv_goto (tgt := 28) hx hb dX1_constant_69 rfl ?_
          exact ih (k + 1) ls (by omega) (by omega) (by rw [e9]; exact lv_sub hl [0, 1, 2, 3, 4, 5] rfl)
        · have e9 : kk_lf (k + 1) = ((((kk_lf k) <<< ((nI 1) &&& 31)) ^^^ nI 369) &&& nI 255) := congrArg (fun z => z &&& (255 : Int32)) (if_neg hc)
          refine lv_iload hx hb dX1_constant_50 (lv_at hl 0 rfl) ?_
          refine lv_sipush (v := nI 369) hx hb dX1_constant_52 (by decide +kernel) ?_
          refine lv_ixor hx hb dX1_constant_55 ?_
          refine lv_istore hx hb dX1_constant_56 hl (Nat.le_of_ble_eq_true rfl) rfl (fun ls hl => ?_)
          have hl : lv_has ls 7 [(5, .int (((kk_lf k) <<< ((nI 1) &&& 31)) ^^^ (nI 369))), (6, .int (nI k)), (4, .int (nI ((j + 7 * i) % 255))), (3, .int (nI j)), (1, .long (kk_cs i j)), (0, .int (nI i))] := hl
          refine lv_iload hx hb dX1_constant_58 (lv_at hl 0 rfl) ?_
          refine lv_sipush (v := nI 255) hx hb dX1_constant_60 (by decide +kernel) ?_
          refine lv_iand hx hb dX1_constant_63 ?_
          refine lv_istore hx hb dX1_constant_64 hl (Nat.le_of_ble_eq_true rfl) rfl (fun ls hl => ?_)
          have hl : lv_has ls 7 [(5, .int ((((kk_lf k) <<< ((nI 1) &&& 31)) ^^^ (nI 369)) &&& (nI 255))), (6, .int (nI k)), (4, .int (nI ((j + 7 * i) % 255))), (3, .int (nI j)), (1, .long (kk_cs i j)), (0, .int (nI i))] := hl
          refine lv_iinc (k := 1) (v := nI (k + 1)) hx hb dX1_constant_66 hl rfl (nI_add k 1) (Nat.le_of_ble_eq_true rfl) rfl (fun ls hl => ?_)
          have hl : lv_has ls 7 [(6, .int (nI (k + 1))), (5, .int ((((kk_lf k) <<< ((nI 1) &&& 31)) ^^^ (nI 369)) &&& (nI 255))), (4, .int (nI ((j + 7 * i) % 255))), (3, .int (nI j)), (1, .long (kk_cs i j)), (0, .int (nI i))] := hl
          refine lv_goto (tgt := 28) hx hb dX1_constant_69 rfl ?_
          exact ih (k + 1) ls (by omega) (by omega) (by rw [e9]; exact lv_sub hl [0, 1, 2, 3, 4, 5] rfl)
  have outer : ∀ (Q : State → Prop), (∀ ls : Array Slot, lv_has ls 7 [(3, .int (nI 7)), (1, .long (kk_cs i 7)), (0, .int (nI i))] → W p l e (headSpec wsX1_constant ({ frames := 0, cells := 0, slots := 0, locals := 0 })).room s m (([.int (nI i)] : List Value).toArray) below meth c s.heap [] 0 0 Q (F0 m 95 ls [])) → ∀ (n j : Nat) (ls : Array Slot), 7 - j < n → j ≤ 7 → lv_has ls 7 [(3, .int (nI j)), (1, .long (kk_cs i j)), (0, .int (nI i))] → W p l e (headSpec wsX1_constant ({ frames := 0, cells := 0, slots := 0, locals := 0 })).room s m (([.int (nI i)] : List Value).toArray) below meth c s.heap [] 0 0 Q (F0 m 4 ls []) := by
    intro Q hend n
    induction n with
    | zero => intro j ls h; omega
    | succ n ih =>
      intro j ls hn hj hl
      refine lv_iload_n hx hb dX1_constant_4 rfl (lv_at hl 0 rfl) ?_
      refine lv_bipush (v := nI 7) hx hb dX1_constant_5 (by decide +kernel) ?_
      refine kr_icmp_ge (tgt := 95) hx hb (by omega) (by omega) dX1_constant_7 rfl (fun hc => ?_) (fun hc => ?_)
      · obtain rfl : j = 7 := by omega
        exact hend ls hl
      · have hj7 : j < 7 := hc
        clear hc
        refine lv_iload_n hx hb dX1_constant_10 rfl (lv_at hl 0 rfl) ?_
        refine lv_bipush (v := nI 7) hx hb dX1_constant_11 (by decide +kernel) ?_
        refine lv_iload_n hx hb dX1_constant_13 rfl (lv_at hl 2 rfl) ?_
        refine kr_imul hx hb dX1_constant_14 ?_
        refine kr_iadd hx hb dX1_constant_15 ?_
        refine lv_sipush (v := nI 255) hx hb dX1_constant_16 (by decide +kernel) ?_
        refine kr_irem hx hb (by omega) (by omega) (by omega) dX1_constant_19 ?_
        refine lv_istore hx hb dX1_constant_20 hl (Nat.le_of_ble_eq_true rfl) rfl (fun ls hl => ?_)
        have hl : lv_has ls 7 [(4, .int (nI ((j + (7 * i)) % 255))), (3, .int (nI j)), (1, .long (kk_cs i j)), (0, .int (nI i))] := hl
        refine lv_iconst (v := nI 1) hx hb dX1_constant_22 rfl ?_
        refine lv_istore hx hb dX1_constant_23 hl (Nat.le_of_ble_eq_true rfl) rfl (fun ls hl => ?_)
        have hl : lv_has ls 7 [(5, .int (nI 1)), (4, .int (nI ((j + (7 * i)) % 255))), (3, .int (nI j)), (1, .long (kk_cs i j)), (0, .int (nI i))] := hl
        refine lv_iconst (v := nI 0) hx hb dX1_constant_25 rfl ?_
        refine lv_istore hx hb dX1_constant_26 hl (Nat.le_of_ble_eq_true rfl) rfl (fun ls hl => ?_)
        have hl : lv_has ls 7 [(6, .int (nI 0)), (5, .int (nI 1)), (4, .int (nI ((j + (7 * i)) % 255))), (3, .int (nI j)), (1, .long (kk_cs i j)), (0, .int (nI i))] := hl
        have hT255 : (j + 7 * i) % 255 < 255 := Nat.mod_lt _ (by omega)
        have hl : lv_has ls 7 [(6, .int (nI 0)), (5, .int (kk_lf 0)), (4, .int (nI ((j + 7 * i) % 255))), (3, .int (nI j)), (1, .long (kk_cs i j)), (0, .int (nI i))] := lv_sub hl [0, 1, 2, 3, 4, 5] rfl
        refine inner Q j (fun ls hl => ?_) 256 0 ls (by omega) (by omega) hl
        refine lv_iload hx hb dX1_constant_72 (lv_at hl 1 rfl) ?_
        refine lv_iconst (v := nI 1) hx hb dX1_constant_74 rfl ?_
        refine lv_iand hx hb dX1_constant_75 ?_
        refine lv_if_eq (tgt := 89) hx hb dX1_constant_76 rfl (fun hc => ?_) (fun hc => ?_)
        · have e9 : kk_cs i (j + 1) = kk_cs i j := if_pos hc
          refine lv_iinc (k := 3) (v := nI (j + 1)) hx hb dX1_constant_89 hl rfl (nI_add j 1) (Nat.le_of_ble_eq_true rfl) rfl (fun ls hl => ?_)
          have hl : lv_has ls 7 [(3, .int (nI (j + 1))), (6, .int (nI ((j + 7 * i) % 255))), (5, .int (kk_lf ((j + 7 * i) % 255))), (4, .int (nI ((j + 7 * i) % 255))), (1, .long (kk_cs i j)), (0, .int (nI i))] := hl
          refine lv_goto (tgt := 4) hx hb dX1_constant_92 rfl ?_
          exact ih (j + 1) ls (by omega) (by omega) (by rw [e9]; exact lv_sub hl [0, 4, 5] rfl)
        · have hc9 := hc
          refine lv_lload_n hx hb dX1_constant_79 rfl (lv_at hl 4 rfl) ?_
          refine lv_lconst (v := 1) hx hb dX1_constant_80 rfl ?_
          refine lv_iconst (v := nI 1) hx hb dX1_constant_81 rfl ?_
          refine lv_iload_n hx hb dX1_constant_82 rfl (lv_at hl 3 rfl) ?_
          refine lv_ishl hx hb dX1_constant_83 ?_
          refine lv_iconst (v := nI 1) hx hb dX1_constant_84 rfl ?_
          refine lv_isub hx hb dX1_constant_85 ?_
          refine lv_lshl hx hb dX1_constant_86 rfl ?_
          refine lv_lor hx hb dX1_constant_87 ?_
          refine lv_lstore_n hx hb dX1_constant_88 rfl hl (Nat.le_of_ble_eq_true rfl) rfl (fun ls hl => ?_)
          have hl : lv_has ls 7 [(1, .long ((kk_cs i j) ||| (1 <<< ((((nI 1) <<< ((nI j) &&& 31)) - (nI 1)).toInt64 &&& 63)))), (6, .int (nI ((j + 7 * i) % 255))), (5, .int (kk_lf ((j + 7 * i) % 255))), (4, .int (nI ((j + 7 * i) % 255))), (3, .int (nI j)), (0, .int (nI i))] := hl
          refine lv_iinc (k := 4) (v := nI (j + 1)) hx hb dX1_constant_89 hl rfl (nI_add j 1) (Nat.le_of_ble_eq_true rfl) rfl (fun ls hl => ?_)
          have hl : lv_has ls 7 [(3, .int (nI (j + 1))), (1, .long ((kk_cs i j) ||| (1 <<< ((((nI 1) <<< ((nI j) &&& 31)) - (nI 1)).toInt64 &&& 63)))), (6, .int (nI ((j + 7 * i) % 255))), (5, .int (kk_lf ((j + 7 * i) % 255))), (4, .int (nI ((j + 7 * i) % 255))), (0, .int (nI i))] := hl
          refine lv_goto (tgt := 4) hx hb dX1_constant_92 rfl ?_
          have e8 : kk_cs i (j + 1) = (kk_cs i j) ||| (1 <<< ((((nI 1) <<< ((nI j) &&& 31)) - (nI 1)).toInt64 &&& 63)) := if_neg hc9
          exact ih (j + 1) ls (by omega) (by omega) (by rw [e8]; exact lv_sub hl [0, 1, 5] rfl)
  refine outer _ (fun ls hl => ?_) 8 0 ls (by omega) (by omega) hl
  refine lv_lload_n hx hb dX1_constant_95 rfl (lv_at hl 1 rfl) ?_
  exact W.lret hx hb hr (fun t ht hW => ⟨⟨_, (), rfl, kk_cs_rc i hi24, by rw [ht]; exact hP, va_K.moved hW.alike hK, hD⟩, hS.F ht⟩) hS.2.2 dX1_constant_96
set_option maxHeartbeats 4000000 in
set_option maxRecDepth 100000 in
theorem km_out (l : Launch) (D : va_G) (ct : Nat → ClassId) (ad : Nat → Nat) (F : Int32) (M : Nat → Nat → Int64) (Pl : Nat → Nat) (L C V K : Nat → Int64) (sz : Nat) {a : Nat} (ha : a ≤ 7) : Met l yX1_out wsM_out ({ frames := 0, cells := 0, slots := 0, locals := 0 }) (kr_P D vwCl (kw_T ct) kw_N [.ref (ad 0), .int (nI a)] (kw_M ct ad F M Pl L C V K) sz) (va_Qi (S := Unit) (fun r _ => r = nI 0) (kr_B D vwCl (kw_T ct) (fun _ => kw_M ct ad F M Pl L C V K) (va_A (kw_M ct ad F M Pl L C V K) sz)) (va_A (kw_M ct ad F M Pl L C V K) sz)) 0 0 (va_A (kw_M ct ad F M Pl L C V K) sz) := by
  refine Met.ofW (cc := cX1_out) (maxL := 2) (ret := (some .boolean)) (by decide) rfl ?_
  intro p e s m args below meth c s₁ B hml hv
  obtain ⟨rfl, hsz, hP, hK, hD0, hB⟩ := hv
  have hx := B.exec
  have hb := B.bytes
  have hr := B.returns
  have hts := atoms_spec (ws := wsM_out) B.pre
  have hown : s.vm.findClass RX1 = some m.cls := findClass_of_methodNamed B.named
  have hlocks := B.notSynchronized
  have hin : ∀ w ∈ u_ws RX1 TX1 7, w ∈ wsM_out := fun w h => List.mem_cons_of_mem _ (kM_in w h)
  subst hsz
  have hD := hD0.self (sz := s.heap.size)
  generalize hAe : va_A (kw_M ct ad F M Pl L C V K) s.heap.size = A at hD hB ⊢
  have hA : ∀ q : Nat, s.heap.size ≤ q → A q := fun q h => by rw [← hAe]; exact Or.inr h
  have hS : va_S A s.heap s.heap [] := va_S.rf
  have hl := lv_entry ([.ref (ad 0), .int (nI a)]) (n := 2) (Nat.le_of_ble_eq_true rfl)
  rw [lg_entry_eq]
  generalize (lg_sl ([.ref (ad 0), .int (nI a)]) ++ List.replicate (2 - (lg_sl ([.ref (ad 0), .int (nI a)])).length) Slot.unset).toArray = ls at hl ⊢
  have hl : lv_has ls 2 [(0, .ref (ad 0)), (1, .int (nI a))] := hl
  refine lv_iload_n hx hb dX1_out_0 rfl (lv_at hl 1 rfl) ?_
  refine lv_if_lt (tgt := 10) hx hb dX1_out_1 rfl (fun hc => ?_) (fun hc => ?_)
  · exact absurd hc (nI_pos (by omega))
  · clear hc
    refine lv_iload_n hx hb dX1_out_4 rfl (lv_at hl 1 rfl) ?_
    refine lv_bipush (v := nI 7) hx hb dX1_out_5 (by decide +kernel) ?_
    refine kr_icmp_le (tgt := 14) hx hb (by omega) (by omega) dX1_out_7 rfl (fun hc => ?_) (fun hc => ?_)
    · clear hc
      refine lv_iconst (v := nI 0) hx hb dX1_out_14 rfl ?_
      exact W.zret (ty := .boolean) hx hb hr rfl (fun t ht hW => ⟨⟨_, (), rfl, rfl, by rw [ht]; exact hP, va_K.moved hW.alike hK, hD⟩, hS.F ht⟩) hS.2.2 dX1_out_15
    · omega
set_option maxHeartbeats 4000000 in
set_option maxRecDepth 100000 in
theorem km_out1 (l : Launch) (D : va_G) (ct : Nat → ClassId) (ad : Nat → Nat) (F : Int32) (M : Nat → Nat → Int64) (Pl : Nat → Nat) (L C V K : Nat → Int64) (sz : Nat) (x : Int32) (hbad : x < 0 ∨ ¬ x ≤ nI 7) : Met l yX1_out wsM_out ({ frames := 0, cells := 0, slots := 0, locals := 0 }) (kr_P D vwCl (kw_T ct) kw_N [.ref (ad 0), .int x] (kw_M ct ad F M Pl L C V K) sz) (va_Qi (S := Unit) (fun r _ => r = nI 1) (kr_B D vwCl (kw_T ct) (fun _ => kw_M ct ad F M Pl L C V K) (va_A (kw_M ct ad F M Pl L C V K) sz)) (va_A (kw_M ct ad F M Pl L C V K) sz)) 0 0 (va_A (kw_M ct ad F M Pl L C V K) sz) := by
  refine Met.ofW (cc := cX1_out) (maxL := 2) (ret := (some .boolean)) (by decide) rfl ?_
  intro p e s m args below meth c s₁ B hml hv
  obtain ⟨rfl, hsz, hP, hK, hD0, hB⟩ := hv
  have hx := B.exec
  have hb := B.bytes
  have hr := B.returns
  have hts := atoms_spec (ws := wsM_out) B.pre
  have hown : s.vm.findClass RX1 = some m.cls := findClass_of_methodNamed B.named
  have hlocks := B.notSynchronized
  have hin : ∀ w ∈ u_ws RX1 TX1 7, w ∈ wsM_out := fun w h => List.mem_cons_of_mem _ (kM_in w h)
  subst hsz
  have hD := hD0.self (sz := s.heap.size)
  generalize hAe : va_A (kw_M ct ad F M Pl L C V K) s.heap.size = A at hD hB ⊢
  have hA : ∀ q : Nat, s.heap.size ≤ q → A q := fun q h => by rw [← hAe]; exact Or.inr h
  have hS : va_S A s.heap s.heap [] := va_S.rf
  have hl := lv_entry ([.ref (ad 0), .int x]) (n := 2) (Nat.le_of_ble_eq_true rfl)
  rw [lg_entry_eq]
  generalize (lg_sl ([.ref (ad 0), .int x]) ++ List.replicate (2 - (lg_sl ([.ref (ad 0), .int x])).length) Slot.unset).toArray = ls at hl ⊢
  have hl : lv_has ls 2 [(0, .ref (ad 0)), (1, .int x)] := hl
  refine lv_iload_n hx hb dX1_out_0 rfl (lv_at hl 1 rfl) ?_
  refine lv_if_lt (tgt := 10) hx hb dX1_out_1 rfl (fun hc => ?_) (fun hc => ?_)
  · clear hc
    refine lv_iconst (v := nI 1) hx hb dX1_out_10 rfl ?_
    refine lv_goto (tgt := 15) hx hb dX1_out_11 rfl ?_
    exact W.zret (ty := .boolean) hx hb hr rfl (fun t ht hW => ⟨⟨_, (), rfl, rfl, by rw [ht]; exact hP, va_K.moved hW.alike hK, hD⟩, hS.F ht⟩) hS.2.2 dX1_out_15
  · have hc0 := hc
    refine lv_iload_n hx hb dX1_out_4 rfl (lv_at hl 1 rfl) ?_
    refine lv_bipush (v := nI 7) hx hb dX1_out_5 (by decide +kernel) ?_
    refine lv_icmp_le (tgt := 14) hx hb dX1_out_7 rfl (fun hc => ?_) (fun hc => ?_)
    · exact absurd hbad (fun h => h.elim hc0 (fun h => h hc))
    · clear hc
      refine lv_iconst (v := nI 1) hx hb dX1_out_10 rfl ?_
      refine lv_goto (tgt := 15) hx hb dX1_out_11 rfl ?_
      exact W.zret (ty := .boolean) hx hb hr rfl (fun t ht hW => ⟨⟨_, (), rfl, rfl, by rw [ht]; exact hP, va_K.moved hW.alike hK, hD⟩, hS.F ht⟩) hS.2.2 dX1_out_15
set_option maxHeartbeats 4000000 in
set_option maxRecDepth 100000 in
theorem km_fail (l : Launch) (D : va_G) (ct : Nat → ClassId) (ad : Nat → Nat) (F : Int32) (M : Nat → Nat → Int64) (Pl : Nat → Nat) (L C V K : Nat → Int64) (sz : Nat)  : Met l yX1_fail wsM_fail ({ frames := 0, cells := 0, slots := 0, locals := 0 }) (kr_P D vwCl (kw_T ct) kw_N [.ref (ad 0), .int (nI 1)] (kw_M ct ad F M Pl L C V K) sz) (va_Qi (S := Unit) (fun r _ => r = nI 0) (kr_B D vwCl (kw_T ct) (fun _ => kw_M ct ad (nI 1) M Pl L C V K) (va_A (kw_M ct ad F M Pl L C V K) sz)) (va_A (kw_M ct ad F M Pl L C V K) sz)) 0 0 (va_A (kw_M ct ad F M Pl L C V K) sz) := by
  refine Met.ofW (cc := cX1_fail) (maxL := 2) (ret := (some .int)) (by decide) rfl ?_
  intro p e s m args below meth c s₁ B hml hv
  obtain ⟨rfl, hsz, hP, hK, hD0, hB⟩ := hv
  have hx := B.exec
  have hb := B.bytes
  have hr := B.returns
  have hts := atoms_spec (ws := wsM_fail) B.pre
  have hown : s.vm.findClass RX1 = some m.cls := findClass_of_methodNamed B.named
  have hlocks := B.notSynchronized
  have hin : ∀ w ∈ u_ws RX1 TX1 7, w ∈ wsM_fail := fun w h => List.mem_cons_of_mem _ (kM_in w h)
  subst hsz
  have hD := hD0.self (sz := s.heap.size)
  generalize hAe : va_A (kw_M ct ad F M Pl L C V K) s.heap.size = A at hD hB ⊢
  have hA : ∀ q : Nat, s.heap.size ≤ q → A q := fun q h => by rw [← hAe]; exact Or.inr h
  have hS : va_S A s.heap s.heap [] := va_S.rf
  have hl := lv_entry ([.ref (ad 0), .int (nI 1)]) (n := 2) (Nat.le_of_ble_eq_true rfl)
  rw [lg_entry_eq]
  generalize (lg_sl ([.ref (ad 0), .int (nI 1)]) ++ List.replicate (2 - (lg_sl ([.ref (ad 0), .int (nI 1)])).length) Slot.unset).toArray = ls at hl ⊢
  have hl : lv_has ls 2 [(0, .ref (ad 0)), (1, .int (nI 1))] := hl
  refine lv_aload_n hx hb dX1_fail_0 rfl (lv_at hl 0 rfl) ?_
  refine lv_iload_n hx hb dX1_fail_1 rfl (lv_at hl 1 rfl) ?_
  refine va_put (ci := 1) (v := .int (nI 1)) (ty := .int) (C := RX1) (T := TX1) (N := 7) hx hb hts hin tyX1 tyX1_ok nmX1 hown hK hP hD hS 0 rfl rfl 0 (by decide) (hts (.fieldLink RX1 43 "KeccakLanesModel" "failed" "I") (by decide +kernel)) (fun _ h9 => h9) rfl (by decide +kernel) rfl rfl (Nat.le_of_ble_eq_true rfl) dX1_fail_2 (fun H locs hP hD hS => ?_)
  have hP : va_P D vwCl (kw_M ct ad (nI 1) M Pl L C V K) H := hP
  have hD : va_D A (kw_M ct ad (nI 1) M Pl L C V K) := hD
  refine lv_iconst (v := nI 0) hx hb dX1_fail_5 rfl ?_
  exact W.iret hx hb hr (fun t ht hW => ⟨⟨_, (), rfl, rfl, by rw [ht]; exact hP, va_K.moved hW.alike hK, hD⟩, hS.F ht⟩) hS.2.2 dX1_fail_6
set_option maxHeartbeats 4000000 in
set_option maxRecDepth 100000 in
theorem km_thrown (l : Launch) (D : va_G) (ct : Nat → ClassId) (ad : Nat → Nat) (F : Int32) (M : Nat → Nat → Int64) (Pl : Nat → Nat) (L C V K : Nat → Int64) (sz : Nat)  : Met l yX1_thrown wsM_thrown ({ frames := 0, cells := 0, slots := 0, locals := 0 }) (kr_P D vwCl (kw_T ct) kw_N [.ref (ad 0)] (kw_M ct ad F M Pl L C V K) sz) (va_Qi (S := Unit) (fun r _ => r = F) (kr_B D vwCl (kw_T ct) (fun _ => kw_M ct ad F M Pl L C V K) (va_A (kw_M ct ad F M Pl L C V K) sz)) (va_A (kw_M ct ad F M Pl L C V K) sz)) 0 0 (va_A (kw_M ct ad F M Pl L C V K) sz) := by
  refine Met.ofW (cc := cX1_thrown) (maxL := 1) (ret := (some .int)) (by decide) rfl ?_
  intro p e s m args below meth c s₁ B hml hv
  obtain ⟨rfl, hsz, hP, hK, hD0, hB⟩ := hv
  have hx := B.exec
  have hb := B.bytes
  have hr := B.returns
  have hts := atoms_spec (ws := wsM_thrown) B.pre
  have hown : s.vm.findClass RX1 = some m.cls := findClass_of_methodNamed B.named
  have hlocks := B.notSynchronized
  have hin : ∀ w ∈ u_ws RX1 TX1 7, w ∈ wsM_thrown := fun w h => List.mem_cons_of_mem _ (kM_in w h)
  subst hsz
  have hD := hD0.self (sz := s.heap.size)
  generalize hAe : va_A (kw_M ct ad F M Pl L C V K) s.heap.size = A at hD hB ⊢
  have hA : ∀ q : Nat, s.heap.size ≤ q → A q := fun q h => by rw [← hAe]; exact Or.inr h
  have hS : va_S A s.heap s.heap [] := va_S.rf
  have hl := lv_entry ([.ref (ad 0)]) (n := 1) (Nat.le_of_ble_eq_true rfl)
  rw [lg_entry_eq]
  generalize (lg_sl ([.ref (ad 0)]) ++ List.replicate (1 - (lg_sl ([.ref (ad 0)])).length) Slot.unset).toArray = ls at hl ⊢
  have hl : lv_has ls 1 [(0, .ref (ad 0))] := hl
  refine lv_aload_n hx hb dX1_thrown_0 rfl (lv_at hl 0 rfl) ?_
  refine va_get hx hb hts hin hown hK hP 0 rfl rfl 0 (by decide) (hts (.fieldLink RX1 43 "KeccakLanesModel" "failed" "I") (by decide +kernel)) (fun _ h => h) rfl dX1_thrown_1 ?_
  exact W.iret hx hb hr (fun t ht hW => ⟨⟨_, (), rfl, rfl, by rw [ht]; exact hP, va_K.moved hW.alike hK, hD⟩, hS.F ht⟩) hS.2.2 dX1_thrown_4
set_option maxHeartbeats 4000000 in
set_option maxRecDepth 100000 in
theorem km_get (l : Launch) (D : va_G) (ct : Nat → ClassId) (ad : Nat → Nat) (F : Int32) (M : Nat → Nat → Int64) (Pl : Nat → Nat) (L C V K : Nat → Int64) (sz : Nat) {k : Nat} (hk : k < 8) : Met l yX1_get wsM_get ({ frames := 0, cells := 0, slots := 0, locals := 0 }) (kr_P D vwCl (kw_T ct) kw_N [.ref (ad 0), .int (nI k)] (kw_M ct ad F M Pl L C V K) sz) (va_Qv (S := Unit) (fun _ => True) (kr_B D vwCl (kw_T ct) (fun _ => kw_M ct ad F M Pl (M k) C V K) (va_A (kw_M ct ad F M Pl L C V K) sz)) (va_A (kw_M ct ad F M Pl L C V K) sz)) 0 0 (va_A (kw_M ct ad F M Pl L C V K) sz) := by
  refine Met.ofW (cc := cX1_get) (maxL := 3) (ret := none) (by decide) rfl ?_
  intro p e s m args below meth c s₁ B hml hv
  obtain ⟨rfl, hsz, hP, hK, hD0, hB⟩ := hv
  have hx := B.exec
  have hb := B.bytes
  have hr := B.returns
  have hts := atoms_spec (ws := wsM_get) B.pre
  have hown : s.vm.findClass RX1 = some m.cls := findClass_of_methodNamed B.named
  have hlocks := B.notSynchronized
  have hin : ∀ w ∈ u_ws RX1 TX1 7, w ∈ wsM_get := fun w h => List.mem_cons_of_mem _ (kM_in w h)
  subst hsz
  have hD := hD0.self (sz := s.heap.size)
  generalize hAe : va_A (kw_M ct ad F M Pl L C V K) s.heap.size = A at hD hB ⊢
  have hA : ∀ q : Nat, s.heap.size ≤ q → A q := fun q h => by rw [← hAe]; exact Or.inr h
  have hS : va_S A s.heap s.heap [] := va_S.rf
  have hl := lv_entry ([.ref (ad 0), .int (nI k)]) (n := 3) (Nat.le_of_ble_eq_true rfl)
  rw [lg_entry_eq]
  generalize (lg_sl ([.ref (ad 0), .int (nI k)]) ++ List.replicate (3 - (lg_sl ([.ref (ad 0), .int (nI k)])).length) Slot.unset).toArray = ls at hl ⊢
  have hl : lv_has ls 3 [(0, .ref (ad 0)), (1, .int (nI k))] := hl
  have loop : ∀ (Q : State → Prop), (∀ (L : Nat → Int64) (H : Heap) (locs : List Loc) (ls : Array Slot), (∀ u, u < 25 → L u = M k u) → lv_has ls 3 [(2, .int (nI 25)), (0, .ref (ad 0)), (1, .int (nI k))] → va_P D vwCl (kw_M ct ad F M Pl L C V K) H → va_D A (kw_M ct ad F M Pl L C V K) → va_S A s.heap H locs → W p l e (headSpec wsM_get ({ frames := 0, cells := 0, slots := 0, locals := 0 })).room s m (([.ref (ad 0), .int (nI k)] : List Value).toArray) below meth c H locs 0 0 Q (F0 m 28 ls [])) → ∀ (n i : Nat) (L : Nat → Int64) (H : Heap) (locs : List Loc) (ls : Array Slot), 25 - i < n → i ≤ 25 → (∀ u, u < i → L u = M k u) → lv_has ls 3 [(2, .int (nI i)), (0, .ref (ad 0)), (1, .int (nI k))] → va_P D vwCl (kw_M ct ad F M Pl L C V K) H → va_D A (kw_M ct ad F M Pl L C V K) → va_S A s.heap H locs → W p l e (headSpec wsM_get ({ frames := 0, cells := 0, slots := 0, locals := 0 })).room s m (([.ref (ad 0), .int (nI k)] : List Value).toArray) below meth c H locs 0 0 Q (F0 m 2 ls []) := by
    intro Q hend n
    induction n with
    | zero => intro i L H locs ls h; omega
    | succ n ih =>
      intro i L H locs ls hn hi hinv hl hP hD hS
      refine lv_iload_n hx hb dX1_get_2 rfl (lv_at hl 0 rfl) ?_
      refine lv_bipush (v := nI 25) hx hb dX1_get_3 (by decide +kernel) ?_
      refine kr_icmp_ge (tgt := 28) hx hb (by omega) (by omega) dX1_get_5 rfl (fun hc => ?_) (fun hc => ?_)
      · obtain rfl : i = 25 := by omega
        exact hend L H locs ls hinv hl hP hD hS
      · have hi25 : i < 25 := by omega
        refine lv_aload_n hx hb dX1_get_8 rfl (lv_at hl 1 rfl) ?_
        refine va_get hx hb hts hin hown hK hP 0 rfl rfl 3 (by decide) (hts (.fieldLink RX1 7 "KeccakLanesModel" "lanes" "[J") (by decide +kernel)) (fun _ h => h) rfl dX1_get_9 ?_
        refine lv_iload_n hx hb dX1_get_12 rfl (lv_at hl 0 rfl) ?_
        refine lv_aload_n hx hb dX1_get_13 rfl (lv_at hl 1 rfl) ?_
        refine va_get hx hb hts hin hown hK hP 0 rfl rfl 1 (by decide) (hts (.fieldLink RX1 32 "KeccakLanesModel" "states" "[[J") (by decide +kernel)) (fun _ h => h) rfl dX1_get_14 ?_
        refine lv_iload_n hx hb dX1_get_17 rfl (lv_at hl 2 rfl) ?_
        refine kr_aald hx hb hK hP 1 0 rfl rfl (n := k) (y := ad (7 + k)) (by omega) (by omega) (if_pos (by omega)) dX1_get_18 ?_
        refine lv_iload_n hx hb dX1_get_19 rfl (lv_at hl 0 rfl) ?_
        refine kr_lald hx hb hK hP (7 + k) 2 (kw_Mrow ct ad F M Pl L C V K hk) rfl (n := i) (by omega) (by omega) dX1_get_20 ?_
        refine kr_last (w := kw_M ct ad F M Pl (vp_updL L i ((M k) i)) C V K) hx hb hK hP hD hS 3 2 rfl rfl (n := i) (by omega) (by omega) rfl dX1_get_21 (fun H locs hP hD hS => ?_)
        refine lv_iinc (k := 0) (v := nI (i + 1)) hx hb dX1_get_22 hl rfl (nI_add i 1) (Nat.le_of_ble_eq_true rfl) rfl (fun ls hl => ?_)
        have hl : lv_has ls 3 [(2, .int (nI (i + 1))), (0, .ref (ad 0)), (1, .int (nI k))] := hl
        refine lv_goto (tgt := 2) hx hb dX1_get_25 rfl ?_
        refine ih (i + 1) _ H locs ls (by omega) (by omega) (fun u hu => ?_) hl hP hD hS
        by_cases e9 : u = i
        · subst e9; rw [pk_uLs]
        · rw [pk_uLn e9]; exact hinv u (by omega)
  refine lv_iconst (v := nI 0) hx hb dX1_get_0 rfl ?_
  refine lv_istore_n hx hb dX1_get_1 rfl hl (Nat.le_of_ble_eq_true rfl) rfl (fun ls hl => ?_)
  have hl : lv_has ls 3 [(2, .int (nI 0)), (0, .ref (ad 0)), (1, .int (nI k))] := hl
  refine loop _ (fun L9 H locs ls hinv hl hP hD hS => ?_) 26 0 L s.heap [] ls (by omega) (by omega) (fun u hu => absurd hu (by omega)) hl hP hD hS
  have hP : va_P D vwCl (kw_M ct ad F M Pl (M k) C V K) H := kr_sameL (q0 := 3) hP rfl hinv rfl
  have hD : va_D A (kw_M ct ad F M Pl (M k) C V K) := kr_sameD (q0 := 3) hD rfl rfl
  exact W.vret hx hb hr (fun t ht hW => ⟨⟨(), rfl, trivial, by rw [ht]; exact hP, va_K.moved hW.alike hK, hD⟩, hS.F ht⟩) hS.2.2 dX1_get_28
set_option maxHeartbeats 4000000 in
set_option maxRecDepth 100000 in
theorem km_put (l : Launch) (D : va_G) (ct : Nat → ClassId) (ad : Nat → Nat) (F : Int32) (M : Nat → Nat → Int64) (Pl : Nat → Nat) (L C V K : Nat → Int64) (sz : Nat) {k : Nat} (hk : k < 8) : Met l yX1_put wsM_put ({ frames := 0, cells := 0, slots := 0, locals := 0 }) (kr_P D vwCl (kw_T ct) kw_N [.ref (ad 0), .int (nI k)] (kw_M ct ad F M Pl L C V K) sz) (va_Qv (S := Unit) (fun _ => True) (kr_B D vwCl (kw_T ct) (fun _ => kw_M ct ad F (va_up M k L) Pl L C V K) (va_A (kw_M ct ad F M Pl L C V K) sz)) (va_A (kw_M ct ad F M Pl L C V K) sz)) 0 0 (va_A (kw_M ct ad F M Pl L C V K) sz) := by
  refine Met.ofW (cc := cX1_put) (maxL := 3) (ret := none) (by decide) rfl ?_
  intro p e s m args below meth c s₁ B hml hv
  obtain ⟨rfl, hsz, hP, hK, hD0, hB⟩ := hv
  have hx := B.exec
  have hb := B.bytes
  have hr := B.returns
  have hts := atoms_spec (ws := wsM_put) B.pre
  have hown : s.vm.findClass RX1 = some m.cls := findClass_of_methodNamed B.named
  have hlocks := B.notSynchronized
  have hin : ∀ w ∈ u_ws RX1 TX1 7, w ∈ wsM_put := fun w h => List.mem_cons_of_mem _ (kM_in w h)
  subst hsz
  have hD := hD0.self (sz := s.heap.size)
  generalize hAe : va_A (kw_M ct ad F M Pl L C V K) s.heap.size = A at hD hB ⊢
  have hA : ∀ q : Nat, s.heap.size ≤ q → A q := fun q h => by rw [← hAe]; exact Or.inr h
  have hS : va_S A s.heap s.heap [] := va_S.rf
  have hl := lv_entry ([.ref (ad 0), .int (nI k)]) (n := 3) (Nat.le_of_ble_eq_true rfl)
  rw [lg_entry_eq]
  generalize (lg_sl ([.ref (ad 0), .int (nI k)]) ++ List.replicate (3 - (lg_sl ([.ref (ad 0), .int (nI k)])).length) Slot.unset).toArray = ls at hl ⊢
  have hl : lv_has ls 3 [(0, .ref (ad 0)), (1, .int (nI k))] := hl
  have loop : ∀ (Q : State → Prop), (∀ (g : Nat → Int64) (H : Heap) (locs : List Loc) (ls : Array Slot), (∀ u, u < 25 → g u = L u) → lv_has ls 3 [(2, .int (nI 25)), (0, .ref (ad 0)), (1, .int (nI k))] → va_P D vwCl (kw_M ct ad F (va_up M k g) Pl L C V K) H → va_D A (kw_M ct ad F (va_up M k g) Pl L C V K) → va_S A s.heap H locs → W p l e (headSpec wsM_put ({ frames := 0, cells := 0, slots := 0, locals := 0 })).room s m (([.ref (ad 0), .int (nI k)] : List Value).toArray) below meth c H locs 0 0 Q (F0 m 28 ls [])) → ∀ (n i : Nat) (g : Nat → Int64) (H : Heap) (locs : List Loc) (ls : Array Slot), 25 - i < n → i ≤ 25 → (∀ u, u < i → g u = L u) → lv_has ls 3 [(2, .int (nI i)), (0, .ref (ad 0)), (1, .int (nI k))] → va_P D vwCl (kw_M ct ad F (va_up M k g) Pl L C V K) H → va_D A (kw_M ct ad F (va_up M k g) Pl L C V K) → va_S A s.heap H locs → W p l e (headSpec wsM_put ({ frames := 0, cells := 0, slots := 0, locals := 0 })).room s m (([.ref (ad 0), .int (nI k)] : List Value).toArray) below meth c H locs 0 0 Q (F0 m 2 ls []) := by
    intro Q hend n
    induction n with
    | zero => intro i g H locs ls h; omega
    | succ n ih =>
      intro i g H locs ls hn hi hinv hl hP hD hS
      refine lv_iload_n hx hb dX1_put_2 rfl (lv_at hl 0 rfl) ?_
      refine lv_bipush (v := nI 25) hx hb dX1_put_3 (by decide +kernel) ?_
      refine kr_icmp_ge (tgt := 28) hx hb (by omega) (by omega) dX1_put_5 rfl (fun hc => ?_) (fun hc => ?_)
      · obtain rfl : i = 25 := by omega
        exact hend g H locs ls hinv hl hP hD hS
      · have hi25 : i < 25 := by omega
        refine lv_aload_n hx hb dX1_put_8 rfl (lv_at hl 1 rfl) ?_
        refine va_get hx hb hts hin hown hK hP 0 rfl rfl 1 (by decide) (hts (.fieldLink RX1 32 "KeccakLanesModel" "states" "[[J") (by decide +kernel)) (fun _ h => h) rfl dX1_put_9 ?_
        refine lv_iload_n hx hb dX1_put_12 rfl (lv_at hl 2 rfl) ?_
        refine kr_aald hx hb hK hP 1 0 rfl rfl (n := k) (y := ad (7 + k)) (by omega) (by omega) (if_pos (by omega)) dX1_put_13 ?_
        refine lv_iload_n hx hb dX1_put_14 rfl (lv_at hl 0 rfl) ?_
        refine lv_aload_n hx hb dX1_put_15 rfl (lv_at hl 1 rfl) ?_
        refine va_get hx hb hts hin hown hK hP 0 rfl rfl 3 (by decide) (hts (.fieldLink RX1 7 "KeccakLanesModel" "lanes" "[J") (by decide +kernel)) (fun _ h => h) rfl dX1_put_16 ?_
        refine lv_iload_n hx hb dX1_put_19 rfl (lv_at hl 0 rfl) ?_
        refine kr_lald hx hb hK hP 3 2 rfl rfl (n := i) (by omega) (by omega) dX1_put_20 ?_
        refine kr_last (w := kw_M ct ad F (va_up M k (vp_updL g i (L i))) Pl L C V K) hx hb hK hP hD hS (7 + k) 2 (kw_Mrg hk) rfl (n := i) (by omega) (by omega) (kw_Msg hk _) dX1_put_21 (fun H locs hP hD hS => ?_)
        refine lv_iinc (k := 0) (v := nI (i + 1)) hx hb dX1_put_22 hl rfl (nI_add i 1) (Nat.le_of_ble_eq_true rfl) rfl (fun ls hl => ?_)
        have hl : lv_has ls 3 [(2, .int (nI (i + 1))), (0, .ref (ad 0)), (1, .int (nI k))] := hl
        refine lv_goto (tgt := 2) hx hb dX1_put_25 rfl ?_
        refine ih (i + 1) _ H locs ls (by omega) (by omega) (fun u hu => ?_) hl hP hD hS
        by_cases e9 : u = i
        · subst e9; rw [pk_uLs]
        · rw [pk_uLn e9]; exact hinv u (by omega)
  refine lv_iconst (v := nI 0) hx hb dX1_put_0 rfl ?_
  refine lv_istore_n hx hb dX1_put_1 rfl hl (Nat.le_of_ble_eq_true rfl) rfl (fun ls hl => ?_)
  have hl : lv_has ls 3 [(2, .int (nI 0)), (0, .ref (ad 0)), (1, .int (nI k))] := hl
  have hP : va_P D vwCl (kw_M ct ad F (va_up M k (M k)) Pl L C V K) s.heap := by rw [kw_self]; exact hP
  have hD : va_D A (kw_M ct ad F (va_up M k (M k)) Pl L C V K) := by rw [kw_self]; exact hD
  refine loop _ (fun g H locs ls hinv hl hP hD hS => ?_) 26 0 (M k) s.heap [] ls (by omega) (by omega) (fun u hu => absurd hu (by omega)) hl hP hD hS
  have hP : va_P D vwCl (kw_M ct ad F (va_up M k L) Pl L C V K) H := kr_sameL (q0 := 7 + k) hP (kw_Mrg hk) hinv (kw_Msg hk _)
  have hD : va_D A (kw_M ct ad F (va_up M k L) Pl L C V K) := kr_sameD (q0 := 7 + k) hD (kw_Mrg hk) (kw_Msg hk _)
  exact W.vret hx hb hr (fun t ht hW => ⟨⟨(), rfl, trivial, by rw [ht]; exact hP, va_K.moved hW.alike hK, hD⟩, hS.F ht⟩) hS.2.2 dX1_put_28
end
section
/-! KeccakLanesModel.permute -/
set_option maxHeartbeats 4000000 in
set_option maxRecDepth 100000 in
theorem km_permute (l : Launch) (D : va_G) (ct : Nat → ClassId) (ad : Nat → Nat) (F : Int32) (M : Nat → Nat → Int64) (Pl : Nat → Nat) (L C V K : Nat → Int64) (sz : Nat) (f : Nat → Int64) : Met l yX1_permute wsM_permute ({ frames := 1, cells := 0, slots := 0, locals := 22 }) (kr_P D vwCl (kw_T ct) kw_N [.ref (ad 0)] (kw_M ct ad F M Pl f C V kk_rc) sz) (va_Qv (S := ((Nat → Int64) × (Nat → Int64))) (fun _ => True) (kr_B D vwCl (kw_T ct) (fun u => kw_M ct ad F M Pl (kk_mix f) u.1 u.2 kk_rc) (va_A (kw_M ct ad F M Pl f C V kk_rc) sz)) (va_A (kw_M ct ad F M Pl f C V kk_rc) sz)) 0 0 (va_A (kw_M ct ad F M Pl f C V kk_rc) sz) := by
  refine Met.ofW (cc := cX1_permute) (maxL := 6) (ret := none) (by decide) rfl ?_
  intro p e s m args below meth c s₁ B hml hv
  obtain ⟨rfl, hsz, hP, hK, hD0, hB⟩ := hv
  have hx := B.exec
  have hb := B.bytes
  have hr := B.returns
  have hts := atoms_spec (ws := wsM_permute) B.pre
  have hown : s.vm.findClass RX1 = some m.cls := findClass_of_methodNamed B.named
  have hlocks := B.notSynchronized
  have hin : ∀ w ∈ u_ws RX1 TX1 7, w ∈ wsM_permute := fun w h => List.mem_cons_of_mem _ (kM_in w h)
  subst hsz
  have hD := hD0.self (sz := s.heap.size)
  generalize hAe : va_A (kw_M ct ad F M Pl f C V kk_rc) s.heap.size = A at hD hB ⊢
  have hA : ∀ q : Nat, s.heap.size ≤ q → A q := fun q h => by rw [← hAe]; exact Or.inr h
  have hS : va_S A s.heap s.heap [] := va_S.rf
  have hl := lv_entry ([.ref (ad 0)]) (n := 6) (Nat.le_of_ble_eq_true rfl)
  rw [lg_entry_eq]
  generalize (lg_sl ([.ref (ad 0)]) ++ List.replicate (6 - (lg_sl ([.ref (ad 0)])).length) Slot.unset).toArray = ls at hl ⊢
  have hl : lv_has ls 6 [(0, .ref (ad 0))] := hl
  have la : ∀ (Q : State → Prop) (i : Nat) (g V : Nat → Int64), (∀ (H : Heap) (locs : List Loc) (ls : Array Slot), lv_has ls 6 [(2, .int (nI 5)), (1, .int (nI i)), (0, .ref (ad 0))] → va_P D vwCl (kw_M ct ad F M Pl g (kk_col g) V kk_rc) H → va_D A (kw_M ct ad F M Pl g (kk_col g) V kk_rc) → va_S A s.heap H locs → W p l e (headSpec wsM_permute ({ frames := 1, cells := 0, slots := 0, locals := 22 })).room s m (([.ref (ad 0)] : List Value).toArray) below meth c H locs 0 0 Q (F0 m 72 ls [])) → ∀ (n a : Nat) (C : Nat → Int64) (H : Heap) (locs : List Loc) (ls : Array Slot), 5 - a < n → a ≤ 5 → (∀ u, u < a → C u = kk_col g u) → lv_has ls 6 [(2, .int (nI a)), (1, .int (nI i)), (0, .ref (ad 0))] → va_P D vwCl (kw_M ct ad F M Pl g C V kk_rc) H → va_D A (kw_M ct ad F M Pl g C V kk_rc) → va_S A s.heap H locs → W p l e (headSpec wsM_permute ({ frames := 1, cells := 0, slots := 0, locals := 22 })).room s m (([.ref (ad 0)] : List Value).toArray) below meth c H locs 0 0 Q (F0 m 10 ls []) := by
    intro Q i g V hend n
    induction n with
    | zero => intro a C H locs ls h; omega
    | succ n ih =>
      intro a C H locs ls hn ha hinv hl hP hD hS
      refine lv_iload_n hx hb dX1_permute_10 rfl (lv_at hl 0 rfl) ?_
      refine lv_iconst (v := nI 5) hx hb dX1_permute_11 rfl ?_
      refine kr_icmp_ge (tgt := 72) hx hb (by omega) (by omega) dX1_permute_12 rfl (fun hc => ?_) (fun hc => ?_)
      · obtain rfl : a = 5 := by omega
        exact hend H locs ls hl (kr_sameL (q0 := 4) hP rfl hinv rfl) (kr_sameD (q0 := 4) hD rfl rfl) hS
      · have ha5 : a < 5 := hc
        refine lv_aload_n hx hb dX1_permute_15 rfl (lv_at hl 2 rfl) ?_
        refine va_get hx hb hts hin hown hK hP 0 rfl rfl 4 (by decide) (hts (.fieldLink RX1 1 "KeccakLanesModel" "column" "[J") (by decide +kernel)) (fun _ h => h) rfl dX1_permute_16 ?_
        refine lv_iload_n hx hb dX1_permute_19 rfl (lv_at hl 0 rfl) ?_
        refine lv_aload_n hx hb dX1_permute_20 rfl (lv_at hl 2 rfl) ?_
        refine va_get hx hb hts hin hown hK hP 0 rfl rfl 3 (by decide) (hts (.fieldLink RX1 7 "KeccakLanesModel" "lanes" "[J") (by decide +kernel)) (fun _ h => h) rfl dX1_permute_21 ?_
        refine lv_iload_n hx hb dX1_permute_24 rfl (lv_at hl 0 rfl) ?_
        refine kr_lald hx hb hK hP 3 2 rfl rfl (n := a) (by omega) (by omega) dX1_permute_25 ?_
        refine lv_aload_n hx hb dX1_permute_26 rfl (lv_at hl 2 rfl) ?_
        refine va_get hx hb hts hin hown hK hP 0 rfl rfl 3 (by decide) (hts (.fieldLink RX1 7 "KeccakLanesModel" "lanes" "[J") (by decide +kernel)) (fun _ h => h) rfl dX1_permute_27 ?_
        refine lv_iload_n hx hb dX1_permute_30 rfl (lv_at hl 0 rfl) ?_
        refine lv_iconst (v := nI 5) hx hb dX1_permute_31 rfl ?_
        refine kr_iadd hx hb dX1_permute_32 ?_
        refine kr_lald hx hb hK hP 3 2 rfl rfl (n := a + 5) (by omega) (by omega) dX1_permute_33 ?_
        refine lv_lxor hx hb dX1_permute_34 ?_
        refine lv_aload_n hx hb dX1_permute_35 rfl (lv_at hl 2 rfl) ?_
        refine va_get hx hb hts hin hown hK hP 0 rfl rfl 3 (by decide) (hts (.fieldLink RX1 7 "KeccakLanesModel" "lanes" "[J") (by decide +kernel)) (fun _ h => h) rfl dX1_permute_36 ?_
        refine lv_iload_n hx hb dX1_permute_39 rfl (lv_at hl 0 rfl) ?_
        refine lv_bipush (v := nI 10) hx hb dX1_permute_40 (by decide +kernel) ?_
        refine kr_iadd hx hb dX1_permute_42 ?_
        refine kr_lald hx hb hK hP 3 2 rfl rfl (n := a + 10) (by omega) (by omega) dX1_permute_43 ?_
        refine lv_lxor hx hb dX1_permute_44 ?_
        refine lv_aload_n hx hb dX1_permute_45 rfl (lv_at hl 2 rfl) ?_
        refine va_get hx hb hts hin hown hK hP 0 rfl rfl 3 (by decide) (hts (.fieldLink RX1 7 "KeccakLanesModel" "lanes" "[J") (by decide +kernel)) (fun _ h => h) rfl dX1_permute_46 ?_
        refine lv_iload_n hx hb dX1_permute_49 rfl (lv_at hl 0 rfl) ?_
        refine lv_bipush (v := nI 15) hx hb dX1_permute_50 (by decide +kernel) ?_
        refine kr_iadd hx hb dX1_permute_52 ?_
        refine kr_lald hx hb hK hP 3 2 rfl rfl (n := a + 15) (by omega) (by omega) dX1_permute_53 ?_
        refine lv_lxor hx hb dX1_permute_54 ?_
        refine lv_aload_n hx hb dX1_permute_55 rfl (lv_at hl 2 rfl) ?_
        refine va_get hx hb hts hin hown hK hP 0 rfl rfl 3 (by decide) (hts (.fieldLink RX1 7 "KeccakLanesModel" "lanes" "[J") (by decide +kernel)) (fun _ h => h) rfl dX1_permute_56 ?_
        refine lv_iload_n hx hb dX1_permute_59 rfl (lv_at hl 0 rfl) ?_
        refine lv_bipush (v := nI 20) hx hb dX1_permute_60 (by decide +kernel) ?_
        refine kr_iadd hx hb dX1_permute_62 ?_
        refine kr_lald hx hb hK hP 3 2 rfl rfl (n := a + 20) (by omega) (by omega) dX1_permute_63 ?_
        refine lv_lxor hx hb dX1_permute_64 ?_
        refine kr_last (w := kw_M ct ad F M Pl g (vp_updL C a (((((g a) ^^^ (g (a + 5))) ^^^ (g (a + 10))) ^^^ (g (a + 15))) ^^^ (g (a + 20)))) V kk_rc) hx hb hK hP hD hS 4 2 rfl rfl (n := a) (by omega) (by omega) rfl dX1_permute_65 (fun H locs hP hD hS => ?_)
        refine lv_iinc (k := 0) (v := nI (a + 1)) hx hb dX1_permute_66 hl rfl (nI_add a 1) (Nat.le_of_ble_eq_true rfl) rfl (fun ls hl => ?_)
        have hl : lv_has ls 6 [(2, .int (nI (a + 1))), (1, .int (nI i)), (0, .ref (ad 0))] := hl
        refine lv_goto (tgt := 10) hx hb dX1_permute_69 rfl ?_
        refine ih (a + 1) _ H locs ls (by omega) (by omega) (fun u hu => ?_) hl hP hD hS
        by_cases e9 : u = a
        · subst e9; rw [pk_uLs]; rfl
        · rw [pk_uLn e9]; exact hinv u (by omega)
  have lb : ∀ (Q : State → Prop) (i a : Nat) (g V : Nat → Int64) (ha5 : a < 5), (∀ (H : Heap) (locs : List Loc) (ls : Array Slot), lv_has ls 6 [(2, .int (nI a)), (1, .int (nI i)), (0, .ref (ad 0))] → va_P D vwCl (kw_M ct ad F M Pl (kk_th g (a + 1) 0) (kk_col g) V kk_rc) H → va_D A (kw_M ct ad F M Pl (kk_th g (a + 1) 0) (kk_col g) V kk_rc) → va_S A s.heap H locs → W p l e (headSpec wsM_permute ({ frames := 1, cells := 0, slots := 0, locals := 22 })).room s m (([.ref (ad 0)] : List Value).toArray) below meth c H locs 0 0 Q (F0 m 134 ls [])) → ∀ (n b : Nat) (H : Heap) (locs : List Loc) (ls : Array Slot), 5 - b < n → b ≤ 5 → lv_has ls 6 [(5, .int (nI (5 * b))), (3, .long (kk_d g a)), (2, .int (nI a)), (1, .int (nI i)), (0, .ref (ad 0))] → va_P D vwCl (kw_M ct ad F M Pl (kk_th g a b) (kk_col g) V kk_rc) H → va_D A (kw_M ct ad F M Pl (kk_th g a b) (kk_col g) V kk_rc) → va_S A s.heap H locs → W p l e (headSpec wsM_permute ({ frames := 1, cells := 0, slots := 0, locals := 22 })).room s m (([.ref (ad 0)] : List Value).toArray) below meth c H locs 0 0 Q (F0 m 108 ls []) := by
    intro Q i a g V ha5 hend n
    induction n with
    | zero => intro b H locs ls h; omega
    | succ n ih =>
      intro b H locs ls hn hb5 hl hP hD hS
      refine lv_iload hx hb dX1_permute_108 (lv_at hl 0 rfl) ?_
      refine lv_bipush (v := nI 25) hx hb dX1_permute_110 (by decide +kernel) ?_
      refine kr_icmp_ge (tgt := 134) hx hb (by omega) (by omega) dX1_permute_112 rfl (fun hc => ?_) (fun hc => ?_)
      · obtain rfl : b = 5 := by omega
        exact hend H locs ls (lv_sub hl [2, 3, 4] rfl) (kr_sameL (q0 := 3) hP rfl (fun j hj => kk_th_next g hj) rfl) (kr_sameD (q0 := 3) hD rfl rfl) hS
      · have hb4 : b < 5 := by omega
        refine lv_aload_n hx hb dX1_permute_115 rfl (lv_at hl 4 rfl) ?_
        refine va_get hx hb hts hin hown hK hP 0 rfl rfl 3 (by decide) (hts (.fieldLink RX1 7 "KeccakLanesModel" "lanes" "[J") (by decide +kernel)) (fun _ h => h) rfl dX1_permute_116 ?_
        refine lv_iload hx hb dX1_permute_119 (lv_at hl 0 rfl) ?_
        refine lv_iload_n hx hb dX1_permute_121 rfl (lv_at hl 2 rfl) ?_
        refine kr_iadd hx hb dX1_permute_122 ?_
        refine lv_dup2_11 hx hb dX1_permute_123 rfl rfl ?_
        refine kr_lald hx hb hK hP 3 2 rfl rfl (n := (5 * b) + a) (by omega) (by omega) dX1_permute_124 ?_
        refine lv_lload_n hx hb dX1_permute_125 rfl (lv_at hl 1 rfl) ?_
        refine lv_lxor hx hb dX1_permute_126 ?_
        refine kr_last (w := kw_M ct ad F M Pl (vp_updL (kk_th g a b) ((5 * b) + a) (((kk_th g a b) ((5 * b) + a)) ^^^ (kk_d g a))) (kk_col g) V kk_rc) hx hb hK hP hD hS 3 2 rfl rfl (n := (5 * b) + a) (by omega) (by omega) rfl dX1_permute_127 (fun H locs hP hD hS => ?_)
        rw [kk_th_step g ha5] at hP hD
        refine lv_iinc (k := 0) (v := nI ((5 * b) + 5)) hx hb dX1_permute_128 hl rfl (nI_add (5 * b) 5) (Nat.le_of_ble_eq_true rfl) rfl (fun ls hl => ?_)
        have hl : lv_has ls 6 [(5, .int (nI ((5 * b) + 5))), (3, .long (kk_d g a)), (2, .int (nI a)), (1, .int (nI i)), (0, .ref (ad 0))] := hl
        refine lv_goto (tgt := 108) hx hb dX1_permute_131 rfl ?_
        exact ih (b + 1) H locs ls (by omega) (by omega) hl hP hD hS
  have lc : ∀ (Q : State → Prop) (i : Nat) (g V : Nat → Int64), (∀ (H : Heap) (locs : List Loc) (ls : Array Slot), lv_has ls 6 [(2, .int (nI 5)), (1, .int (nI i)), (0, .ref (ad 0))] → va_P D vwCl (kw_M ct ad F M Pl (kk_tt g) (kk_col g) V kk_rc) H → va_D A (kw_M ct ad F M Pl (kk_tt g) (kk_col g) V kk_rc) → va_S A s.heap H locs → W p l e (headSpec wsM_permute ({ frames := 1, cells := 0, slots := 0, locals := 22 })).room s m (([.ref (ad 0)] : List Value).toArray) below meth c H locs 0 0 Q (F0 m 140 ls [])) → ∀ (n a : Nat) (H : Heap) (locs : List Loc) (ls : Array Slot), 5 - a < n → a ≤ 5 → lv_has ls 6 [(2, .int (nI a)), (1, .int (nI i)), (0, .ref (ad 0))] → va_P D vwCl (kw_M ct ad F M Pl (kk_th g a 0) (kk_col g) V kk_rc) H → va_D A (kw_M ct ad F M Pl (kk_th g a 0) (kk_col g) V kk_rc) → va_S A s.heap H locs → W p l e (headSpec wsM_permute ({ frames := 1, cells := 0, slots := 0, locals := 22 })).room s m (([.ref (ad 0)] : List Value).toArray) below meth c H locs 0 0 Q (F0 m 74 ls []) := by
    intro Q i g V hend n
    induction n with
    | zero => intro a H locs ls h; omega
    | succ n ih =>
      intro a H locs ls hn ha hl hP hD hS
      refine lv_iload_n hx hb dX1_permute_74 rfl (lv_at hl 0 rfl) ?_
      refine lv_iconst (v := nI 5) hx hb dX1_permute_75 rfl ?_
      refine kr_icmp_ge (tgt := 140) hx hb (by omega) (by omega) dX1_permute_76 rfl (fun hc => ?_) (fun hc => ?_)
      · obtain rfl : a = 5 := by omega
        exact hend H locs ls hl (kr_sameL (q0 := 3) hP rfl (fun j hj => kk_th_end g j) rfl) (kr_sameD (q0 := 3) hD rfl rfl) hS
      · have ha5 : a < 5 := hc
        refine lv_aload_n hx hb dX1_permute_79 rfl (lv_at hl 2 rfl) ?_
        refine va_get hx hb hts hin hown hK hP 0 rfl rfl 4 (by decide) (hts (.fieldLink RX1 1 "KeccakLanesModel" "column" "[J") (by decide +kernel)) (fun _ h => h) rfl dX1_permute_80 ?_
        refine lv_iload_n hx hb dX1_permute_83 rfl (lv_at hl 0 rfl) ?_
        refine lv_iconst (v := nI 4) hx hb dX1_permute_84 rfl ?_
        refine kr_iadd hx hb dX1_permute_85 ?_
        refine lv_iconst (v := nI 5) hx hb dX1_permute_86 rfl ?_
        refine kr_irem hx hb (by omega) (by omega) (by omega) dX1_permute_87 ?_
        refine kr_lald hx hb hK hP 4 2 rfl rfl (n := (a + 4) % 5) (by omega) (by omega) dX1_permute_88 ?_
        refine lv_aload_n hx hb dX1_permute_89 rfl (lv_at hl 2 rfl) ?_
        refine va_get hx hb hts hin hown hK hP 0 rfl rfl 4 (by decide) (hts (.fieldLink RX1 1 "KeccakLanesModel" "column" "[J") (by decide +kernel)) (fun _ h => h) rfl dX1_permute_90 ?_
        refine lv_iload_n hx hb dX1_permute_93 rfl (lv_at hl 0 rfl) ?_
        refine lv_iconst (v := nI 1) hx hb dX1_permute_94 rfl ?_
        refine kr_iadd hx hb dX1_permute_95 ?_
        refine lv_iconst (v := nI 5) hx hb dX1_permute_96 rfl ?_
        refine kr_irem hx hb (by omega) (by omega) (by omega) dX1_permute_97 ?_
        refine kr_lald hx hb hK hP 4 2 rfl rfl (n := (a + 1) % 5) (by omega) (by omega) dX1_permute_98 ?_
        refine lv_iconst (v := nI 1) hx hb dX1_permute_99 rfl ?_
        refine kr_calll (va_runS (As := [.long ((kk_col g) ((a + 1) % 5)), .int (nI 1)]) (rest := [.long ((kk_col g) ((a + 4) % 5))]) ⟨hx, hb, hml, hown, hts⟩ (kc_rot l D ct ad F M Pl (kk_th g a 0) (kk_col g) V kk_rc _ ((kk_col g) ((a + 1) % 5)) (nI 1)) (va_cwS 2 hts kM_gr rfl rfl rfl (by decide +kernel) ⟨Nat.le_of_ble_eq_true rfl, Nat.le_of_ble_eq_true rfl⟩) (kr_preS kw_Nok _ hP hK hD hB hS hA) rfl rfl hl.1 rfl (lv_room (Nat.le_of_ble_eq_true rfl)) dX1_permute_100 ⟨Nat.zero_le _, Nat.zero_le _⟩) hD hS hA (fun r u H locs hq hP hD hS => ?_)
        obtain rfl : r = kk_rl ((kk_col g) ((a + 1) % 5)) (nI 1) := hq
        have hP : va_P D vwCl (kw_M ct ad F M Pl (kk_th g a 0) (kk_col g) V kk_rc) H := hP
        have hD : va_D A (kw_M ct ad F M Pl (kk_th g a 0) (kk_col g) V kk_rc) := hD
        rw [kk_rl_tl _ (k := 1) (by omega)]
        refine lv_lxor hx hb dX1_permute_103 ?_
        refine lv_lstore_n hx hb dX1_permute_104 rfl hl (Nat.le_of_ble_eq_true rfl) rfl (fun ls hl => ?_)
        have hl : lv_has ls 6 [(3, .long (((kk_col g) ((a + 4) % 5)) ^^^ (kk_tl ((kk_col g) ((a + 1) % 5)) (nI 1)))), (2, .int (nI a)), (1, .int (nI i)), (0, .ref (ad 0))] := hl
        refine lv_iconst (v := nI 0) hx hb dX1_permute_105 rfl ?_
        refine lv_istore hx hb dX1_permute_106 hl (Nat.le_of_ble_eq_true rfl) rfl (fun ls hl => ?_)
        have hl : lv_has ls 6 [(5, .int (nI 0)), (3, .long (((kk_col g) ((a + 4) % 5)) ^^^ (kk_tl ((kk_col g) ((a + 1) % 5)) (nI 1)))), (2, .int (nI a)), (1, .int (nI i)), (0, .ref (ad 0))] := hl
        have hl : lv_has ls 6 [(5, .int (nI (5 * 0))), (3, .long (kk_d g a)), (2, .int (nI a)), (1, .int (nI i)), (0, .ref (ad 0))] := lv_sub hl [0, 1, 2, 3, 4] rfl
        refine lb Q i a g V ha5 (fun H locs ls hl hP hD hS => ?_) 6 0 H locs ls (by omega) (by omega) hl hP hD hS
        refine lv_iinc (k := 0) (v := nI (a + 1)) hx hb dX1_permute_134 hl rfl (nI_add a 1) (Nat.le_of_ble_eq_true rfl) rfl (fun ls hl => ?_)
        have hl : lv_has ls 6 [(2, .int (nI (a + 1))), (1, .int (nI i)), (0, .ref (ad 0))] := hl
        refine lv_goto (tgt := 74) hx hb dX1_permute_137 rfl ?_
        exact ih (a + 1) H locs ls (by omega) (by omega) hl hP hD hS
  have lt : ∀ (Q : State → Prop) (i : Nat) (g C : Nat → Int64), (∀ (H : Heap) (locs : List Loc) (ls : Array Slot), lv_has ls 6 [(4, .int (nI 24)), (3, .int (nI (kk_wy 24))), (2, .int (nI (kk_wx 24))), (1, .int (nI i)), (0, .ref (ad 0))] → va_P D vwCl (kw_M ct ad F M Pl (kk_tt g) C (kk_mv g) kk_rc) H → va_D A (kw_M ct ad F M Pl (kk_tt g) C (kk_mv g) kk_rc) → va_S A s.heap H locs → W p l e (headSpec wsM_permute ({ frames := 1, cells := 0, slots := 0, locals := 22 })).room s m (([.ref (ad 0)] : List Value).toArray) below meth c H locs 0 0 Q (F0 m 226 ls [])) → ∀ (n t : Nat) (V : Nat → Int64) (H : Heap) (locs : List Loc) (ls : Array Slot), 24 - t < n → t ≤ 24 → V 0 = kk_tt g 0 → (∀ u, u < t → V (kk_wt u) = kk_rl (kk_tt g (kk_ws u)) (nI ((u + 1) * (u + 2) / 2 % 64))) → lv_has ls 6 [(4, .int (nI t)), (3, .int (nI (kk_wy t))), (2, .int (nI (kk_wx t))), (1, .int (nI i)), (0, .ref (ad 0))] → va_P D vwCl (kw_M ct ad F M Pl (kk_tt g) C V kk_rc) H → va_D A (kw_M ct ad F M Pl (kk_tt g) C V kk_rc) → va_S A s.heap H locs → W p l e (headSpec wsM_permute ({ frames := 1, cells := 0, slots := 0, locals := 22 })).room s m (([.ref (ad 0)] : List Value).toArray) below meth c H locs 0 0 Q (F0 m 159 ls []) := by
    intro Q i g C hend n
    induction n with
    | zero => intro t V H locs ls h; omega
    | succ n ih =>
      intro t V H locs ls hn ht hv0 hinv hl hP hD hS
      refine lv_iload hx hb dX1_permute_159 (lv_at hl 0 rfl) ?_
      refine lv_bipush (v := nI 24) hx hb dX1_permute_161 (by decide +kernel) ?_
      refine kr_icmp_ge (tgt := 226) hx hb (by omega) (by omega) dX1_permute_163 rfl (fun hc => ?_) (fun hc => ?_)
      · obtain rfl : t = 24 := by omega
        exact hend H locs ls hl (kr_sameL (q0 := 5) hP rfl (kk_mv_of hv0 hinv) rfl) (kr_sameD (q0 := 5) hD rfl rfl) hS
      · have ht24 : t < 24 := hc
        obtain ⟨w1, w2⟩ := kk_w_lt t (by omega)
        obtain ⟨w3, w4⟩ := kk_w_lt (t + 1) (by omega)
        have hmul : (t + 1) * (t + 2) < 2 ^ 31 := by have h9 := Nat.mul_le_mul (show t + 1 ≤ 24 by omega) (show t + 2 ≤ 25 by omega); omega
        refine lv_iconst (v := nI 2) hx hb dX1_permute_166 rfl ?_
        refine lv_iload_n hx hb dX1_permute_167 rfl (lv_at hl 2 rfl) ?_
        refine kr_imul hx hb dX1_permute_168 ?_
        refine lv_iconst (v := nI 3) hx hb dX1_permute_169 rfl ?_
        refine lv_iload_n hx hb dX1_permute_170 rfl (lv_at hl 1 rfl) ?_
        refine kr_imul hx hb dX1_permute_171 ?_
        refine kr_iadd hx hb dX1_permute_172 ?_
        refine lv_iconst (v := nI 5) hx hb dX1_permute_173 rfl ?_
        refine kr_irem hx hb (by omega) (by omega) (by omega) dX1_permute_174 ?_
        refine lv_istore hx hb dX1_permute_175 hl (Nat.le_of_ble_eq_true rfl) rfl (fun ls hl => ?_)
        have hl : lv_has ls 6 [(5, .int (nI (((2 * (kk_wx t)) + (3 * (kk_wy t))) % 5))), (4, .int (nI t)), (3, .int (nI (kk_wy t))), (2, .int (nI (kk_wx t))), (1, .int (nI i)), (0, .ref (ad 0))] := hl
        have hz : (2 * kk_wx t + 3 * kk_wy t) % 5 = kk_wy (t + 1) := (kk_w_y t ht24).symm
        rw [hz] at hl
        have hl : lv_has ls 6 [(5, .int (nI (kk_wy (t + 1)))), (4, .int (nI t)), (3, .int (nI (kk_wy t))), (2, .int (nI (kk_wx t))), (1, .int (nI i)), (0, .ref (ad 0))] := hl
        refine lv_aload_n hx hb dX1_permute_177 rfl (lv_at hl 5 rfl) ?_
        refine va_get hx hb hts hin hown hK hP 0 rfl rfl 5 (by decide) (hts (.fieldLink RX1 16 "KeccakLanesModel" "moved" "[J") (by decide +kernel)) (fun _ h => h) rfl dX1_permute_178 ?_
        refine lv_iconst (v := nI 5) hx hb dX1_permute_181 rfl ?_
        refine lv_iload hx hb dX1_permute_182 (lv_at hl 0 rfl) ?_
        refine kr_imul hx hb dX1_permute_184 ?_
        refine lv_iload_n hx hb dX1_permute_185 rfl (lv_at hl 2 rfl) ?_
        refine kr_iadd hx hb dX1_permute_186 ?_
        refine lv_aload_n hx hb dX1_permute_187 rfl (lv_at hl 5 rfl) ?_
        refine va_get hx hb hts hin hown hK hP 0 rfl rfl 3 (by decide) (hts (.fieldLink RX1 7 "KeccakLanesModel" "lanes" "[J") (by decide +kernel)) (fun _ h => h) rfl dX1_permute_188 ?_
        refine lv_iconst (v := nI 5) hx hb dX1_permute_191 rfl ?_
        refine lv_iload_n hx hb dX1_permute_192 rfl (lv_at hl 2 rfl) ?_
        refine kr_imul hx hb dX1_permute_193 ?_
        refine lv_iload_n hx hb dX1_permute_194 rfl (lv_at hl 3 rfl) ?_
        refine kr_iadd hx hb dX1_permute_195 ?_
        refine kr_lald hx hb hK hP 3 2 rfl rfl (n := (5 * (kk_wy t)) + (kk_wx t)) (by omega) (by omega) dX1_permute_196 ?_
        refine lv_iload hx hb dX1_permute_197 (lv_at hl 1 rfl) ?_
        refine lv_iconst (v := nI 1) hx hb dX1_permute_199 rfl ?_
        refine kr_iadd hx hb dX1_permute_200 ?_
        refine lv_iload hx hb dX1_permute_201 (lv_at hl 1 rfl) ?_
        refine lv_iconst (v := nI 2) hx hb dX1_permute_203 rfl ?_
        refine kr_iadd hx hb dX1_permute_204 ?_
        refine kr_imul hx hb dX1_permute_205 ?_
        refine lv_iconst (v := nI 2) hx hb dX1_permute_206 rfl ?_
        refine kr_idiv hx hb (by omega) (by omega) (by omega) dX1_permute_207 ?_
        refine lv_bipush (v := nI 64) hx hb dX1_permute_208 (by decide +kernel) ?_
        refine kr_irem hx hb (by omega) (by omega) (by omega) dX1_permute_210 ?_
        refine kr_calll (va_runS (As := [.long ((kk_tt g) ((5 * (kk_wy t)) + (kk_wx t))), .int (nI ((((t + 1) * (t + 2)) / 2) % 64))]) (rest := [.int (nI ((5 * (kk_wy (t + 1))) + (kk_wy t))), .ref (ad 5)]) ⟨hx, hb, hml, hown, hts⟩ (kc_rot l D ct ad F M Pl (kk_tt g) C V kk_rc _ ((kk_tt g) ((5 * (kk_wy t)) + (kk_wx t))) (nI ((((t + 1) * (t + 2)) / 2) % 64))) (va_cwS 2 hts kM_gr rfl rfl rfl (by decide +kernel) ⟨Nat.le_of_ble_eq_true rfl, Nat.le_of_ble_eq_true rfl⟩) (kr_preS kw_Nok _ hP hK hD hB hS hA) rfl rfl hl.1 rfl (lv_room (Nat.le_of_ble_eq_true rfl)) dX1_permute_211 ⟨Nat.zero_le _, Nat.zero_le _⟩) hD hS hA (fun r u H locs hq hP hD hS => ?_)
        obtain rfl : r = kk_rl ((kk_tt g) ((5 * (kk_wy t)) + (kk_wx t))) (nI ((((t + 1) * (t + 2)) / 2) % 64)) := hq
        have hP : va_P D vwCl (kw_M ct ad F M Pl (kk_tt g) C V kk_rc) H := hP
        have hD : va_D A (kw_M ct ad F M Pl (kk_tt g) C V kk_rc) := hD
        refine kr_last (w := kw_M ct ad F M Pl (kk_tt g) C (vp_updL V ((5 * (kk_wy (t + 1))) + (kk_wy t)) (kk_rl ((kk_tt g) ((5 * (kk_wy t)) + (kk_wx t))) (nI ((((t + 1) * (t + 2)) / 2) % 64)))) kk_rc) hx hb hK hP hD hS 5 2 rfl rfl (n := (5 * (kk_wy (t + 1))) + (kk_wy t)) (by omega) (by omega) rfl dX1_permute_214 (fun H locs hP hD hS => ?_)
        refine lv_iload_n hx hb dX1_permute_215 rfl (lv_at hl 2 rfl) ?_
        refine lv_istore_n hx hb dX1_permute_216 rfl hl (Nat.le_of_ble_eq_true rfl) rfl (fun ls hl => ?_)
        have hl : lv_has ls 6 [(2, .int (nI (kk_wy t))), (5, .int (nI (kk_wy (t + 1)))), (4, .int (nI t)), (3, .int (nI (kk_wy t))), (1, .int (nI i)), (0, .ref (ad 0))] := hl
        refine lv_iload hx hb dX1_permute_217 (lv_at hl 1 rfl) ?_
        refine lv_istore_n hx hb dX1_permute_219 rfl hl (Nat.le_of_ble_eq_true rfl) rfl (fun ls hl => ?_)
        have hl : lv_has ls 6 [(3, .int (nI (kk_wy (t + 1)))), (2, .int (nI (kk_wy t))), (5, .int (nI (kk_wy (t + 1)))), (4, .int (nI t)), (1, .int (nI i)), (0, .ref (ad 0))] := hl
        refine lv_iinc (k := 3) (v := nI (t + 1)) hx hb dX1_permute_220 hl rfl (nI_add t 1) (Nat.le_of_ble_eq_true rfl) rfl (fun ls hl => ?_)
        have hl : lv_has ls 6 [(4, .int (nI (t + 1))), (3, .int (nI (kk_wy (t + 1)))), (2, .int (nI (kk_wy t))), (5, .int (nI (kk_wy (t + 1)))), (1, .int (nI i)), (0, .ref (ad 0))] := hl
        refine lv_goto (tgt := 159) hx hb dX1_permute_223 rfl ?_
        have hl : lv_has ls 6 [(4, .int (nI (t + 1))), (3, .int (nI (kk_wy (t + 1)))), (2, .int (nI (kk_wx (t + 1)))), (1, .int (nI i)), (0, .ref (ad 0))] := by rw [kk_w_x t ht24]; exact lv_sub hl [0, 1, 2, 4, 5] rfl
        have hne : kk_wt t ≠ 0 := (kk_w_st t ht24).2.2.2.2
        refine ih (t + 1) _ H locs ls (by omega) (by omega) ?_ (fun u hu => ?_) hl hP hD hS
        · show vp_updL V (kk_wt t) _ 0 = _
          rw [pk_uLn (fun h => hne h.symm)]; exact hv0
        · by_cases e9 : u = t
          · subst e9
            show vp_updL V (kk_wt u) _ (kk_wt u) = _
            rw [pk_uLs]
            rfl
          · show vp_updL V (kk_wt t) _ (kk_wt u) = _
            rw [pk_uLn (fun h => e9 (kk_w_inj u (by omega) t ht24 h))]
            exact hinv u (by omega)
  have lk : ∀ (Q : State → Prop) (i a : Nat) (C V : Nat → Int64) (ha5 : a < 5), (∀ (g : Nat → Int64) (H : Heap) (locs : List Loc) (ls : Array Slot), (∀ u, u < 5 * a + 5 → g u = kk_ch V u) → lv_has ls 6 [(4, .int (nI (5 * a))), (1, .int (nI i)), (0, .ref (ad 0))] → va_P D vwCl (kw_M ct ad F M Pl g C V kk_rc) H → va_D A (kw_M ct ad F M Pl g C V kk_rc) → va_S A s.heap H locs → W p l e (headSpec wsM_permute ({ frames := 1, cells := 0, slots := 0, locals := 22 })).room s m (([.ref (ad 0)] : List Value).toArray) below meth c H locs 0 0 Q (F0 m 305 ls [])) → ∀ (n j : Nat) (g : Nat → Int64) (H : Heap) (locs : List Loc) (ls : Array Slot), 5 - j < n → j ≤ 5 → (∀ u, u < 5 * a + j → g u = kk_ch V u) → lv_has ls 6 [(5, .int (nI j)), (4, .int (nI (5 * a))), (1, .int (nI i)), (0, .ref (ad 0))] → va_P D vwCl (kw_M ct ad F M Pl g C V kk_rc) H → va_D A (kw_M ct ad F M Pl g C V kk_rc) → va_S A s.heap H locs → W p l e (headSpec wsM_permute ({ frames := 1, cells := 0, slots := 0, locals := 22 })).room s m (([.ref (ad 0)] : List Value).toArray) below meth c H locs 0 0 Q (F0 m 239 ls []) := by
    intro Q i a C V ha5 hend n
    induction n with
    | zero => intro j g H locs ls h; omega
    | succ n ih =>
      intro j g H locs ls hn hj hinv hl hP hD hS
      refine lv_iload hx hb dX1_permute_239 (lv_at hl 0 rfl) ?_
      refine lv_iconst (v := nI 5) hx hb dX1_permute_241 rfl ?_
      refine kr_icmp_ge (tgt := 305) hx hb (by omega) (by omega) dX1_permute_242 rfl (fun hc => ?_) (fun hc => ?_)
      · obtain rfl : j = 5 := by omega
        exact hend g H locs ls hinv (lv_sub hl [1, 2, 3] rfl) hP hD hS
      · have hj5 : j < 5 := hc
        refine lv_aload_n hx hb dX1_permute_245 rfl (lv_at hl 3 rfl) ?_
        refine va_get hx hb hts hin hown hK hP 0 rfl rfl 3 (by decide) (hts (.fieldLink RX1 7 "KeccakLanesModel" "lanes" "[J") (by decide +kernel)) (fun _ h => h) rfl dX1_permute_246 ?_
        refine lv_iload hx hb dX1_permute_249 (lv_at hl 1 rfl) ?_
        refine lv_iload hx hb dX1_permute_251 (lv_at hl 0 rfl) ?_
        refine kr_iadd hx hb dX1_permute_253 ?_
        refine lv_aload_n hx hb dX1_permute_254 rfl (lv_at hl 3 rfl) ?_
        refine va_get hx hb hts hin hown hK hP 0 rfl rfl 5 (by decide) (hts (.fieldLink RX1 16 "KeccakLanesModel" "moved" "[J") (by decide +kernel)) (fun _ h => h) rfl dX1_permute_255 ?_
        refine lv_iload hx hb dX1_permute_258 (lv_at hl 1 rfl) ?_
        refine lv_iload hx hb dX1_permute_260 (lv_at hl 0 rfl) ?_
        refine kr_iadd hx hb dX1_permute_262 ?_
        refine kr_lald hx hb hK hP 5 2 rfl rfl (n := (5 * a) + j) (by omega) (by omega) dX1_permute_263 ?_
        refine lv_aload_n hx hb dX1_permute_264 rfl (lv_at hl 3 rfl) ?_
        refine va_get hx hb hts hin hown hK hP 0 rfl rfl 5 (by decide) (hts (.fieldLink RX1 16 "KeccakLanesModel" "moved" "[J") (by decide +kernel)) (fun _ h => h) rfl dX1_permute_265 ?_
        refine lv_iload hx hb dX1_permute_268 (lv_at hl 1 rfl) ?_
        refine lv_iload hx hb dX1_permute_270 (lv_at hl 0 rfl) ?_
        refine lv_iconst (v := nI 1) hx hb dX1_permute_272 rfl ?_
        refine kr_iadd hx hb dX1_permute_273 ?_
        refine lv_iconst (v := nI 5) hx hb dX1_permute_274 rfl ?_
        refine kr_irem hx hb (by omega) (by omega) (by omega) dX1_permute_275 ?_
        refine kr_iadd hx hb dX1_permute_276 ?_
        refine kr_lald hx hb hK hP 5 2 rfl rfl (n := (5 * a) + ((j + 1) % 5)) (by omega) (by omega) dX1_permute_277 ?_
        refine lv_ldc2 (v := (-1)) hx hb hown (hts (.constantLong RX1 19 (-1)) (by decide +kernel)) dX1_permute_278 ?_
        refine lv_lxor hx hb dX1_permute_281 ?_
        refine lv_aload_n hx hb dX1_permute_282 rfl (lv_at hl 3 rfl) ?_
        refine va_get hx hb hts hin hown hK hP 0 rfl rfl 5 (by decide) (hts (.fieldLink RX1 16 "KeccakLanesModel" "moved" "[J") (by decide +kernel)) (fun _ h => h) rfl dX1_permute_283 ?_
        refine lv_iload hx hb dX1_permute_286 (lv_at hl 1 rfl) ?_
        refine lv_iload hx hb dX1_permute_288 (lv_at hl 0 rfl) ?_
        refine lv_iconst (v := nI 2) hx hb dX1_permute_290 rfl ?_
        refine kr_iadd hx hb dX1_permute_291 ?_
        refine lv_iconst (v := nI 5) hx hb dX1_permute_292 rfl ?_
        refine kr_irem hx hb (by omega) (by omega) (by omega) dX1_permute_293 ?_
        refine kr_iadd hx hb dX1_permute_294 ?_
        refine kr_lald hx hb hK hP 5 2 rfl rfl (n := (5 * a) + ((j + 2) % 5)) (by omega) (by omega) dX1_permute_295 ?_
        refine lv_land hx hb dX1_permute_296 ?_
        refine lv_lxor hx hb dX1_permute_297 ?_
        refine kr_last (w := kw_M ct ad F M Pl (vp_updL g ((5 * a) + j) ((V ((5 * a) + j)) ^^^ (((V ((5 * a) + ((j + 1) % 5))) ^^^ (-1)) &&& (V ((5 * a) + ((j + 2) % 5)))))) C V kk_rc) hx hb hK hP hD hS 3 2 rfl rfl (n := (5 * a) + j) (by omega) (by omega) rfl dX1_permute_298 (fun H locs hP hD hS => ?_)
        refine lv_iinc (k := 0) (v := nI (j + 1)) hx hb dX1_permute_299 hl rfl (nI_add j 1) (Nat.le_of_ble_eq_true rfl) rfl (fun ls hl => ?_)
        have hl : lv_has ls 6 [(5, .int (nI (j + 1))), (4, .int (nI (5 * a))), (1, .int (nI i)), (0, .ref (ad 0))] := hl
        refine lv_goto (tgt := 239) hx hb dX1_permute_302 rfl ?_
        refine ih (j + 1) _ H locs ls (by omega) (by omega) (fun u hu => ?_) hl hP hD hS
        by_cases e9 : u = 5 * a + j
        · subst e9; rw [pk_uLs]; unfold kk_ch; rw [show (5 * a + j) / 5 * 5 = 5 * a by omega, show (5 * a + j) % 5 = j by omega]
        · rw [pk_uLn e9]; exact hinv u (by omega)
  have lm : ∀ (Q : State → Prop) (i : Nat) (C V : Nat → Int64), (∀ (H : Heap) (locs : List Loc) (ls : Array Slot), lv_has ls 6 [(4, .int (nI (5 * 5))), (1, .int (nI i)), (0, .ref (ad 0))] → va_P D vwCl (kw_M ct ad F M Pl (kk_ch V) C V kk_rc) H → va_D A (kw_M ct ad F M Pl (kk_ch V) C V kk_rc) → va_S A s.heap H locs → W p l e (headSpec wsM_permute ({ frames := 1, cells := 0, slots := 0, locals := 22 })).room s m (([.ref (ad 0)] : List Value).toArray) below meth c H locs 0 0 Q (F0 m 311 ls [])) → ∀ (n a : Nat) (g : Nat → Int64) (H : Heap) (locs : List Loc) (ls : Array Slot), 5 - a < n → a ≤ 5 → (∀ u, u < 5 * a → g u = kk_ch V u) → lv_has ls 6 [(4, .int (nI (5 * a))), (1, .int (nI i)), (0, .ref (ad 0))] → va_P D vwCl (kw_M ct ad F M Pl g C V kk_rc) H → va_D A (kw_M ct ad F M Pl g C V kk_rc) → va_S A s.heap H locs → W p l e (headSpec wsM_permute ({ frames := 1, cells := 0, slots := 0, locals := 22 })).room s m (([.ref (ad 0)] : List Value).toArray) below meth c H locs 0 0 Q (F0 m 229 ls []) := by
    intro Q i C V hend n
    induction n with
    | zero => intro a g H locs ls h; omega
    | succ n ih =>
      intro a g H locs ls hn ha hinv hl hP hD hS
      refine lv_iload hx hb dX1_permute_229 (lv_at hl 0 rfl) ?_
      refine lv_bipush (v := nI 25) hx hb dX1_permute_231 (by decide +kernel) ?_
      refine kr_icmp_ge (tgt := 311) hx hb (by omega) (by omega) dX1_permute_233 rfl (fun hc => ?_) (fun hc => ?_)
      · obtain rfl : a = 5 := by omega
        exact hend H locs ls hl (kr_sameL (q0 := 3) hP rfl hinv rfl) (kr_sameD (q0 := 3) hD rfl rfl) hS
      · have ha5 : a < 5 := by omega
        refine lv_iconst (v := nI 0) hx hb dX1_permute_236 rfl ?_
        refine lv_istore hx hb dX1_permute_237 hl (Nat.le_of_ble_eq_true rfl) rfl (fun ls hl => ?_)
        have hl : lv_has ls 6 [(5, .int (nI 0)), (4, .int (nI (5 * a))), (1, .int (nI i)), (0, .ref (ad 0))] := hl
        refine lk Q i a C V ha5 (fun g H locs ls hinv hl hP hD hS => ?_) 6 0 g H locs ls (by omega) (by omega) hinv hl hP hD hS
        refine lv_iinc (k := 0) (v := nI ((5 * a) + 5)) hx hb dX1_permute_305 hl rfl (nI_add (5 * a) 5) (Nat.le_of_ble_eq_true rfl) rfl (fun ls hl => ?_)
        have hl : lv_has ls 6 [(4, .int (nI ((5 * a) + 5))), (1, .int (nI i)), (0, .ref (ad 0))] := hl
        refine lv_goto (tgt := 229) hx hb dX1_permute_308 rfl ?_
        exact ih (a + 1) g H locs ls (by omega) (by omega) hinv hl hP hD hS
  have lr : ∀ (Q : State → Prop) (_ : True), (∀ (C V : Nat → Int64) (H : Heap) (locs : List Loc) (ls : Array Slot), lv_has ls 6 [(1, .int (nI 24)), (0, .ref (ad 0))] → va_P D vwCl (kw_M ct ad F M Pl (kk_rs f 24) C V kk_rc) H → va_D A (kw_M ct ad F M Pl (kk_rs f 24) C V kk_rc) → va_S A s.heap H locs → W p l e (headSpec wsM_permute ({ frames := 1, cells := 0, slots := 0, locals := 22 })).room s m (([.ref (ad 0)] : List Value).toArray) below meth c H locs 0 0 Q (F0 m 332 ls [])) → ∀ (n i : Nat) (C V : Nat → Int64) (H : Heap) (locs : List Loc) (ls : Array Slot), 24 - i < n → i ≤ 24 → lv_has ls 6 [(1, .int (nI i)), (0, .ref (ad 0))] → va_P D vwCl (kw_M ct ad F M Pl (kk_rs f i) C V kk_rc) H → va_D A (kw_M ct ad F M Pl (kk_rs f i) C V kk_rc) → va_S A s.heap H locs → W p l e (headSpec wsM_permute ({ frames := 1, cells := 0, slots := 0, locals := 22 })).room s m (([.ref (ad 0)] : List Value).toArray) below meth c H locs 0 0 Q (F0 m 2 ls []) := by
    intro Q _ hend n
    induction n with
    | zero => intro i C V H locs ls h; omega
    | succ n ih =>
      intro i C V H locs ls hn hi hl hP hD hS
      refine lv_iload_n hx hb dX1_permute_2 rfl (lv_at hl 0 rfl) ?_
      refine lv_bipush (v := nI 24) hx hb dX1_permute_3 (by decide +kernel) ?_
      refine kr_icmp_ge (tgt := 332) hx hb (by omega) (by omega) dX1_permute_5 rfl (fun hc => ?_) (fun hc => ?_)
      · obtain rfl : i = 24 := by omega
        exact hend C V H locs ls hl hP hD hS
      · have hi24 : i < 24 := hc
        refine lv_iconst (v := nI 0) hx hb dX1_permute_8 rfl ?_
        refine lv_istore_n hx hb dX1_permute_9 rfl hl (Nat.le_of_ble_eq_true rfl) rfl (fun ls hl => ?_)
        have hl : lv_has ls 6 [(2, .int (nI 0)), (1, .int (nI i)), (0, .ref (ad 0))] := hl
        refine la Q i (kk_rs f i) V (fun H locs ls hl hP hD hS => ?_) 6 0 C H locs ls (by omega) (by omega) (fun u hu => absurd hu (by omega)) hl hP hD hS
        refine lv_iconst (v := nI 0) hx hb dX1_permute_72 rfl ?_
        refine lv_istore_n hx hb dX1_permute_73 rfl hl (Nat.le_of_ble_eq_true rfl) rfl (fun ls hl => ?_)
        have hl : lv_has ls 6 [(2, .int (nI 0)), (1, .int (nI i)), (0, .ref (ad 0))] := hl
        have hl : lv_has ls 6 [(2, .int (nI 0)), (1, .int (nI i)), (0, .ref (ad 0))] := hl
        have hP : va_P D vwCl (kw_M ct ad F M Pl (kk_th (kk_rs f i) 0 0) (kk_col (kk_rs f i)) V kk_rc) H := by rw [kk_th_0]; exact hP
        have hD : va_D A (kw_M ct ad F M Pl (kk_th (kk_rs f i) 0 0) (kk_col (kk_rs f i)) V kk_rc) := by rw [kk_th_0]; exact hD
        refine lc Q i (kk_rs f i) V (fun H locs ls hl hP hD hS => ?_) 6 0 H locs ls (by omega) (by omega) hl hP hD hS
        refine lv_aload_n hx hb dX1_permute_140 rfl (lv_at hl 2 rfl) ?_
        refine va_get hx hb hts hin hown hK hP 0 rfl rfl 5 (by decide) (hts (.fieldLink RX1 16 "KeccakLanesModel" "moved" "[J") (by decide +kernel)) (fun _ h => h) rfl dX1_permute_141 ?_
        refine lv_iconst (v := nI 0) hx hb dX1_permute_144 rfl ?_
        refine lv_aload_n hx hb dX1_permute_145 rfl (lv_at hl 2 rfl) ?_
        refine va_get hx hb hts hin hown hK hP 0 rfl rfl 3 (by decide) (hts (.fieldLink RX1 7 "KeccakLanesModel" "lanes" "[J") (by decide +kernel)) (fun _ h => h) rfl dX1_permute_146 ?_
        refine lv_iconst (v := nI 0) hx hb dX1_permute_149 rfl ?_
        refine kr_lald hx hb hK hP 3 2 rfl rfl (n := 0) (by omega) (by omega) dX1_permute_150 ?_
        refine kr_last (w := kw_M ct ad F M Pl (kk_tt (kk_rs f i)) (kk_col (kk_rs f i)) (vp_updL V 0 ((kk_tt (kk_rs f i)) 0)) kk_rc) hx hb hK hP hD hS 5 2 rfl rfl (n := 0) (by omega) (by omega) rfl dX1_permute_151 (fun H locs hP hD hS => ?_)
        refine lv_iconst (v := nI 1) hx hb dX1_permute_152 rfl ?_
        refine lv_istore_n hx hb dX1_permute_153 rfl hl (Nat.le_of_ble_eq_true rfl) rfl (fun ls hl => ?_)
        have hl : lv_has ls 6 [(2, .int (nI 1)), (1, .int (nI i)), (0, .ref (ad 0))] := hl
        refine lv_iconst (v := nI 0) hx hb dX1_permute_154 rfl ?_
        refine lv_istore_n hx hb dX1_permute_155 rfl hl (Nat.le_of_ble_eq_true rfl) rfl (fun ls hl => ?_)
        have hl : lv_has ls 6 [(3, .int (nI 0)), (2, .int (nI 1)), (1, .int (nI i)), (0, .ref (ad 0))] := hl
        refine lv_iconst (v := nI 0) hx hb dX1_permute_156 rfl ?_
        refine lv_istore hx hb dX1_permute_157 hl (Nat.le_of_ble_eq_true rfl) rfl (fun ls hl => ?_)
        have hl : lv_has ls 6 [(4, .int (nI 0)), (3, .int (nI 0)), (2, .int (nI 1)), (1, .int (nI i)), (0, .ref (ad 0))] := hl
        have hl : lv_has ls 6 [(4, .int (nI 0)), (3, .int (nI (kk_wy 0))), (2, .int (nI (kk_wx 0))), (1, .int (nI i)), (0, .ref (ad 0))] := lv_sub hl [0, 1, 2, 3, 4] rfl
        refine lt Q i (kk_rs f i) (kk_col (kk_rs f i)) (fun H locs ls hl hP hD hS => ?_) 25 0 _ H locs ls (by omega) (by omega) pk_uLs (fun u hu => absurd hu (by omega)) hl hP hD hS
        refine lv_iconst (v := nI 0) hx hb dX1_permute_226 rfl ?_
        refine lv_istore hx hb dX1_permute_227 hl (Nat.le_of_ble_eq_true rfl) rfl (fun ls hl => ?_)
        have hl : lv_has ls 6 [(4, .int (nI 0)), (3, .int (nI (kk_wy 24))), (2, .int (nI (kk_wx 24))), (1, .int (nI i)), (0, .ref (ad 0))] := hl
        have hl : lv_has ls 6 [(4, .int (nI (5 * 0))), (1, .int (nI i)), (0, .ref (ad 0))] := lv_sub hl [0, 3, 4] rfl
        refine lm Q i (kk_col (kk_rs f i)) (kk_mv (kk_rs f i)) (fun H locs ls hl hP hD hS => ?_) 6 0 _ H locs ls (by omega) (by omega) (fun u hu => absurd hu (by omega)) hl hP hD hS
        refine lv_aload_n hx hb dX1_permute_311 rfl (lv_at hl 2 rfl) ?_
        refine va_get hx hb hts hin hown hK hP 0 rfl rfl 3 (by decide) (hts (.fieldLink RX1 7 "KeccakLanesModel" "lanes" "[J") (by decide +kernel)) (fun _ h => h) rfl dX1_permute_312 ?_
        refine lv_iconst (v := nI 0) hx hb dX1_permute_315 rfl ?_
        refine lv_dup2_11 hx hb dX1_permute_316 rfl rfl ?_
        refine kr_lald hx hb hK hP 3 2 rfl rfl (n := 0) (by omega) (by omega) dX1_permute_317 ?_
        refine lv_aload_n hx hb dX1_permute_318 rfl (lv_at hl 2 rfl) ?_
        refine va_get hx hb hts hin hown hK hP 0 rfl rfl 6 (by decide) (hts (.fieldLink RX1 21 "KeccakLanesModel" "constants" "[J") (by decide +kernel)) (fun _ h => h) rfl dX1_permute_319 ?_
        refine lv_iload_n hx hb dX1_permute_322 rfl (lv_at hl 1 rfl) ?_
        refine kr_lald hx hb hK hP 6 2 rfl rfl (n := i) (by omega) (by omega) dX1_permute_323 ?_
        refine lv_lxor hx hb dX1_permute_324 ?_
        refine kr_last (w := kw_M ct ad F M Pl (vp_updL (kk_ch (kk_mv (kk_rs f i))) 0 (((kk_ch (kk_mv (kk_rs f i))) 0) ^^^ (kk_rc i))) (kk_col (kk_rs f i)) (kk_mv (kk_rs f i)) kk_rc) hx hb hK hP hD hS 3 2 rfl rfl (n := 0) (by omega) (by omega) rfl dX1_permute_325 (fun H locs hP hD hS => ?_)
        refine lv_iinc (k := 1) (v := nI (i + 1)) hx hb dX1_permute_326 hl rfl (nI_add i 1) (Nat.le_of_ble_eq_true rfl) rfl (fun ls hl => ?_)
        have hl : lv_has ls 6 [(1, .int (nI (i + 1))), (4, .int (nI (5 * 5))), (0, .ref (ad 0))] := hl
        refine lv_goto (tgt := 2) hx hb dX1_permute_329 rfl ?_
        exact ih (i + 1) _ _ H locs ls (by omega) (by omega) (lv_sub hl [0, 2] rfl) hP hD hS
  refine lv_iconst (v := nI 0) hx hb dX1_permute_0 rfl ?_
  refine lv_istore_n hx hb dX1_permute_1 rfl hl (Nat.le_of_ble_eq_true rfl) rfl (fun ls hl => ?_)
  have hl : lv_has ls 6 [(1, .int (nI 0)), (0, .ref (ad 0))] := hl
  refine lr _ trivial (fun C V H locs ls hl hP hD hS => ?_) 25 0 C V s.heap [] ls (by omega) (by omega) hl hP hD hS
  exact W.vret hx hb hr (fun t ht hW => ⟨⟨(C, V), rfl, trivial, by rw [ht]; exact hP, va_K.moved hW.alike hK, hD⟩, hS.F ht⟩) hS.2.2 dX1_permute_332
end
section
/-! KeccakLanesModel: taken; the public methods where they answer -/
theorem kk_bt1 : kk_bt (nI 1) = 1 := by decide +kernel
theorem kk_j135 (f : Nat → Int64) : vp_updL f 16 (f 16 ^^^ (-9223372036854775808)) = kk_join f 135 (kk_bt (nI 128)) := by
  unfold kk_join
  rw [show 135 / 8 = 16 from rfl, show (kk_bt (nI 128) <<< ((nI (8 * (135 % 8))).toInt64 &&& 63)) = -9223372036854775808 by decide +kernel]
set_option maxHeartbeats 4000000 in
set_option maxRecDepth 100000 in
theorem km_taken (l : Launch) (D : va_G) (ct : Nat → ClassId) (ad : Nat → Nat) (F : Int32) (M : Nat → Nat → Int64) (Pl : Nat → Nat) (L C V K : Nat → Int64) (sz : Nat) (f : Nat → Int64) {k q : Nat} (hk : k < 8) (hq0 : q < 136) (b : Int32) : Met l yX1_taken wsM_taken ({ frames := 2, cells := 0, slots := 0, locals := 47 }) (kr_P D vwCl (kw_T ct) kw_N [.ref (ad 0), .int (nI k), .int b] (kw_M ct ad F M (va_up Pl k q) f C V kk_rc) sz) (va_Qv (S := ((Nat → Int64) × (Nat → Int64))) (fun _ => True) (kr_B D vwCl (kw_T ct) (fun u => kw_M ct ad F M (va_up Pl k (kk_in (f, q) b).2) (kk_in (f, q) b).1 u.1 u.2 kk_rc) (va_A (kw_M ct ad F M (va_up Pl k q) f C V kk_rc) sz)) (va_A (kw_M ct ad F M (va_up Pl k q) f C V kk_rc) sz)) 0 0 (va_A (kw_M ct ad F M (va_up Pl k q) f C V kk_rc) sz) := by
  refine Met.ofW (cc := cX1_taken) (maxL := 4) (ret := none) (by decide) rfl ?_
  intro p e s m args below meth c s₁ B hml hv
  obtain ⟨rfl, hsz, hP, hK, hD0, hB⟩ := hv
  have hx := B.exec
  have hb := B.bytes
  have hr := B.returns
  have hts := atoms_spec (ws := wsM_taken) B.pre
  have hown : s.vm.findClass RX1 = some m.cls := findClass_of_methodNamed B.named
  have hlocks := B.notSynchronized
  have hin : ∀ w ∈ u_ws RX1 TX1 7, w ∈ wsM_taken := fun w h => List.mem_cons_of_mem _ (kM_in w h)
  subst hsz
  have hD := hD0.self (sz := s.heap.size)
  generalize hAe : va_A (kw_M ct ad F M (va_up Pl k q) f C V kk_rc) s.heap.size = A at hD hB ⊢
  have hA : ∀ q : Nat, s.heap.size ≤ q → A q := fun q h => by rw [← hAe]; exact Or.inr h
  have hS : va_S A s.heap s.heap [] := va_S.rf
  have hl := lv_entry ([.ref (ad 0), .int (nI k), .int b]) (n := 4) (Nat.le_of_ble_eq_true rfl)
  rw [lg_entry_eq]
  generalize (lg_sl ([.ref (ad 0), .int (nI k), .int b]) ++ List.replicate (4 - (lg_sl ([.ref (ad 0), .int (nI k), .int b])).length) Slot.unset).toArray = ls at hl ⊢
  have hl : lv_has ls 4 [(0, .ref (ad 0)), (1, .int (nI k)), (2, .int b)] := hl
  refine lv_aload_n hx hb dX1_taken_0 rfl (lv_at hl 0 rfl) ?_
  refine va_get hx hb hts hin hown hK hP 0 rfl rfl 2 (by decide) (hts (.fieldLink RX1 35 "KeccakLanesModel" "places" "[I") (by decide +kernel)) (fun _ h => h) rfl dX1_taken_1 ?_
  refine lv_iload_n hx hb dX1_taken_4 rfl (lv_at hl 1 rfl) ?_
  refine kr_iald hx hb hK hP 2 1 rfl rfl (n := k) (by omega) (by omega) dX1_taken_5 ?_
  rw [va_up_self]
  refine lv_istore_n hx hb dX1_taken_6 rfl hl (Nat.le_of_ble_eq_true rfl) rfl (fun ls hl => ?_)
  have hl : lv_has ls 4 [(3, .int (nI q)), (0, .ref (ad 0)), (1, .int (nI k)), (2, .int b)] := hl
  refine lv_aload_n hx hb dX1_taken_7 rfl (lv_at hl 1 rfl) ?_
  refine va_get hx hb hts hin hown hK hP 0 rfl rfl 3 (by decide) (hts (.fieldLink RX1 7 "KeccakLanesModel" "lanes" "[J") (by decide +kernel)) (fun _ h => h) rfl dX1_taken_8 ?_
  refine lv_iload_n hx hb dX1_taken_11 rfl (lv_at hl 0 rfl) ?_
  refine lv_bipush (v := nI 8) hx hb dX1_taken_12 (by decide +kernel) ?_
  refine kr_idiv hx hb (by omega) (by omega) (by omega) dX1_taken_14 ?_
  refine lv_dup2_11 hx hb dX1_taken_15 rfl rfl ?_
  refine kr_lald hx hb hK hP 3 2 rfl rfl (n := q / 8) (by omega) (by omega) dX1_taken_16 ?_
  refine lv_iload_n hx hb dX1_taken_17 rfl (lv_at hl 3 rfl) ?_
  refine lv_sipush (v := nI 255) hx hb dX1_taken_18 (by decide +kernel) ?_
  refine lv_iand hx hb dX1_taken_21 ?_
  refine lv_i2l hx hb dX1_taken_22 rfl ?_
  rw [kk_bt_n]
  refine lv_bipush (v := nI 8) hx hb dX1_taken_23 (by decide +kernel) ?_
  refine lv_iload_n hx hb dX1_taken_25 rfl (lv_at hl 0 rfl) ?_
  refine lv_bipush (v := nI 8) hx hb dX1_taken_26 (by decide +kernel) ?_
  refine kr_irem hx hb (by omega) (by omega) (by omega) dX1_taken_28 ?_
  refine kr_imul hx hb dX1_taken_29 ?_
  refine lv_lshl hx hb dX1_taken_30 rfl ?_
  refine lv_lxor hx hb dX1_taken_31 ?_
  refine kr_last (w := kw_M ct ad F M (va_up Pl k q) (vp_updL f (q / 8) ((f (q / 8)) ^^^ ((kk_bt b) <<< ((nI (8 * (q % 8))).toInt64 &&& 63)))) C V kk_rc) hx hb hK hP hD hS 3 2 rfl rfl (n := q / 8) (by omega) (by omega) rfl dX1_taken_32 (fun H locs hP hD hS => ?_)
  have hP : va_P D vwCl (kw_M ct ad F M (va_up Pl k q) (kk_join f q (kk_bt b)) C V kk_rc) H := hP
  have hD : va_D A (kw_M ct ad F M (va_up Pl k q) (kk_join f q (kk_bt b)) C V kk_rc) := hD
  refine lv_aload_n hx hb dX1_taken_33 rfl (lv_at hl 1 rfl) ?_
  refine va_get hx hb hts hin hown hK hP 0 rfl rfl 2 (by decide) (hts (.fieldLink RX1 35 "KeccakLanesModel" "places" "[I") (by decide +kernel)) (fun _ h => h) rfl dX1_taken_34 ?_
  refine lv_iload_n hx hb dX1_taken_37 rfl (lv_at hl 2 rfl) ?_
  refine lv_dup2_11 hx hb dX1_taken_38 rfl rfl ?_
  refine kr_iald hx hb hK hP 2 1 rfl rfl (n := k) (by omega) (by omega) dX1_taken_39 ?_
  rw [va_up_self]
  refine lv_iconst (v := nI 1) hx hb dX1_taken_40 rfl ?_
  refine kr_iadd hx hb dX1_taken_41 ?_
  refine kr_iast hx hb hK hP hD hS 2 1 rfl rfl (n := k) (by omega) (by omega) ((kw_MsP k (q + 1)).trans (by rw [bx_uu])) dX1_taken_42 (fun H locs hP hD hS => ?_)
  have hP : va_P D vwCl (kw_M ct ad F M (va_up Pl k (q + 1)) (kk_join f q (kk_bt b)) C V kk_rc) H := hP
  have hD : va_D A (kw_M ct ad F M (va_up Pl k (q + 1)) (kk_join f q (kk_bt b)) C V kk_rc) := hD
  refine lv_aload_n hx hb dX1_taken_43 rfl (lv_at hl 1 rfl) ?_
  refine va_get hx hb hts hin hown hK hP 0 rfl rfl 2 (by decide) (hts (.fieldLink RX1 35 "KeccakLanesModel" "places" "[I") (by decide +kernel)) (fun _ h => h) rfl dX1_taken_44 ?_
  refine lv_iload_n hx hb dX1_taken_47 rfl (lv_at hl 2 rfl) ?_
  refine kr_iald hx hb hK hP 2 1 rfl rfl (n := k) (by omega) (by omega) dX1_taken_48 ?_
  rw [va_up_self]
  refine lv_sipush (v := nI 136) hx hb dX1_taken_49 (by decide +kernel) ?_
  refine kr_icmp_ge (tgt := 56) hx hb (by omega) (by omega) dX1_taken_52 rfl (fun hc => ?_) (fun hc => ?_)
  · have e9 : kk_in (f, q) b = (kk_mix (kk_join f q (kk_bt b)), 0) := if_pos (show q + 1 = 136 by omega)
    refine lv_aload_n hx hb dX1_taken_56 rfl (lv_at hl 1 rfl) ?_
    refine kr_callv (va_runV (As := []) (rest := []) ⟨hx, hb, hml, hown, hts⟩ (km_permute l D ct ad F M (va_up Pl k (q + 1)) L C V K _ (kk_join f q (kk_bt b))) (cwV 0 hts gM_taken_permute rfl rfl rfl (by decide +kernel) ⟨Nat.le_of_ble_eq_true rfl, Nat.le_of_ble_eq_true rfl⟩) (kr_preV kw_Nok (q := (RX1, TX1, 7)) (q0 := 0) (ci := 1) _ hP hK hD hB hS hA rfl rfl rfl) rfl rfl hl.1 rfl (lv_room (Nat.le_of_ble_eq_true rfl)) dX1_taken_57 ⟨Nat.zero_le _, Nat.zero_le _⟩) hD hS hA (fun u H locs hq hP hD hS => ?_)
    have hP : va_P D vwCl (kw_M ct ad F M (va_up Pl k (q + 1)) (kk_mix (kk_join f q (kk_bt b))) u.1 u.2 kk_rc) H := hP
    have hD : va_D A (kw_M ct ad F M (va_up Pl k (q + 1)) (kk_mix (kk_join f q (kk_bt b))) u.1 u.2 kk_rc) := hD
    refine lv_aload_n hx hb dX1_taken_60 rfl (lv_at hl 1 rfl) ?_
    refine va_get hx hb hts hin hown hK hP 0 rfl rfl 2 (by decide) (hts (.fieldLink RX1 35 "KeccakLanesModel" "places" "[I") (by decide +kernel)) (fun _ h => h) rfl dX1_taken_61 ?_
    refine lv_iload_n hx hb dX1_taken_64 rfl (lv_at hl 2 rfl) ?_
    refine lv_iconst (v := nI 0) hx hb dX1_taken_65 rfl ?_
    refine kr_iast hx hb hK hP hD hS 2 1 rfl rfl (n := k) (by omega) (by omega) ((kw_MsP k 0).trans (by rw [bx_uu])) dX1_taken_66 (fun H locs hP hD hS => ?_)
    have hP : va_P D vwCl (kw_M ct ad F M (va_up Pl k 0) (kk_mix (kk_join f q (kk_bt b))) u.1 u.2 kk_rc) H := hP
    have hD : va_D A (kw_M ct ad F M (va_up Pl k 0) (kk_mix (kk_join f q (kk_bt b))) u.1 u.2 kk_rc) := hD
    refine W.vret hx hb hr (fun t ht hW => ⟨⟨u, rfl, trivial, ?_, va_K.moved hW.alike hK, ?_⟩, hS.F ht⟩) hS.2.2 dX1_taken_67
    · rw [ht]; show va_P D vwCl (kw_M ct ad F M (va_up Pl k (kk_in (f, q) b).2) (kk_in (f, q) b).1 u.1 u.2 kk_rc) H; rw [e9]; exact hP
    · show va_D A (kw_M ct ad F M (va_up Pl k (kk_in (f, q) b).2) (kk_in (f, q) b).1 u.1 u.2 kk_rc); rw [e9]; exact hD
  · have e9 : kk_in (f, q) b = (kk_join f q (kk_bt b), q + 1) := if_neg (show ¬ q + 1 = 136 by omega)
    refine W.vret hx hb hr (fun t ht hW => ⟨⟨(C, V), rfl, trivial, ?_, va_K.moved hW.alike hK, ?_⟩, hS.F ht⟩) hS.2.2 dX1_taken_55
    · rw [ht]; show va_P D vwCl (kw_M ct ad F M (va_up Pl k (kk_in (f, q) b).2) (kk_in (f, q) b).1 C V kk_rc) H; rw [e9]; exact hP
    · show va_D A (kw_M ct ad F M (va_up Pl k (kk_in (f, q) b).2) (kk_in (f, q) b).1 C V kk_rc); rw [e9]; exact hD
set_option maxHeartbeats 4000000 in
set_option maxRecDepth 100000 in
theorem km_clear (l : Launch) (D : va_G) (ct : Nat → ClassId) (ad : Nat → Nat) (F : Int32) (M : Nat → Nat → Int64) (Pl : Nat → Nat) (L C V K : Nat → Int64) (sz : Nat) {k : Nat} (hk : k < 8) : Met l yX1_clear wsM_clear ({ frames := 1, cells := 0, slots := 0, locals := 21 }) (kr_P D vwCl (kw_T ct) kw_N [.ref (ad 0), .int (nI k)] (kw_M ct ad F M Pl L C V kk_rc) sz) (va_Qv (S := Unit) (fun _ => True) (kr_B D vwCl (kw_T ct) (fun _ => kw_M ct ad (nI 0) (va_up M k (fun _ => 0)) (va_up Pl k 0) L C V kk_rc) (va_A (kw_M ct ad F M Pl L C V kk_rc) sz)) (va_A (kw_M ct ad F M Pl L C V kk_rc) sz)) 0 0 (va_A (kw_M ct ad F M Pl L C V kk_rc) sz) := by
  refine Met.ofW (cc := cX1_clear) (maxL := 3) (ret := none) (by decide) rfl ?_
  intro p e s m args below meth c s₁ B hml hv
  obtain ⟨rfl, hsz, hP, hK, hD0, hB⟩ := hv
  have hx := B.exec
  have hb := B.bytes
  have hr := B.returns
  have hts := atoms_spec (ws := wsM_clear) B.pre
  have hown : s.vm.findClass RX1 = some m.cls := findClass_of_methodNamed B.named
  have hlocks := B.notSynchronized
  have hin : ∀ w ∈ u_ws RX1 TX1 7, w ∈ wsM_clear := fun w h => List.mem_cons_of_mem _ (kM_in w h)
  subst hsz
  have hD := hD0.self (sz := s.heap.size)
  generalize hAe : va_A (kw_M ct ad F M Pl L C V kk_rc) s.heap.size = A at hD hB ⊢
  have hA : ∀ q : Nat, s.heap.size ≤ q → A q := fun q h => by rw [← hAe]; exact Or.inr h
  have hS : va_S A s.heap s.heap [] := va_S.rf
  have hl := lv_entry ([.ref (ad 0), .int (nI k)]) (n := 3) (Nat.le_of_ble_eq_true rfl)
  rw [lg_entry_eq]
  generalize (lg_sl ([.ref (ad 0), .int (nI k)]) ++ List.replicate (3 - (lg_sl ([.ref (ad 0), .int (nI k)])).length) Slot.unset).toArray = ls at hl ⊢
  have hl : lv_has ls 3 [(0, .ref (ad 0)), (1, .int (nI k))] := hl
  refine lv_aload_n hx hb dX1_clear_0 rfl (lv_at hl 0 rfl) ?_
  refine lv_iconst (v := nI 0) hx hb dX1_clear_1 rfl ?_
  refine va_put (ci := 1) (v := .int (nI 0)) (ty := .int) (C := RX1) (T := TX1) (N := 7) hx hb hts hin tyX1 tyX1_ok nmX1 hown hK hP hD hS 0 rfl rfl 0 (by decide) (hts (.fieldLink RX1 43 "KeccakLanesModel" "failed" "I") (by decide +kernel)) (fun _ h9 => h9) rfl (by decide +kernel) rfl rfl (Nat.le_of_ble_eq_true rfl) dX1_clear_2 (fun H locs hP hD hS => ?_)
  have hP : va_P D vwCl (kw_M ct ad (nI 0) M Pl L C V kk_rc) H := hP
  have hD : va_D A (kw_M ct ad (nI 0) M Pl L C V kk_rc) := hD
  refine lv_aload_n hx hb dX1_clear_5 rfl (lv_at hl 0 rfl) ?_
  refine lv_iload_n hx hb dX1_clear_6 rfl (lv_at hl 1 rfl) ?_
  refine kr_calli (va_runV (As := [.int (nI k)]) (rest := []) ⟨hx, hb, hml, hown, hts⟩ (km_out l D ct ad (nI 0) M Pl L C V kk_rc _ (a := k) (by omega)) (cwV 1 hts gM_clear_out rfl rfl rfl (by decide +kernel) ⟨Nat.le_of_ble_eq_true rfl, Nat.le_of_ble_eq_true rfl⟩) (kr_preV kw_Nok (q := (RX1, TX1, 7)) (q0 := 0) (ci := 1) _ hP hK hD hB hS hA rfl rfl rfl) rfl rfl hl.1 rfl (lv_room (Nat.le_of_ble_eq_true rfl)) dX1_clear_7 ⟨Nat.zero_le _, Nat.zero_le _⟩) hD hS hA (fun r u H locs hq hP hD hS => ?_)
  obtain rfl : r = nI 0 := hq
  have hP : va_P D vwCl (kw_M ct ad (nI 0) M Pl L C V kk_rc) H := hP
  have hD : va_D A (kw_M ct ad (nI 0) M Pl L C V kk_rc) := hD
  refine lv_if_eq (tgt := 21) hx hb dX1_clear_10 rfl (fun hc => ?_) (fun hc => ?_)
  · clear hc
    refine lv_iconst (v := nI 0) hx hb dX1_clear_21 rfl ?_
    refine lv_istore_n hx hb dX1_clear_22 rfl hl (Nat.le_of_ble_eq_true rfl) rfl (fun ls hl => ?_)
    have hl : lv_has ls 3 [(2, .int (nI 0)), (0, .ref (ad 0)), (1, .int (nI k))] := hl
    have loop : ∀ (Q : State → Prop), (∀ (g : Nat → Int64) (H : Heap) (locs : List Loc) (ls : Array Slot), (∀ u, u < 25 → g u = 0) → lv_has ls 3 [(2, .int (nI 25)), (0, .ref (ad 0)), (1, .int (nI k))] → va_P D vwCl (kw_M ct ad (nI 0) (va_up M k g) Pl L C V kk_rc) H → va_D A (kw_M ct ad (nI 0) (va_up M k g) Pl L C V kk_rc) → va_S A s.heap H locs → W p l e (headSpec wsM_clear ({ frames := 1, cells := 0, slots := 0, locals := 21 })).room s m (([.ref (ad 0), .int (nI k)] : List Value).toArray) below meth c H locs 0 0 Q (F0 m 44 ls [])) → ∀ (n i : Nat) (g : Nat → Int64) (H : Heap) (locs : List Loc) (ls : Array Slot), 25 - i < n → i ≤ 25 → (∀ u, u < i → g u = 0) → lv_has ls 3 [(2, .int (nI i)), (0, .ref (ad 0)), (1, .int (nI k))] → va_P D vwCl (kw_M ct ad (nI 0) (va_up M k g) Pl L C V kk_rc) H → va_D A (kw_M ct ad (nI 0) (va_up M k g) Pl L C V kk_rc) → va_S A s.heap H locs → W p l e (headSpec wsM_clear ({ frames := 1, cells := 0, slots := 0, locals := 21 })).room s m (([.ref (ad 0), .int (nI k)] : List Value).toArray) below meth c H locs 0 0 Q (F0 m 23 ls []) := by
      intro Q hend n
      induction n with
      | zero => intro i g H locs ls h; omega
      | succ n ih =>
        intro i g H locs ls hn hi hinv hl hP hD hS
        refine lv_iload_n hx hb dX1_clear_23 rfl (lv_at hl 0 rfl) ?_
        refine lv_bipush (v := nI 25) hx hb dX1_clear_24 (by decide +kernel) ?_
        refine kr_icmp_ge (tgt := 44) hx hb (by omega) (by omega) dX1_clear_26 rfl (fun hc => ?_) (fun hc => ?_)
        · obtain rfl : i = 25 := by omega
          exact hend g H locs ls hinv hl hP hD hS
        · have hi25 : i < 25 := by omega
          refine lv_aload_n hx hb dX1_clear_29 rfl (lv_at hl 1 rfl) ?_
          refine va_get hx hb hts hin hown hK hP 0 rfl rfl 1 (by decide) (hts (.fieldLink RX1 32 "KeccakLanesModel" "states" "[[J") (by decide +kernel)) (fun _ h => h) rfl dX1_clear_30 ?_
          refine lv_iload_n hx hb dX1_clear_33 rfl (lv_at hl 2 rfl) ?_
          refine kr_aald hx hb hK hP 1 0 rfl rfl (n := k) (y := ad (7 + k)) (by omega) (by omega) (if_pos (by omega)) dX1_clear_34 ?_
          refine lv_iload_n hx hb dX1_clear_35 rfl (lv_at hl 0 rfl) ?_
          refine lv_lconst (v := 0) hx hb dX1_clear_36 rfl ?_
          refine kr_last (w := kw_M ct ad (nI 0) (va_up M k (vp_updL g i 0)) Pl L C V kk_rc) hx hb hK hP hD hS (7 + k) 2 (kw_Mrg hk) rfl (n := i) (by omega) (by omega) (kw_Msg hk _) dX1_clear_37 (fun H locs hP hD hS => ?_)
          refine lv_iinc (k := 0) (v := nI (i + 1)) hx hb dX1_clear_38 hl rfl (nI_add i 1) (Nat.le_of_ble_eq_true rfl) rfl (fun ls hl => ?_)
          have hl : lv_has ls 3 [(2, .int (nI (i + 1))), (0, .ref (ad 0)), (1, .int (nI k))] := hl
          refine lv_goto (tgt := 23) hx hb dX1_clear_41 rfl ?_
          refine ih (i + 1) _ H locs ls (by omega) (by omega) (fun u hu => ?_) hl hP hD hS
          by_cases e9 : u = i
          · subst e9; rw [pk_uLs]
          · rw [pk_uLn e9]; exact hinv u (by omega)
    have hP : va_P D vwCl (kw_M ct ad (nI 0) (va_up M k (M k)) Pl L C V kk_rc) H := by rw [kw_self]; exact hP
    have hD : va_D A (kw_M ct ad (nI 0) (va_up M k (M k)) Pl L C V kk_rc) := by rw [kw_self]; exact hD
    refine loop _ (fun g H locs ls hinv hl hP hD hS => ?_) 26 0 (M k) H locs ls (by omega) (by omega) (fun u hu => absurd hu (by omega)) hl hP hD hS
    have hP : va_P D vwCl (kw_M ct ad (nI 0) (va_up M k (fun _ => 0)) Pl L C V kk_rc) H := kr_sameL (q0 := 7 + k) hP (kw_Mrg hk) hinv (kw_Msg hk _)
    have hD : va_D A (kw_M ct ad (nI 0) (va_up M k (fun _ => 0)) Pl L C V kk_rc) := kr_sameD (q0 := 7 + k) hD (kw_Mrg hk) (kw_Msg hk _)
    refine lv_aload_n hx hb dX1_clear_44 rfl (lv_at hl 1 rfl) ?_
    refine va_get hx hb hts hin hown hK hP 0 rfl rfl 2 (by decide) (hts (.fieldLink RX1 35 "KeccakLanesModel" "places" "[I") (by decide +kernel)) (fun _ h => h) rfl dX1_clear_45 ?_
    refine lv_iload_n hx hb dX1_clear_48 rfl (lv_at hl 2 rfl) ?_
    refine lv_iconst (v := nI 0) hx hb dX1_clear_49 rfl ?_
    refine kr_iast hx hb hK hP hD hS 2 1 rfl rfl (n := k) (by omega) (by omega) (kw_MsP k 0) dX1_clear_50 (fun H locs hP hD hS => ?_)
    exact W.vret hx hb hr (fun t ht hW => ⟨⟨(), rfl, trivial, by rw [ht]; exact hP, va_K.moved hW.alike hK, hD⟩, hS.F ht⟩) hS.2.2 dX1_clear_51
  · exact absurd rfl hc
set_option maxHeartbeats 4000000 in
set_option maxRecDepth 100000 in
theorem km_take (l : Launch) (D : va_G) (ct : Nat → ClassId) (ad : Nat → Nat) (F : Int32) (M : Nat → Nat → Int64) (Pl : Nat → Nat) (L C V K : Nat → Int64) (sz : Nat) {k n : Nat} (hk : k < 8) (hn8 : n ≤ 8) (hq0 : (M k, Pl k).2 < 136) (v : Int64) : Met l yX1_take wsM_take ({ frames := 3, cells := 0, slots := 0, locals := 70 }) (kr_P D vwCl (kw_T ct) kw_N [.ref (ad 0), .int (nI k), .long v, .int (nI n)] (kw_M ct ad F M Pl L C V kk_rc) sz) (va_Qi (S := ((Nat → Int64) × (Nat → Int64))) (fun r _ => r = nI (kk_ins (M k, Pl k) (kk_tb v) n).2) (kr_B D vwCl (kw_T ct) (fun u => kw_M ct ad (nI 0) (va_up M k (kk_ins (M k, Pl k) (kk_tb v) n).1) (va_up Pl k (kk_ins (M k, Pl k) (kk_tb v) n).2) (kk_ins (M k, Pl k) (kk_tb v) n).1 u.1 u.2 kk_rc) (va_A (kw_M ct ad F M Pl L C V kk_rc) sz)) (va_A (kw_M ct ad F M Pl L C V kk_rc) sz)) 0 0 (va_A (kw_M ct ad F M Pl L C V kk_rc) sz) := by
  refine Met.ofW (cc := cX1_take) (maxL := 6) (ret := (some .int)) (by decide) rfl ?_
  intro p e s m args below meth c s₁ B hml hv
  obtain ⟨rfl, hsz, hP, hK, hD0, hB⟩ := hv
  have hx := B.exec
  have hb := B.bytes
  have hr := B.returns
  have hts := atoms_spec (ws := wsM_take) B.pre
  have hown : s.vm.findClass RX1 = some m.cls := findClass_of_methodNamed B.named
  have hlocks := B.notSynchronized
  have hin : ∀ w ∈ u_ws RX1 TX1 7, w ∈ wsM_take := fun w h => List.mem_cons_of_mem _ (kM_in w h)
  subst hsz
  have hD := hD0.self (sz := s.heap.size)
  generalize hAe : va_A (kw_M ct ad F M Pl L C V kk_rc) s.heap.size = A at hD hB ⊢
  have hA : ∀ q : Nat, s.heap.size ≤ q → A q := fun q h => by rw [← hAe]; exact Or.inr h
  have hS : va_S A s.heap s.heap [] := va_S.rf
  have hl := lv_entry ([.ref (ad 0), .int (nI k), .long v, .int (nI n)]) (n := 6) (Nat.le_of_ble_eq_true rfl)
  rw [lg_entry_eq]
  generalize (lg_sl ([.ref (ad 0), .int (nI k), .long v, .int (nI n)]) ++ List.replicate (6 - (lg_sl ([.ref (ad 0), .int (nI k), .long v, .int (nI n)])).length) Slot.unset).toArray = ls at hl ⊢
  have hl : lv_has ls 6 [(0, .ref (ad 0)), (1, .int (nI k)), (2, .long v), (4, .int (nI n))] := hl
  refine lv_aload_n hx hb dX1_take_0 rfl (lv_at hl 0 rfl) ?_
  refine lv_iconst (v := nI 0) hx hb dX1_take_1 rfl ?_
  refine va_put (ci := 1) (v := .int (nI 0)) (ty := .int) (C := RX1) (T := TX1) (N := 7) hx hb hts hin tyX1 tyX1_ok nmX1 hown hK hP hD hS 0 rfl rfl 0 (by decide) (hts (.fieldLink RX1 43 "KeccakLanesModel" "failed" "I") (by decide +kernel)) (fun _ h9 => h9) rfl (by decide +kernel) rfl rfl (Nat.le_of_ble_eq_true rfl) dX1_take_2 (fun H locs hP hD hS => ?_)
  have hP : va_P D vwCl (kw_M ct ad (nI 0) M Pl L C V kk_rc) H := hP
  have hD : va_D A (kw_M ct ad (nI 0) M Pl L C V kk_rc) := hD
  refine lv_aload_n hx hb dX1_take_5 rfl (lv_at hl 0 rfl) ?_
  refine lv_iload_n hx hb dX1_take_6 rfl (lv_at hl 1 rfl) ?_
  refine kr_calli (va_runV (As := [.int (nI k)]) (rest := []) ⟨hx, hb, hml, hown, hts⟩ (km_out l D ct ad (nI 0) M Pl L C V kk_rc _ (a := k) (by omega)) (cwV 1 hts gM_take_out rfl rfl rfl (by decide +kernel) ⟨Nat.le_of_ble_eq_true rfl, Nat.le_of_ble_eq_true rfl⟩) (kr_preV kw_Nok (q := (RX1, TX1, 7)) (q0 := 0) (ci := 1) _ hP hK hD hB hS hA rfl rfl rfl) rfl rfl hl.1 rfl (lv_room (Nat.le_of_ble_eq_true rfl)) dX1_take_7 ⟨Nat.zero_le _, Nat.zero_le _⟩) hD hS hA (fun r u H locs hq hP hD hS => ?_)
  obtain rfl : r = nI 0 := hq
  have hP : va_P D vwCl (kw_M ct ad (nI 0) M Pl L C V kk_rc) H := hP
  have hD : va_D A (kw_M ct ad (nI 0) M Pl L C V kk_rc) := hD
  refine lv_if_ne (tgt := 25) hx hb dX1_take_10 rfl (fun hc => ?_) (fun hc => ?_)
  · exact absurd rfl hc
  · clear hc
    refine lv_iload hx hb dX1_take_13 (lv_at hl 3 rfl) ?_
    refine lv_if_lt (tgt := 25) hx hb dX1_take_15 rfl (fun hc => ?_) (fun hc => ?_)
    · exact absurd hc (nI_pos (by omega))
    · clear hc
      refine lv_iload hx hb dX1_take_18 (lv_at hl 3 rfl) ?_
      refine lv_bipush (v := nI 8) hx hb dX1_take_20 (by decide +kernel) ?_
      refine kr_icmp_le (tgt := 31) hx hb (by omega) (by omega) dX1_take_22 rfl (fun hc => ?_) (fun hc => ?_)
      · clear hc
        refine lv_aload_n hx hb dX1_take_31 rfl (lv_at hl 0 rfl) ?_
        refine lv_iload_n hx hb dX1_take_32 rfl (lv_at hl 1 rfl) ?_
        refine kr_callv (va_runV (As := [.int (nI k)]) (rest := []) ⟨hx, hb, hml, hown, hts⟩ (km_get l D ct ad (nI 0) M Pl L C V kk_rc _ hk) (cwV 1 hts gM_take_get rfl rfl rfl (by decide +kernel) ⟨Nat.le_of_ble_eq_true rfl, Nat.le_of_ble_eq_true rfl⟩) (kr_preV kw_Nok (q := (RX1, TX1, 7)) (q0 := 0) (ci := 1) _ hP hK hD hB hS hA rfl rfl rfl) rfl rfl hl.1 rfl (lv_room (Nat.le_of_ble_eq_true rfl)) dX1_take_33 ⟨Nat.zero_le _, Nat.zero_le _⟩) hD hS hA (fun u H locs hq hP hD hS => ?_)
        have hP : va_P D vwCl (kw_M ct ad (nI 0) M Pl (M k) C V kk_rc) H := hP
        have hD : va_D A (kw_M ct ad (nI 0) M Pl (M k) C V kk_rc) := hD
        refine lv_iconst (v := nI 0) hx hb dX1_take_36 rfl ?_
        refine lv_istore hx hb dX1_take_37 hl (Nat.le_of_ble_eq_true rfl) rfl (fun ls hl => ?_)
        have hl : lv_has ls 6 [(5, .int (nI 0)), (0, .ref (ad 0)), (1, .int (nI k)), (2, .long v), (4, .int (nI n))] := hl
        have hl : lv_has ls 6 [(5, .int (nI 0)), (0, .ref (ad 0)), (1, .int (nI k)), (2, .long v), (4, .int (nI n))] := lv_sub hl [0, 1, 2, 3, 4] rfl
        have loop : ∀ (Q : State → Prop), (∀ (C V : Nat → Int64) (H : Heap) (locs : List Loc) (ls : Array Slot), lv_has ls 6 [(5, .int (nI n)), (0, .ref (ad 0)), (1, .int (nI k)), (2, .long v), (4, .int (nI n))] → va_P D vwCl (kw_M ct ad (nI 0) M (va_up Pl k (kk_ins (M k, Pl k) (kk_tb v) n).2) (kk_ins (M k, Pl k) (kk_tb v) n).1 C V kk_rc) H → va_D A (kw_M ct ad (nI 0) M (va_up Pl k (kk_ins (M k, Pl k) (kk_tb v) n).2) (kk_ins (M k, Pl k) (kk_tb v) n).1 C V kk_rc) → va_S A s.heap H locs → W p l e (headSpec wsM_take ({ frames := 3, cells := 0, slots := 0, locals := 70 })).room s m (([.ref (ad 0), .int (nI k), .long v, .int (nI n)] : List Value).toArray) below meth c H locs 0 0 Q (F0 m 65 ls [])) → ∀ (f i : Nat) (C V : Nat → Int64) (H : Heap) (locs : List Loc) (ls : Array Slot), n - i < f → i ≤ n → lv_has ls 6 [(5, .int (nI i)), (0, .ref (ad 0)), (1, .int (nI k)), (2, .long v), (4, .int (nI n))] → va_P D vwCl (kw_M ct ad (nI 0) M (va_up Pl k (kk_ins (M k, Pl k) (kk_tb v) i).2) (kk_ins (M k, Pl k) (kk_tb v) i).1 C V kk_rc) H → va_D A (kw_M ct ad (nI 0) M (va_up Pl k (kk_ins (M k, Pl k) (kk_tb v) i).2) (kk_ins (M k, Pl k) (kk_tb v) i).1 C V kk_rc) → va_S A s.heap H locs → W p l e (headSpec wsM_take ({ frames := 3, cells := 0, slots := 0, locals := 70 })).room s m (([.ref (ad 0), .int (nI k), .long v, .int (nI n)] : List Value).toArray) below meth c H locs 0 0 Q (F0 m 39 ls []) := by
          intro Q hend f
          induction f with
          | zero => intro i C V H locs ls h; omega
          | succ f ih =>
            intro i C V H locs ls hn hi hl hP hD hS
            refine lv_iload hx hb dX1_take_39 (lv_at hl 0 rfl) ?_
            refine lv_iload hx hb dX1_take_41 (lv_at hl 4 rfl) ?_
            refine kr_icmp_ge (tgt := 65) hx hb (by omega) (by omega) dX1_take_43 rfl (fun hc => ?_) (fun hc => ?_)
            · obtain rfl : i = n := by omega
              exact hend C V H locs ls hl hP hD hS
            · have hin2 : i < n := by omega
              refine lv_aload_n hx hb dX1_take_46 rfl (lv_at hl 1 rfl) ?_
              refine lv_iload_n hx hb dX1_take_47 rfl (lv_at hl 2 rfl) ?_
              refine lv_lload_n hx hb dX1_take_48 rfl (lv_at hl 3 rfl) ?_
              refine lv_bipush (v := nI 8) hx hb dX1_take_49 (by decide +kernel) ?_
              refine lv_iload hx hb dX1_take_51 (lv_at hl 0 rfl) ?_
              refine kr_imul hx hb dX1_take_53 ?_
              refine lv_lushr hx hb dX1_take_54 rfl ?_
              refine lv_l2i hx hb dX1_take_55 rfl ?_
              refine kr_callv (va_runV (As := [.int (nI k), .int (((v.toUInt64 >>> ((nI (8 * i)).toInt64.toUInt64 &&& Int64.toUInt64 63)).toInt64).toInt32)]) (rest := []) ⟨hx, hb, hml, hown, hts⟩ (km_taken l D ct ad (nI 0) M Pl L C V kk_rc _ (kk_ins (M k, Pl k) (kk_tb v) i).1 (q := (kk_ins (M k, Pl k) (kk_tb v) i).2) hk (kk_ins_lt hq0 i) ((kk_tb v) i)) (cwV 2 hts gM_take_taken rfl rfl rfl (by decide +kernel) ⟨Nat.le_of_ble_eq_true rfl, Nat.le_of_ble_eq_true rfl⟩) (kr_preV kw_Nok (q := (RX1, TX1, 7)) (q0 := 0) (ci := 1) _ hP hK hD hB hS hA rfl rfl rfl) rfl rfl hl.1 rfl (lv_room (Nat.le_of_ble_eq_true rfl)) dX1_take_56 ⟨Nat.zero_le _, Nat.zero_le _⟩) hD hS hA (fun u H locs hq hP hD hS => ?_)
              have hP : va_P D vwCl (kw_M ct ad (nI 0) M (va_up Pl k ((kk_ins (M k, Pl k) (kk_tb v) (i + 1)).2)) ((kk_ins (M k, Pl k) (kk_tb v) (i + 1)).1) u.1 u.2 kk_rc) H := hP
              have hD : va_D A (kw_M ct ad (nI 0) M (va_up Pl k ((kk_ins (M k, Pl k) (kk_tb v) (i + 1)).2)) ((kk_ins (M k, Pl k) (kk_tb v) (i + 1)).1) u.1 u.2 kk_rc) := hD
              refine lv_iinc (k := 0) (v := nI (i + 1)) hx hb dX1_take_59 hl rfl (nI_add i 1) (Nat.le_of_ble_eq_true rfl) rfl (fun ls hl => ?_)
              have hl : lv_has ls 6 [(5, .int (nI (i + 1))), (0, .ref (ad 0)), (1, .int (nI k)), (2, .long v), (4, .int (nI n))] := hl
              refine lv_goto (tgt := 39) hx hb dX1_take_62 rfl ?_
              exact ih (i + 1) u.1 u.2 H locs ls (by omega) (by omega) hl hP hD hS
        have hP : va_P D vwCl (kw_M ct ad (nI 0) M (va_up Pl k (kk_ins (M k, Pl k) (kk_tb v) 0).2) (kk_ins (M k, Pl k) (kk_tb v) 0).1 C V kk_rc) H := by show va_P D vwCl (kw_M ct ad (nI 0) M (va_up Pl k (Pl k)) (M k) C V kk_rc) H; rw [kw_self]; exact hP
        have hD : va_D A (kw_M ct ad (nI 0) M (va_up Pl k (kk_ins (M k, Pl k) (kk_tb v) 0).2) (kk_ins (M k, Pl k) (kk_tb v) 0).1 C V kk_rc) := by show va_D A (kw_M ct ad (nI 0) M (va_up Pl k (Pl k)) (M k) C V kk_rc); rw [kw_self]; exact hD
        refine loop _ (fun C V H locs ls hl hP hD hS => ?_) (n + 1) 0 C V H locs ls (by omega) (by omega) hl hP hD hS
        refine lv_aload_n hx hb dX1_take_65 rfl (lv_at hl 1 rfl) ?_
        refine lv_iload_n hx hb dX1_take_66 rfl (lv_at hl 2 rfl) ?_
        refine kr_callv (va_runV (As := [.int (nI k)]) (rest := []) ⟨hx, hb, hml, hown, hts⟩ (km_put l D ct ad (nI 0) M (va_up Pl k (kk_ins (M k, Pl k) (kk_tb v) n).2) (kk_ins (M k, Pl k) (kk_tb v) n).1 C V kk_rc _ hk) (cwV 1 hts gM_take_put rfl rfl rfl (by decide +kernel) ⟨Nat.le_of_ble_eq_true rfl, Nat.le_of_ble_eq_true rfl⟩) (kr_preV kw_Nok (q := (RX1, TX1, 7)) (q0 := 0) (ci := 1) _ hP hK hD hB hS hA rfl rfl rfl) rfl rfl hl.1 rfl (lv_room (Nat.le_of_ble_eq_true rfl)) dX1_take_67 ⟨Nat.zero_le _, Nat.zero_le _⟩) hD hS hA (fun u H locs hq hP hD hS => ?_)
        have hP : va_P D vwCl (kw_M ct ad (nI 0) (va_up M k ((kk_ins (M k, Pl k) (kk_tb v) n).1)) (va_up Pl k ((kk_ins (M k, Pl k) (kk_tb v) n).2)) ((kk_ins (M k, Pl k) (kk_tb v) n).1) C V kk_rc) H := hP
        have hD : va_D A (kw_M ct ad (nI 0) (va_up M k ((kk_ins (M k, Pl k) (kk_tb v) n).1)) (va_up Pl k ((kk_ins (M k, Pl k) (kk_tb v) n).2)) ((kk_ins (M k, Pl k) (kk_tb v) n).1) C V kk_rc) := hD
        refine lv_aload_n hx hb dX1_take_70 rfl (lv_at hl 1 rfl) ?_
        refine va_get hx hb hts hin hown hK hP 0 rfl rfl 2 (by decide) (hts (.fieldLink RX1 35 "KeccakLanesModel" "places" "[I") (by decide +kernel)) (fun _ h => h) rfl dX1_take_71 ?_
        refine lv_iload_n hx hb dX1_take_74 rfl (lv_at hl 2 rfl) ?_
        refine kr_iald hx hb hK hP 2 1 rfl rfl (n := k) (by omega) (by omega) dX1_take_75 ?_
        rw [va_up_self]
        exact W.iret hx hb hr (fun t ht hW => ⟨⟨_, (C, V), rfl, rfl, by rw [ht]; exact hP, va_K.moved hW.alike hK, hD⟩, hS.F ht⟩) hS.2.2 dX1_take_76
      · omega
set_option maxHeartbeats 4000000 in
set_option maxRecDepth 100000 in
theorem km_fill (l : Launch) (D : va_G) (ct : Nat → ClassId) (ad : Nat → Nat) (F : Int32) (M : Nat → Nat → Int64) (Pl : Nat → Nat) (L C V K : Nat → Int64) (sz : Nat) {k n : Nat} (hk : k < 8) (hn8 : n ≤ 2000) (hq0 : (M k, Pl k).2 < 136) (v t : Int32) : Met l yX1_fill wsM_fill ({ frames := 3, cells := 0, slots := 0, locals := 70 }) (kr_P D vwCl (kw_T ct) kw_N [.ref (ad 0), .int (nI k), .int v, .int t, .int (nI n)] (kw_M ct ad F M Pl L C V kk_rc) sz) (va_Qi (S := ((Nat → Int64) × (Nat → Int64))) (fun r _ => r = nI (kk_ins (M k, Pl k) (kk_fb v t) n).2) (kr_B D vwCl (kw_T ct) (fun u => kw_M ct ad (nI 0) (va_up M k (kk_ins (M k, Pl k) (kk_fb v t) n).1) (va_up Pl k (kk_ins (M k, Pl k) (kk_fb v t) n).2) (kk_ins (M k, Pl k) (kk_fb v t) n).1 u.1 u.2 kk_rc) (va_A (kw_M ct ad F M Pl L C V kk_rc) sz)) (va_A (kw_M ct ad F M Pl L C V kk_rc) sz)) 0 0 (va_A (kw_M ct ad F M Pl L C V kk_rc) sz) := by
  refine Met.ofW (cc := cX1_fill) (maxL := 6) (ret := (some .int)) (by decide) rfl ?_
  intro p e s m args below meth c s₁ B hml hv
  obtain ⟨rfl, hsz, hP, hK, hD0, hB⟩ := hv
  have hx := B.exec
  have hb := B.bytes
  have hr := B.returns
  have hts := atoms_spec (ws := wsM_fill) B.pre
  have hown : s.vm.findClass RX1 = some m.cls := findClass_of_methodNamed B.named
  have hlocks := B.notSynchronized
  have hin : ∀ w ∈ u_ws RX1 TX1 7, w ∈ wsM_fill := fun w h => List.mem_cons_of_mem _ (kM_in w h)
  subst hsz
  have hD := hD0.self (sz := s.heap.size)
  generalize hAe : va_A (kw_M ct ad F M Pl L C V kk_rc) s.heap.size = A at hD hB ⊢
  have hA : ∀ q : Nat, s.heap.size ≤ q → A q := fun q h => by rw [← hAe]; exact Or.inr h
  have hS : va_S A s.heap s.heap [] := va_S.rf
  have hl := lv_entry ([.ref (ad 0), .int (nI k), .int v, .int t, .int (nI n)]) (n := 6) (Nat.le_of_ble_eq_true rfl)
  rw [lg_entry_eq]
  generalize (lg_sl ([.ref (ad 0), .int (nI k), .int v, .int t, .int (nI n)]) ++ List.replicate (6 - (lg_sl ([.ref (ad 0), .int (nI k), .int v, .int t, .int (nI n)])).length) Slot.unset).toArray = ls at hl ⊢
  have hl : lv_has ls 6 [(0, .ref (ad 0)), (1, .int (nI k)), (2, .int v), (3, .int t), (4, .int (nI n))] := hl
  refine lv_aload_n hx hb dX1_fill_0 rfl (lv_at hl 0 rfl) ?_
  refine lv_iconst (v := nI 0) hx hb dX1_fill_1 rfl ?_
  refine va_put (ci := 1) (v := .int (nI 0)) (ty := .int) (C := RX1) (T := TX1) (N := 7) hx hb hts hin tyX1 tyX1_ok nmX1 hown hK hP hD hS 0 rfl rfl 0 (by decide) (hts (.fieldLink RX1 43 "KeccakLanesModel" "failed" "I") (by decide +kernel)) (fun _ h9 => h9) rfl (by decide +kernel) rfl rfl (Nat.le_of_ble_eq_true rfl) dX1_fill_2 (fun H locs hP hD hS => ?_)
  have hP : va_P D vwCl (kw_M ct ad (nI 0) M Pl L C V kk_rc) H := hP
  have hD : va_D A (kw_M ct ad (nI 0) M Pl L C V kk_rc) := hD
  refine lv_aload_n hx hb dX1_fill_5 rfl (lv_at hl 0 rfl) ?_
  refine lv_iload_n hx hb dX1_fill_6 rfl (lv_at hl 1 rfl) ?_
  refine kr_calli (va_runV (As := [.int (nI k)]) (rest := []) ⟨hx, hb, hml, hown, hts⟩ (km_out l D ct ad (nI 0) M Pl L C V kk_rc _ (a := k) (by omega)) (cwV 1 hts gM_fill_out rfl rfl rfl (by decide +kernel) ⟨Nat.le_of_ble_eq_true rfl, Nat.le_of_ble_eq_true rfl⟩) (kr_preV kw_Nok (q := (RX1, TX1, 7)) (q0 := 0) (ci := 1) _ hP hK hD hB hS hA rfl rfl rfl) rfl rfl hl.1 rfl (lv_room (Nat.le_of_ble_eq_true rfl)) dX1_fill_7 ⟨Nat.zero_le _, Nat.zero_le _⟩) hD hS hA (fun r u H locs hq hP hD hS => ?_)
  obtain rfl : r = nI 0 := hq
  have hP : va_P D vwCl (kw_M ct ad (nI 0) M Pl L C V kk_rc) H := hP
  have hD : va_D A (kw_M ct ad (nI 0) M Pl L C V kk_rc) := hD
  refine lv_if_ne (tgt := 26) hx hb dX1_fill_10 rfl (fun hc => ?_) (fun hc => ?_)
  · exact absurd rfl hc
  · clear hc
    refine lv_iload hx hb dX1_fill_13 (lv_at hl 4 rfl) ?_
    refine lv_if_lt (tgt := 26) hx hb dX1_fill_15 rfl (fun hc => ?_) (fun hc => ?_)
    · exact absurd hc (nI_pos (by omega))
    · clear hc
      refine lv_iload hx hb dX1_fill_18 (lv_at hl 4 rfl) ?_
      refine lv_sipush (v := nI 2000) hx hb dX1_fill_20 (by decide +kernel) ?_
      refine kr_icmp_le (tgt := 32) hx hb (by omega) (by omega) dX1_fill_23 rfl (fun hc => ?_) (fun hc => ?_)
      · clear hc
        refine lv_aload_n hx hb dX1_fill_32 rfl (lv_at hl 0 rfl) ?_
        refine lv_iload_n hx hb dX1_fill_33 rfl (lv_at hl 1 rfl) ?_
        refine kr_callv (va_runV (As := [.int (nI k)]) (rest := []) ⟨hx, hb, hml, hown, hts⟩ (km_get l D ct ad (nI 0) M Pl L C V kk_rc _ hk) (cwV 1 hts gM_fill_get rfl rfl rfl (by decide +kernel) ⟨Nat.le_of_ble_eq_true rfl, Nat.le_of_ble_eq_true rfl⟩) (kr_preV kw_Nok (q := (RX1, TX1, 7)) (q0 := 0) (ci := 1) _ hP hK hD hB hS hA rfl rfl rfl) rfl rfl hl.1 rfl (lv_room (Nat.le_of_ble_eq_true rfl)) dX1_fill_34 ⟨Nat.zero_le _, Nat.zero_le _⟩) hD hS hA (fun u H locs hq hP hD hS => ?_)
        have hP : va_P D vwCl (kw_M ct ad (nI 0) M Pl (M k) C V kk_rc) H := hP
        have hD : va_D A (kw_M ct ad (nI 0) M Pl (M k) C V kk_rc) := hD
        refine lv_iconst (v := nI 0) hx hb dX1_fill_37 rfl ?_
        refine lv_istore hx hb dX1_fill_38 hl (Nat.le_of_ble_eq_true rfl) rfl (fun ls hl => ?_)
        have hl : lv_has ls 6 [(5, .int (nI 0)), (0, .ref (ad 0)), (1, .int (nI k)), (2, .int v), (3, .int t), (4, .int (nI n))] := hl
        have hl : lv_has ls 6 [(5, .int (nI 0)), (0, .ref (ad 0)), (1, .int (nI k)), (2, .int v), (3, .int t), (4, .int (nI n))] := lv_sub hl [0, 1, 2, 3, 4, 5] rfl
        have loop : ∀ (Q : State → Prop), (∀ (C V : Nat → Int64) (H : Heap) (locs : List Loc) (ls : Array Slot), lv_has ls 6 [(5, .int (nI n)), (0, .ref (ad 0)), (1, .int (nI k)), (2, .int v), (3, .int t), (4, .int (nI n))] → va_P D vwCl (kw_M ct ad (nI 0) M (va_up Pl k (kk_ins (M k, Pl k) (kk_fb v t) n).2) (kk_ins (M k, Pl k) (kk_fb v t) n).1 C V kk_rc) H → va_D A (kw_M ct ad (nI 0) M (va_up Pl k (kk_ins (M k, Pl k) (kk_fb v t) n).2) (kk_ins (M k, Pl k) (kk_fb v t) n).1 C V kk_rc) → va_S A s.heap H locs → W p l e (headSpec wsM_fill ({ frames := 3, cells := 0, slots := 0, locals := 70 })).room s m (([.ref (ad 0), .int (nI k), .int v, .int t, .int (nI n)] : List Value).toArray) below meth c H locs 0 0 Q (F0 m 64 ls [])) → ∀ (f i : Nat) (C V : Nat → Int64) (H : Heap) (locs : List Loc) (ls : Array Slot), n - i < f → i ≤ n → lv_has ls 6 [(5, .int (nI i)), (0, .ref (ad 0)), (1, .int (nI k)), (2, .int v), (3, .int t), (4, .int (nI n))] → va_P D vwCl (kw_M ct ad (nI 0) M (va_up Pl k (kk_ins (M k, Pl k) (kk_fb v t) i).2) (kk_ins (M k, Pl k) (kk_fb v t) i).1 C V kk_rc) H → va_D A (kw_M ct ad (nI 0) M (va_up Pl k (kk_ins (M k, Pl k) (kk_fb v t) i).2) (kk_ins (M k, Pl k) (kk_fb v t) i).1 C V kk_rc) → va_S A s.heap H locs → W p l e (headSpec wsM_fill ({ frames := 3, cells := 0, slots := 0, locals := 70 })).room s m (([.ref (ad 0), .int (nI k), .int v, .int t, .int (nI n)] : List Value).toArray) below meth c H locs 0 0 Q (F0 m 40 ls []) := by
          intro Q hend f
          induction f with
          | zero => intro i C V H locs ls h; omega
          | succ f ih =>
            intro i C V H locs ls hn hi hl hP hD hS
            refine lv_iload hx hb dX1_fill_40 (lv_at hl 0 rfl) ?_
            refine lv_iload hx hb dX1_fill_42 (lv_at hl 5 rfl) ?_
            refine kr_icmp_ge (tgt := 64) hx hb (by omega) (by omega) dX1_fill_44 rfl (fun hc => ?_) (fun hc => ?_)
            · obtain rfl : i = n := by omega
              exact hend C V H locs ls hl hP hD hS
            · have hin2 : i < n := by omega
              refine lv_aload_n hx hb dX1_fill_47 rfl (lv_at hl 1 rfl) ?_
              refine lv_iload_n hx hb dX1_fill_48 rfl (lv_at hl 2 rfl) ?_
              refine lv_iload_n hx hb dX1_fill_49 rfl (lv_at hl 3 rfl) ?_
              refine lv_iload hx hb dX1_fill_50 (lv_at hl 0 rfl) ?_
              refine lv_iload_n hx hb dX1_fill_52 rfl (lv_at hl 4 rfl) ?_
              refine lv_imul hx hb dX1_fill_53 ?_
              refine lv_iadd hx hb dX1_fill_54 ?_
              refine kr_callv (va_runV (As := [.int (nI k), .int (v + ((nI i) * t))]) (rest := []) ⟨hx, hb, hml, hown, hts⟩ (km_taken l D ct ad (nI 0) M Pl L C V kk_rc _ (kk_ins (M k, Pl k) (kk_fb v t) i).1 (q := (kk_ins (M k, Pl k) (kk_fb v t) i).2) hk (kk_ins_lt hq0 i) ((kk_fb v t) i)) (cwV 2 hts gM_fill_taken rfl rfl rfl (by decide +kernel) ⟨Nat.le_of_ble_eq_true rfl, Nat.le_of_ble_eq_true rfl⟩) (kr_preV kw_Nok (q := (RX1, TX1, 7)) (q0 := 0) (ci := 1) _ hP hK hD hB hS hA rfl rfl rfl) rfl rfl hl.1 rfl (lv_room (Nat.le_of_ble_eq_true rfl)) dX1_fill_55 ⟨Nat.zero_le _, Nat.zero_le _⟩) hD hS hA (fun u H locs hq hP hD hS => ?_)
              have hP : va_P D vwCl (kw_M ct ad (nI 0) M (va_up Pl k ((kk_ins (M k, Pl k) (kk_fb v t) (i + 1)).2)) ((kk_ins (M k, Pl k) (kk_fb v t) (i + 1)).1) u.1 u.2 kk_rc) H := hP
              have hD : va_D A (kw_M ct ad (nI 0) M (va_up Pl k ((kk_ins (M k, Pl k) (kk_fb v t) (i + 1)).2)) ((kk_ins (M k, Pl k) (kk_fb v t) (i + 1)).1) u.1 u.2 kk_rc) := hD
              refine lv_iinc (k := 0) (v := nI (i + 1)) hx hb dX1_fill_58 hl rfl (nI_add i 1) (Nat.le_of_ble_eq_true rfl) rfl (fun ls hl => ?_)
              have hl : lv_has ls 6 [(5, .int (nI (i + 1))), (0, .ref (ad 0)), (1, .int (nI k)), (2, .int v), (3, .int t), (4, .int (nI n))] := hl
              refine lv_goto (tgt := 40) hx hb dX1_fill_61 rfl ?_
              exact ih (i + 1) u.1 u.2 H locs ls (by omega) (by omega) hl hP hD hS
        have hP : va_P D vwCl (kw_M ct ad (nI 0) M (va_up Pl k (kk_ins (M k, Pl k) (kk_fb v t) 0).2) (kk_ins (M k, Pl k) (kk_fb v t) 0).1 C V kk_rc) H := by show va_P D vwCl (kw_M ct ad (nI 0) M (va_up Pl k (Pl k)) (M k) C V kk_rc) H; rw [kw_self]; exact hP
        have hD : va_D A (kw_M ct ad (nI 0) M (va_up Pl k (kk_ins (M k, Pl k) (kk_fb v t) 0).2) (kk_ins (M k, Pl k) (kk_fb v t) 0).1 C V kk_rc) := by show va_D A (kw_M ct ad (nI 0) M (va_up Pl k (Pl k)) (M k) C V kk_rc); rw [kw_self]; exact hD
        refine loop _ (fun C V H locs ls hl hP hD hS => ?_) (n + 1) 0 C V H locs ls (by omega) (by omega) hl hP hD hS
        refine lv_aload_n hx hb dX1_fill_64 rfl (lv_at hl 1 rfl) ?_
        refine lv_iload_n hx hb dX1_fill_65 rfl (lv_at hl 2 rfl) ?_
        refine kr_callv (va_runV (As := [.int (nI k)]) (rest := []) ⟨hx, hb, hml, hown, hts⟩ (km_put l D ct ad (nI 0) M (va_up Pl k (kk_ins (M k, Pl k) (kk_fb v t) n).2) (kk_ins (M k, Pl k) (kk_fb v t) n).1 C V kk_rc _ hk) (cwV 1 hts gM_fill_put rfl rfl rfl (by decide +kernel) ⟨Nat.le_of_ble_eq_true rfl, Nat.le_of_ble_eq_true rfl⟩) (kr_preV kw_Nok (q := (RX1, TX1, 7)) (q0 := 0) (ci := 1) _ hP hK hD hB hS hA rfl rfl rfl) rfl rfl hl.1 rfl (lv_room (Nat.le_of_ble_eq_true rfl)) dX1_fill_66 ⟨Nat.zero_le _, Nat.zero_le _⟩) hD hS hA (fun u H locs hq hP hD hS => ?_)
        have hP : va_P D vwCl (kw_M ct ad (nI 0) (va_up M k ((kk_ins (M k, Pl k) (kk_fb v t) n).1)) (va_up Pl k ((kk_ins (M k, Pl k) (kk_fb v t) n).2)) ((kk_ins (M k, Pl k) (kk_fb v t) n).1) C V kk_rc) H := hP
        have hD : va_D A (kw_M ct ad (nI 0) (va_up M k ((kk_ins (M k, Pl k) (kk_fb v t) n).1)) (va_up Pl k ((kk_ins (M k, Pl k) (kk_fb v t) n).2)) ((kk_ins (M k, Pl k) (kk_fb v t) n).1) C V kk_rc) := hD
        refine lv_aload_n hx hb dX1_fill_69 rfl (lv_at hl 1 rfl) ?_
        refine va_get hx hb hts hin hown hK hP 0 rfl rfl 2 (by decide) (hts (.fieldLink RX1 35 "KeccakLanesModel" "places" "[I") (by decide +kernel)) (fun _ h => h) rfl dX1_fill_70 ?_
        refine lv_iload_n hx hb dX1_fill_73 rfl (lv_at hl 2 rfl) ?_
        refine kr_iald hx hb hK hP 2 1 rfl rfl (n := k) (by omega) (by omega) dX1_fill_74 ?_
        rw [va_up_self]
        exact W.iret hx hb hr (fun t ht hW => ⟨⟨_, (C, V), rfl, rfl, by rw [ht]; exact hP, va_K.moved hW.alike hK, hD⟩, hS.F ht⟩) hS.2.2 dX1_fill_75
      · omega
set_option maxHeartbeats 4000000 in
set_option maxRecDepth 100000 in
theorem km_copy (l : Launch) (D : va_G) (ct : Nat → ClassId) (ad : Nat → Nat) (F : Int32) (M : Nat → Nat → Int64) (Pl : Nat → Nat) (L C V K : Nat → Int64) (sz : Nat) {k t : Nat} (hk : k < 8) (ht8 : t < 8) : Met l yX1_copy wsM_copy ({ frames := 1, cells := 0, slots := 0, locals := 22 }) (kr_P D vwCl (kw_T ct) kw_N [.ref (ad 0), .int (nI k), .int (nI t)] (kw_M ct ad F M Pl L C V kk_rc) sz) (va_Qv (S := Unit) (fun _ => True) (kr_B D vwCl (kw_T ct) (fun _ => kw_M ct ad (nI 0) (va_up M t (M k)) (va_up Pl t (Pl k)) (M k) C V kk_rc) (va_A (kw_M ct ad F M Pl L C V kk_rc) sz)) (va_A (kw_M ct ad F M Pl L C V kk_rc) sz)) 0 0 (va_A (kw_M ct ad F M Pl L C V kk_rc) sz) := by
  refine Met.ofW (cc := cX1_copy) (maxL := 3) (ret := none) (by decide) rfl ?_
  intro p e s m args below meth c s₁ B hml hv
  obtain ⟨rfl, hsz, hP, hK, hD0, hB⟩ := hv
  have hx := B.exec
  have hb := B.bytes
  have hr := B.returns
  have hts := atoms_spec (ws := wsM_copy) B.pre
  have hown : s.vm.findClass RX1 = some m.cls := findClass_of_methodNamed B.named
  have hlocks := B.notSynchronized
  have hin : ∀ w ∈ u_ws RX1 TX1 7, w ∈ wsM_copy := fun w h => List.mem_cons_of_mem _ (kM_in w h)
  subst hsz
  have hD := hD0.self (sz := s.heap.size)
  generalize hAe : va_A (kw_M ct ad F M Pl L C V kk_rc) s.heap.size = A at hD hB ⊢
  have hA : ∀ q : Nat, s.heap.size ≤ q → A q := fun q h => by rw [← hAe]; exact Or.inr h
  have hS : va_S A s.heap s.heap [] := va_S.rf
  have hl := lv_entry ([.ref (ad 0), .int (nI k), .int (nI t)]) (n := 3) (Nat.le_of_ble_eq_true rfl)
  rw [lg_entry_eq]
  generalize (lg_sl ([.ref (ad 0), .int (nI k), .int (nI t)]) ++ List.replicate (3 - (lg_sl ([.ref (ad 0), .int (nI k), .int (nI t)])).length) Slot.unset).toArray = ls at hl ⊢
  have hl : lv_has ls 3 [(0, .ref (ad 0)), (1, .int (nI k)), (2, .int (nI t))] := hl
  refine lv_aload_n hx hb dX1_copy_0 rfl (lv_at hl 0 rfl) ?_
  refine lv_iconst (v := nI 0) hx hb dX1_copy_1 rfl ?_
  refine va_put (ci := 1) (v := .int (nI 0)) (ty := .int) (C := RX1) (T := TX1) (N := 7) hx hb hts hin tyX1 tyX1_ok nmX1 hown hK hP hD hS 0 rfl rfl 0 (by decide) (hts (.fieldLink RX1 43 "KeccakLanesModel" "failed" "I") (by decide +kernel)) (fun _ h9 => h9) rfl (by decide +kernel) rfl rfl (Nat.le_of_ble_eq_true rfl) dX1_copy_2 (fun H locs hP hD hS => ?_)
  have hP : va_P D vwCl (kw_M ct ad (nI 0) M Pl L C V kk_rc) H := hP
  have hD : va_D A (kw_M ct ad (nI 0) M Pl L C V kk_rc) := hD
  refine lv_aload_n hx hb dX1_copy_5 rfl (lv_at hl 0 rfl) ?_
  refine lv_iload_n hx hb dX1_copy_6 rfl (lv_at hl 1 rfl) ?_
  refine kr_calli (va_runV (As := [.int (nI k)]) (rest := []) ⟨hx, hb, hml, hown, hts⟩ (km_out l D ct ad (nI 0) M Pl L C V kk_rc _ (a := k) (by omega)) (cwV 1 hts gM_copy_out rfl rfl rfl (by decide +kernel) ⟨Nat.le_of_ble_eq_true rfl, Nat.le_of_ble_eq_true rfl⟩) (kr_preV kw_Nok (q := (RX1, TX1, 7)) (q0 := 0) (ci := 1) _ hP hK hD hB hS hA rfl rfl rfl) rfl rfl hl.1 rfl (lv_room (Nat.le_of_ble_eq_true rfl)) dX1_copy_7 ⟨Nat.zero_le _, Nat.zero_le _⟩) hD hS hA (fun r u H locs hq hP hD hS => ?_)
  obtain rfl : r = nI 0 := hq
  have hP : va_P D vwCl (kw_M ct ad (nI 0) M Pl L C V kk_rc) H := hP
  have hD : va_D A (kw_M ct ad (nI 0) M Pl L C V kk_rc) := hD
  refine lv_if_ne (tgt := 21) hx hb dX1_copy_10 rfl (fun hc => ?_) (fun hc => ?_)
  · exact absurd rfl hc
  · clear hc
    refine lv_aload_n hx hb dX1_copy_13 rfl (lv_at hl 0 rfl) ?_
    refine lv_iload_n hx hb dX1_copy_14 rfl (lv_at hl 2 rfl) ?_
    refine kr_calli (va_runV (As := [.int (nI t)]) (rest := []) ⟨hx, hb, hml, hown, hts⟩ (km_out l D ct ad (nI 0) M Pl L C V kk_rc _ (a := t) (by omega)) (cwV 1 hts gM_copy_out rfl rfl rfl (by decide +kernel) ⟨Nat.le_of_ble_eq_true rfl, Nat.le_of_ble_eq_true rfl⟩) (kr_preV kw_Nok (q := (RX1, TX1, 7)) (q0 := 0) (ci := 1) _ hP hK hD hB hS hA rfl rfl rfl) rfl rfl hl.1 rfl (lv_room (Nat.le_of_ble_eq_true rfl)) dX1_copy_15 ⟨Nat.zero_le _, Nat.zero_le _⟩) hD hS hA (fun r u H locs hq hP hD hS => ?_)
    obtain rfl : r = nI 0 := hq
    have hP : va_P D vwCl (kw_M ct ad (nI 0) M Pl L C V kk_rc) H := hP
    have hD : va_D A (kw_M ct ad (nI 0) M Pl L C V kk_rc) := hD
    refine lv_if_eq (tgt := 29) hx hb dX1_copy_18 rfl (fun hc => ?_) (fun hc => ?_)
    · clear hc
      refine lv_aload_n hx hb dX1_copy_29 rfl (lv_at hl 0 rfl) ?_
      refine lv_iload_n hx hb dX1_copy_30 rfl (lv_at hl 1 rfl) ?_
      refine kr_callv (va_runV (As := [.int (nI k)]) (rest := []) ⟨hx, hb, hml, hown, hts⟩ (km_get l D ct ad (nI 0) M Pl L C V kk_rc _ hk) (cwV 1 hts gM_copy_get rfl rfl rfl (by decide +kernel) ⟨Nat.le_of_ble_eq_true rfl, Nat.le_of_ble_eq_true rfl⟩) (kr_preV kw_Nok (q := (RX1, TX1, 7)) (q0 := 0) (ci := 1) _ hP hK hD hB hS hA rfl rfl rfl) rfl rfl hl.1 rfl (lv_room (Nat.le_of_ble_eq_true rfl)) dX1_copy_31 ⟨Nat.zero_le _, Nat.zero_le _⟩) hD hS hA (fun u H locs hq hP hD hS => ?_)
      have hP : va_P D vwCl (kw_M ct ad (nI 0) M Pl (M k) C V kk_rc) H := hP
      have hD : va_D A (kw_M ct ad (nI 0) M Pl (M k) C V kk_rc) := hD
      refine lv_aload_n hx hb dX1_copy_34 rfl (lv_at hl 0 rfl) ?_
      refine lv_iload_n hx hb dX1_copy_35 rfl (lv_at hl 2 rfl) ?_
      refine kr_callv (va_runV (As := [.int (nI t)]) (rest := []) ⟨hx, hb, hml, hown, hts⟩ (km_put l D ct ad (nI 0) M Pl (M k) C V kk_rc _ ht8) (cwV 1 hts gM_copy_put rfl rfl rfl (by decide +kernel) ⟨Nat.le_of_ble_eq_true rfl, Nat.le_of_ble_eq_true rfl⟩) (kr_preV kw_Nok (q := (RX1, TX1, 7)) (q0 := 0) (ci := 1) _ hP hK hD hB hS hA rfl rfl rfl) rfl rfl hl.1 rfl (lv_room (Nat.le_of_ble_eq_true rfl)) dX1_copy_36 ⟨Nat.zero_le _, Nat.zero_le _⟩) hD hS hA (fun u H locs hq hP hD hS => ?_)
      have hP : va_P D vwCl (kw_M ct ad (nI 0) (va_up M t (M k)) Pl (M k) C V kk_rc) H := hP
      have hD : va_D A (kw_M ct ad (nI 0) (va_up M t (M k)) Pl (M k) C V kk_rc) := hD
      refine lv_aload_n hx hb dX1_copy_39 rfl (lv_at hl 0 rfl) ?_
      refine va_get hx hb hts hin hown hK hP 0 rfl rfl 2 (by decide) (hts (.fieldLink RX1 35 "KeccakLanesModel" "places" "[I") (by decide +kernel)) (fun _ h => h) rfl dX1_copy_40 ?_
      refine lv_iload_n hx hb dX1_copy_43 rfl (lv_at hl 2 rfl) ?_
      refine lv_aload_n hx hb dX1_copy_44 rfl (lv_at hl 0 rfl) ?_
      refine va_get hx hb hts hin hown hK hP 0 rfl rfl 2 (by decide) (hts (.fieldLink RX1 35 "KeccakLanesModel" "places" "[I") (by decide +kernel)) (fun _ h => h) rfl dX1_copy_45 ?_
      refine lv_iload_n hx hb dX1_copy_48 rfl (lv_at hl 1 rfl) ?_
      refine kr_iald hx hb hK hP 2 1 rfl rfl (n := k) (by omega) (by omega) dX1_copy_49 ?_
      refine kr_iast hx hb hK hP hD hS 2 1 rfl rfl (n := t) (by omega) (by omega) (kw_MsP t (Pl k)) dX1_copy_50 (fun H locs hP hD hS => ?_)
      exact W.vret hx hb hr (fun t ht hW => ⟨⟨(), rfl, trivial, by rw [ht]; exact hP, va_K.moved hW.alike hK, hD⟩, hS.F ht⟩) hS.2.2 dX1_copy_51
    · exact absurd rfl hc
set_option maxHeartbeats 4000000 in
set_option maxRecDepth 100000 in
theorem km_mix (l : Launch) (D : va_G) (ct : Nat → ClassId) (ad : Nat → Nat) (F : Int32) (M : Nat → Nat → Int64) (Pl : Nat → Nat) (L C V K : Nat → Int64) (sz : Nat) {k : Nat} (hk : k < 8) : Met l yX1_mix wsM_mix ({ frames := 2, cells := 0, slots := 0, locals := 47 }) (kr_P D vwCl (kw_T ct) kw_N [.ref (ad 0), .int (nI k)] (kw_M ct ad F M Pl L C V kk_rc) sz) (va_Qv (S := ((Nat → Int64) × (Nat → Int64))) (fun _ => True) (kr_B D vwCl (kw_T ct) (fun u => kw_M ct ad (nI 0) (va_up M k (kk_mix (M k))) Pl (kk_mix (M k)) u.1 u.2 kk_rc) (va_A (kw_M ct ad F M Pl L C V kk_rc) sz)) (va_A (kw_M ct ad F M Pl L C V kk_rc) sz)) 0 0 (va_A (kw_M ct ad F M Pl L C V kk_rc) sz) := by
  refine Met.ofW (cc := cX1_mix) (maxL := 2) (ret := none) (by decide) rfl ?_
  intro p e s m args below meth c s₁ B hml hv
  obtain ⟨rfl, hsz, hP, hK, hD0, hB⟩ := hv
  have hx := B.exec
  have hb := B.bytes
  have hr := B.returns
  have hts := atoms_spec (ws := wsM_mix) B.pre
  have hown : s.vm.findClass RX1 = some m.cls := findClass_of_methodNamed B.named
  have hlocks := B.notSynchronized
  have hin : ∀ w ∈ u_ws RX1 TX1 7, w ∈ wsM_mix := fun w h => List.mem_cons_of_mem _ (kM_in w h)
  subst hsz
  have hD := hD0.self (sz := s.heap.size)
  generalize hAe : va_A (kw_M ct ad F M Pl L C V kk_rc) s.heap.size = A at hD hB ⊢
  have hA : ∀ q : Nat, s.heap.size ≤ q → A q := fun q h => by rw [← hAe]; exact Or.inr h
  have hS : va_S A s.heap s.heap [] := va_S.rf
  have hl := lv_entry ([.ref (ad 0), .int (nI k)]) (n := 2) (Nat.le_of_ble_eq_true rfl)
  rw [lg_entry_eq]
  generalize (lg_sl ([.ref (ad 0), .int (nI k)]) ++ List.replicate (2 - (lg_sl ([.ref (ad 0), .int (nI k)])).length) Slot.unset).toArray = ls at hl ⊢
  have hl : lv_has ls 2 [(0, .ref (ad 0)), (1, .int (nI k))] := hl
  refine lv_aload_n hx hb dX1_mix_0 rfl (lv_at hl 0 rfl) ?_
  refine lv_iconst (v := nI 0) hx hb dX1_mix_1 rfl ?_
  refine va_put (ci := 1) (v := .int (nI 0)) (ty := .int) (C := RX1) (T := TX1) (N := 7) hx hb hts hin tyX1 tyX1_ok nmX1 hown hK hP hD hS 0 rfl rfl 0 (by decide) (hts (.fieldLink RX1 43 "KeccakLanesModel" "failed" "I") (by decide +kernel)) (fun _ h9 => h9) rfl (by decide +kernel) rfl rfl (Nat.le_of_ble_eq_true rfl) dX1_mix_2 (fun H locs hP hD hS => ?_)
  have hP : va_P D vwCl (kw_M ct ad (nI 0) M Pl L C V kk_rc) H := hP
  have hD : va_D A (kw_M ct ad (nI 0) M Pl L C V kk_rc) := hD
  refine lv_aload_n hx hb dX1_mix_5 rfl (lv_at hl 0 rfl) ?_
  refine lv_iload_n hx hb dX1_mix_6 rfl (lv_at hl 1 rfl) ?_
  refine kr_calli (va_runV (As := [.int (nI k)]) (rest := []) ⟨hx, hb, hml, hown, hts⟩ (km_out l D ct ad (nI 0) M Pl L C V kk_rc _ (a := k) (by omega)) (cwV 1 hts gM_mix_out rfl rfl rfl (by decide +kernel) ⟨Nat.le_of_ble_eq_true rfl, Nat.le_of_ble_eq_true rfl⟩) (kr_preV kw_Nok (q := (RX1, TX1, 7)) (q0 := 0) (ci := 1) _ hP hK hD hB hS hA rfl rfl rfl) rfl rfl hl.1 rfl (lv_room (Nat.le_of_ble_eq_true rfl)) dX1_mix_7 ⟨Nat.zero_le _, Nat.zero_le _⟩) hD hS hA (fun r u H locs hq hP hD hS => ?_)
  obtain rfl : r = nI 0 := hq
  have hP : va_P D vwCl (kw_M ct ad (nI 0) M Pl L C V kk_rc) H := hP
  have hD : va_D A (kw_M ct ad (nI 0) M Pl L C V kk_rc) := hD
  refine lv_if_eq (tgt := 21) hx hb dX1_mix_10 rfl (fun hc => ?_) (fun hc => ?_)
  · clear hc
    refine lv_aload_n hx hb dX1_mix_21 rfl (lv_at hl 0 rfl) ?_
    refine lv_iload_n hx hb dX1_mix_22 rfl (lv_at hl 1 rfl) ?_
    refine kr_callv (va_runV (As := [.int (nI k)]) (rest := []) ⟨hx, hb, hml, hown, hts⟩ (km_get l D ct ad (nI 0) M Pl L C V kk_rc _ hk) (cwV 1 hts gM_mix_get rfl rfl rfl (by decide +kernel) ⟨Nat.le_of_ble_eq_true rfl, Nat.le_of_ble_eq_true rfl⟩) (kr_preV kw_Nok (q := (RX1, TX1, 7)) (q0 := 0) (ci := 1) _ hP hK hD hB hS hA rfl rfl rfl) rfl rfl hl.1 rfl (lv_room (Nat.le_of_ble_eq_true rfl)) dX1_mix_23 ⟨Nat.zero_le _, Nat.zero_le _⟩) hD hS hA (fun u H locs hq hP hD hS => ?_)
    have hP : va_P D vwCl (kw_M ct ad (nI 0) M Pl (M k) C V kk_rc) H := hP
    have hD : va_D A (kw_M ct ad (nI 0) M Pl (M k) C V kk_rc) := hD
    refine lv_aload_n hx hb dX1_mix_26 rfl (lv_at hl 0 rfl) ?_
    refine kr_callv (va_runV (As := []) (rest := []) ⟨hx, hb, hml, hown, hts⟩ (km_permute l D ct ad (nI 0) M Pl L C V K _ (M k)) (cwV 0 hts gM_mix_permute rfl rfl rfl (by decide +kernel) ⟨Nat.le_of_ble_eq_true rfl, Nat.le_of_ble_eq_true rfl⟩) (kr_preV kw_Nok (q := (RX1, TX1, 7)) (q0 := 0) (ci := 1) _ hP hK hD hB hS hA rfl rfl rfl) rfl rfl hl.1 rfl (lv_room (Nat.le_of_ble_eq_true rfl)) dX1_mix_27 ⟨Nat.zero_le _, Nat.zero_le _⟩) hD hS hA (fun u H locs hq hP hD hS => ?_)
    have hP : va_P D vwCl (kw_M ct ad (nI 0) M Pl (kk_mix (M k)) u.1 u.2 kk_rc) H := hP
    have hD : va_D A (kw_M ct ad (nI 0) M Pl (kk_mix (M k)) u.1 u.2 kk_rc) := hD
    refine lv_aload_n hx hb dX1_mix_30 rfl (lv_at hl 0 rfl) ?_
    refine lv_iload_n hx hb dX1_mix_31 rfl (lv_at hl 1 rfl) ?_
    refine kr_callv (va_runV (As := [.int (nI k)]) (rest := []) ⟨hx, hb, hml, hown, hts⟩ (km_put l D ct ad (nI 0) M Pl (kk_mix (M k)) u.1 u.2 kk_rc _ hk) (cwV 1 hts gM_mix_put rfl rfl rfl (by decide +kernel) ⟨Nat.le_of_ble_eq_true rfl, Nat.le_of_ble_eq_true rfl⟩) (kr_preV kw_Nok (q := (RX1, TX1, 7)) (q0 := 0) (ci := 1) _ hP hK hD hB hS hA rfl rfl rfl) rfl rfl hl.1 rfl (lv_room (Nat.le_of_ble_eq_true rfl)) dX1_mix_32 ⟨Nat.zero_le _, Nat.zero_le _⟩) hD hS hA (fun _ H locs hq hP hD hS => ?_)
    have hP : va_P D vwCl (kw_M ct ad (nI 0) (va_up M k (kk_mix (M k))) Pl (kk_mix (M k)) u.1 u.2 kk_rc) H := hP
    have hD : va_D A (kw_M ct ad (nI 0) (va_up M k (kk_mix (M k))) Pl (kk_mix (M k)) u.1 u.2 kk_rc) := hD
    exact W.vret hx hb hr (fun t ht hW => ⟨⟨u, rfl, trivial, by rw [ht]; exact hP, va_K.moved hW.alike hK, hD⟩, hS.F ht⟩) hS.2.2 dX1_mix_35
  · exact absurd rfl hc
set_option maxHeartbeats 4000000 in
set_option maxRecDepth 100000 in
theorem km_lane (l : Launch) (D : va_G) (ct : Nat → ClassId) (ad : Nat → Nat) (F : Int32) (M : Nat → Nat → Int64) (Pl : Nat → Nat) (L C V K : Nat → Int64) (sz : Nat) {k i : Nat} (hk : k < 8) (hi25 : i < 25) : Met l yX1_lane wsM_lane ({ frames := 1, cells := 0, slots := 0, locals := 21 }) (kr_P D vwCl (kw_T ct) kw_N [.ref (ad 0), .int (nI k), .int (nI i)] (kw_M ct ad F M Pl L C V kk_rc) sz) (va_Ql (S := Unit) (fun r _ => r = M k i) (kr_B D vwCl (kw_T ct) (fun _ => kw_M ct ad (nI 0) M Pl L C V kk_rc) (va_A (kw_M ct ad F M Pl L C V kk_rc) sz)) (va_A (kw_M ct ad F M Pl L C V kk_rc) sz)) 0 0 (va_A (kw_M ct ad F M Pl L C V kk_rc) sz) := by
  refine Met.ofW (cc := cX1_lane) (maxL := 3) (ret := (some .long)) (by decide) rfl ?_
  intro p e s m args below meth c s₁ B hml hv
  obtain ⟨rfl, hsz, hP, hK, hD0, hB⟩ := hv
  have hx := B.exec
  have hb := B.bytes
  have hr := B.returns
  have hts := atoms_spec (ws := wsM_lane) B.pre
  have hown : s.vm.findClass RX1 = some m.cls := findClass_of_methodNamed B.named
  have hlocks := B.notSynchronized
  have hin : ∀ w ∈ u_ws RX1 TX1 7, w ∈ wsM_lane := fun w h => List.mem_cons_of_mem _ (kM_in w h)
  subst hsz
  have hD := hD0.self (sz := s.heap.size)
  generalize hAe : va_A (kw_M ct ad F M Pl L C V kk_rc) s.heap.size = A at hD hB ⊢
  have hA : ∀ q : Nat, s.heap.size ≤ q → A q := fun q h => by rw [← hAe]; exact Or.inr h
  have hS : va_S A s.heap s.heap [] := va_S.rf
  have hl := lv_entry ([.ref (ad 0), .int (nI k), .int (nI i)]) (n := 3) (Nat.le_of_ble_eq_true rfl)
  rw [lg_entry_eq]
  generalize (lg_sl ([.ref (ad 0), .int (nI k), .int (nI i)]) ++ List.replicate (3 - (lg_sl ([.ref (ad 0), .int (nI k), .int (nI i)])).length) Slot.unset).toArray = ls at hl ⊢
  have hl : lv_has ls 3 [(0, .ref (ad 0)), (1, .int (nI k)), (2, .int (nI i))] := hl
  refine lv_aload_n hx hb dX1_lane_0 rfl (lv_at hl 0 rfl) ?_
  refine lv_iconst (v := nI 0) hx hb dX1_lane_1 rfl ?_
  refine va_put (ci := 1) (v := .int (nI 0)) (ty := .int) (C := RX1) (T := TX1) (N := 7) hx hb hts hin tyX1 tyX1_ok nmX1 hown hK hP hD hS 0 rfl rfl 0 (by decide) (hts (.fieldLink RX1 43 "KeccakLanesModel" "failed" "I") (by decide +kernel)) (fun _ h9 => h9) rfl (by decide +kernel) rfl rfl (Nat.le_of_ble_eq_true rfl) dX1_lane_2 (fun H locs hP hD hS => ?_)
  have hP : va_P D vwCl (kw_M ct ad (nI 0) M Pl L C V kk_rc) H := hP
  have hD : va_D A (kw_M ct ad (nI 0) M Pl L C V kk_rc) := hD
  refine lv_aload_n hx hb dX1_lane_5 rfl (lv_at hl 0 rfl) ?_
  refine lv_iload_n hx hb dX1_lane_6 rfl (lv_at hl 1 rfl) ?_
  refine kr_calli (va_runV (As := [.int (nI k)]) (rest := []) ⟨hx, hb, hml, hown, hts⟩ (km_out l D ct ad (nI 0) M Pl L C V kk_rc _ (a := k) (by omega)) (cwV 1 hts gM_lane_out rfl rfl rfl (by decide +kernel) ⟨Nat.le_of_ble_eq_true rfl, Nat.le_of_ble_eq_true rfl⟩) (kr_preV kw_Nok (q := (RX1, TX1, 7)) (q0 := 0) (ci := 1) _ hP hK hD hB hS hA rfl rfl rfl) rfl rfl hl.1 rfl (lv_room (Nat.le_of_ble_eq_true rfl)) dX1_lane_7 ⟨Nat.zero_le _, Nat.zero_le _⟩) hD hS hA (fun r u H locs hq hP hD hS => ?_)
  obtain rfl : r = nI 0 := hq
  have hP : va_P D vwCl (kw_M ct ad (nI 0) M Pl L C V kk_rc) H := hP
  have hD : va_D A (kw_M ct ad (nI 0) M Pl L C V kk_rc) := hD
  refine lv_if_ne (tgt := 23) hx hb dX1_lane_10 rfl (fun hc => ?_) (fun hc => ?_)
  · exact absurd rfl hc
  · clear hc
    refine lv_iload_n hx hb dX1_lane_13 rfl (lv_at hl 2 rfl) ?_
    refine lv_if_lt (tgt := 23) hx hb dX1_lane_14 rfl (fun hc => ?_) (fun hc => ?_)
    · exact absurd hc (nI_pos (by omega))
    · clear hc
      refine lv_iload_n hx hb dX1_lane_17 rfl (lv_at hl 2 rfl) ?_
      refine lv_bipush (v := nI 24) hx hb dX1_lane_18 (by decide +kernel) ?_
      refine kr_icmp_le (tgt := 32) hx hb (by omega) (by omega) dX1_lane_20 rfl (fun hc => ?_) (fun hc => ?_)
      · clear hc
        refine lv_aload_n hx hb dX1_lane_32 rfl (lv_at hl 0 rfl) ?_
        refine va_get hx hb hts hin hown hK hP 0 rfl rfl 1 (by decide) (hts (.fieldLink RX1 32 "KeccakLanesModel" "states" "[[J") (by decide +kernel)) (fun _ h => h) rfl dX1_lane_33 ?_
        refine lv_iload_n hx hb dX1_lane_36 rfl (lv_at hl 1 rfl) ?_
        refine kr_aald hx hb hK hP 1 0 rfl rfl (n := k) (y := ad (7 + k)) (by omega) (by omega) (if_pos (by omega)) dX1_lane_37 ?_
        refine lv_iload_n hx hb dX1_lane_38 rfl (lv_at hl 2 rfl) ?_
        refine kr_lald hx hb hK hP (7 + k) 2 (kw_Mrow ct ad (nI 0) M Pl L C V kk_rc hk) rfl (n := i) (by omega) (by omega) dX1_lane_39 ?_
        exact W.lret hx hb hr (fun t ht hW => ⟨⟨_, (), rfl, rfl, by rw [ht]; exact hP, va_K.moved hW.alike hK, hD⟩, hS.F ht⟩) hS.2.2 dX1_lane_40
      · omega
set_option maxHeartbeats 4000000 in
set_option maxRecDepth 100000 in
theorem km_digest (l : Launch) (D : va_G) (ct : Nat → ClassId) (ad : Nat → Nat) (F : Int32) (M : Nat → Nat → Int64) (Pl : Nat → Nat) (L C V K : Nat → Int64) (sz : Nat) {k i : Nat} (hk : k < 8) (hi4 : i < 4) (hq0 : Pl k < 136) : Met l yX1_digest wsM_digest ({ frames := 2, cells := 0, slots := 0, locals := 47 }) (kr_P D vwCl (kw_T ct) kw_N [.ref (ad 0), .int (nI k), .int (nI i)] (kw_M ct ad F M Pl L C V kk_rc) sz) (va_Ql (S := ((Nat → Int64) × (Nat → Int64))) (fun r _ => r = kk_rev (kk_dg (M k) (Pl k) i) 8) (kr_B D vwCl (kw_T ct) (fun u => kw_M ct ad (nI 0) M Pl (kk_dg (M k) (Pl k)) u.1 u.2 kk_rc) (va_A (kw_M ct ad F M Pl L C V kk_rc) sz)) (va_A (kw_M ct ad F M Pl L C V kk_rc) sz)) 0 0 (va_A (kw_M ct ad F M Pl L C V kk_rc) sz) := by
  refine Met.ofW (cc := cX1_digest) (maxL := 7) (ret := (some .long)) (by decide) rfl ?_
  intro p e s m args below meth c s₁ B hml hv
  obtain ⟨rfl, hsz, hP, hK, hD0, hB⟩ := hv
  have hx := B.exec
  have hb := B.bytes
  have hr := B.returns
  have hts := atoms_spec (ws := wsM_digest) B.pre
  have hown : s.vm.findClass RX1 = some m.cls := findClass_of_methodNamed B.named
  have hlocks := B.notSynchronized
  have hin : ∀ w ∈ u_ws RX1 TX1 7, w ∈ wsM_digest := fun w h => List.mem_cons_of_mem _ (kM_in w h)
  subst hsz
  have hD := hD0.self (sz := s.heap.size)
  generalize hAe : va_A (kw_M ct ad F M Pl L C V kk_rc) s.heap.size = A at hD hB ⊢
  have hA : ∀ q : Nat, s.heap.size ≤ q → A q := fun q h => by rw [← hAe]; exact Or.inr h
  have hS : va_S A s.heap s.heap [] := va_S.rf
  have hl := lv_entry ([.ref (ad 0), .int (nI k), .int (nI i)]) (n := 7) (Nat.le_of_ble_eq_true rfl)
  rw [lg_entry_eq]
  generalize (lg_sl ([.ref (ad 0), .int (nI k), .int (nI i)]) ++ List.replicate (7 - (lg_sl ([.ref (ad 0), .int (nI k), .int (nI i)])).length) Slot.unset).toArray = ls at hl ⊢
  have hl : lv_has ls 7 [(0, .ref (ad 0)), (1, .int (nI k)), (2, .int (nI i))] := hl
  refine lv_aload_n hx hb dX1_digest_0 rfl (lv_at hl 0 rfl) ?_
  refine lv_iconst (v := nI 0) hx hb dX1_digest_1 rfl ?_
  refine va_put (ci := 1) (v := .int (nI 0)) (ty := .int) (C := RX1) (T := TX1) (N := 7) hx hb hts hin tyX1 tyX1_ok nmX1 hown hK hP hD hS 0 rfl rfl 0 (by decide) (hts (.fieldLink RX1 43 "KeccakLanesModel" "failed" "I") (by decide +kernel)) (fun _ h9 => h9) rfl (by decide +kernel) rfl rfl (Nat.le_of_ble_eq_true rfl) dX1_digest_2 (fun H locs hP hD hS => ?_)
  have hP : va_P D vwCl (kw_M ct ad (nI 0) M Pl L C V kk_rc) H := hP
  have hD : va_D A (kw_M ct ad (nI 0) M Pl L C V kk_rc) := hD
  refine lv_aload_n hx hb dX1_digest_5 rfl (lv_at hl 0 rfl) ?_
  refine lv_iload_n hx hb dX1_digest_6 rfl (lv_at hl 1 rfl) ?_
  refine kr_calli (va_runV (As := [.int (nI k)]) (rest := []) ⟨hx, hb, hml, hown, hts⟩ (km_out l D ct ad (nI 0) M Pl L C V kk_rc _ (a := k) (by omega)) (cwV 1 hts gM_digest_out rfl rfl rfl (by decide +kernel) ⟨Nat.le_of_ble_eq_true rfl, Nat.le_of_ble_eq_true rfl⟩) (kr_preV kw_Nok (q := (RX1, TX1, 7)) (q0 := 0) (ci := 1) _ hP hK hD hB hS hA rfl rfl rfl) rfl rfl hl.1 rfl (lv_room (Nat.le_of_ble_eq_true rfl)) dX1_digest_7 ⟨Nat.zero_le _, Nat.zero_le _⟩) hD hS hA (fun r u H locs hq hP hD hS => ?_)
  obtain rfl : r = nI 0 := hq
  have hP : va_P D vwCl (kw_M ct ad (nI 0) M Pl L C V kk_rc) H := hP
  have hD : va_D A (kw_M ct ad (nI 0) M Pl L C V kk_rc) := hD
  refine lv_if_ne (tgt := 22) hx hb dX1_digest_10 rfl (fun hc => ?_) (fun hc => ?_)
  · exact absurd rfl hc
  · clear hc
    refine lv_iload_n hx hb dX1_digest_13 rfl (lv_at hl 2 rfl) ?_
    refine lv_if_lt (tgt := 22) hx hb dX1_digest_14 rfl (fun hc => ?_) (fun hc => ?_)
    · exact absurd hc (nI_pos (by omega))
    · clear hc
      refine lv_iload_n hx hb dX1_digest_17 rfl (lv_at hl 2 rfl) ?_
      refine lv_iconst (v := nI 3) hx hb dX1_digest_18 rfl ?_
      refine kr_icmp_le (tgt := 29) hx hb (by omega) (by omega) dX1_digest_19 rfl (fun hc => ?_) (fun hc => ?_)
      · clear hc
        refine lv_aload_n hx hb dX1_digest_29 rfl (lv_at hl 0 rfl) ?_
        refine lv_iload_n hx hb dX1_digest_30 rfl (lv_at hl 1 rfl) ?_
        refine kr_callv (va_runV (As := [.int (nI k)]) (rest := []) ⟨hx, hb, hml, hown, hts⟩ (km_get l D ct ad (nI 0) M Pl L C V kk_rc _ hk) (cwV 1 hts gM_digest_get rfl rfl rfl (by decide +kernel) ⟨Nat.le_of_ble_eq_true rfl, Nat.le_of_ble_eq_true rfl⟩) (kr_preV kw_Nok (q := (RX1, TX1, 7)) (q0 := 0) (ci := 1) _ hP hK hD hB hS hA rfl rfl rfl) rfl rfl hl.1 rfl (lv_room (Nat.le_of_ble_eq_true rfl)) dX1_digest_31 ⟨Nat.zero_le _, Nat.zero_le _⟩) hD hS hA (fun u H locs hq hP hD hS => ?_)
        have hP : va_P D vwCl (kw_M ct ad (nI 0) M Pl (M k) C V kk_rc) H := hP
        have hD : va_D A (kw_M ct ad (nI 0) M Pl (M k) C V kk_rc) := hD
        refine lv_aload_n hx hb dX1_digest_34 rfl (lv_at hl 0 rfl) ?_
        refine va_get hx hb hts hin hown hK hP 0 rfl rfl 2 (by decide) (hts (.fieldLink RX1 35 "KeccakLanesModel" "places" "[I") (by decide +kernel)) (fun _ h => h) rfl dX1_digest_35 ?_
        refine lv_iload_n hx hb dX1_digest_38 rfl (lv_at hl 1 rfl) ?_
        refine kr_iald hx hb hK hP 2 1 rfl rfl (n := k) (by omega) (by omega) dX1_digest_39 ?_
        refine lv_istore_n hx hb dX1_digest_40 rfl hl (Nat.le_of_ble_eq_true rfl) rfl (fun ls hl => ?_)
        have hl : lv_has ls 7 [(3, .int (nI (Pl k))), (0, .ref (ad 0)), (1, .int (nI k)), (2, .int (nI i))] := hl
        refine lv_aload_n hx hb dX1_digest_41 rfl (lv_at hl 1 rfl) ?_
        refine va_get hx hb hts hin hown hK hP 0 rfl rfl 3 (by decide) (hts (.fieldLink RX1 7 "KeccakLanesModel" "lanes" "[J") (by decide +kernel)) (fun _ h => h) rfl dX1_digest_42 ?_
        refine lv_iload_n hx hb dX1_digest_45 rfl (lv_at hl 0 rfl) ?_
        refine lv_bipush (v := nI 8) hx hb dX1_digest_46 (by decide +kernel) ?_
        refine kr_idiv hx hb (by omega) (by omega) (by omega) dX1_digest_48 ?_
        refine lv_dup2_11 hx hb dX1_digest_49 rfl rfl ?_
        refine kr_lald hx hb hK hP 3 2 rfl rfl (n := (Pl k) / 8) (by omega) (by omega) dX1_digest_50 ?_
        refine lv_lconst (v := 1) hx hb dX1_digest_51 rfl ?_
        refine lv_bipush (v := nI 8) hx hb dX1_digest_52 (by decide +kernel) ?_
        refine lv_iload_n hx hb dX1_digest_54 rfl (lv_at hl 0 rfl) ?_
        refine lv_bipush (v := nI 8) hx hb dX1_digest_55 (by decide +kernel) ?_
        refine kr_irem hx hb (by omega) (by omega) (by omega) dX1_digest_57 ?_
        refine kr_imul hx hb dX1_digest_58 ?_
        refine lv_lshl hx hb dX1_digest_59 rfl ?_
        refine lv_lxor hx hb dX1_digest_60 ?_
        refine kr_last (w := kw_M ct ad (nI 0) M Pl (vp_updL (M k) ((Pl k) / 8) (((M k) ((Pl k) / 8)) ^^^ (1 <<< ((nI (8 * ((Pl k) % 8))).toInt64 &&& 63)))) C V kk_rc) hx hb hK hP hD hS 3 2 rfl rfl (n := (Pl k) / 8) (by omega) (by omega) rfl dX1_digest_61 (fun H locs hP hD hS => ?_)
        have hP : va_P D vwCl (kw_M ct ad (nI 0) M Pl (kk_join (M k) (Pl k) (kk_bt (nI 1))) C V kk_rc) H := by rw [kk_bt1]; exact hP
        have hD : va_D A (kw_M ct ad (nI 0) M Pl (kk_join (M k) (Pl k) (kk_bt (nI 1))) C V kk_rc) := by rw [kk_bt1]; exact hD
        refine lv_aload_n hx hb dX1_digest_62 rfl (lv_at hl 1 rfl) ?_
        refine va_get hx hb hts hin hown hK hP 0 rfl rfl 3 (by decide) (hts (.fieldLink RX1 7 "KeccakLanesModel" "lanes" "[J") (by decide +kernel)) (fun _ h => h) rfl dX1_digest_63 ?_
        refine lv_bipush (v := nI 16) hx hb dX1_digest_66 (by decide +kernel) ?_
        refine lv_dup2_11 hx hb dX1_digest_68 rfl rfl ?_
        refine kr_lald hx hb hK hP 3 2 rfl rfl (n := 16) (by omega) (by omega) dX1_digest_69 ?_
        refine lv_ldc2 (v := (-9223372036854775808)) hx hb hown (hts (.constantLong RX1 69 (-9223372036854775808)) (by decide +kernel)) dX1_digest_70 ?_
        refine lv_lxor hx hb dX1_digest_73 ?_
        refine kr_last (w := kw_M ct ad (nI 0) M Pl (vp_updL (kk_join (M k) (Pl k) (kk_bt (nI 1))) 16 (((kk_join (M k) (Pl k) (kk_bt (nI 1))) 16) ^^^ (-9223372036854775808))) C V kk_rc) hx hb hK hP hD hS 3 2 rfl rfl (n := 16) (by omega) (by omega) rfl dX1_digest_74 (fun H locs hP hD hS => ?_)
        rw [kk_j135] at hP hD
        have hP : va_P D vwCl (kw_M ct ad (nI 0) M Pl (kk_join (kk_join (M k) (Pl k) (kk_bt (nI 1))) 135 (kk_bt (nI 128))) C V kk_rc) H := hP
        have hD : va_D A (kw_M ct ad (nI 0) M Pl (kk_join (kk_join (M k) (Pl k) (kk_bt (nI 1))) 135 (kk_bt (nI 128))) C V kk_rc) := hD
        refine lv_aload_n hx hb dX1_digest_75 rfl (lv_at hl 1 rfl) ?_
        refine kr_callv (va_runV (As := []) (rest := []) ⟨hx, hb, hml, hown, hts⟩ (km_permute l D ct ad (nI 0) M Pl L C V K _ (kk_join (kk_join (M k) (Pl k) (kk_bt (nI 1))) 135 (kk_bt (nI 128)))) (cwV 0 hts gM_digest_permute rfl rfl rfl (by decide +kernel) ⟨Nat.le_of_ble_eq_true rfl, Nat.le_of_ble_eq_true rfl⟩) (kr_preV kw_Nok (q := (RX1, TX1, 7)) (q0 := 0) (ci := 1) _ hP hK hD hB hS hA rfl rfl rfl) rfl rfl hl.1 rfl (lv_room (Nat.le_of_ble_eq_true rfl)) dX1_digest_76 ⟨Nat.zero_le _, Nat.zero_le _⟩) hD hS hA (fun u H locs hq hP hD hS => ?_)
        have hP : va_P D vwCl (kw_M ct ad (nI 0) M Pl (kk_dg (M k) (Pl k)) u.1 u.2 kk_rc) H := hP
        have hD : va_D A (kw_M ct ad (nI 0) M Pl (kk_dg (M k) (Pl k)) u.1 u.2 kk_rc) := hD
        refine lv_lconst (v := 0) hx hb dX1_digest_79 rfl ?_
        refine lv_lstore hx hb dX1_digest_80 hl (Nat.le_of_ble_eq_true rfl) rfl (fun ls hl => ?_)
        have hl : lv_has ls 7 [(4, .long 0), (3, .int (nI (Pl k))), (0, .ref (ad 0)), (1, .int (nI k)), (2, .int (nI i))] := hl
        refine lv_iconst (v := nI 0) hx hb dX1_digest_82 rfl ?_
        refine lv_istore hx hb dX1_digest_83 hl (Nat.le_of_ble_eq_true rfl) rfl (fun ls hl => ?_)
        have hl : lv_has ls 7 [(6, .int (nI 0)), (4, .long 0), (3, .int (nI (Pl k))), (0, .ref (ad 0)), (1, .int (nI k)), (2, .int (nI i))] := hl
        have hl : lv_has ls 7 [(6, .int (nI 0)), (4, .long 0), (0, .ref (ad 0)), (2, .int (nI i))] := lv_sub hl [0, 1, 3, 5] rfl
        have hl : lv_has ls 7 [(6, .int (nI 0)), (4, .long (kk_rev (kk_dg (M k) (Pl k) i) 0)), (0, .ref (ad 0)), (2, .int (nI i))] := hl
        have loop : ∀ (Q : State → Prop), (∀ ls : Array Slot, lv_has ls 7 [(6, .int (nI 8)), (4, .long (kk_rev (kk_dg (M k) (Pl k) i) 8)), (0, .ref (ad 0)), (2, .int (nI i))] → W p l e (headSpec wsM_digest ({ frames := 2, cells := 0, slots := 0, locals := 47 })).room s m (([.ref (ad 0), .int (nI k), .int (nI i)] : List Value).toArray) below meth c H locs 0 0 Q (F0 m 122 ls [])) → ∀ (n j : Nat) (ls : Array Slot), 8 - j < n → j ≤ 8 → lv_has ls 7 [(6, .int (nI j)), (4, .long (kk_rev (kk_dg (M k) (Pl k) i) j)), (0, .ref (ad 0)), (2, .int (nI i))] → W p l e (headSpec wsM_digest ({ frames := 2, cells := 0, slots := 0, locals := 47 })).room s m (([.ref (ad 0), .int (nI k), .int (nI i)] : List Value).toArray) below meth c H locs 0 0 Q (F0 m 85 ls []) := by
          intro Q hend n
          induction n with
          | zero => intro j ls h; omega
          | succ n ih =>
            intro j ls hn hj hl
            refine lv_iload hx hb dX1_digest_85 (lv_at hl 0 rfl) ?_
            refine lv_bipush (v := nI 8) hx hb dX1_digest_87 (by decide +kernel) ?_
            refine kr_icmp_ge (tgt := 122) hx hb (by omega) (by omega) dX1_digest_89 rfl (fun hc => ?_) (fun hc => ?_)
            · obtain rfl : j = 8 := by omega
              exact hend ls hl
            · have hj8 : j < 8 := hc
              refine lv_lload hx hb dX1_digest_92 (lv_at hl 1 rfl) ?_
              refine lv_bipush (v := nI 8) hx hb dX1_digest_94 (by decide +kernel) ?_
              refine lv_lshl hx hb dX1_digest_96 rfl ?_
              refine lv_aload_n hx hb dX1_digest_97 rfl (lv_at hl 2 rfl) ?_
              refine va_get hx hb hts hin hown hK hP 0 rfl rfl 3 (by decide) (hts (.fieldLink RX1 7 "KeccakLanesModel" "lanes" "[J") (by decide +kernel)) (fun _ h => h) rfl dX1_digest_98 ?_
              refine lv_iload_n hx hb dX1_digest_101 rfl (lv_at hl 3 rfl) ?_
              refine kr_lald hx hb hK hP 3 2 rfl rfl (n := i) (by omega) (by omega) dX1_digest_102 ?_
              refine lv_bipush (v := nI 8) hx hb dX1_digest_103 (by decide +kernel) ?_
              refine lv_iload hx hb dX1_digest_105 (lv_at hl 0 rfl) ?_
              refine kr_imul hx hb dX1_digest_107 ?_
              refine lv_lushr hx hb dX1_digest_108 rfl ?_
              refine lv_ldc2 (v := 255) hx hb hown (hts (.constantLong RX1 71 255) (by decide +kernel)) dX1_digest_109 ?_
              refine lv_land hx hb dX1_digest_112 ?_
              refine lv_lor hx hb dX1_digest_113 ?_
              refine lv_lstore hx hb dX1_digest_114 hl (Nat.le_of_ble_eq_true rfl) rfl (fun ls hl => ?_)
              have hl : lv_has ls 7 [(4, .long (((kk_rev (kk_dg (M k) (Pl k) i) j) <<< ((nI 8).toInt64 &&& 63)) ||| (((((kk_dg (M k) (Pl k)) i).toUInt64 >>> ((nI (8 * j)).toInt64.toUInt64 &&& Int64.toUInt64 63)).toInt64) &&& 255))), (6, .int (nI j)), (0, .ref (ad 0)), (2, .int (nI i))] := hl
              refine lv_iinc (k := 1) (v := nI (j + 1)) hx hb dX1_digest_116 hl rfl (nI_add j 1) (Nat.le_of_ble_eq_true rfl) rfl (fun ls hl => ?_)
              have hl : lv_has ls 7 [(6, .int (nI (j + 1))), (4, .long (((kk_rev (kk_dg (M k) (Pl k) i) j) <<< ((nI 8).toInt64 &&& 63)) ||| (((((kk_dg (M k) (Pl k)) i).toUInt64 >>> ((nI (8 * j)).toInt64.toUInt64 &&& Int64.toUInt64 63)).toInt64) &&& 255))), (0, .ref (ad 0)), (2, .int (nI i))] := hl
              refine lv_goto (tgt := 85) hx hb dX1_digest_119 rfl ?_
              exact ih (j + 1) ls (by omega) (by omega) (lv_sub hl [0, 1, 2, 3] rfl)
        refine loop _ (fun ls hl => ?_) 9 0 ls (by omega) (by omega) hl
        refine lv_lload hx hb dX1_digest_122 (lv_at hl 1 rfl) ?_
        exact W.lret hx hb hr (fun t ht hW => ⟨⟨_, u, rfl, rfl, by rw [ht]; exact hP, va_K.moved hW.alike hK, hD⟩, hS.F ht⟩) hS.2.2 dX1_digest_124
      · omega
end
section
/-! KeccakLanesModel: the public methods where they refuse -/
theorem km_ne1 : ¬ nI 1 = 0 := by decide +kernel
set_option maxHeartbeats 4000000 in
set_option maxRecDepth 100000 in
theorem kn_clear1 (l : Launch) (D : va_G) (ct : Nat → ClassId) (ad : Nat → Nat) (F : Int32) (M : Nat → Nat → Int64) (Pl : Nat → Nat) (L C V K : Nat → Int64) (sz : Nat) (x : Int32) (hbad : x < 0 ∨ ¬ x ≤ nI 7) : Met l yX1_clear wsM_clear ({ frames := 1, cells := 0, slots := 0, locals := 21 }) (kr_P D vwCl (kw_T ct) kw_N [.ref (ad 0), .int x] (kw_M ct ad F M Pl L C V kk_rc) sz) (va_Qv (S := Unit) (fun _ => True) (kr_B D vwCl (kw_T ct) (fun _ => kw_M ct ad (nI 1) M Pl L C V kk_rc) (va_A (kw_M ct ad F M Pl L C V kk_rc) sz)) (va_A (kw_M ct ad F M Pl L C V kk_rc) sz)) 0 0 (va_A (kw_M ct ad F M Pl L C V kk_rc) sz) := by
  refine Met.ofW (cc := cX1_clear) (maxL := 3) (ret := none) (by decide) rfl ?_
  intro p e s m args below meth c s₁ B hml hv
  obtain ⟨rfl, hsz, hP, hK, hD0, hB⟩ := hv
  have hx := B.exec
  have hb := B.bytes
  have hr := B.returns
  have hts := atoms_spec (ws := wsM_clear) B.pre
  have hown : s.vm.findClass RX1 = some m.cls := findClass_of_methodNamed B.named
  have hlocks := B.notSynchronized
  have hin : ∀ w ∈ u_ws RX1 TX1 7, w ∈ wsM_clear := fun w h => List.mem_cons_of_mem _ (kM_in w h)
  subst hsz
  have hD := hD0.self (sz := s.heap.size)
  generalize hAe : va_A (kw_M ct ad F M Pl L C V kk_rc) s.heap.size = A at hD hB ⊢
  have hA : ∀ q : Nat, s.heap.size ≤ q → A q := fun q h => by rw [← hAe]; exact Or.inr h
  have hS : va_S A s.heap s.heap [] := va_S.rf
  have hl := lv_entry ([.ref (ad 0), .int x]) (n := 3) (Nat.le_of_ble_eq_true rfl)
  rw [lg_entry_eq]
  generalize (lg_sl ([.ref (ad 0), .int x]) ++ List.replicate (3 - (lg_sl ([.ref (ad 0), .int x])).length) Slot.unset).toArray = ls at hl ⊢
  have hl : lv_has ls 3 [(0, .ref (ad 0)), (1, .int x)] := hl
  refine lv_aload_n hx hb dX1_clear_0 rfl (lv_at hl 0 rfl) ?_
  refine lv_iconst (v := nI 0) hx hb dX1_clear_1 rfl ?_
  refine va_put (ci := 1) (v := .int (nI 0)) (ty := .int) (C := RX1) (T := TX1) (N := 7) hx hb hts hin tyX1 tyX1_ok nmX1 hown hK hP hD hS 0 rfl rfl 0 (by decide) (hts (.fieldLink RX1 43 "KeccakLanesModel" "failed" "I") (by decide +kernel)) (fun _ h9 => h9) rfl (by decide +kernel) rfl rfl (Nat.le_of_ble_eq_true rfl) dX1_clear_2 (fun H locs hP hD hS => ?_)
  have hP : va_P D vwCl (kw_M ct ad (nI 0) M Pl L C V kk_rc) H := hP
  have hD : va_D A (kw_M ct ad (nI 0) M Pl L C V kk_rc) := hD
  refine lv_aload_n hx hb dX1_clear_5 rfl (lv_at hl 0 rfl) ?_
  refine lv_iload_n hx hb dX1_clear_6 rfl (lv_at hl 1 rfl) ?_
  refine kr_calli (va_runV (As := [.int x]) (rest := []) ⟨hx, hb, hml, hown, hts⟩ (km_out1 l D ct ad (nI 0) M Pl L C V kk_rc _ x hbad) (cwV 1 hts gM_clear_out rfl rfl rfl (by decide +kernel) ⟨Nat.le_of_ble_eq_true rfl, Nat.le_of_ble_eq_true rfl⟩) (kr_preV kw_Nok (q := (RX1, TX1, 7)) (q0 := 0) (ci := 1) _ hP hK hD hB hS hA rfl rfl rfl) rfl rfl hl.1 rfl (lv_room (Nat.le_of_ble_eq_true rfl)) dX1_clear_7 ⟨Nat.zero_le _, Nat.zero_le _⟩) hD hS hA (fun r u H locs hq hP hD hS => ?_)
  obtain rfl : r = nI 1 := hq
  have hP : va_P D vwCl (kw_M ct ad (nI 0) M Pl L C V kk_rc) H := hP
  have hD : va_D A (kw_M ct ad (nI 0) M Pl L C V kk_rc) := hD
  refine lv_if_eq (tgt := 21) hx hb dX1_clear_10 rfl (fun hc => ?_) (fun hc => ?_)
  · exact absurd hc km_ne1
  · clear hc
    refine lv_aload_n hx hb dX1_clear_13 rfl (lv_at hl 0 rfl) ?_
    refine lv_iconst (v := nI 1) hx hb dX1_clear_14 rfl ?_
    refine va_put (ci := 1) (v := .int (nI 1)) (ty := .int) (C := RX1) (T := TX1) (N := 7) hx hb hts hin tyX1 tyX1_ok nmX1 hown hK hP hD hS 0 rfl rfl 0 (by decide) (hts (.fieldLink RX1 43 "KeccakLanesModel" "failed" "I") (by decide +kernel)) (fun _ h9 => h9) rfl (by decide +kernel) rfl rfl (Nat.le_of_ble_eq_true rfl) dX1_clear_15 (fun H locs hP hD hS => ?_)
    have hP : va_P D vwCl (kw_M ct ad (nI 1) M Pl L C V kk_rc) H := hP
    have hD : va_D A (kw_M ct ad (nI 1) M Pl L C V kk_rc) := hD
    refine lv_goto (tgt := 51) hx hb dX1_clear_18 rfl ?_
    exact W.vret hx hb hr (fun t ht hW => ⟨⟨(), rfl, trivial, by rw [ht]; exact hP, va_K.moved hW.alike hK, hD⟩, hS.F ht⟩) hS.2.2 dX1_clear_51
set_option maxHeartbeats 4000000 in
set_option maxRecDepth 100000 in
theorem kn_mix1 (l : Launch) (D : va_G) (ct : Nat → ClassId) (ad : Nat → Nat) (F : Int32) (M : Nat → Nat → Int64) (Pl : Nat → Nat) (L C V K : Nat → Int64) (sz : Nat) (x : Int32) (hbad : x < 0 ∨ ¬ x ≤ nI 7) : Met l yX1_mix wsM_mix ({ frames := 1, cells := 0, slots := 0, locals := 21 }) (kr_P D vwCl (kw_T ct) kw_N [.ref (ad 0), .int x] (kw_M ct ad F M Pl L C V kk_rc) sz) (va_Qv (S := Unit) (fun _ => True) (kr_B D vwCl (kw_T ct) (fun _ => kw_M ct ad (nI 1) M Pl L C V kk_rc) (va_A (kw_M ct ad F M Pl L C V kk_rc) sz)) (va_A (kw_M ct ad F M Pl L C V kk_rc) sz)) 0 0 (va_A (kw_M ct ad F M Pl L C V kk_rc) sz) := by
  refine Met.ofW (cc := cX1_mix) (maxL := 2) (ret := none) (by decide) rfl ?_
  intro p e s m args below meth c s₁ B hml hv
  obtain ⟨rfl, hsz, hP, hK, hD0, hB⟩ := hv
  have hx := B.exec
  have hb := B.bytes
  have hr := B.returns
  have hts := atoms_spec (ws := wsM_mix) B.pre
  have hown : s.vm.findClass RX1 = some m.cls := findClass_of_methodNamed B.named
  have hlocks := B.notSynchronized
  have hin : ∀ w ∈ u_ws RX1 TX1 7, w ∈ wsM_mix := fun w h => List.mem_cons_of_mem _ (kM_in w h)
  subst hsz
  have hD := hD0.self (sz := s.heap.size)
  generalize hAe : va_A (kw_M ct ad F M Pl L C V kk_rc) s.heap.size = A at hD hB ⊢
  have hA : ∀ q : Nat, s.heap.size ≤ q → A q := fun q h => by rw [← hAe]; exact Or.inr h
  have hS : va_S A s.heap s.heap [] := va_S.rf
  have hl := lv_entry ([.ref (ad 0), .int x]) (n := 2) (Nat.le_of_ble_eq_true rfl)
  rw [lg_entry_eq]
  generalize (lg_sl ([.ref (ad 0), .int x]) ++ List.replicate (2 - (lg_sl ([.ref (ad 0), .int x])).length) Slot.unset).toArray = ls at hl ⊢
  have hl : lv_has ls 2 [(0, .ref (ad 0)), (1, .int x)] := hl
  refine lv_aload_n hx hb dX1_mix_0 rfl (lv_at hl 0 rfl) ?_
  refine lv_iconst (v := nI 0) hx hb dX1_mix_1 rfl ?_
  refine va_put (ci := 1) (v := .int (nI 0)) (ty := .int) (C := RX1) (T := TX1) (N := 7) hx hb hts hin tyX1 tyX1_ok nmX1 hown hK hP hD hS 0 rfl rfl 0 (by decide) (hts (.fieldLink RX1 43 "KeccakLanesModel" "failed" "I") (by decide +kernel)) (fun _ h9 => h9) rfl (by decide +kernel) rfl rfl (Nat.le_of_ble_eq_true rfl) dX1_mix_2 (fun H locs hP hD hS => ?_)
  have hP : va_P D vwCl (kw_M ct ad (nI 0) M Pl L C V kk_rc) H := hP
  have hD : va_D A (kw_M ct ad (nI 0) M Pl L C V kk_rc) := hD
  refine lv_aload_n hx hb dX1_mix_5 rfl (lv_at hl 0 rfl) ?_
  refine lv_iload_n hx hb dX1_mix_6 rfl (lv_at hl 1 rfl) ?_
  refine kr_calli (va_runV (As := [.int x]) (rest := []) ⟨hx, hb, hml, hown, hts⟩ (km_out1 l D ct ad (nI 0) M Pl L C V kk_rc _ x hbad) (cwV 1 hts gM_mix_out rfl rfl rfl (by decide +kernel) ⟨Nat.le_of_ble_eq_true rfl, Nat.le_of_ble_eq_true rfl⟩) (kr_preV kw_Nok (q := (RX1, TX1, 7)) (q0 := 0) (ci := 1) _ hP hK hD hB hS hA rfl rfl rfl) rfl rfl hl.1 rfl (lv_room (Nat.le_of_ble_eq_true rfl)) dX1_mix_7 ⟨Nat.zero_le _, Nat.zero_le _⟩) hD hS hA (fun r u H locs hq hP hD hS => ?_)
  obtain rfl : r = nI 1 := hq
  have hP : va_P D vwCl (kw_M ct ad (nI 0) M Pl L C V kk_rc) H := hP
  have hD : va_D A (kw_M ct ad (nI 0) M Pl L C V kk_rc) := hD
  refine lv_if_eq (tgt := 21) hx hb dX1_mix_10 rfl (fun hc => ?_) (fun hc => ?_)
  · exact absurd hc km_ne1
  · clear hc
    refine lv_aload_n hx hb dX1_mix_13 rfl (lv_at hl 0 rfl) ?_
    refine lv_iconst (v := nI 1) hx hb dX1_mix_14 rfl ?_
    refine va_put (ci := 1) (v := .int (nI 1)) (ty := .int) (C := RX1) (T := TX1) (N := 7) hx hb hts hin tyX1 tyX1_ok nmX1 hown hK hP hD hS 0 rfl rfl 0 (by decide) (hts (.fieldLink RX1 43 "KeccakLanesModel" "failed" "I") (by decide +kernel)) (fun _ h9 => h9) rfl (by decide +kernel) rfl rfl (Nat.le_of_ble_eq_true rfl) dX1_mix_15 (fun H locs hP hD hS => ?_)
    have hP : va_P D vwCl (kw_M ct ad (nI 1) M Pl L C V kk_rc) H := hP
    have hD : va_D A (kw_M ct ad (nI 1) M Pl L C V kk_rc) := hD
    refine lv_goto (tgt := 35) hx hb dX1_mix_18 rfl ?_
    exact W.vret hx hb hr (fun t ht hW => ⟨⟨(), rfl, trivial, by rw [ht]; exact hP, va_K.moved hW.alike hK, hD⟩, hS.F ht⟩) hS.2.2 dX1_mix_35
set_option maxHeartbeats 4000000 in
set_option maxRecDepth 100000 in
theorem kn_copy1 (l : Launch) (D : va_G) (ct : Nat → ClassId) (ad : Nat → Nat) (F : Int32) (M : Nat → Nat → Int64) (Pl : Nat → Nat) (L C V K : Nat → Int64) (sz : Nat) (x y : Int32) (hbad : x < 0 ∨ ¬ x ≤ nI 7) : Met l yX1_copy wsM_copy ({ frames := 1, cells := 0, slots := 0, locals := 21 }) (kr_P D vwCl (kw_T ct) kw_N [.ref (ad 0), .int x, .int y] (kw_M ct ad F M Pl L C V kk_rc) sz) (va_Qv (S := Unit) (fun _ => True) (kr_B D vwCl (kw_T ct) (fun _ => kw_M ct ad (nI 1) M Pl L C V kk_rc) (va_A (kw_M ct ad F M Pl L C V kk_rc) sz)) (va_A (kw_M ct ad F M Pl L C V kk_rc) sz)) 0 0 (va_A (kw_M ct ad F M Pl L C V kk_rc) sz) := by
  refine Met.ofW (cc := cX1_copy) (maxL := 3) (ret := none) (by decide) rfl ?_
  intro p e s m args below meth c s₁ B hml hv
  obtain ⟨rfl, hsz, hP, hK, hD0, hB⟩ := hv
  have hx := B.exec
  have hb := B.bytes
  have hr := B.returns
  have hts := atoms_spec (ws := wsM_copy) B.pre
  have hown : s.vm.findClass RX1 = some m.cls := findClass_of_methodNamed B.named
  have hlocks := B.notSynchronized
  have hin : ∀ w ∈ u_ws RX1 TX1 7, w ∈ wsM_copy := fun w h => List.mem_cons_of_mem _ (kM_in w h)
  subst hsz
  have hD := hD0.self (sz := s.heap.size)
  generalize hAe : va_A (kw_M ct ad F M Pl L C V kk_rc) s.heap.size = A at hD hB ⊢
  have hA : ∀ q : Nat, s.heap.size ≤ q → A q := fun q h => by rw [← hAe]; exact Or.inr h
  have hS : va_S A s.heap s.heap [] := va_S.rf
  have hl := lv_entry ([.ref (ad 0), .int x, .int y]) (n := 3) (Nat.le_of_ble_eq_true rfl)
  rw [lg_entry_eq]
  generalize (lg_sl ([.ref (ad 0), .int x, .int y]) ++ List.replicate (3 - (lg_sl ([.ref (ad 0), .int x, .int y])).length) Slot.unset).toArray = ls at hl ⊢
  have hl : lv_has ls 3 [(0, .ref (ad 0)), (1, .int x), (2, .int y)] := hl
  refine lv_aload_n hx hb dX1_copy_0 rfl (lv_at hl 0 rfl) ?_
  refine lv_iconst (v := nI 0) hx hb dX1_copy_1 rfl ?_
  refine va_put (ci := 1) (v := .int (nI 0)) (ty := .int) (C := RX1) (T := TX1) (N := 7) hx hb hts hin tyX1 tyX1_ok nmX1 hown hK hP hD hS 0 rfl rfl 0 (by decide) (hts (.fieldLink RX1 43 "KeccakLanesModel" "failed" "I") (by decide +kernel)) (fun _ h9 => h9) rfl (by decide +kernel) rfl rfl (Nat.le_of_ble_eq_true rfl) dX1_copy_2 (fun H locs hP hD hS => ?_)
  have hP : va_P D vwCl (kw_M ct ad (nI 0) M Pl L C V kk_rc) H := hP
  have hD : va_D A (kw_M ct ad (nI 0) M Pl L C V kk_rc) := hD
  refine lv_aload_n hx hb dX1_copy_5 rfl (lv_at hl 0 rfl) ?_
  refine lv_iload_n hx hb dX1_copy_6 rfl (lv_at hl 1 rfl) ?_
  refine kr_calli (va_runV (As := [.int x]) (rest := []) ⟨hx, hb, hml, hown, hts⟩ (km_out1 l D ct ad (nI 0) M Pl L C V kk_rc _ x hbad) (cwV 1 hts gM_copy_out rfl rfl rfl (by decide +kernel) ⟨Nat.le_of_ble_eq_true rfl, Nat.le_of_ble_eq_true rfl⟩) (kr_preV kw_Nok (q := (RX1, TX1, 7)) (q0 := 0) (ci := 1) _ hP hK hD hB hS hA rfl rfl rfl) rfl rfl hl.1 rfl (lv_room (Nat.le_of_ble_eq_true rfl)) dX1_copy_7 ⟨Nat.zero_le _, Nat.zero_le _⟩) hD hS hA (fun r u H locs hq hP hD hS => ?_)
  obtain rfl : r = nI 1 := hq
  have hP : va_P D vwCl (kw_M ct ad (nI 0) M Pl L C V kk_rc) H := hP
  have hD : va_D A (kw_M ct ad (nI 0) M Pl L C V kk_rc) := hD
  refine lv_if_ne (tgt := 21) hx hb dX1_copy_10 rfl (fun hc => ?_) (fun hc => ?_)
  · clear hc
    refine lv_aload_n hx hb dX1_copy_21 rfl (lv_at hl 0 rfl) ?_
    refine lv_iconst (v := nI 1) hx hb dX1_copy_22 rfl ?_
    refine va_put (ci := 1) (v := .int (nI 1)) (ty := .int) (C := RX1) (T := TX1) (N := 7) hx hb hts hin tyX1 tyX1_ok nmX1 hown hK hP hD hS 0 rfl rfl 0 (by decide) (hts (.fieldLink RX1 43 "KeccakLanesModel" "failed" "I") (by decide +kernel)) (fun _ h9 => h9) rfl (by decide +kernel) rfl rfl (Nat.le_of_ble_eq_true rfl) dX1_copy_23 (fun H locs hP hD hS => ?_)
    have hP : va_P D vwCl (kw_M ct ad (nI 1) M Pl L C V kk_rc) H := hP
    have hD : va_D A (kw_M ct ad (nI 1) M Pl L C V kk_rc) := hD
    refine lv_goto (tgt := 51) hx hb dX1_copy_26 rfl ?_
    exact W.vret hx hb hr (fun t ht hW => ⟨⟨(), rfl, trivial, by rw [ht]; exact hP, va_K.moved hW.alike hK, hD⟩, hS.F ht⟩) hS.2.2 dX1_copy_51
  · exact absurd hc km_ne1
set_option maxHeartbeats 4000000 in
set_option maxRecDepth 100000 in
theorem kn_copy2 (l : Launch) (D : va_G) (ct : Nat → ClassId) (ad : Nat → Nat) (F : Int32) (M : Nat → Nat → Int64) (Pl : Nat → Nat) (L C V K : Nat → Int64) (sz : Nat) {k : Nat} (hk : k < 8) (x : Int32) (hbad : x < 0 ∨ ¬ x ≤ nI 7) : Met l yX1_copy wsM_copy ({ frames := 1, cells := 0, slots := 0, locals := 21 }) (kr_P D vwCl (kw_T ct) kw_N [.ref (ad 0), .int (nI k), .int x] (kw_M ct ad F M Pl L C V kk_rc) sz) (va_Qv (S := Unit) (fun _ => True) (kr_B D vwCl (kw_T ct) (fun _ => kw_M ct ad (nI 1) M Pl L C V kk_rc) (va_A (kw_M ct ad F M Pl L C V kk_rc) sz)) (va_A (kw_M ct ad F M Pl L C V kk_rc) sz)) 0 0 (va_A (kw_M ct ad F M Pl L C V kk_rc) sz) := by
  refine Met.ofW (cc := cX1_copy) (maxL := 3) (ret := none) (by decide) rfl ?_
  intro p e s m args below meth c s₁ B hml hv
  obtain ⟨rfl, hsz, hP, hK, hD0, hB⟩ := hv
  have hx := B.exec
  have hb := B.bytes
  have hr := B.returns
  have hts := atoms_spec (ws := wsM_copy) B.pre
  have hown : s.vm.findClass RX1 = some m.cls := findClass_of_methodNamed B.named
  have hlocks := B.notSynchronized
  have hin : ∀ w ∈ u_ws RX1 TX1 7, w ∈ wsM_copy := fun w h => List.mem_cons_of_mem _ (kM_in w h)
  subst hsz
  have hD := hD0.self (sz := s.heap.size)
  generalize hAe : va_A (kw_M ct ad F M Pl L C V kk_rc) s.heap.size = A at hD hB ⊢
  have hA : ∀ q : Nat, s.heap.size ≤ q → A q := fun q h => by rw [← hAe]; exact Or.inr h
  have hS : va_S A s.heap s.heap [] := va_S.rf
  have hl := lv_entry ([.ref (ad 0), .int (nI k), .int x]) (n := 3) (Nat.le_of_ble_eq_true rfl)
  rw [lg_entry_eq]
  generalize (lg_sl ([.ref (ad 0), .int (nI k), .int x]) ++ List.replicate (3 - (lg_sl ([.ref (ad 0), .int (nI k), .int x])).length) Slot.unset).toArray = ls at hl ⊢
  have hl : lv_has ls 3 [(0, .ref (ad 0)), (1, .int (nI k)), (2, .int x)] := hl
  refine lv_aload_n hx hb dX1_copy_0 rfl (lv_at hl 0 rfl) ?_
  refine lv_iconst (v := nI 0) hx hb dX1_copy_1 rfl ?_
  refine va_put (ci := 1) (v := .int (nI 0)) (ty := .int) (C := RX1) (T := TX1) (N := 7) hx hb hts hin tyX1 tyX1_ok nmX1 hown hK hP hD hS 0 rfl rfl 0 (by decide) (hts (.fieldLink RX1 43 "KeccakLanesModel" "failed" "I") (by decide +kernel)) (fun _ h9 => h9) rfl (by decide +kernel) rfl rfl (Nat.le_of_ble_eq_true rfl) dX1_copy_2 (fun H locs hP hD hS => ?_)
  have hP : va_P D vwCl (kw_M ct ad (nI 0) M Pl L C V kk_rc) H := hP
  have hD : va_D A (kw_M ct ad (nI 0) M Pl L C V kk_rc) := hD
  refine lv_aload_n hx hb dX1_copy_5 rfl (lv_at hl 0 rfl) ?_
  refine lv_iload_n hx hb dX1_copy_6 rfl (lv_at hl 1 rfl) ?_
  refine kr_calli (va_runV (As := [.int (nI k)]) (rest := []) ⟨hx, hb, hml, hown, hts⟩ (km_out l D ct ad (nI 0) M Pl L C V kk_rc _ (a := k) (by omega)) (cwV 1 hts gM_copy_out rfl rfl rfl (by decide +kernel) ⟨Nat.le_of_ble_eq_true rfl, Nat.le_of_ble_eq_true rfl⟩) (kr_preV kw_Nok (q := (RX1, TX1, 7)) (q0 := 0) (ci := 1) _ hP hK hD hB hS hA rfl rfl rfl) rfl rfl hl.1 rfl (lv_room (Nat.le_of_ble_eq_true rfl)) dX1_copy_7 ⟨Nat.zero_le _, Nat.zero_le _⟩) hD hS hA (fun r u H locs hq hP hD hS => ?_)
  obtain rfl : r = nI 0 := hq
  have hP : va_P D vwCl (kw_M ct ad (nI 0) M Pl L C V kk_rc) H := hP
  have hD : va_D A (kw_M ct ad (nI 0) M Pl L C V kk_rc) := hD
  refine lv_if_ne (tgt := 21) hx hb dX1_copy_10 rfl (fun hc => ?_) (fun hc => ?_)
  · exact absurd rfl hc
  · clear hc
    refine lv_aload_n hx hb dX1_copy_13 rfl (lv_at hl 0 rfl) ?_
    refine lv_iload_n hx hb dX1_copy_14 rfl (lv_at hl 2 rfl) ?_
    refine kr_calli (va_runV (As := [.int x]) (rest := []) ⟨hx, hb, hml, hown, hts⟩ (km_out1 l D ct ad (nI 0) M Pl L C V kk_rc _ x hbad) (cwV 1 hts gM_copy_out rfl rfl rfl (by decide +kernel) ⟨Nat.le_of_ble_eq_true rfl, Nat.le_of_ble_eq_true rfl⟩) (kr_preV kw_Nok (q := (RX1, TX1, 7)) (q0 := 0) (ci := 1) _ hP hK hD hB hS hA rfl rfl rfl) rfl rfl hl.1 rfl (lv_room (Nat.le_of_ble_eq_true rfl)) dX1_copy_15 ⟨Nat.zero_le _, Nat.zero_le _⟩) hD hS hA (fun r u H locs hq hP hD hS => ?_)
    obtain rfl : r = nI 1 := hq
    have hP : va_P D vwCl (kw_M ct ad (nI 0) M Pl L C V kk_rc) H := hP
    have hD : va_D A (kw_M ct ad (nI 0) M Pl L C V kk_rc) := hD
    refine lv_if_eq (tgt := 29) hx hb dX1_copy_18 rfl (fun hc => ?_) (fun hc => ?_)
    · exact absurd hc km_ne1
    · clear hc
      refine lv_aload_n hx hb dX1_copy_21 rfl (lv_at hl 0 rfl) ?_
      refine lv_iconst (v := nI 1) hx hb dX1_copy_22 rfl ?_
      refine va_put (ci := 1) (v := .int (nI 1)) (ty := .int) (C := RX1) (T := TX1) (N := 7) hx hb hts hin tyX1 tyX1_ok nmX1 hown hK hP hD hS 0 rfl rfl 0 (by decide) (hts (.fieldLink RX1 43 "KeccakLanesModel" "failed" "I") (by decide +kernel)) (fun _ h9 => h9) rfl (by decide +kernel) rfl rfl (Nat.le_of_ble_eq_true rfl) dX1_copy_23 (fun H locs hP hD hS => ?_)
      have hP : va_P D vwCl (kw_M ct ad (nI 1) M Pl L C V kk_rc) H := hP
      have hD : va_D A (kw_M ct ad (nI 1) M Pl L C V kk_rc) := hD
      refine lv_goto (tgt := 51) hx hb dX1_copy_26 rfl ?_
      exact W.vret hx hb hr (fun t ht hW => ⟨⟨(), rfl, trivial, by rw [ht]; exact hP, va_K.moved hW.alike hK, hD⟩, hS.F ht⟩) hS.2.2 dX1_copy_51
set_option maxHeartbeats 4000000 in
set_option maxRecDepth 100000 in
theorem kn_take1 (l : Launch) (D : va_G) (ct : Nat → ClassId) (ad : Nat → Nat) (F : Int32) (M : Nat → Nat → Int64) (Pl : Nat → Nat) (L C V K : Nat → Int64) (sz : Nat) (x : Int32) (v : Int64) (y : Int32) (hbad : x < 0 ∨ ¬ x ≤ nI 7) : Met l yX1_take wsM_take ({ frames := 1, cells := 0, slots := 0, locals := 21 }) (kr_P D vwCl (kw_T ct) kw_N [.ref (ad 0), .int x, .long v, .int y] (kw_M ct ad F M Pl L C V kk_rc) sz) (va_Qi (S := Unit) (fun _ _ => True) (kr_B D vwCl (kw_T ct) (fun _ => kw_M ct ad (nI 1) M Pl L C V kk_rc) (va_A (kw_M ct ad F M Pl L C V kk_rc) sz)) (va_A (kw_M ct ad F M Pl L C V kk_rc) sz)) 0 0 (va_A (kw_M ct ad F M Pl L C V kk_rc) sz) := by
  refine Met.ofW (cc := cX1_take) (maxL := 6) (ret := (some .int)) (by decide) rfl ?_
  intro p e s m args below meth c s₁ B hml hv
  obtain ⟨rfl, hsz, hP, hK, hD0, hB⟩ := hv
  have hx := B.exec
  have hb := B.bytes
  have hr := B.returns
  have hts := atoms_spec (ws := wsM_take) B.pre
  have hown : s.vm.findClass RX1 = some m.cls := findClass_of_methodNamed B.named
  have hlocks := B.notSynchronized
  have hin : ∀ w ∈ u_ws RX1 TX1 7, w ∈ wsM_take := fun w h => List.mem_cons_of_mem _ (kM_in w h)
  subst hsz
  have hD := hD0.self (sz := s.heap.size)
  generalize hAe : va_A (kw_M ct ad F M Pl L C V kk_rc) s.heap.size = A at hD hB ⊢
  have hA : ∀ q : Nat, s.heap.size ≤ q → A q := fun q h => by rw [← hAe]; exact Or.inr h
  have hS : va_S A s.heap s.heap [] := va_S.rf
  have hl := lv_entry ([.ref (ad 0), .int x, .long v, .int y]) (n := 6) (Nat.le_of_ble_eq_true rfl)
  rw [lg_entry_eq]
  generalize (lg_sl ([.ref (ad 0), .int x, .long v, .int y]) ++ List.replicate (6 - (lg_sl ([.ref (ad 0), .int x, .long v, .int y])).length) Slot.unset).toArray = ls at hl ⊢
  have hl : lv_has ls 6 [(0, .ref (ad 0)), (1, .int x), (2, .long v), (4, .int y)] := hl
  refine lv_aload_n hx hb dX1_take_0 rfl (lv_at hl 0 rfl) ?_
  refine lv_iconst (v := nI 0) hx hb dX1_take_1 rfl ?_
  refine va_put (ci := 1) (v := .int (nI 0)) (ty := .int) (C := RX1) (T := TX1) (N := 7) hx hb hts hin tyX1 tyX1_ok nmX1 hown hK hP hD hS 0 rfl rfl 0 (by decide) (hts (.fieldLink RX1 43 "KeccakLanesModel" "failed" "I") (by decide +kernel)) (fun _ h9 => h9) rfl (by decide +kernel) rfl rfl (Nat.le_of_ble_eq_true rfl) dX1_take_2 (fun H locs hP hD hS => ?_)
  have hP : va_P D vwCl (kw_M ct ad (nI 0) M Pl L C V kk_rc) H := hP
  have hD : va_D A (kw_M ct ad (nI 0) M Pl L C V kk_rc) := hD
  refine lv_aload_n hx hb dX1_take_5 rfl (lv_at hl 0 rfl) ?_
  refine lv_iload_n hx hb dX1_take_6 rfl (lv_at hl 1 rfl) ?_
  refine kr_calli (va_runV (As := [.int x]) (rest := []) ⟨hx, hb, hml, hown, hts⟩ (km_out1 l D ct ad (nI 0) M Pl L C V kk_rc _ x hbad) (cwV 1 hts gM_take_out rfl rfl rfl (by decide +kernel) ⟨Nat.le_of_ble_eq_true rfl, Nat.le_of_ble_eq_true rfl⟩) (kr_preV kw_Nok (q := (RX1, TX1, 7)) (q0 := 0) (ci := 1) _ hP hK hD hB hS hA rfl rfl rfl) rfl rfl hl.1 rfl (lv_room (Nat.le_of_ble_eq_true rfl)) dX1_take_7 ⟨Nat.zero_le _, Nat.zero_le _⟩) hD hS hA (fun r u H locs hq hP hD hS => ?_)
  obtain rfl : r = nI 1 := hq
  have hP : va_P D vwCl (kw_M ct ad (nI 0) M Pl L C V kk_rc) H := hP
  have hD : va_D A (kw_M ct ad (nI 0) M Pl L C V kk_rc) := hD
  refine lv_if_ne (tgt := 25) hx hb dX1_take_10 rfl (fun hc => ?_) (fun hc => ?_)
  · clear hc
    refine lv_aload_n hx hb dX1_take_25 rfl (lv_at hl 0 rfl) ?_
    refine lv_iconst (v := nI 1) hx hb dX1_take_26 rfl ?_
    refine kr_calli (va_runV (As := [.int (nI 1)]) (rest := []) ⟨hx, hb, hml, hown, hts⟩ (km_fail l D ct ad (nI 0) M Pl L C V kk_rc _) (cwV 1 hts gM_take_fail rfl rfl rfl (by decide +kernel) ⟨Nat.le_of_ble_eq_true rfl, Nat.le_of_ble_eq_true rfl⟩) (kr_preV kw_Nok (q := (RX1, TX1, 7)) (q0 := 0) (ci := 1) _ hP hK hD hB hS hA rfl rfl rfl) rfl rfl hl.1 rfl (lv_room (Nat.le_of_ble_eq_true rfl)) dX1_take_27 ⟨Nat.zero_le _, Nat.zero_le _⟩) hD hS hA (fun r u H locs hq hP hD hS => ?_)
    obtain rfl : r = nI 0 := hq
    have hP : va_P D vwCl (kw_M ct ad (nI 1) M Pl L C V kk_rc) H := hP
    have hD : va_D A (kw_M ct ad (nI 1) M Pl L C V kk_rc) := hD
    exact W.iret hx hb hr (fun t ht hW => ⟨⟨_, (), rfl, trivial, by rw [ht]; exact hP, va_K.moved hW.alike hK, hD⟩, hS.F ht⟩) hS.2.2 dX1_take_30
  · exact absurd hc km_ne1
set_option maxHeartbeats 4000000 in
set_option maxRecDepth 100000 in
theorem kn_take2 (l : Launch) (D : va_G) (ct : Nat → ClassId) (ad : Nat → Nat) (F : Int32) (M : Nat → Nat → Int64) (Pl : Nat → Nat) (L C V K : Nat → Int64) (sz : Nat) {k : Nat} (hk : k < 8) (v : Int64) (x : Int32) (hbad : x < 0 ∨ ¬ x ≤ nI 8) : Met l yX1_take wsM_take ({ frames := 1, cells := 0, slots := 0, locals := 21 }) (kr_P D vwCl (kw_T ct) kw_N [.ref (ad 0), .int (nI k), .long v, .int x] (kw_M ct ad F M Pl L C V kk_rc) sz) (va_Qi (S := Unit) (fun _ _ => True) (kr_B D vwCl (kw_T ct) (fun _ => kw_M ct ad (nI 1) M Pl L C V kk_rc) (va_A (kw_M ct ad F M Pl L C V kk_rc) sz)) (va_A (kw_M ct ad F M Pl L C V kk_rc) sz)) 0 0 (va_A (kw_M ct ad F M Pl L C V kk_rc) sz) := by
  refine Met.ofW (cc := cX1_take) (maxL := 6) (ret := (some .int)) (by decide) rfl ?_
  intro p e s m args below meth c s₁ B hml hv
  obtain ⟨rfl, hsz, hP, hK, hD0, hB⟩ := hv
  have hx := B.exec
  have hb := B.bytes
  have hr := B.returns
  have hts := atoms_spec (ws := wsM_take) B.pre
  have hown : s.vm.findClass RX1 = some m.cls := findClass_of_methodNamed B.named
  have hlocks := B.notSynchronized
  have hin : ∀ w ∈ u_ws RX1 TX1 7, w ∈ wsM_take := fun w h => List.mem_cons_of_mem _ (kM_in w h)
  subst hsz
  have hD := hD0.self (sz := s.heap.size)
  generalize hAe : va_A (kw_M ct ad F M Pl L C V kk_rc) s.heap.size = A at hD hB ⊢
  have hA : ∀ q : Nat, s.heap.size ≤ q → A q := fun q h => by rw [← hAe]; exact Or.inr h
  have hS : va_S A s.heap s.heap [] := va_S.rf
  have hl := lv_entry ([.ref (ad 0), .int (nI k), .long v, .int x]) (n := 6) (Nat.le_of_ble_eq_true rfl)
  rw [lg_entry_eq]
  generalize (lg_sl ([.ref (ad 0), .int (nI k), .long v, .int x]) ++ List.replicate (6 - (lg_sl ([.ref (ad 0), .int (nI k), .long v, .int x])).length) Slot.unset).toArray = ls at hl ⊢
  have hl : lv_has ls 6 [(0, .ref (ad 0)), (1, .int (nI k)), (2, .long v), (4, .int x)] := hl
  refine lv_aload_n hx hb dX1_take_0 rfl (lv_at hl 0 rfl) ?_
  refine lv_iconst (v := nI 0) hx hb dX1_take_1 rfl ?_
  refine va_put (ci := 1) (v := .int (nI 0)) (ty := .int) (C := RX1) (T := TX1) (N := 7) hx hb hts hin tyX1 tyX1_ok nmX1 hown hK hP hD hS 0 rfl rfl 0 (by decide) (hts (.fieldLink RX1 43 "KeccakLanesModel" "failed" "I") (by decide +kernel)) (fun _ h9 => h9) rfl (by decide +kernel) rfl rfl (Nat.le_of_ble_eq_true rfl) dX1_take_2 (fun H locs hP hD hS => ?_)
  have hP : va_P D vwCl (kw_M ct ad (nI 0) M Pl L C V kk_rc) H := hP
  have hD : va_D A (kw_M ct ad (nI 0) M Pl L C V kk_rc) := hD
  refine lv_aload_n hx hb dX1_take_5 rfl (lv_at hl 0 rfl) ?_
  refine lv_iload_n hx hb dX1_take_6 rfl (lv_at hl 1 rfl) ?_
  refine kr_calli (va_runV (As := [.int (nI k)]) (rest := []) ⟨hx, hb, hml, hown, hts⟩ (km_out l D ct ad (nI 0) M Pl L C V kk_rc _ (a := k) (by omega)) (cwV 1 hts gM_take_out rfl rfl rfl (by decide +kernel) ⟨Nat.le_of_ble_eq_true rfl, Nat.le_of_ble_eq_true rfl⟩) (kr_preV kw_Nok (q := (RX1, TX1, 7)) (q0 := 0) (ci := 1) _ hP hK hD hB hS hA rfl rfl rfl) rfl rfl hl.1 rfl (lv_room (Nat.le_of_ble_eq_true rfl)) dX1_take_7 ⟨Nat.zero_le _, Nat.zero_le _⟩) hD hS hA (fun r u H locs hq hP hD hS => ?_)
  obtain rfl : r = nI 0 := hq
  have hP : va_P D vwCl (kw_M ct ad (nI 0) M Pl L C V kk_rc) H := hP
  have hD : va_D A (kw_M ct ad (nI 0) M Pl L C V kk_rc) := hD
  refine lv_if_ne (tgt := 25) hx hb dX1_take_10 rfl (fun hc => ?_) (fun hc => ?_)
  · exact absurd rfl hc
  · clear hc
    refine lv_iload hx hb dX1_take_13 (lv_at hl 3 rfl) ?_
    refine lv_if_lt (tgt := 25) hx hb dX1_take_15 rfl (fun hc => ?_) (fun hc => ?_)
    · clear hc
      refine lv_aload_n hx hb dX1_take_25 rfl (lv_at hl 0 rfl) ?_
      refine lv_iconst (v := nI 1) hx hb dX1_take_26 rfl ?_
      refine kr_calli (va_runV (As := [.int (nI 1)]) (rest := []) ⟨hx, hb, hml, hown, hts⟩ (km_fail l D ct ad (nI 0) M Pl L C V kk_rc _) (cwV 1 hts gM_take_fail rfl rfl rfl (by decide +kernel) ⟨Nat.le_of_ble_eq_true rfl, Nat.le_of_ble_eq_true rfl⟩) (kr_preV kw_Nok (q := (RX1, TX1, 7)) (q0 := 0) (ci := 1) _ hP hK hD hB hS hA rfl rfl rfl) rfl rfl hl.1 rfl (lv_room (Nat.le_of_ble_eq_true rfl)) dX1_take_27 ⟨Nat.zero_le _, Nat.zero_le _⟩) hD hS hA (fun r u H locs hq hP hD hS => ?_)
      obtain rfl : r = nI 0 := hq
      have hP : va_P D vwCl (kw_M ct ad (nI 1) M Pl L C V kk_rc) H := hP
      have hD : va_D A (kw_M ct ad (nI 1) M Pl L C V kk_rc) := hD
      exact W.iret hx hb hr (fun t ht hW => ⟨⟨_, (), rfl, trivial, by rw [ht]; exact hP, va_K.moved hW.alike hK, hD⟩, hS.F ht⟩) hS.2.2 dX1_take_30
    · have hc0 := hc
      refine lv_iload hx hb dX1_take_18 (lv_at hl 3 rfl) ?_
      refine lv_bipush (v := nI 8) hx hb dX1_take_20 (by decide +kernel) ?_
      refine lv_icmp_le (tgt := 31) hx hb dX1_take_22 rfl (fun hc => ?_) (fun hc => ?_)
      · exact absurd hbad (fun h => h.elim hc0 (fun h => h hc))
      · clear hc
        refine lv_aload_n hx hb dX1_take_25 rfl (lv_at hl 0 rfl) ?_
        refine lv_iconst (v := nI 1) hx hb dX1_take_26 rfl ?_
        refine kr_calli (va_runV (As := [.int (nI 1)]) (rest := []) ⟨hx, hb, hml, hown, hts⟩ (km_fail l D ct ad (nI 0) M Pl L C V kk_rc _) (cwV 1 hts gM_take_fail rfl rfl rfl (by decide +kernel) ⟨Nat.le_of_ble_eq_true rfl, Nat.le_of_ble_eq_true rfl⟩) (kr_preV kw_Nok (q := (RX1, TX1, 7)) (q0 := 0) (ci := 1) _ hP hK hD hB hS hA rfl rfl rfl) rfl rfl hl.1 rfl (lv_room (Nat.le_of_ble_eq_true rfl)) dX1_take_27 ⟨Nat.zero_le _, Nat.zero_le _⟩) hD hS hA (fun r u H locs hq hP hD hS => ?_)
        obtain rfl : r = nI 0 := hq
        have hP : va_P D vwCl (kw_M ct ad (nI 1) M Pl L C V kk_rc) H := hP
        have hD : va_D A (kw_M ct ad (nI 1) M Pl L C V kk_rc) := hD
        exact W.iret hx hb hr (fun t ht hW => ⟨⟨_, (), rfl, trivial, by rw [ht]; exact hP, va_K.moved hW.alike hK, hD⟩, hS.F ht⟩) hS.2.2 dX1_take_30
set_option maxHeartbeats 4000000 in
set_option maxRecDepth 100000 in
theorem kn_fill1 (l : Launch) (D : va_G) (ct : Nat → ClassId) (ad : Nat → Nat) (F : Int32) (M : Nat → Nat → Int64) (Pl : Nat → Nat) (L C V K : Nat → Int64) (sz : Nat) (x v t y : Int32) (hbad : x < 0 ∨ ¬ x ≤ nI 7) : Met l yX1_fill wsM_fill ({ frames := 1, cells := 0, slots := 0, locals := 21 }) (kr_P D vwCl (kw_T ct) kw_N [.ref (ad 0), .int x, .int v, .int t, .int y] (kw_M ct ad F M Pl L C V kk_rc) sz) (va_Qi (S := Unit) (fun _ _ => True) (kr_B D vwCl (kw_T ct) (fun _ => kw_M ct ad (nI 1) M Pl L C V kk_rc) (va_A (kw_M ct ad F M Pl L C V kk_rc) sz)) (va_A (kw_M ct ad F M Pl L C V kk_rc) sz)) 0 0 (va_A (kw_M ct ad F M Pl L C V kk_rc) sz) := by
  refine Met.ofW (cc := cX1_fill) (maxL := 6) (ret := (some .int)) (by decide) rfl ?_
  intro p e s m args below meth c s₁ B hml hv
  obtain ⟨rfl, hsz, hP, hK, hD0, hB⟩ := hv
  have hx := B.exec
  have hb := B.bytes
  have hr := B.returns
  have hts := atoms_spec (ws := wsM_fill) B.pre
  have hown : s.vm.findClass RX1 = some m.cls := findClass_of_methodNamed B.named
  have hlocks := B.notSynchronized
  have hin : ∀ w ∈ u_ws RX1 TX1 7, w ∈ wsM_fill := fun w h => List.mem_cons_of_mem _ (kM_in w h)
  subst hsz
  have hD := hD0.self (sz := s.heap.size)
  generalize hAe : va_A (kw_M ct ad F M Pl L C V kk_rc) s.heap.size = A at hD hB ⊢
  have hA : ∀ q : Nat, s.heap.size ≤ q → A q := fun q h => by rw [← hAe]; exact Or.inr h
  have hS : va_S A s.heap s.heap [] := va_S.rf
  have hl := lv_entry ([.ref (ad 0), .int x, .int v, .int t, .int y]) (n := 6) (Nat.le_of_ble_eq_true rfl)
  rw [lg_entry_eq]
  generalize (lg_sl ([.ref (ad 0), .int x, .int v, .int t, .int y]) ++ List.replicate (6 - (lg_sl ([.ref (ad 0), .int x, .int v, .int t, .int y])).length) Slot.unset).toArray = ls at hl ⊢
  have hl : lv_has ls 6 [(0, .ref (ad 0)), (1, .int x), (2, .int v), (3, .int t), (4, .int y)] := hl
  refine lv_aload_n hx hb dX1_fill_0 rfl (lv_at hl 0 rfl) ?_
  refine lv_iconst (v := nI 0) hx hb dX1_fill_1 rfl ?_
  refine va_put (ci := 1) (v := .int (nI 0)) (ty := .int) (C := RX1) (T := TX1) (N := 7) hx hb hts hin tyX1 tyX1_ok nmX1 hown hK hP hD hS 0 rfl rfl 0 (by decide) (hts (.fieldLink RX1 43 "KeccakLanesModel" "failed" "I") (by decide +kernel)) (fun _ h9 => h9) rfl (by decide +kernel) rfl rfl (Nat.le_of_ble_eq_true rfl) dX1_fill_2 (fun H locs hP hD hS => ?_)
  have hP : va_P D vwCl (kw_M ct ad (nI 0) M Pl L C V kk_rc) H := hP
  have hD : va_D A (kw_M ct ad (nI 0) M Pl L C V kk_rc) := hD
  refine lv_aload_n hx hb dX1_fill_5 rfl (lv_at hl 0 rfl) ?_
  refine lv_iload_n hx hb dX1_fill_6 rfl (lv_at hl 1 rfl) ?_
  refine kr_calli (va_runV (As := [.int x]) (rest := []) ⟨hx, hb, hml, hown, hts⟩ (km_out1 l D ct ad (nI 0) M Pl L C V kk_rc _ x hbad) (cwV 1 hts gM_fill_out rfl rfl rfl (by decide +kernel) ⟨Nat.le_of_ble_eq_true rfl, Nat.le_of_ble_eq_true rfl⟩) (kr_preV kw_Nok (q := (RX1, TX1, 7)) (q0 := 0) (ci := 1) _ hP hK hD hB hS hA rfl rfl rfl) rfl rfl hl.1 rfl (lv_room (Nat.le_of_ble_eq_true rfl)) dX1_fill_7 ⟨Nat.zero_le _, Nat.zero_le _⟩) hD hS hA (fun r u H locs hq hP hD hS => ?_)
  obtain rfl : r = nI 1 := hq
  have hP : va_P D vwCl (kw_M ct ad (nI 0) M Pl L C V kk_rc) H := hP
  have hD : va_D A (kw_M ct ad (nI 0) M Pl L C V kk_rc) := hD
  refine lv_if_ne (tgt := 26) hx hb dX1_fill_10 rfl (fun hc => ?_) (fun hc => ?_)
  · clear hc
    refine lv_aload_n hx hb dX1_fill_26 rfl (lv_at hl 0 rfl) ?_
    refine lv_iconst (v := nI 1) hx hb dX1_fill_27 rfl ?_
    refine kr_calli (va_runV (As := [.int (nI 1)]) (rest := []) ⟨hx, hb, hml, hown, hts⟩ (km_fail l D ct ad (nI 0) M Pl L C V kk_rc _) (cwV 1 hts gM_fill_fail rfl rfl rfl (by decide +kernel) ⟨Nat.le_of_ble_eq_true rfl, Nat.le_of_ble_eq_true rfl⟩) (kr_preV kw_Nok (q := (RX1, TX1, 7)) (q0 := 0) (ci := 1) _ hP hK hD hB hS hA rfl rfl rfl) rfl rfl hl.1 rfl (lv_room (Nat.le_of_ble_eq_true rfl)) dX1_fill_28 ⟨Nat.zero_le _, Nat.zero_le _⟩) hD hS hA (fun r u H locs hq hP hD hS => ?_)
    obtain rfl : r = nI 0 := hq
    have hP : va_P D vwCl (kw_M ct ad (nI 1) M Pl L C V kk_rc) H := hP
    have hD : va_D A (kw_M ct ad (nI 1) M Pl L C V kk_rc) := hD
    exact W.iret hx hb hr (fun t ht hW => ⟨⟨_, (), rfl, trivial, by rw [ht]; exact hP, va_K.moved hW.alike hK, hD⟩, hS.F ht⟩) hS.2.2 dX1_fill_31
  · exact absurd hc km_ne1
set_option maxHeartbeats 4000000 in
set_option maxRecDepth 100000 in
theorem kn_fill2 (l : Launch) (D : va_G) (ct : Nat → ClassId) (ad : Nat → Nat) (F : Int32) (M : Nat → Nat → Int64) (Pl : Nat → Nat) (L C V K : Nat → Int64) (sz : Nat) {k : Nat} (hk : k < 8) (v t x : Int32) (hbad : x < 0 ∨ ¬ x ≤ nI 2000) : Met l yX1_fill wsM_fill ({ frames := 1, cells := 0, slots := 0, locals := 21 }) (kr_P D vwCl (kw_T ct) kw_N [.ref (ad 0), .int (nI k), .int v, .int t, .int x] (kw_M ct ad F M Pl L C V kk_rc) sz) (va_Qi (S := Unit) (fun _ _ => True) (kr_B D vwCl (kw_T ct) (fun _ => kw_M ct ad (nI 1) M Pl L C V kk_rc) (va_A (kw_M ct ad F M Pl L C V kk_rc) sz)) (va_A (kw_M ct ad F M Pl L C V kk_rc) sz)) 0 0 (va_A (kw_M ct ad F M Pl L C V kk_rc) sz) := by
  refine Met.ofW (cc := cX1_fill) (maxL := 6) (ret := (some .int)) (by decide) rfl ?_
  intro p e s m args below meth c s₁ B hml hv
  obtain ⟨rfl, hsz, hP, hK, hD0, hB⟩ := hv
  have hx := B.exec
  have hb := B.bytes
  have hr := B.returns
  have hts := atoms_spec (ws := wsM_fill) B.pre
  have hown : s.vm.findClass RX1 = some m.cls := findClass_of_methodNamed B.named
  have hlocks := B.notSynchronized
  have hin : ∀ w ∈ u_ws RX1 TX1 7, w ∈ wsM_fill := fun w h => List.mem_cons_of_mem _ (kM_in w h)
  subst hsz
  have hD := hD0.self (sz := s.heap.size)
  generalize hAe : va_A (kw_M ct ad F M Pl L C V kk_rc) s.heap.size = A at hD hB ⊢
  have hA : ∀ q : Nat, s.heap.size ≤ q → A q := fun q h => by rw [← hAe]; exact Or.inr h
  have hS : va_S A s.heap s.heap [] := va_S.rf
  have hl := lv_entry ([.ref (ad 0), .int (nI k), .int v, .int t, .int x]) (n := 6) (Nat.le_of_ble_eq_true rfl)
  rw [lg_entry_eq]
  generalize (lg_sl ([.ref (ad 0), .int (nI k), .int v, .int t, .int x]) ++ List.replicate (6 - (lg_sl ([.ref (ad 0), .int (nI k), .int v, .int t, .int x])).length) Slot.unset).toArray = ls at hl ⊢
  have hl : lv_has ls 6 [(0, .ref (ad 0)), (1, .int (nI k)), (2, .int v), (3, .int t), (4, .int x)] := hl
  refine lv_aload_n hx hb dX1_fill_0 rfl (lv_at hl 0 rfl) ?_
  refine lv_iconst (v := nI 0) hx hb dX1_fill_1 rfl ?_
  refine va_put (ci := 1) (v := .int (nI 0)) (ty := .int) (C := RX1) (T := TX1) (N := 7) hx hb hts hin tyX1 tyX1_ok nmX1 hown hK hP hD hS 0 rfl rfl 0 (by decide) (hts (.fieldLink RX1 43 "KeccakLanesModel" "failed" "I") (by decide +kernel)) (fun _ h9 => h9) rfl (by decide +kernel) rfl rfl (Nat.le_of_ble_eq_true rfl) dX1_fill_2 (fun H locs hP hD hS => ?_)
  have hP : va_P D vwCl (kw_M ct ad (nI 0) M Pl L C V kk_rc) H := hP
  have hD : va_D A (kw_M ct ad (nI 0) M Pl L C V kk_rc) := hD
  refine lv_aload_n hx hb dX1_fill_5 rfl (lv_at hl 0 rfl) ?_
  refine lv_iload_n hx hb dX1_fill_6 rfl (lv_at hl 1 rfl) ?_
  refine kr_calli (va_runV (As := [.int (nI k)]) (rest := []) ⟨hx, hb, hml, hown, hts⟩ (km_out l D ct ad (nI 0) M Pl L C V kk_rc _ (a := k) (by omega)) (cwV 1 hts gM_fill_out rfl rfl rfl (by decide +kernel) ⟨Nat.le_of_ble_eq_true rfl, Nat.le_of_ble_eq_true rfl⟩) (kr_preV kw_Nok (q := (RX1, TX1, 7)) (q0 := 0) (ci := 1) _ hP hK hD hB hS hA rfl rfl rfl) rfl rfl hl.1 rfl (lv_room (Nat.le_of_ble_eq_true rfl)) dX1_fill_7 ⟨Nat.zero_le _, Nat.zero_le _⟩) hD hS hA (fun r u H locs hq hP hD hS => ?_)
  obtain rfl : r = nI 0 := hq
  have hP : va_P D vwCl (kw_M ct ad (nI 0) M Pl L C V kk_rc) H := hP
  have hD : va_D A (kw_M ct ad (nI 0) M Pl L C V kk_rc) := hD
  refine lv_if_ne (tgt := 26) hx hb dX1_fill_10 rfl (fun hc => ?_) (fun hc => ?_)
  · exact absurd rfl hc
  · clear hc
    refine lv_iload hx hb dX1_fill_13 (lv_at hl 4 rfl) ?_
    refine lv_if_lt (tgt := 26) hx hb dX1_fill_15 rfl (fun hc => ?_) (fun hc => ?_)
    · clear hc
      refine lv_aload_n hx hb dX1_fill_26 rfl (lv_at hl 0 rfl) ?_
      refine lv_iconst (v := nI 1) hx hb dX1_fill_27 rfl ?_
      refine kr_calli (va_runV (As := [.int (nI 1)]) (rest := []) ⟨hx, hb, hml, hown, hts⟩ (km_fail l D ct ad (nI 0) M Pl L C V kk_rc _) (cwV 1 hts gM_fill_fail rfl rfl rfl (by decide +kernel) ⟨Nat.le_of_ble_eq_true rfl, Nat.le_of_ble_eq_true rfl⟩) (kr_preV kw_Nok (q := (RX1, TX1, 7)) (q0 := 0) (ci := 1) _ hP hK hD hB hS hA rfl rfl rfl) rfl rfl hl.1 rfl (lv_room (Nat.le_of_ble_eq_true rfl)) dX1_fill_28 ⟨Nat.zero_le _, Nat.zero_le _⟩) hD hS hA (fun r u H locs hq hP hD hS => ?_)
      obtain rfl : r = nI 0 := hq
      have hP : va_P D vwCl (kw_M ct ad (nI 1) M Pl L C V kk_rc) H := hP
      have hD : va_D A (kw_M ct ad (nI 1) M Pl L C V kk_rc) := hD
      exact W.iret hx hb hr (fun t ht hW => ⟨⟨_, (), rfl, trivial, by rw [ht]; exact hP, va_K.moved hW.alike hK, hD⟩, hS.F ht⟩) hS.2.2 dX1_fill_31
    · have hc0 := hc
      refine lv_iload hx hb dX1_fill_18 (lv_at hl 4 rfl) ?_
      refine lv_sipush (v := nI 2000) hx hb dX1_fill_20 (by decide +kernel) ?_
      refine lv_icmp_le (tgt := 32) hx hb dX1_fill_23 rfl (fun hc => ?_) (fun hc => ?_)
      · exact absurd hbad (fun h => h.elim hc0 (fun h => h hc))
      · clear hc
        refine lv_aload_n hx hb dX1_fill_26 rfl (lv_at hl 0 rfl) ?_
        refine lv_iconst (v := nI 1) hx hb dX1_fill_27 rfl ?_
        refine kr_calli (va_runV (As := [.int (nI 1)]) (rest := []) ⟨hx, hb, hml, hown, hts⟩ (km_fail l D ct ad (nI 0) M Pl L C V kk_rc _) (cwV 1 hts gM_fill_fail rfl rfl rfl (by decide +kernel) ⟨Nat.le_of_ble_eq_true rfl, Nat.le_of_ble_eq_true rfl⟩) (kr_preV kw_Nok (q := (RX1, TX1, 7)) (q0 := 0) (ci := 1) _ hP hK hD hB hS hA rfl rfl rfl) rfl rfl hl.1 rfl (lv_room (Nat.le_of_ble_eq_true rfl)) dX1_fill_28 ⟨Nat.zero_le _, Nat.zero_le _⟩) hD hS hA (fun r u H locs hq hP hD hS => ?_)
        obtain rfl : r = nI 0 := hq
        have hP : va_P D vwCl (kw_M ct ad (nI 1) M Pl L C V kk_rc) H := hP
        have hD : va_D A (kw_M ct ad (nI 1) M Pl L C V kk_rc) := hD
        exact W.iret hx hb hr (fun t ht hW => ⟨⟨_, (), rfl, trivial, by rw [ht]; exact hP, va_K.moved hW.alike hK, hD⟩, hS.F ht⟩) hS.2.2 dX1_fill_31
set_option maxHeartbeats 4000000 in
set_option maxRecDepth 100000 in
theorem kn_lane1 (l : Launch) (D : va_G) (ct : Nat → ClassId) (ad : Nat → Nat) (F : Int32) (M : Nat → Nat → Int64) (Pl : Nat → Nat) (L C V K : Nat → Int64) (sz : Nat) (x y : Int32) (hbad : x < 0 ∨ ¬ x ≤ nI 7) : Met l yX1_lane wsM_lane ({ frames := 1, cells := 0, slots := 0, locals := 21 }) (kr_P D vwCl (kw_T ct) kw_N [.ref (ad 0), .int x, .int y] (kw_M ct ad F M Pl L C V kk_rc) sz) (va_Ql (S := Unit) (fun _ _ => True) (kr_B D vwCl (kw_T ct) (fun _ => kw_M ct ad (nI 1) M Pl L C V kk_rc) (va_A (kw_M ct ad F M Pl L C V kk_rc) sz)) (va_A (kw_M ct ad F M Pl L C V kk_rc) sz)) 0 0 (va_A (kw_M ct ad F M Pl L C V kk_rc) sz) := by
  refine Met.ofW (cc := cX1_lane) (maxL := 3) (ret := (some .long)) (by decide) rfl ?_
  intro p e s m args below meth c s₁ B hml hv
  obtain ⟨rfl, hsz, hP, hK, hD0, hB⟩ := hv
  have hx := B.exec
  have hb := B.bytes
  have hr := B.returns
  have hts := atoms_spec (ws := wsM_lane) B.pre
  have hown : s.vm.findClass RX1 = some m.cls := findClass_of_methodNamed B.named
  have hlocks := B.notSynchronized
  have hin : ∀ w ∈ u_ws RX1 TX1 7, w ∈ wsM_lane := fun w h => List.mem_cons_of_mem _ (kM_in w h)
  subst hsz
  have hD := hD0.self (sz := s.heap.size)
  generalize hAe : va_A (kw_M ct ad F M Pl L C V kk_rc) s.heap.size = A at hD hB ⊢
  have hA : ∀ q : Nat, s.heap.size ≤ q → A q := fun q h => by rw [← hAe]; exact Or.inr h
  have hS : va_S A s.heap s.heap [] := va_S.rf
  have hl := lv_entry ([.ref (ad 0), .int x, .int y]) (n := 3) (Nat.le_of_ble_eq_true rfl)
  rw [lg_entry_eq]
  generalize (lg_sl ([.ref (ad 0), .int x, .int y]) ++ List.replicate (3 - (lg_sl ([.ref (ad 0), .int x, .int y])).length) Slot.unset).toArray = ls at hl ⊢
  have hl : lv_has ls 3 [(0, .ref (ad 0)), (1, .int x), (2, .int y)] := hl
  refine lv_aload_n hx hb dX1_lane_0 rfl (lv_at hl 0 rfl) ?_
  refine lv_iconst (v := nI 0) hx hb dX1_lane_1 rfl ?_
  refine va_put (ci := 1) (v := .int (nI 0)) (ty := .int) (C := RX1) (T := TX1) (N := 7) hx hb hts hin tyX1 tyX1_ok nmX1 hown hK hP hD hS 0 rfl rfl 0 (by decide) (hts (.fieldLink RX1 43 "KeccakLanesModel" "failed" "I") (by decide +kernel)) (fun _ h9 => h9) rfl (by decide +kernel) rfl rfl (Nat.le_of_ble_eq_true rfl) dX1_lane_2 (fun H locs hP hD hS => ?_)
  have hP : va_P D vwCl (kw_M ct ad (nI 0) M Pl L C V kk_rc) H := hP
  have hD : va_D A (kw_M ct ad (nI 0) M Pl L C V kk_rc) := hD
  refine lv_aload_n hx hb dX1_lane_5 rfl (lv_at hl 0 rfl) ?_
  refine lv_iload_n hx hb dX1_lane_6 rfl (lv_at hl 1 rfl) ?_
  refine kr_calli (va_runV (As := [.int x]) (rest := []) ⟨hx, hb, hml, hown, hts⟩ (km_out1 l D ct ad (nI 0) M Pl L C V kk_rc _ x hbad) (cwV 1 hts gM_lane_out rfl rfl rfl (by decide +kernel) ⟨Nat.le_of_ble_eq_true rfl, Nat.le_of_ble_eq_true rfl⟩) (kr_preV kw_Nok (q := (RX1, TX1, 7)) (q0 := 0) (ci := 1) _ hP hK hD hB hS hA rfl rfl rfl) rfl rfl hl.1 rfl (lv_room (Nat.le_of_ble_eq_true rfl)) dX1_lane_7 ⟨Nat.zero_le _, Nat.zero_le _⟩) hD hS hA (fun r u H locs hq hP hD hS => ?_)
  obtain rfl : r = nI 1 := hq
  have hP : va_P D vwCl (kw_M ct ad (nI 0) M Pl L C V kk_rc) H := hP
  have hD : va_D A (kw_M ct ad (nI 0) M Pl L C V kk_rc) := hD
  refine lv_if_ne (tgt := 23) hx hb dX1_lane_10 rfl (fun hc => ?_) (fun hc => ?_)
  · clear hc
    refine lv_aload_n hx hb dX1_lane_23 rfl (lv_at hl 0 rfl) ?_
    refine lv_iconst (v := nI 1) hx hb dX1_lane_24 rfl ?_
    refine kr_calli (va_runV (As := [.int (nI 1)]) (rest := []) ⟨hx, hb, hml, hown, hts⟩ (km_fail l D ct ad (nI 0) M Pl L C V kk_rc _) (cwV 1 hts gM_lane_fail rfl rfl rfl (by decide +kernel) ⟨Nat.le_of_ble_eq_true rfl, Nat.le_of_ble_eq_true rfl⟩) (kr_preV kw_Nok (q := (RX1, TX1, 7)) (q0 := 0) (ci := 1) _ hP hK hD hB hS hA rfl rfl rfl) rfl rfl hl.1 rfl (lv_room (Nat.le_of_ble_eq_true rfl)) dX1_lane_25 ⟨Nat.zero_le _, Nat.zero_le _⟩) hD hS hA (fun r u H locs hq hP hD hS => ?_)
    obtain rfl : r = nI 0 := hq
    have hP : va_P D vwCl (kw_M ct ad (nI 1) M Pl L C V kk_rc) H := hP
    have hD : va_D A (kw_M ct ad (nI 1) M Pl L C V kk_rc) := hD
    refine lv_i2l hx hb dX1_lane_28 rfl ?_
    refine lv_goto (tgt := 40) hx hb dX1_lane_29 rfl ?_
    exact W.lret hx hb hr (fun t ht hW => ⟨⟨_, (), rfl, trivial, by rw [ht]; exact hP, va_K.moved hW.alike hK, hD⟩, hS.F ht⟩) hS.2.2 dX1_lane_40
  · exact absurd hc km_ne1
set_option maxHeartbeats 4000000 in
set_option maxRecDepth 100000 in
theorem kn_lane2 (l : Launch) (D : va_G) (ct : Nat → ClassId) (ad : Nat → Nat) (F : Int32) (M : Nat → Nat → Int64) (Pl : Nat → Nat) (L C V K : Nat → Int64) (sz : Nat) {k : Nat} (hk : k < 8) (x : Int32) (hbad : x < 0 ∨ ¬ x ≤ nI 24) : Met l yX1_lane wsM_lane ({ frames := 1, cells := 0, slots := 0, locals := 21 }) (kr_P D vwCl (kw_T ct) kw_N [.ref (ad 0), .int (nI k), .int x] (kw_M ct ad F M Pl L C V kk_rc) sz) (va_Ql (S := Unit) (fun _ _ => True) (kr_B D vwCl (kw_T ct) (fun _ => kw_M ct ad (nI 1) M Pl L C V kk_rc) (va_A (kw_M ct ad F M Pl L C V kk_rc) sz)) (va_A (kw_M ct ad F M Pl L C V kk_rc) sz)) 0 0 (va_A (kw_M ct ad F M Pl L C V kk_rc) sz) := by
  refine Met.ofW (cc := cX1_lane) (maxL := 3) (ret := (some .long)) (by decide) rfl ?_
  intro p e s m args below meth c s₁ B hml hv
  obtain ⟨rfl, hsz, hP, hK, hD0, hB⟩ := hv
  have hx := B.exec
  have hb := B.bytes
  have hr := B.returns
  have hts := atoms_spec (ws := wsM_lane) B.pre
  have hown : s.vm.findClass RX1 = some m.cls := findClass_of_methodNamed B.named
  have hlocks := B.notSynchronized
  have hin : ∀ w ∈ u_ws RX1 TX1 7, w ∈ wsM_lane := fun w h => List.mem_cons_of_mem _ (kM_in w h)
  subst hsz
  have hD := hD0.self (sz := s.heap.size)
  generalize hAe : va_A (kw_M ct ad F M Pl L C V kk_rc) s.heap.size = A at hD hB ⊢
  have hA : ∀ q : Nat, s.heap.size ≤ q → A q := fun q h => by rw [← hAe]; exact Or.inr h
  have hS : va_S A s.heap s.heap [] := va_S.rf
  have hl := lv_entry ([.ref (ad 0), .int (nI k), .int x]) (n := 3) (Nat.le_of_ble_eq_true rfl)
  rw [lg_entry_eq]
  generalize (lg_sl ([.ref (ad 0), .int (nI k), .int x]) ++ List.replicate (3 - (lg_sl ([.ref (ad 0), .int (nI k), .int x])).length) Slot.unset).toArray = ls at hl ⊢
  have hl : lv_has ls 3 [(0, .ref (ad 0)), (1, .int (nI k)), (2, .int x)] := hl
  refine lv_aload_n hx hb dX1_lane_0 rfl (lv_at hl 0 rfl) ?_
  refine lv_iconst (v := nI 0) hx hb dX1_lane_1 rfl ?_
  refine va_put (ci := 1) (v := .int (nI 0)) (ty := .int) (C := RX1) (T := TX1) (N := 7) hx hb hts hin tyX1 tyX1_ok nmX1 hown hK hP hD hS 0 rfl rfl 0 (by decide) (hts (.fieldLink RX1 43 "KeccakLanesModel" "failed" "I") (by decide +kernel)) (fun _ h9 => h9) rfl (by decide +kernel) rfl rfl (Nat.le_of_ble_eq_true rfl) dX1_lane_2 (fun H locs hP hD hS => ?_)
  have hP : va_P D vwCl (kw_M ct ad (nI 0) M Pl L C V kk_rc) H := hP
  have hD : va_D A (kw_M ct ad (nI 0) M Pl L C V kk_rc) := hD
  refine lv_aload_n hx hb dX1_lane_5 rfl (lv_at hl 0 rfl) ?_
  refine lv_iload_n hx hb dX1_lane_6 rfl (lv_at hl 1 rfl) ?_
  refine kr_calli (va_runV (As := [.int (nI k)]) (rest := []) ⟨hx, hb, hml, hown, hts⟩ (km_out l D ct ad (nI 0) M Pl L C V kk_rc _ (a := k) (by omega)) (cwV 1 hts gM_lane_out rfl rfl rfl (by decide +kernel) ⟨Nat.le_of_ble_eq_true rfl, Nat.le_of_ble_eq_true rfl⟩) (kr_preV kw_Nok (q := (RX1, TX1, 7)) (q0 := 0) (ci := 1) _ hP hK hD hB hS hA rfl rfl rfl) rfl rfl hl.1 rfl (lv_room (Nat.le_of_ble_eq_true rfl)) dX1_lane_7 ⟨Nat.zero_le _, Nat.zero_le _⟩) hD hS hA (fun r u H locs hq hP hD hS => ?_)
  obtain rfl : r = nI 0 := hq
  have hP : va_P D vwCl (kw_M ct ad (nI 0) M Pl L C V kk_rc) H := hP
  have hD : va_D A (kw_M ct ad (nI 0) M Pl L C V kk_rc) := hD
  refine lv_if_ne (tgt := 23) hx hb dX1_lane_10 rfl (fun hc => ?_) (fun hc => ?_)
  · exact absurd rfl hc
  · clear hc
    refine lv_iload_n hx hb dX1_lane_13 rfl (lv_at hl 2 rfl) ?_
    refine lv_if_lt (tgt := 23) hx hb dX1_lane_14 rfl (fun hc => ?_) (fun hc => ?_)
    · clear hc
      refine lv_aload_n hx hb dX1_lane_23 rfl (lv_at hl 0 rfl) ?_
      refine lv_iconst (v := nI 1) hx hb dX1_lane_24 rfl ?_
      refine kr_calli (va_runV (As := [.int (nI 1)]) (rest := []) ⟨hx, hb, hml, hown, hts⟩ (km_fail l D ct ad (nI 0) M Pl L C V kk_rc _) (cwV 1 hts gM_lane_fail rfl rfl rfl (by decide +kernel) ⟨Nat.le_of_ble_eq_true rfl, Nat.le_of_ble_eq_true rfl⟩) (kr_preV kw_Nok (q := (RX1, TX1, 7)) (q0 := 0) (ci := 1) _ hP hK hD hB hS hA rfl rfl rfl) rfl rfl hl.1 rfl (lv_room (Nat.le_of_ble_eq_true rfl)) dX1_lane_25 ⟨Nat.zero_le _, Nat.zero_le _⟩) hD hS hA (fun r u H locs hq hP hD hS => ?_)
      obtain rfl : r = nI 0 := hq
      have hP : va_P D vwCl (kw_M ct ad (nI 1) M Pl L C V kk_rc) H := hP
      have hD : va_D A (kw_M ct ad (nI 1) M Pl L C V kk_rc) := hD
      refine lv_i2l hx hb dX1_lane_28 rfl ?_
      refine lv_goto (tgt := 40) hx hb dX1_lane_29 rfl ?_
      exact W.lret hx hb hr (fun t ht hW => ⟨⟨_, (), rfl, trivial, by rw [ht]; exact hP, va_K.moved hW.alike hK, hD⟩, hS.F ht⟩) hS.2.2 dX1_lane_40
    · have hc0 := hc
      refine lv_iload_n hx hb dX1_lane_17 rfl (lv_at hl 2 rfl) ?_
      refine lv_bipush (v := nI 24) hx hb dX1_lane_18 (by decide +kernel) ?_
      refine lv_icmp_le (tgt := 32) hx hb dX1_lane_20 rfl (fun hc => ?_) (fun hc => ?_)
      · exact absurd hbad (fun h => h.elim hc0 (fun h => h hc))
      · clear hc
        refine lv_aload_n hx hb dX1_lane_23 rfl (lv_at hl 0 rfl) ?_
        refine lv_iconst (v := nI 1) hx hb dX1_lane_24 rfl ?_
        refine kr_calli (va_runV (As := [.int (nI 1)]) (rest := []) ⟨hx, hb, hml, hown, hts⟩ (km_fail l D ct ad (nI 0) M Pl L C V kk_rc _) (cwV 1 hts gM_lane_fail rfl rfl rfl (by decide +kernel) ⟨Nat.le_of_ble_eq_true rfl, Nat.le_of_ble_eq_true rfl⟩) (kr_preV kw_Nok (q := (RX1, TX1, 7)) (q0 := 0) (ci := 1) _ hP hK hD hB hS hA rfl rfl rfl) rfl rfl hl.1 rfl (lv_room (Nat.le_of_ble_eq_true rfl)) dX1_lane_25 ⟨Nat.zero_le _, Nat.zero_le _⟩) hD hS hA (fun r u H locs hq hP hD hS => ?_)
        obtain rfl : r = nI 0 := hq
        have hP : va_P D vwCl (kw_M ct ad (nI 1) M Pl L C V kk_rc) H := hP
        have hD : va_D A (kw_M ct ad (nI 1) M Pl L C V kk_rc) := hD
        refine lv_i2l hx hb dX1_lane_28 rfl ?_
        refine lv_goto (tgt := 40) hx hb dX1_lane_29 rfl ?_
        exact W.lret hx hb hr (fun t ht hW => ⟨⟨_, (), rfl, trivial, by rw [ht]; exact hP, va_K.moved hW.alike hK, hD⟩, hS.F ht⟩) hS.2.2 dX1_lane_40
set_option maxHeartbeats 4000000 in
set_option maxRecDepth 100000 in
theorem kn_digest1 (l : Launch) (D : va_G) (ct : Nat → ClassId) (ad : Nat → Nat) (F : Int32) (M : Nat → Nat → Int64) (Pl : Nat → Nat) (L C V K : Nat → Int64) (sz : Nat) (x y : Int32) (hbad : x < 0 ∨ ¬ x ≤ nI 7) : Met l yX1_digest wsM_digest ({ frames := 1, cells := 0, slots := 0, locals := 21 }) (kr_P D vwCl (kw_T ct) kw_N [.ref (ad 0), .int x, .int y] (kw_M ct ad F M Pl L C V kk_rc) sz) (va_Ql (S := Unit) (fun _ _ => True) (kr_B D vwCl (kw_T ct) (fun _ => kw_M ct ad (nI 1) M Pl L C V kk_rc) (va_A (kw_M ct ad F M Pl L C V kk_rc) sz)) (va_A (kw_M ct ad F M Pl L C V kk_rc) sz)) 0 0 (va_A (kw_M ct ad F M Pl L C V kk_rc) sz) := by
  refine Met.ofW (cc := cX1_digest) (maxL := 7) (ret := (some .long)) (by decide) rfl ?_
  intro p e s m args below meth c s₁ B hml hv
  obtain ⟨rfl, hsz, hP, hK, hD0, hB⟩ := hv
  have hx := B.exec
  have hb := B.bytes
  have hr := B.returns
  have hts := atoms_spec (ws := wsM_digest) B.pre
  have hown : s.vm.findClass RX1 = some m.cls := findClass_of_methodNamed B.named
  have hlocks := B.notSynchronized
  have hin : ∀ w ∈ u_ws RX1 TX1 7, w ∈ wsM_digest := fun w h => List.mem_cons_of_mem _ (kM_in w h)
  subst hsz
  have hD := hD0.self (sz := s.heap.size)
  generalize hAe : va_A (kw_M ct ad F M Pl L C V kk_rc) s.heap.size = A at hD hB ⊢
  have hA : ∀ q : Nat, s.heap.size ≤ q → A q := fun q h => by rw [← hAe]; exact Or.inr h
  have hS : va_S A s.heap s.heap [] := va_S.rf
  have hl := lv_entry ([.ref (ad 0), .int x, .int y]) (n := 7) (Nat.le_of_ble_eq_true rfl)
  rw [lg_entry_eq]
  generalize (lg_sl ([.ref (ad 0), .int x, .int y]) ++ List.replicate (7 - (lg_sl ([.ref (ad 0), .int x, .int y])).length) Slot.unset).toArray = ls at hl ⊢
  have hl : lv_has ls 7 [(0, .ref (ad 0)), (1, .int x), (2, .int y)] := hl
  refine lv_aload_n hx hb dX1_digest_0 rfl (lv_at hl 0 rfl) ?_
  refine lv_iconst (v := nI 0) hx hb dX1_digest_1 rfl ?_
  refine va_put (ci := 1) (v := .int (nI 0)) (ty := .int) (C := RX1) (T := TX1) (N := 7) hx hb hts hin tyX1 tyX1_ok nmX1 hown hK hP hD hS 0 rfl rfl 0 (by decide) (hts (.fieldLink RX1 43 "KeccakLanesModel" "failed" "I") (by decide +kernel)) (fun _ h9 => h9) rfl (by decide +kernel) rfl rfl (Nat.le_of_ble_eq_true rfl) dX1_digest_2 (fun H locs hP hD hS => ?_)
  have hP : va_P D vwCl (kw_M ct ad (nI 0) M Pl L C V kk_rc) H := hP
  have hD : va_D A (kw_M ct ad (nI 0) M Pl L C V kk_rc) := hD
  refine lv_aload_n hx hb dX1_digest_5 rfl (lv_at hl 0 rfl) ?_
  refine lv_iload_n hx hb dX1_digest_6 rfl (lv_at hl 1 rfl) ?_
  refine kr_calli (va_runV (As := [.int x]) (rest := []) ⟨hx, hb, hml, hown, hts⟩ (km_out1 l D ct ad (nI 0) M Pl L C V kk_rc _ x hbad) (cwV 1 hts gM_digest_out rfl rfl rfl (by decide +kernel) ⟨Nat.le_of_ble_eq_true rfl, Nat.le_of_ble_eq_true rfl⟩) (kr_preV kw_Nok (q := (RX1, TX1, 7)) (q0 := 0) (ci := 1) _ hP hK hD hB hS hA rfl rfl rfl) rfl rfl hl.1 rfl (lv_room (Nat.le_of_ble_eq_true rfl)) dX1_digest_7 ⟨Nat.zero_le _, Nat.zero_le _⟩) hD hS hA (fun r u H locs hq hP hD hS => ?_)
  obtain rfl : r = nI 1 := hq
  have hP : va_P D vwCl (kw_M ct ad (nI 0) M Pl L C V kk_rc) H := hP
  have hD : va_D A (kw_M ct ad (nI 0) M Pl L C V kk_rc) := hD
  refine lv_if_ne (tgt := 22) hx hb dX1_digest_10 rfl (fun hc => ?_) (fun hc => ?_)
  · clear hc
    refine lv_aload_n hx hb dX1_digest_22 rfl (lv_at hl 0 rfl) ?_
    refine lv_iconst (v := nI 1) hx hb dX1_digest_23 rfl ?_
    refine kr_calli (va_runV (As := [.int (nI 1)]) (rest := []) ⟨hx, hb, hml, hown, hts⟩ (km_fail l D ct ad (nI 0) M Pl L C V kk_rc _) (cwV 1 hts gM_digest_fail rfl rfl rfl (by decide +kernel) ⟨Nat.le_of_ble_eq_true rfl, Nat.le_of_ble_eq_true rfl⟩) (kr_preV kw_Nok (q := (RX1, TX1, 7)) (q0 := 0) (ci := 1) _ hP hK hD hB hS hA rfl rfl rfl) rfl rfl hl.1 rfl (lv_room (Nat.le_of_ble_eq_true rfl)) dX1_digest_24 ⟨Nat.zero_le _, Nat.zero_le _⟩) hD hS hA (fun r u H locs hq hP hD hS => ?_)
    obtain rfl : r = nI 0 := hq
    have hP : va_P D vwCl (kw_M ct ad (nI 1) M Pl L C V kk_rc) H := hP
    have hD : va_D A (kw_M ct ad (nI 1) M Pl L C V kk_rc) := hD
    refine lv_i2l hx hb dX1_digest_27 rfl ?_
    exact W.lret hx hb hr (fun t ht hW => ⟨⟨_, (), rfl, trivial, by rw [ht]; exact hP, va_K.moved hW.alike hK, hD⟩, hS.F ht⟩) hS.2.2 dX1_digest_28
  · exact absurd hc km_ne1
set_option maxHeartbeats 4000000 in
set_option maxRecDepth 100000 in
theorem kn_digest2 (l : Launch) (D : va_G) (ct : Nat → ClassId) (ad : Nat → Nat) (F : Int32) (M : Nat → Nat → Int64) (Pl : Nat → Nat) (L C V K : Nat → Int64) (sz : Nat) {k : Nat} (hk : k < 8) (x : Int32) (hbad : x < 0 ∨ ¬ x ≤ nI 3) : Met l yX1_digest wsM_digest ({ frames := 1, cells := 0, slots := 0, locals := 21 }) (kr_P D vwCl (kw_T ct) kw_N [.ref (ad 0), .int (nI k), .int x] (kw_M ct ad F M Pl L C V kk_rc) sz) (va_Ql (S := Unit) (fun _ _ => True) (kr_B D vwCl (kw_T ct) (fun _ => kw_M ct ad (nI 1) M Pl L C V kk_rc) (va_A (kw_M ct ad F M Pl L C V kk_rc) sz)) (va_A (kw_M ct ad F M Pl L C V kk_rc) sz)) 0 0 (va_A (kw_M ct ad F M Pl L C V kk_rc) sz) := by
  refine Met.ofW (cc := cX1_digest) (maxL := 7) (ret := (some .long)) (by decide) rfl ?_
  intro p e s m args below meth c s₁ B hml hv
  obtain ⟨rfl, hsz, hP, hK, hD0, hB⟩ := hv
  have hx := B.exec
  have hb := B.bytes
  have hr := B.returns
  have hts := atoms_spec (ws := wsM_digest) B.pre
  have hown : s.vm.findClass RX1 = some m.cls := findClass_of_methodNamed B.named
  have hlocks := B.notSynchronized
  have hin : ∀ w ∈ u_ws RX1 TX1 7, w ∈ wsM_digest := fun w h => List.mem_cons_of_mem _ (kM_in w h)
  subst hsz
  have hD := hD0.self (sz := s.heap.size)
  generalize hAe : va_A (kw_M ct ad F M Pl L C V kk_rc) s.heap.size = A at hD hB ⊢
  have hA : ∀ q : Nat, s.heap.size ≤ q → A q := fun q h => by rw [← hAe]; exact Or.inr h
  have hS : va_S A s.heap s.heap [] := va_S.rf
  have hl := lv_entry ([.ref (ad 0), .int (nI k), .int x]) (n := 7) (Nat.le_of_ble_eq_true rfl)
  rw [lg_entry_eq]
  generalize (lg_sl ([.ref (ad 0), .int (nI k), .int x]) ++ List.replicate (7 - (lg_sl ([.ref (ad 0), .int (nI k), .int x])).length) Slot.unset).toArray = ls at hl ⊢
  have hl : lv_has ls 7 [(0, .ref (ad 0)), (1, .int (nI k)), (2, .int x)] := hl
  refine lv_aload_n hx hb dX1_digest_0 rfl (lv_at hl 0 rfl) ?_
  refine lv_iconst (v := nI 0) hx hb dX1_digest_1 rfl ?_
  refine va_put (ci := 1) (v := .int (nI 0)) (ty := .int) (C := RX1) (T := TX1) (N := 7) hx hb hts hin tyX1 tyX1_ok nmX1 hown hK hP hD hS 0 rfl rfl 0 (by decide) (hts (.fieldLink RX1 43 "KeccakLanesModel" "failed" "I") (by decide +kernel)) (fun _ h9 => h9) rfl (by decide +kernel) rfl rfl (Nat.le_of_ble_eq_true rfl) dX1_digest_2 (fun H locs hP hD hS => ?_)
  have hP : va_P D vwCl (kw_M ct ad (nI 0) M Pl L C V kk_rc) H := hP
  have hD : va_D A (kw_M ct ad (nI 0) M Pl L C V kk_rc) := hD
  refine lv_aload_n hx hb dX1_digest_5 rfl (lv_at hl 0 rfl) ?_
  refine lv_iload_n hx hb dX1_digest_6 rfl (lv_at hl 1 rfl) ?_
  refine kr_calli (va_runV (As := [.int (nI k)]) (rest := []) ⟨hx, hb, hml, hown, hts⟩ (km_out l D ct ad (nI 0) M Pl L C V kk_rc _ (a := k) (by omega)) (cwV 1 hts gM_digest_out rfl rfl rfl (by decide +kernel) ⟨Nat.le_of_ble_eq_true rfl, Nat.le_of_ble_eq_true rfl⟩) (kr_preV kw_Nok (q := (RX1, TX1, 7)) (q0 := 0) (ci := 1) _ hP hK hD hB hS hA rfl rfl rfl) rfl rfl hl.1 rfl (lv_room (Nat.le_of_ble_eq_true rfl)) dX1_digest_7 ⟨Nat.zero_le _, Nat.zero_le _⟩) hD hS hA (fun r u H locs hq hP hD hS => ?_)
  obtain rfl : r = nI 0 := hq
  have hP : va_P D vwCl (kw_M ct ad (nI 0) M Pl L C V kk_rc) H := hP
  have hD : va_D A (kw_M ct ad (nI 0) M Pl L C V kk_rc) := hD
  refine lv_if_ne (tgt := 22) hx hb dX1_digest_10 rfl (fun hc => ?_) (fun hc => ?_)
  · exact absurd rfl hc
  · clear hc
    refine lv_iload_n hx hb dX1_digest_13 rfl (lv_at hl 2 rfl) ?_
    refine lv_if_lt (tgt := 22) hx hb dX1_digest_14 rfl (fun hc => ?_) (fun hc => ?_)
    · clear hc
      refine lv_aload_n hx hb dX1_digest_22 rfl (lv_at hl 0 rfl) ?_
      refine lv_iconst (v := nI 1) hx hb dX1_digest_23 rfl ?_
      refine kr_calli (va_runV (As := [.int (nI 1)]) (rest := []) ⟨hx, hb, hml, hown, hts⟩ (km_fail l D ct ad (nI 0) M Pl L C V kk_rc _) (cwV 1 hts gM_digest_fail rfl rfl rfl (by decide +kernel) ⟨Nat.le_of_ble_eq_true rfl, Nat.le_of_ble_eq_true rfl⟩) (kr_preV kw_Nok (q := (RX1, TX1, 7)) (q0 := 0) (ci := 1) _ hP hK hD hB hS hA rfl rfl rfl) rfl rfl hl.1 rfl (lv_room (Nat.le_of_ble_eq_true rfl)) dX1_digest_24 ⟨Nat.zero_le _, Nat.zero_le _⟩) hD hS hA (fun r u H locs hq hP hD hS => ?_)
      obtain rfl : r = nI 0 := hq
      have hP : va_P D vwCl (kw_M ct ad (nI 1) M Pl L C V kk_rc) H := hP
      have hD : va_D A (kw_M ct ad (nI 1) M Pl L C V kk_rc) := hD
      refine lv_i2l hx hb dX1_digest_27 rfl ?_
      exact W.lret hx hb hr (fun t ht hW => ⟨⟨_, (), rfl, trivial, by rw [ht]; exact hP, va_K.moved hW.alike hK, hD⟩, hS.F ht⟩) hS.2.2 dX1_digest_28
    · have hc0 := hc
      refine lv_iload_n hx hb dX1_digest_17 rfl (lv_at hl 2 rfl) ?_
      refine lv_iconst (v := nI 3) hx hb dX1_digest_18 rfl ?_
      refine lv_icmp_le (tgt := 29) hx hb dX1_digest_19 rfl (fun hc => ?_) (fun hc => ?_)
      · exact absurd hbad (fun h => h.elim hc0 (fun h => h hc))
      · clear hc
        refine lv_aload_n hx hb dX1_digest_22 rfl (lv_at hl 0 rfl) ?_
        refine lv_iconst (v := nI 1) hx hb dX1_digest_23 rfl ?_
        refine kr_calli (va_runV (As := [.int (nI 1)]) (rest := []) ⟨hx, hb, hml, hown, hts⟩ (km_fail l D ct ad (nI 0) M Pl L C V kk_rc _) (cwV 1 hts gM_digest_fail rfl rfl rfl (by decide +kernel) ⟨Nat.le_of_ble_eq_true rfl, Nat.le_of_ble_eq_true rfl⟩) (kr_preV kw_Nok (q := (RX1, TX1, 7)) (q0 := 0) (ci := 1) _ hP hK hD hB hS hA rfl rfl rfl) rfl rfl hl.1 rfl (lv_room (Nat.le_of_ble_eq_true rfl)) dX1_digest_24 ⟨Nat.zero_le _, Nat.zero_le _⟩) hD hS hA (fun r u H locs hq hP hD hS => ?_)
        obtain rfl : r = nI 0 := hq
        have hP : va_P D vwCl (kw_M ct ad (nI 1) M Pl L C V kk_rc) H := hP
        have hD : va_D A (kw_M ct ad (nI 1) M Pl L C V kk_rc) := hD
        refine lv_i2l hx hb dX1_digest_27 rfl ?_
        exact W.lret hx hb hr (fun t ht hW => ⟨⟨_, (), rfl, trivial, by rw [ht]; exact hP, va_K.moved hW.alike hK, hD⟩, hS.F ht⟩) hS.2.2 dX1_digest_28
end
section
/-! KeccakLanesModel(): all 0, and the constants -/
def kv_am (h q q2 q3 q4 q5 q6 : Nat) (r : Nat → Nat) (i : Nat) : Nat := if i = 0 then h else if i = 1 then q else if i = 2 then q2 else if i = 3 then q3 else if i = 4 then q4 else if i = 5 then q5 else if i = 6 then q6 else r (i - 7)
theorem kv_am7 (h q q2 q3 q4 q5 q6 : Nat) (r : Nat → Nat) (i : Nat) : kv_am h q q2 q3 q4 q5 q6 r (7 + i) = r i := by
  unfold kv_am
  rw [if_neg (by omega), if_neg (by omega), if_neg (by omega), if_neg (by omega), if_neg (by omega), if_neg (by omega), if_neg (by omega), Nat.add_sub_cancel_left]
theorem kv_tam (h q q2 q3 q4 q5 q6 : Nat) (r : Nat → Nat) : (fun i => if i < 8 then some (r i) else none) = fun i => if i < 8 then some (kv_am h q q2 q3 q4 q5 q6 r (7 + i)) else none := by
  funext i
  rw [kv_am7]
set_option maxHeartbeats 4000000 in
set_option maxRecDepth 100000 in
theorem km_init (l : Launch) (D : va_G) (ct : Nat → ClassId) (h0 sz : Nat) : Met l yX1_init wsX1_init ({ frames := 1, cells := 14, slots := 295, locals := 26 }) (kr_P D vwCl (kw_T ct) kw_J [.ref h0] [(h0, .inr (1, [.int 0, .null, .null, .null, .null, .null, .null]))] sz) (va_Qv (S := Nat → Nat) (fun u => u 0 = h0) (kr_B D vwCl (kw_T ct) (fun u => kw_M ct u 0 (fun _ _ => 0) (fun _ => 0) (fun _ => 0) (fun _ => 0) (fun _ => 0) kk_rc) (va_A ([(h0, .inr (1, [.int 0, .null, .null, .null, .null, .null, .null]))]) sz)) (va_A ([(h0, .inr (1, [.int 0, .null, .null, .null, .null, .null, .null]))]) sz)) 14 295 (va_A ([(h0, .inr (1, [.int 0, .null, .null, .null, .null, .null, .null]))]) sz) := by
  refine Met.ofW (cc := cX1_init) (maxL := 2) (ret := none) (by decide) rfl ?_
  intro p e s m args below meth c s₁ B hml hv
  obtain ⟨rfl, hsz, hP, hK, hD0, hB⟩ := hv
  have hin2 : meth.name = "<init>" := (name_of_methodNamed B.named B.method).1
  have hx := B.exec
  have hb := B.bytes
  have hr := B.returns
  have hts := atoms_spec (ws := wsX1_init) B.pre
  have hown : s.vm.findClass RX1 = some m.cls := findClass_of_methodNamed B.named
  have hlocks := B.notSynchronized
  have hin : ∀ w ∈ u_ws RX1 TX1 7, w ∈ wsX1_init := by decide +kernel
  subst hsz
  have hD := hD0.self (sz := s.heap.size)
  generalize hAe : va_A ([(h0, .inr (1, [.int 0, .null, .null, .null, .null, .null, .null]))]) s.heap.size = A at hD hB ⊢
  have hA : ∀ q : Nat, s.heap.size ≤ q → A q := fun q h => by rw [← hAe]; exact Or.inr h
  have hS : va_S A s.heap s.heap [] := va_S.rf
  have hl := lv_entry ([.ref h0]) (n := 2) (Nat.le_of_ble_eq_true rfl)
  rw [lg_entry_eq]
  generalize (lg_sl ([.ref h0]) ++ List.replicate (2 - (lg_sl ([.ref h0])).length) Slot.unset).toArray = ls at hl ⊢
  have hl : lv_has ls 2 [(0, .ref h0)] := hl
  refine lv_aload_n hx hb dX1_init_0 rfl (lv_at hl 0 rfl) ?_
  refine W.objInit hx hb hown (hts (.methodLink RX1 24 objectInit) (by decide +kernel)) (hts (.instanceMethod objectInit) (by decide +kernel)) (hts _ (List.mem_cons_of_mem _ (List.mem_append_left _ (List.mem_of_getElem? (i := 2) rfl)))) rfl (by rw [hml]; exact hl.1) rfl dX1_init_1 (Nat.le_of_ble_eq_true rfl) (Nat.le_of_ble_eq_true rfl) ?_
  refine W.eq (g2 := F0 m 4 ls []) rfl ?_
  refine lv_aload_n hx hb dX1_init_4 rfl (lv_at hl 0 rfl) ?_
  refine lv_bipush (v := nI 8) hx hb dX1_init_5 (by decide +kernel) ?_
  refine lv_bipush (v := nI 25) hx hb dX1_init_7 (by decide +kernel) ?_
  refine va_mna (X := [(h0, .inr (1, [.int 0, .null, .null, .null, .null, .null, .null]))]) (L := []) (f := fun _ => .inr (0, [])) (ty := .long) (cy := ct 2) (N' := 8) (K' := 25) (z := (25, .inr (.inl (fun _ => 0)))) (own := RX1) (index := 30) hx hb hown (show (Cond.classLink RX1 30 "[[J").before _ s = true from hts (.classLink RX1 30 "[[J") (by decide +kernel)) hB (hts (.arrayClass .long) (by decide +kernel)) (hK.2 2 (ct 2, .long) rfl).2 hK hP hD hS hA (nI_pos (n := 8) (by omega)) (nI_pos (n := 25) (by omega)) (nI_clamp (by omega)) (nI_clamp (by omega)) (by decide +kernel) (by decide +kernel) (by decide +kernel) rfl rfl (by decide +kernel) (by decide +kernel) (fun c => by show ({ cls := c, slots := Array.replicate 25 (Value.long 0), vm := .none } : Cell) = _; rw [arrV_new]; rfl) dX1_init_9 (fun q r cA H hinj hnl hK1 hP hD hS => ?_)
  obtain rfl : cA = ct 0 := kv_cls (i := 0) hK rfl (fun _ h => by cases h) hK1
  rw [kv_rows] at hP hD
  have hP : va_P D vwCl ([(h0, .inr (1, [.int 0, .null, .null, .null, .null, .null, .null])), (q, .inl (ct 0, 8, .inr (.inr (.inr (.inr (fun i => if i < 8 then some (r i) else none)))))), (r 0, .inl (ct 2, 25, .inr (.inl (fun _ => 0)))), (r 1, .inl (ct 2, 25, .inr (.inl (fun _ => 0)))), (r 2, .inl (ct 2, 25, .inr (.inl (fun _ => 0)))), (r 3, .inl (ct 2, 25, .inr (.inl (fun _ => 0)))), (r 4, .inl (ct 2, 25, .inr (.inl (fun _ => 0)))), (r 5, .inl (ct 2, 25, .inr (.inl (fun _ => 0)))), (r 6, .inl (ct 2, 25, .inr (.inl (fun _ => 0)))), (r 7, .inl (ct 2, 25, .inr (.inl (fun _ => 0))))]) H := hP
  have hD : va_D A ([(h0, .inr (1, [.int 0, .null, .null, .null, .null, .null, .null])), (q, .inl (ct 0, 8, .inr (.inr (.inr (.inr (fun i => if i < 8 then some (r i) else none)))))), (r 0, .inl (ct 2, 25, .inr (.inl (fun _ => 0)))), (r 1, .inl (ct 2, 25, .inr (.inl (fun _ => 0)))), (r 2, .inl (ct 2, 25, .inr (.inl (fun _ => 0)))), (r 3, .inl (ct 2, 25, .inr (.inl (fun _ => 0)))), (r 4, .inl (ct 2, 25, .inr (.inl (fun _ => 0)))), (r 5, .inl (ct 2, 25, .inr (.inl (fun _ => 0)))), (r 6, .inl (ct 2, 25, .inr (.inl (fun _ => 0)))), (r 7, .inl (ct 2, 25, .inr (.inl (fun _ => 0))))]) := hD
  refine va_putF (ci := 1) (v := .ref q) (ty := .array (.array .long)) (C := RX1) (T := TX1) (N := 7) hx hb hts hin tyX1 tyX1_ok nmX1 hown hK hP hD hS 0 rfl rfl 1 (by decide) (hts (.fieldLink RX1 32 "KeccakLanesModel" "states" "[[J") (by decide +kernel)) (fun _ h9 => h9) rfl hin2 rfl (by decide +kernel) rfl rfl (Nat.le_of_ble_eq_true rfl) dX1_init_13 (fun H locs hP hD hS => ?_)
  have hP : va_P D vwCl ([(h0, .inr (1, [.int 0, .ref q, .null, .null, .null, .null, .null])), (q, .inl (ct 0, 8, .inr (.inr (.inr (.inr (fun i => if i < 8 then some (r i) else none)))))), (r 0, .inl (ct 2, 25, .inr (.inl (fun _ => 0)))), (r 1, .inl (ct 2, 25, .inr (.inl (fun _ => 0)))), (r 2, .inl (ct 2, 25, .inr (.inl (fun _ => 0)))), (r 3, .inl (ct 2, 25, .inr (.inl (fun _ => 0)))), (r 4, .inl (ct 2, 25, .inr (.inl (fun _ => 0)))), (r 5, .inl (ct 2, 25, .inr (.inl (fun _ => 0)))), (r 6, .inl (ct 2, 25, .inr (.inl (fun _ => 0)))), (r 7, .inl (ct 2, 25, .inr (.inl (fun _ => 0))))]) H := hP
  have hD : va_D A ([(h0, .inr (1, [.int 0, .ref q, .null, .null, .null, .null, .null])), (q, .inl (ct 0, 8, .inr (.inr (.inr (.inr (fun i => if i < 8 then some (r i) else none)))))), (r 0, .inl (ct 2, 25, .inr (.inl (fun _ => 0)))), (r 1, .inl (ct 2, 25, .inr (.inl (fun _ => 0)))), (r 2, .inl (ct 2, 25, .inr (.inl (fun _ => 0)))), (r 3, .inl (ct 2, 25, .inr (.inl (fun _ => 0)))), (r 4, .inl (ct 2, 25, .inr (.inl (fun _ => 0)))), (r 5, .inl (ct 2, 25, .inr (.inl (fun _ => 0)))), (r 6, .inl (ct 2, 25, .inr (.inl (fun _ => 0)))), (r 7, .inl (ct 2, 25, .inr (.inl (fun _ => 0))))]) := hD
  refine lv_aload_n hx hb dX1_init_16 rfl (lv_at hl 0 rfl) ?_
  refine lv_bipush (v := nI 8) hx hb dX1_init_17 (by decide +kernel) ?_
  refine va_newa (atype := .int) (ty := .int) (N' := 8) (a0 := (8, .inl (fun _ => nI 0))) hx hb (hts (.arrayClass .int) (by decide +kernel)) rfl hK hP hD hS hA (fun _ => rfl) (nI_pos (n := 8) (by omega)) (nI_clamp (by omega)) (by decide +kernel) (by decide +kernel) (by decide +kernel) dX1_init_19 (fun q2 cA H hK1 hP hD hS => ?_)
  obtain rfl : cA = ct 1 := kv_cls (i := 1) hK rfl (fun _ h => by cases h) hK1
  have hP : va_P D vwCl ([(h0, .inr (1, [.int 0, .ref q, .null, .null, .null, .null, .null])), (q, .inl (ct 0, 8, .inr (.inr (.inr (.inr (fun i => if i < 8 then some (r i) else none)))))), (r 0, .inl (ct 2, 25, .inr (.inl (fun _ => 0)))), (r 1, .inl (ct 2, 25, .inr (.inl (fun _ => 0)))), (r 2, .inl (ct 2, 25, .inr (.inl (fun _ => 0)))), (r 3, .inl (ct 2, 25, .inr (.inl (fun _ => 0)))), (r 4, .inl (ct 2, 25, .inr (.inl (fun _ => 0)))), (r 5, .inl (ct 2, 25, .inr (.inl (fun _ => 0)))), (r 6, .inl (ct 2, 25, .inr (.inl (fun _ => 0)))), (r 7, .inl (ct 2, 25, .inr (.inl (fun _ => 0)))), (q2, .inl (ct 1, 8, .inl (fun _ => nI 0)))]) H := hP
  have hD : va_D A ([(h0, .inr (1, [.int 0, .ref q, .null, .null, .null, .null, .null])), (q, .inl (ct 0, 8, .inr (.inr (.inr (.inr (fun i => if i < 8 then some (r i) else none)))))), (r 0, .inl (ct 2, 25, .inr (.inl (fun _ => 0)))), (r 1, .inl (ct 2, 25, .inr (.inl (fun _ => 0)))), (r 2, .inl (ct 2, 25, .inr (.inl (fun _ => 0)))), (r 3, .inl (ct 2, 25, .inr (.inl (fun _ => 0)))), (r 4, .inl (ct 2, 25, .inr (.inl (fun _ => 0)))), (r 5, .inl (ct 2, 25, .inr (.inl (fun _ => 0)))), (r 6, .inl (ct 2, 25, .inr (.inl (fun _ => 0)))), (r 7, .inl (ct 2, 25, .inr (.inl (fun _ => 0)))), (q2, .inl (ct 1, 8, .inl (fun _ => nI 0)))]) := hD
  refine va_putF (ci := 1) (v := .ref q2) (ty := .array .int) (C := RX1) (T := TX1) (N := 7) hx hb hts hin tyX1 tyX1_ok nmX1 hown hK hP hD hS 0 rfl rfl 2 (by decide) (hts (.fieldLink RX1 35 "KeccakLanesModel" "places" "[I") (by decide +kernel)) (fun _ h9 => h9) rfl hin2 rfl (by decide +kernel) rfl rfl (Nat.le_of_ble_eq_true rfl) dX1_init_21 (fun H locs hP hD hS => ?_)
  have hP : va_P D vwCl ([(h0, .inr (1, [.int 0, .ref q, .ref q2, .null, .null, .null, .null])), (q, .inl (ct 0, 8, .inr (.inr (.inr (.inr (fun i => if i < 8 then some (r i) else none)))))), (r 0, .inl (ct 2, 25, .inr (.inl (fun _ => 0)))), (r 1, .inl (ct 2, 25, .inr (.inl (fun _ => 0)))), (r 2, .inl (ct 2, 25, .inr (.inl (fun _ => 0)))), (r 3, .inl (ct 2, 25, .inr (.inl (fun _ => 0)))), (r 4, .inl (ct 2, 25, .inr (.inl (fun _ => 0)))), (r 5, .inl (ct 2, 25, .inr (.inl (fun _ => 0)))), (r 6, .inl (ct 2, 25, .inr (.inl (fun _ => 0)))), (r 7, .inl (ct 2, 25, .inr (.inl (fun _ => 0)))), (q2, .inl (ct 1, 8, .inl (fun _ => nI 0)))]) H := hP
  have hD : va_D A ([(h0, .inr (1, [.int 0, .ref q, .ref q2, .null, .null, .null, .null])), (q, .inl (ct 0, 8, .inr (.inr (.inr (.inr (fun i => if i < 8 then some (r i) else none)))))), (r 0, .inl (ct 2, 25, .inr (.inl (fun _ => 0)))), (r 1, .inl (ct 2, 25, .inr (.inl (fun _ => 0)))), (r 2, .inl (ct 2, 25, .inr (.inl (fun _ => 0)))), (r 3, .inl (ct 2, 25, .inr (.inl (fun _ => 0)))), (r 4, .inl (ct 2, 25, .inr (.inl (fun _ => 0)))), (r 5, .inl (ct 2, 25, .inr (.inl (fun _ => 0)))), (r 6, .inl (ct 2, 25, .inr (.inl (fun _ => 0)))), (r 7, .inl (ct 2, 25, .inr (.inl (fun _ => 0)))), (q2, .inl (ct 1, 8, .inl (fun _ => nI 0)))]) := hD
  refine lv_aload_n hx hb dX1_init_24 rfl (lv_at hl 0 rfl) ?_
  refine lv_bipush (v := nI 25) hx hb dX1_init_25 (by decide +kernel) ?_
  refine va_newa (atype := .long) (ty := .long) (N' := 25) (a0 := (25, .inr (.inl (fun _ => 0)))) hx hb (hts (.arrayClass .long) (by decide +kernel)) rfl hK hP hD hS hA (fun _ => rfl) (nI_pos (n := 25) (by omega)) (nI_clamp (by omega)) (by decide +kernel) (by decide +kernel) (by decide +kernel) dX1_init_27 (fun q3 cA H hK1 hP hD hS => ?_)
  obtain rfl : cA = ct 2 := kv_cls (i := 2) hK rfl (fun _ h => by cases h) hK1
  have hP : va_P D vwCl ([(h0, .inr (1, [.int 0, .ref q, .ref q2, .null, .null, .null, .null])), (q, .inl (ct 0, 8, .inr (.inr (.inr (.inr (fun i => if i < 8 then some (r i) else none)))))), (r 0, .inl (ct 2, 25, .inr (.inl (fun _ => 0)))), (r 1, .inl (ct 2, 25, .inr (.inl (fun _ => 0)))), (r 2, .inl (ct 2, 25, .inr (.inl (fun _ => 0)))), (r 3, .inl (ct 2, 25, .inr (.inl (fun _ => 0)))), (r 4, .inl (ct 2, 25, .inr (.inl (fun _ => 0)))), (r 5, .inl (ct 2, 25, .inr (.inl (fun _ => 0)))), (r 6, .inl (ct 2, 25, .inr (.inl (fun _ => 0)))), (r 7, .inl (ct 2, 25, .inr (.inl (fun _ => 0)))), (q2, .inl (ct 1, 8, .inl (fun _ => nI 0))), (q3, .inl (ct 2, 25, .inr (.inl (fun _ => 0))))]) H := hP
  have hD : va_D A ([(h0, .inr (1, [.int 0, .ref q, .ref q2, .null, .null, .null, .null])), (q, .inl (ct 0, 8, .inr (.inr (.inr (.inr (fun i => if i < 8 then some (r i) else none)))))), (r 0, .inl (ct 2, 25, .inr (.inl (fun _ => 0)))), (r 1, .inl (ct 2, 25, .inr (.inl (fun _ => 0)))), (r 2, .inl (ct 2, 25, .inr (.inl (fun _ => 0)))), (r 3, .inl (ct 2, 25, .inr (.inl (fun _ => 0)))), (r 4, .inl (ct 2, 25, .inr (.inl (fun _ => 0)))), (r 5, .inl (ct 2, 25, .inr (.inl (fun _ => 0)))), (r 6, .inl (ct 2, 25, .inr (.inl (fun _ => 0)))), (r 7, .inl (ct 2, 25, .inr (.inl (fun _ => 0)))), (q2, .inl (ct 1, 8, .inl (fun _ => nI 0))), (q3, .inl (ct 2, 25, .inr (.inl (fun _ => 0))))]) := hD
  refine va_putF (ci := 1) (v := .ref q3) (ty := .array .long) (C := RX1) (T := TX1) (N := 7) hx hb hts hin tyX1 tyX1_ok nmX1 hown hK hP hD hS 0 rfl rfl 3 (by decide) (hts (.fieldLink RX1 7 "KeccakLanesModel" "lanes" "[J") (by decide +kernel)) (fun _ h9 => h9) rfl hin2 rfl (by decide +kernel) rfl rfl (Nat.le_of_ble_eq_true rfl) dX1_init_29 (fun H locs hP hD hS => ?_)
  have hP : va_P D vwCl ([(h0, .inr (1, [.int 0, .ref q, .ref q2, .ref q3, .null, .null, .null])), (q, .inl (ct 0, 8, .inr (.inr (.inr (.inr (fun i => if i < 8 then some (r i) else none)))))), (r 0, .inl (ct 2, 25, .inr (.inl (fun _ => 0)))), (r 1, .inl (ct 2, 25, .inr (.inl (fun _ => 0)))), (r 2, .inl (ct 2, 25, .inr (.inl (fun _ => 0)))), (r 3, .inl (ct 2, 25, .inr (.inl (fun _ => 0)))), (r 4, .inl (ct 2, 25, .inr (.inl (fun _ => 0)))), (r 5, .inl (ct 2, 25, .inr (.inl (fun _ => 0)))), (r 6, .inl (ct 2, 25, .inr (.inl (fun _ => 0)))), (r 7, .inl (ct 2, 25, .inr (.inl (fun _ => 0)))), (q2, .inl (ct 1, 8, .inl (fun _ => nI 0))), (q3, .inl (ct 2, 25, .inr (.inl (fun _ => 0))))]) H := hP
  have hD : va_D A ([(h0, .inr (1, [.int 0, .ref q, .ref q2, .ref q3, .null, .null, .null])), (q, .inl (ct 0, 8, .inr (.inr (.inr (.inr (fun i => if i < 8 then some (r i) else none)))))), (r 0, .inl (ct 2, 25, .inr (.inl (fun _ => 0)))), (r 1, .inl (ct 2, 25, .inr (.inl (fun _ => 0)))), (r 2, .inl (ct 2, 25, .inr (.inl (fun _ => 0)))), (r 3, .inl (ct 2, 25, .inr (.inl (fun _ => 0)))), (r 4, .inl (ct 2, 25, .inr (.inl (fun _ => 0)))), (r 5, .inl (ct 2, 25, .inr (.inl (fun _ => 0)))), (r 6, .inl (ct 2, 25, .inr (.inl (fun _ => 0)))), (r 7, .inl (ct 2, 25, .inr (.inl (fun _ => 0)))), (q2, .inl (ct 1, 8, .inl (fun _ => nI 0))), (q3, .inl (ct 2, 25, .inr (.inl (fun _ => 0))))]) := hD
  refine lv_aload_n hx hb dX1_init_32 rfl (lv_at hl 0 rfl) ?_
  refine lv_iconst (v := nI 5) hx hb dX1_init_33 rfl ?_
  refine va_newa (atype := .long) (ty := .long) (N' := 5) (a0 := (5, .inr (.inl (fun _ => 0)))) hx hb (hts (.arrayClass .long) (by decide +kernel)) rfl hK hP hD hS hA (fun _ => rfl) (nI_pos (n := 5) (by omega)) (nI_clamp (by omega)) (by decide +kernel) (by decide +kernel) (by decide +kernel) dX1_init_34 (fun q4 cA H hK1 hP hD hS => ?_)
  obtain rfl : cA = ct 2 := kv_cls (i := 2) hK rfl (fun _ h => by cases h) hK1
  have hP : va_P D vwCl ([(h0, .inr (1, [.int 0, .ref q, .ref q2, .ref q3, .null, .null, .null])), (q, .inl (ct 0, 8, .inr (.inr (.inr (.inr (fun i => if i < 8 then some (r i) else none)))))), (r 0, .inl (ct 2, 25, .inr (.inl (fun _ => 0)))), (r 1, .inl (ct 2, 25, .inr (.inl (fun _ => 0)))), (r 2, .inl (ct 2, 25, .inr (.inl (fun _ => 0)))), (r 3, .inl (ct 2, 25, .inr (.inl (fun _ => 0)))), (r 4, .inl (ct 2, 25, .inr (.inl (fun _ => 0)))), (r 5, .inl (ct 2, 25, .inr (.inl (fun _ => 0)))), (r 6, .inl (ct 2, 25, .inr (.inl (fun _ => 0)))), (r 7, .inl (ct 2, 25, .inr (.inl (fun _ => 0)))), (q2, .inl (ct 1, 8, .inl (fun _ => nI 0))), (q3, .inl (ct 2, 25, .inr (.inl (fun _ => 0)))), (q4, .inl (ct 2, 5, .inr (.inl (fun _ => 0))))]) H := hP
  have hD : va_D A ([(h0, .inr (1, [.int 0, .ref q, .ref q2, .ref q3, .null, .null, .null])), (q, .inl (ct 0, 8, .inr (.inr (.inr (.inr (fun i => if i < 8 then some (r i) else none)))))), (r 0, .inl (ct 2, 25, .inr (.inl (fun _ => 0)))), (r 1, .inl (ct 2, 25, .inr (.inl (fun _ => 0)))), (r 2, .inl (ct 2, 25, .inr (.inl (fun _ => 0)))), (r 3, .inl (ct 2, 25, .inr (.inl (fun _ => 0)))), (r 4, .inl (ct 2, 25, .inr (.inl (fun _ => 0)))), (r 5, .inl (ct 2, 25, .inr (.inl (fun _ => 0)))), (r 6, .inl (ct 2, 25, .inr (.inl (fun _ => 0)))), (r 7, .inl (ct 2, 25, .inr (.inl (fun _ => 0)))), (q2, .inl (ct 1, 8, .inl (fun _ => nI 0))), (q3, .inl (ct 2, 25, .inr (.inl (fun _ => 0)))), (q4, .inl (ct 2, 5, .inr (.inl (fun _ => 0))))]) := hD
  refine va_putF (ci := 1) (v := .ref q4) (ty := .array .long) (C := RX1) (T := TX1) (N := 7) hx hb hts hin tyX1 tyX1_ok nmX1 hown hK hP hD hS 0 rfl rfl 4 (by decide) (hts (.fieldLink RX1 1 "KeccakLanesModel" "column" "[J") (by decide +kernel)) (fun _ h9 => h9) rfl hin2 rfl (by decide +kernel) rfl rfl (Nat.le_of_ble_eq_true rfl) dX1_init_36 (fun H locs hP hD hS => ?_)
  have hP : va_P D vwCl ([(h0, .inr (1, [.int 0, .ref q, .ref q2, .ref q3, .ref q4, .null, .null])), (q, .inl (ct 0, 8, .inr (.inr (.inr (.inr (fun i => if i < 8 then some (r i) else none)))))), (r 0, .inl (ct 2, 25, .inr (.inl (fun _ => 0)))), (r 1, .inl (ct 2, 25, .inr (.inl (fun _ => 0)))), (r 2, .inl (ct 2, 25, .inr (.inl (fun _ => 0)))), (r 3, .inl (ct 2, 25, .inr (.inl (fun _ => 0)))), (r 4, .inl (ct 2, 25, .inr (.inl (fun _ => 0)))), (r 5, .inl (ct 2, 25, .inr (.inl (fun _ => 0)))), (r 6, .inl (ct 2, 25, .inr (.inl (fun _ => 0)))), (r 7, .inl (ct 2, 25, .inr (.inl (fun _ => 0)))), (q2, .inl (ct 1, 8, .inl (fun _ => nI 0))), (q3, .inl (ct 2, 25, .inr (.inl (fun _ => 0)))), (q4, .inl (ct 2, 5, .inr (.inl (fun _ => 0))))]) H := hP
  have hD : va_D A ([(h0, .inr (1, [.int 0, .ref q, .ref q2, .ref q3, .ref q4, .null, .null])), (q, .inl (ct 0, 8, .inr (.inr (.inr (.inr (fun i => if i < 8 then some (r i) else none)))))), (r 0, .inl (ct 2, 25, .inr (.inl (fun _ => 0)))), (r 1, .inl (ct 2, 25, .inr (.inl (fun _ => 0)))), (r 2, .inl (ct 2, 25, .inr (.inl (fun _ => 0)))), (r 3, .inl (ct 2, 25, .inr (.inl (fun _ => 0)))), (r 4, .inl (ct 2, 25, .inr (.inl (fun _ => 0)))), (r 5, .inl (ct 2, 25, .inr (.inl (fun _ => 0)))), (r 6, .inl (ct 2, 25, .inr (.inl (fun _ => 0)))), (r 7, .inl (ct 2, 25, .inr (.inl (fun _ => 0)))), (q2, .inl (ct 1, 8, .inl (fun _ => nI 0))), (q3, .inl (ct 2, 25, .inr (.inl (fun _ => 0)))), (q4, .inl (ct 2, 5, .inr (.inl (fun _ => 0))))]) := hD
  refine lv_aload_n hx hb dX1_init_39 rfl (lv_at hl 0 rfl) ?_
  refine lv_bipush (v := nI 25) hx hb dX1_init_40 (by decide +kernel) ?_
  refine va_newa (atype := .long) (ty := .long) (N' := 25) (a0 := (25, .inr (.inl (fun _ => 0)))) hx hb (hts (.arrayClass .long) (by decide +kernel)) rfl hK hP hD hS hA (fun _ => rfl) (nI_pos (n := 25) (by omega)) (nI_clamp (by omega)) (by decide +kernel) (by decide +kernel) (by decide +kernel) dX1_init_42 (fun q5 cA H hK1 hP hD hS => ?_)
  obtain rfl : cA = ct 2 := kv_cls (i := 2) hK rfl (fun _ h => by cases h) hK1
  have hP : va_P D vwCl ([(h0, .inr (1, [.int 0, .ref q, .ref q2, .ref q3, .ref q4, .null, .null])), (q, .inl (ct 0, 8, .inr (.inr (.inr (.inr (fun i => if i < 8 then some (r i) else none)))))), (r 0, .inl (ct 2, 25, .inr (.inl (fun _ => 0)))), (r 1, .inl (ct 2, 25, .inr (.inl (fun _ => 0)))), (r 2, .inl (ct 2, 25, .inr (.inl (fun _ => 0)))), (r 3, .inl (ct 2, 25, .inr (.inl (fun _ => 0)))), (r 4, .inl (ct 2, 25, .inr (.inl (fun _ => 0)))), (r 5, .inl (ct 2, 25, .inr (.inl (fun _ => 0)))), (r 6, .inl (ct 2, 25, .inr (.inl (fun _ => 0)))), (r 7, .inl (ct 2, 25, .inr (.inl (fun _ => 0)))), (q2, .inl (ct 1, 8, .inl (fun _ => nI 0))), (q3, .inl (ct 2, 25, .inr (.inl (fun _ => 0)))), (q4, .inl (ct 2, 5, .inr (.inl (fun _ => 0)))), (q5, .inl (ct 2, 25, .inr (.inl (fun _ => 0))))]) H := hP
  have hD : va_D A ([(h0, .inr (1, [.int 0, .ref q, .ref q2, .ref q3, .ref q4, .null, .null])), (q, .inl (ct 0, 8, .inr (.inr (.inr (.inr (fun i => if i < 8 then some (r i) else none)))))), (r 0, .inl (ct 2, 25, .inr (.inl (fun _ => 0)))), (r 1, .inl (ct 2, 25, .inr (.inl (fun _ => 0)))), (r 2, .inl (ct 2, 25, .inr (.inl (fun _ => 0)))), (r 3, .inl (ct 2, 25, .inr (.inl (fun _ => 0)))), (r 4, .inl (ct 2, 25, .inr (.inl (fun _ => 0)))), (r 5, .inl (ct 2, 25, .inr (.inl (fun _ => 0)))), (r 6, .inl (ct 2, 25, .inr (.inl (fun _ => 0)))), (r 7, .inl (ct 2, 25, .inr (.inl (fun _ => 0)))), (q2, .inl (ct 1, 8, .inl (fun _ => nI 0))), (q3, .inl (ct 2, 25, .inr (.inl (fun _ => 0)))), (q4, .inl (ct 2, 5, .inr (.inl (fun _ => 0)))), (q5, .inl (ct 2, 25, .inr (.inl (fun _ => 0))))]) := hD
  refine va_putF (ci := 1) (v := .ref q5) (ty := .array .long) (C := RX1) (T := TX1) (N := 7) hx hb hts hin tyX1 tyX1_ok nmX1 hown hK hP hD hS 0 rfl rfl 5 (by decide) (hts (.fieldLink RX1 16 "KeccakLanesModel" "moved" "[J") (by decide +kernel)) (fun _ h9 => h9) rfl hin2 rfl (by decide +kernel) rfl rfl (Nat.le_of_ble_eq_true rfl) dX1_init_44 (fun H locs hP hD hS => ?_)
  have hP : va_P D vwCl ([(h0, .inr (1, [.int 0, .ref q, .ref q2, .ref q3, .ref q4, .ref q5, .null])), (q, .inl (ct 0, 8, .inr (.inr (.inr (.inr (fun i => if i < 8 then some (r i) else none)))))), (r 0, .inl (ct 2, 25, .inr (.inl (fun _ => 0)))), (r 1, .inl (ct 2, 25, .inr (.inl (fun _ => 0)))), (r 2, .inl (ct 2, 25, .inr (.inl (fun _ => 0)))), (r 3, .inl (ct 2, 25, .inr (.inl (fun _ => 0)))), (r 4, .inl (ct 2, 25, .inr (.inl (fun _ => 0)))), (r 5, .inl (ct 2, 25, .inr (.inl (fun _ => 0)))), (r 6, .inl (ct 2, 25, .inr (.inl (fun _ => 0)))), (r 7, .inl (ct 2, 25, .inr (.inl (fun _ => 0)))), (q2, .inl (ct 1, 8, .inl (fun _ => nI 0))), (q3, .inl (ct 2, 25, .inr (.inl (fun _ => 0)))), (q4, .inl (ct 2, 5, .inr (.inl (fun _ => 0)))), (q5, .inl (ct 2, 25, .inr (.inl (fun _ => 0))))]) H := hP
  have hD : va_D A ([(h0, .inr (1, [.int 0, .ref q, .ref q2, .ref q3, .ref q4, .ref q5, .null])), (q, .inl (ct 0, 8, .inr (.inr (.inr (.inr (fun i => if i < 8 then some (r i) else none)))))), (r 0, .inl (ct 2, 25, .inr (.inl (fun _ => 0)))), (r 1, .inl (ct 2, 25, .inr (.inl (fun _ => 0)))), (r 2, .inl (ct 2, 25, .inr (.inl (fun _ => 0)))), (r 3, .inl (ct 2, 25, .inr (.inl (fun _ => 0)))), (r 4, .inl (ct 2, 25, .inr (.inl (fun _ => 0)))), (r 5, .inl (ct 2, 25, .inr (.inl (fun _ => 0)))), (r 6, .inl (ct 2, 25, .inr (.inl (fun _ => 0)))), (r 7, .inl (ct 2, 25, .inr (.inl (fun _ => 0)))), (q2, .inl (ct 1, 8, .inl (fun _ => nI 0))), (q3, .inl (ct 2, 25, .inr (.inl (fun _ => 0)))), (q4, .inl (ct 2, 5, .inr (.inl (fun _ => 0)))), (q5, .inl (ct 2, 25, .inr (.inl (fun _ => 0))))]) := hD
  refine lv_aload_n hx hb dX1_init_47 rfl (lv_at hl 0 rfl) ?_
  refine lv_bipush (v := nI 24) hx hb dX1_init_48 (by decide +kernel) ?_
  refine va_newa (atype := .long) (ty := .long) (N' := 24) (a0 := (24, .inr (.inl (fun _ => 0)))) hx hb (hts (.arrayClass .long) (by decide +kernel)) rfl hK hP hD hS hA (fun _ => rfl) (nI_pos (n := 24) (by omega)) (nI_clamp (by omega)) (by decide +kernel) (by decide +kernel) (by decide +kernel) dX1_init_50 (fun q6 cA H hK1 hP hD hS => ?_)
  obtain rfl : cA = ct 2 := kv_cls (i := 2) hK rfl (fun _ h => by cases h) hK1
  have hP : va_P D vwCl ([(h0, .inr (1, [.int 0, .ref q, .ref q2, .ref q3, .ref q4, .ref q5, .null])), (q, .inl (ct 0, 8, .inr (.inr (.inr (.inr (fun i => if i < 8 then some (r i) else none)))))), (r 0, .inl (ct 2, 25, .inr (.inl (fun _ => 0)))), (r 1, .inl (ct 2, 25, .inr (.inl (fun _ => 0)))), (r 2, .inl (ct 2, 25, .inr (.inl (fun _ => 0)))), (r 3, .inl (ct 2, 25, .inr (.inl (fun _ => 0)))), (r 4, .inl (ct 2, 25, .inr (.inl (fun _ => 0)))), (r 5, .inl (ct 2, 25, .inr (.inl (fun _ => 0)))), (r 6, .inl (ct 2, 25, .inr (.inl (fun _ => 0)))), (r 7, .inl (ct 2, 25, .inr (.inl (fun _ => 0)))), (q2, .inl (ct 1, 8, .inl (fun _ => nI 0))), (q3, .inl (ct 2, 25, .inr (.inl (fun _ => 0)))), (q4, .inl (ct 2, 5, .inr (.inl (fun _ => 0)))), (q5, .inl (ct 2, 25, .inr (.inl (fun _ => 0)))), (q6, .inl (ct 2, 24, .inr (.inl (fun _ => 0))))]) H := hP
  have hD : va_D A ([(h0, .inr (1, [.int 0, .ref q, .ref q2, .ref q3, .ref q4, .ref q5, .null])), (q, .inl (ct 0, 8, .inr (.inr (.inr (.inr (fun i => if i < 8 then some (r i) else none)))))), (r 0, .inl (ct 2, 25, .inr (.inl (fun _ => 0)))), (r 1, .inl (ct 2, 25, .inr (.inl (fun _ => 0)))), (r 2, .inl (ct 2, 25, .inr (.inl (fun _ => 0)))), (r 3, .inl (ct 2, 25, .inr (.inl (fun _ => 0)))), (r 4, .inl (ct 2, 25, .inr (.inl (fun _ => 0)))), (r 5, .inl (ct 2, 25, .inr (.inl (fun _ => 0)))), (r 6, .inl (ct 2, 25, .inr (.inl (fun _ => 0)))), (r 7, .inl (ct 2, 25, .inr (.inl (fun _ => 0)))), (q2, .inl (ct 1, 8, .inl (fun _ => nI 0))), (q3, .inl (ct 2, 25, .inr (.inl (fun _ => 0)))), (q4, .inl (ct 2, 5, .inr (.inl (fun _ => 0)))), (q5, .inl (ct 2, 25, .inr (.inl (fun _ => 0)))), (q6, .inl (ct 2, 24, .inr (.inl (fun _ => 0))))]) := hD
  refine va_putF (ci := 1) (v := .ref q6) (ty := .array .long) (C := RX1) (T := TX1) (N := 7) hx hb hts hin tyX1 tyX1_ok nmX1 hown hK hP hD hS 0 rfl rfl 6 (by decide) (hts (.fieldLink RX1 21 "KeccakLanesModel" "constants" "[J") (by decide +kernel)) (fun _ h9 => h9) rfl hin2 rfl (by decide +kernel) rfl rfl (Nat.le_of_ble_eq_true rfl) dX1_init_52 (fun H locs hP hD hS => ?_)
  have hP : va_P D vwCl ([(h0, .inr (1, [.int 0, .ref q, .ref q2, .ref q3, .ref q4, .ref q5, .ref q6])), (q, .inl (ct 0, 8, .inr (.inr (.inr (.inr (fun i => if i < 8 then some (r i) else none)))))), (r 0, .inl (ct 2, 25, .inr (.inl (fun _ => 0)))), (r 1, .inl (ct 2, 25, .inr (.inl (fun _ => 0)))), (r 2, .inl (ct 2, 25, .inr (.inl (fun _ => 0)))), (r 3, .inl (ct 2, 25, .inr (.inl (fun _ => 0)))), (r 4, .inl (ct 2, 25, .inr (.inl (fun _ => 0)))), (r 5, .inl (ct 2, 25, .inr (.inl (fun _ => 0)))), (r 6, .inl (ct 2, 25, .inr (.inl (fun _ => 0)))), (r 7, .inl (ct 2, 25, .inr (.inl (fun _ => 0)))), (q2, .inl (ct 1, 8, .inl (fun _ => nI 0))), (q3, .inl (ct 2, 25, .inr (.inl (fun _ => 0)))), (q4, .inl (ct 2, 5, .inr (.inl (fun _ => 0)))), (q5, .inl (ct 2, 25, .inr (.inl (fun _ => 0)))), (q6, .inl (ct 2, 24, .inr (.inl (fun _ => 0))))]) H := hP
  have hD : va_D A ([(h0, .inr (1, [.int 0, .ref q, .ref q2, .ref q3, .ref q4, .ref q5, .ref q6])), (q, .inl (ct 0, 8, .inr (.inr (.inr (.inr (fun i => if i < 8 then some (r i) else none)))))), (r 0, .inl (ct 2, 25, .inr (.inl (fun _ => 0)))), (r 1, .inl (ct 2, 25, .inr (.inl (fun _ => 0)))), (r 2, .inl (ct 2, 25, .inr (.inl (fun _ => 0)))), (r 3, .inl (ct 2, 25, .inr (.inl (fun _ => 0)))), (r 4, .inl (ct 2, 25, .inr (.inl (fun _ => 0)))), (r 5, .inl (ct 2, 25, .inr (.inl (fun _ => 0)))), (r 6, .inl (ct 2, 25, .inr (.inl (fun _ => 0)))), (r 7, .inl (ct 2, 25, .inr (.inl (fun _ => 0)))), (q2, .inl (ct 1, 8, .inl (fun _ => nI 0))), (q3, .inl (ct 2, 25, .inr (.inl (fun _ => 0)))), (q4, .inl (ct 2, 5, .inr (.inl (fun _ => 0)))), (q5, .inl (ct 2, 25, .inr (.inl (fun _ => 0)))), (q6, .inl (ct 2, 24, .inr (.inl (fun _ => 0))))]) := hD
  rw [kv_tam h0 q q2 q3 q4 q5 q6 r] at hP hD
  have hP : va_P D vwCl (kw_M ct (kv_am h0 q q2 q3 q4 q5 q6 r) 0 (fun _ _ => 0) (fun _ => 0) (fun _ => 0) (fun _ => 0) (fun _ => 0) (fun _ => 0)) H := hP.sub [0, 1, 10, 11, 12, 13, 14, 2, 3, 4, 5, 6, 7, 8, 9] rfl
  have hD : va_D A (kw_M ct (kv_am h0 q q2 q3 q4 q5 q6 r) 0 (fun _ _ => 0) (fun _ => 0) (fun _ => 0) (fun _ => 0) (fun _ => 0) (fun _ => 0)) := hD.sub [0, 1, 10, 11, 12, 13, 14, 2, 3, 4, 5, 6, 7, 8, 9] (by decide) rfl
  have h00 : kv_am h0 q q2 q3 q4 q5 q6 r 0 = h0 := rfl
  generalize kv_am h0 q q2 q3 q4 q5 q6 r = ad at hP hD h00
  rw [← h00] at hl
  refine W.widen (k := 14) (n := 295) (by decide) (by decide) ?_
  refine lv_iconst (v := nI 0) hx hb dX1_init_55 rfl ?_
  refine lv_istore_n hx hb dX1_init_56 rfl hl (Nat.le_of_ble_eq_true rfl) rfl (fun ls hl => ?_)
  have hl : lv_has ls 2 [(1, .int (nI 0)), (0, .ref (ad 0))] := hl
  have loop : ∀ (Q : State → Prop), (∀ (H : Heap) (locs : List Loc) (ls : Array Slot), lv_has ls 2 [(1, .int (nI 24)), (0, .ref (ad 0))] → va_P D vwCl (kw_M ct ad 0 (fun _ _ => 0) (fun _ => 0) (fun _ => 0) (fun _ => 0) (fun _ => 0) kk_rc) H → va_D A (kw_M ct ad 0 (fun _ _ => 0) (fun _ => 0) (fun _ => 0) (fun _ => 0) (fun _ => 0) kk_rc) → va_S A s.heap H locs → W p l e (headSpec wsX1_init ({ frames := 1, cells := 14, slots := 295, locals := 26 })).room s m (([.ref h0] : List Value).toArray) below meth c H locs 14 295 Q (F0 m 79 ls [])) → ∀ (n i : Nat) (K : Nat → Int64) (H : Heap) (locs : List Loc) (ls : Array Slot), 24 - i < n → i ≤ 24 → (∀ u, u < i → K u = kk_rc u) → lv_has ls 2 [(1, .int (nI i)), (0, .ref (ad 0))] → va_P D vwCl (kw_M ct ad 0 (fun _ _ => 0) (fun _ => 0) (fun _ => 0) (fun _ => 0) (fun _ => 0) K) H → va_D A (kw_M ct ad 0 (fun _ _ => 0) (fun _ => 0) (fun _ => 0) (fun _ => 0) (fun _ => 0) K) → va_S A s.heap H locs → W p l e (headSpec wsX1_init ({ frames := 1, cells := 14, slots := 295, locals := 26 })).room s m (([.ref h0] : List Value).toArray) below meth c H locs 14 295 Q (F0 m 57 ls []) := by
    intro Q hend n
    induction n with
    | zero => intro i K H locs ls h; omega
    | succ n ih =>
      intro i K H locs ls hn hi hinv hl hP hD hS
      refine lv_iload_n hx hb dX1_init_57 rfl (lv_at hl 0 rfl) ?_
      refine lv_bipush (v := nI 24) hx hb dX1_init_58 (by decide +kernel) ?_
      refine kr_icmp_ge (tgt := 79) hx hb (by omega) (by omega) dX1_init_60 rfl (fun hc => ?_) (fun hc => ?_)
      · obtain rfl : i = 24 := by omega
        exact hend H locs ls hl (kr_sameL (q0 := 6) hP rfl hinv rfl) (kr_sameD (q0 := 6) hD rfl rfl) hS
      · have hi24 : i < 24 := hc
        refine lv_aload_n hx hb dX1_init_63 rfl (lv_at hl 1 rfl) ?_
        refine va_get hx hb hts hin hown hK hP 0 rfl rfl 6 (by decide) (hts (.fieldLink RX1 21 "KeccakLanesModel" "constants" "[J") (by decide +kernel)) (fun _ h => h) rfl dX1_init_64 ?_
        refine lv_iload_n hx hb dX1_init_67 rfl (lv_at hl 0 rfl) ?_
        refine lv_iload_n hx hb dX1_init_68 rfl (lv_at hl 0 rfl) ?_
        refine kr_calll (va_runS (As := [.int (nI i)]) (rest := [.int (nI i), .ref (ad 6)]) ⟨hx, hb, hml, hown, hts⟩ (kc_constant l D (kw_T ct) kw_J (kw_M ct ad 0 (fun _ _ => 0) (fun _ => 0) (fun _ => 0) (fun _ => 0) (fun _ => 0) K) _ hi24) (va_cwS 1 hts gX1_init_X1_constant rfl rfl rfl (by decide +kernel) ⟨Nat.le_of_ble_eq_true rfl, Nat.le_of_ble_eq_true rfl⟩) (kr_preS kw_Jok _ hP hK hD hB hS hA) rfl rfl hl.1 rfl (lv_room (Nat.le_of_ble_eq_true rfl)) dX1_init_69 ⟨Nat.le_of_ble_eq_true rfl, Nat.le_of_ble_eq_true rfl⟩) hD hS hA (fun r u H locs hq hP hD hS => ?_)
        obtain rfl : r = kk_rc i := hq
        have hP : va_P D vwCl (kw_M ct ad 0 (fun _ _ => 0) (fun _ => 0) (fun _ => 0) (fun _ => 0) (fun _ => 0) K) H := hP
        have hD : va_D A (kw_M ct ad 0 (fun _ _ => 0) (fun _ => 0) (fun _ => 0) (fun _ => 0) (fun _ => 0) K) := hD
        refine kr_last (w := kw_M ct ad 0 (fun _ _ => 0) (fun _ => 0) (fun _ => 0) (fun _ => 0) (fun _ => 0) (vp_updL K i (kk_rc i))) hx hb hK hP hD hS 6 2 rfl rfl (n := i) (by omega) (by omega) rfl dX1_init_72 (fun H locs hP hD hS => ?_)
        refine lv_iinc (k := 0) (v := nI (i + 1)) hx hb dX1_init_73 hl rfl (nI_add i 1) (Nat.le_of_ble_eq_true rfl) rfl (fun ls hl => ?_)
        have hl : lv_has ls 2 [(1, .int (nI (i + 1))), (0, .ref (ad 0))] := hl
        refine lv_goto (tgt := 57) hx hb dX1_init_76 rfl ?_
        refine ih (i + 1) _ H locs ls (by omega) (by omega) (fun u hu => ?_) hl hP hD hS
        by_cases e9 : u = i
        · subst e9; rw [pk_uLs]
        · rw [pk_uLn e9]; exact hinv u (by omega)
  refine loop _ (fun H locs ls hl hP hD hS => ?_) 25 0 (fun _ => 0) H locs ls (by omega) (by omega) (fun u hu => absurd hu (by omega)) hl hP hD hS
  exact W.vret hx hb hr (fun t ht hW => ⟨⟨ad, rfl, h00, by rw [ht]; exact hP, va_K.moved hW.alike hK, hD⟩, hS.F ht⟩) hS.2.2 dX1_init_79
end
section
/-! the law's helpers: worlds side by side -/
theorem kr_left {D : va_G} {cl : List vw_C} {a b : va_W} {H : Heap} (h : va_P D cl (a ++ b) H) : va_P D cl a H := fun k q hk => h k q (by rw [List.getElem?_append_left (List.getElem?_eq_some_iff.mp hk).1]; exact hk)
theorem kr_leftD {A : Nat → Prop} {a b : va_W} (h : va_D A (a ++ b)) : va_D A a := by
  have at' : ∀ (k : Nat) (q : Nat × va_E), a[k]? = some q → (a ++ b)[k]? = some q := fun k q hk => by rw [List.getElem?_append_left (List.getElem?_eq_some_iff.mp hk).1]; exact hk
  exact ⟨fun i j x y hi hj e => h.1 i j x y (at' i x hi) (at' j y hj) e, fun k q hk => h.2 k q (at' k q hk)⟩
theorem kr_swap {D : va_G} {cl : List vw_C} {a b : va_W} {H : Heap} (h : va_P D cl (a ++ b) H) : va_P D cl (b ++ a) H := va_P.swap (a := []) h
theorem kr_swapD {A : Nat → Prop} {a b : va_W} (h : va_D A (a ++ b)) : va_D A (b ++ a) := va_D.swap (a := []) h
theorem kr_frame {A : Nat → Prop} {D : va_G} {cl : List vw_C} {wx wr w1 : va_W} {H H1 : Heap} (hP : va_P D cl (wx ++ wr) H) (hD : va_D A (wx ++ wr)) (hk : ∀ q : Nat, q < H.size → ¬ va_A wx H.size q → H1[q]? = H[q]?) (hF : ∀ q, va_A wx H.size q → A q) (hP1 : va_P D cl w1 H1) (hD1 : va_D (va_A wx H.size) w1) : va_P D cl (w1 ++ wr) H1 ∧ va_D A (w1 ++ wr) := by
  have at' : ∀ (k : Nat) (q : Nat × va_E), wr[k]? = some q → (wx ++ wr)[wx.length + k]? = some q := fun k q hk => by rw [List.getElem?_append_right (by omega), Nat.add_sub_cancel_left]; exact hk
  have apart : ∀ (k : Nat) (q : Nat × va_E), wr[k]? = some q → q.1 < H.size ∧ ¬ va_A wx H.size q.1 := by
    intro k q hq
    have hl := (hP _ q (at' k q hq)).lt
    refine ⟨hl, fun h => ?_⟩
    rcases h with ⟨k2, e, h⟩ | h
    · have hlt := (List.getElem?_eq_some_iff.mp h).1
      have := hD.1 k2 (wx.length + k) (q.1, e) q (by rw [List.getElem?_append_left hlt]; exact h) (at' k q hq) rfl
      omega
    · omega
  refine ⟨hP1.app (fun k q hq => ?_), (hD1.weaken (fun k q _ h => hF q.1 h)).app ⟨fun i j x y hi hj e => ?_, fun k q hq => hD.2 _ q (at' k q hq)⟩ (fun i j x y hx hy e => (apart j y hy).2 (by rw [← e]; exact hD1.2 i x hx))⟩
  · obtain ⟨g1, g2⟩ := apart k q hq
    exact (hP _ q (at' k q hq)).kept (hk q.1 g1 g2)
  · have := hD.1 _ _ x y (at' i x hi) (at' j y hj) e
    omega
section KRF
variable {p : Program} {l : Launch} {e : Env} {R : Room} {s : State} {m : MethodId} {args : Array Value} {below : List Frame} {meth : Method} {c : Code} {H : Heap} {locs : List Loc} {cells slots : Nat} {Q : State → Prop}
variable {pc : Nat} {ls : Array Slot} {rest st0 : List Value} {D : va_G} {cl : List vw_C} {A : Nat → Prop} {tys : List (ClassId × FieldType)} {wx wr : va_W} {a : Array Value} {mc ms : Nat}
theorem kr_fv {S : Type} {post : S → Prop} {wf : S → va_W} (hr : va_Run p l e R s m args below meth c H locs cells slots mc ms (F0 m pc ls st0) rest (va_Qv post (kr_B D cl tys wf (va_A wx H.size)) (va_A wx H.size) a) (va_A wx H.size)) (hP : va_P D cl (wx ++ wr) H) (hD : va_D A (wx ++ wr)) (hS : va_S A s.heap H locs) (hA : ∀ q, s.heap.size ≤ q → A q) (kk : ∀ (u : S) (H1 : Heap) (locs1 : List Loc), post u → va_P D cl (wf u ++ wr) H1 → va_D A (wf u ++ wr) → va_S A s.heap H1 locs1 → W p l e R s m args below meth c H1 locs1 (cells + mc) (slots + ms) Q (F0 m (pc + 3) ls (rest))) : W p l e R s m args below meth c H locs cells slots Q (F0 m pc ls st0) :=
  va_callv hr hS (fun q _ h => kr_free (kr_leftD hD) hS hA q h) (kr_free (kr_leftD hD) hS hA) (fun u t H1 locs1 ht hvm hw hB _ hk1 hS1 => by
    obtain ⟨z1, z2⟩ := kr_frame hP hD hk1 (kr_free (kr_leftD hD) hS hA) (ht ▸ hB.1) hB.2.2
    exact kk u H1 locs1 hw z1 z2 hS1)
theorem kr_fi {S : Type} {post : Int32 → S → Prop} {wf : S → va_W} (hr : va_Run p l e R s m args below meth c H locs cells slots mc ms (F0 m pc ls st0) rest (va_Qi post (kr_B D cl tys wf (va_A wx H.size)) (va_A wx H.size) a) (va_A wx H.size)) (hP : va_P D cl (wx ++ wr) H) (hD : va_D A (wx ++ wr)) (hS : va_S A s.heap H locs) (hA : ∀ q, s.heap.size ≤ q → A q) (kk : ∀ (r : Int32) (u : S) (H1 : Heap) (locs1 : List Loc), post r u → va_P D cl (wf u ++ wr) H1 → va_D A (wf u ++ wr) → va_S A s.heap H1 locs1 → W p l e R s m args below meth c H1 locs1 (cells + mc) (slots + ms) Q (F0 m (pc + 3) ls (.int r :: rest))) : W p l e R s m args below meth c H locs cells slots Q (F0 m pc ls st0) :=
  va_calli hr hS (fun q _ h => kr_free (kr_leftD hD) hS hA q h) (kr_free (kr_leftD hD) hS hA) (fun r u t H1 locs1 ht hvm hw hB _ hk1 hS1 => by
    obtain ⟨z1, z2⟩ := kr_frame hP hD hk1 (kr_free (kr_leftD hD) hS hA) (ht ▸ hB.1) hB.2.2
    exact kk r u H1 locs1 hw z1 z2 hS1)
theorem kr_fl {S : Type} {post : Int64 → S → Prop} {wf : S → va_W} (hr : va_Run p l e R s m args below meth c H locs cells slots mc ms (F0 m pc ls st0) rest (va_Ql post (kr_B D cl tys wf (va_A wx H.size)) (va_A wx H.size) a) (va_A wx H.size)) (hP : va_P D cl (wx ++ wr) H) (hD : va_D A (wx ++ wr)) (hS : va_S A s.heap H locs) (hA : ∀ q, s.heap.size ≤ q → A q) (kk : ∀ (r : Int64) (u : S) (H1 : Heap) (locs1 : List Loc), post r u → va_P D cl (wf u ++ wr) H1 → va_D A (wf u ++ wr) → va_S A s.heap H1 locs1 → W p l e R s m args below meth c H1 locs1 (cells + mc) (slots + ms) Q (F0 m (pc + 3) ls (.long r :: rest))) : W p l e R s m args below meth c H locs cells slots Q (F0 m pc ls st0) :=
  va_calll hr hS (fun q _ h => kr_free (kr_leftD hD) hS hA q h) (kr_free (kr_leftD hD) hS hA) (fun r u t H1 locs1 ht hvm hw hB _ hk1 hS1 => by
    obtain ⟨z1, z2⟩ := kr_frame hP hD hk1 (kr_free (kr_leftD hD) hS hA) (ht ▸ hB.1) hB.2.2
    exact kk r u H1 locs1 hw z1 z2 hS1)
theorem kr_fxv (hr : vx_Run p l e R s m args below meth c H locs cells slots mc ms (F0 m pc ls st0) rest (va_Qv (fun _ : Unit => False) (kr_B D cl tys (fun _ => wx) (va_A wx H.size)) (va_A wx H.size) a) (kr_X D cl tys wx (va_A wx H.size)) (va_A wx H.size)) (hP : va_P D cl (wx ++ wr) H) (hD : va_D A (wx ++ wr)) (hS : va_S A s.heap H locs) (hA : ∀ q, s.heap.size ≤ q → A q) (kx : ∀ (ce : Cell) (q9 : Addr) (H1 : Heap) (locs1 : List Loc), va_P D cl (wx ++ wr) H1 → va_D A (wx ++ wr) → va_S A s.heap H1 locs1 → H1[q9]? = some ce → ce.vm = .none → s.vm.findClass "java/lang/IllegalArgumentException" = some ce.cls → vx_W p l e R s m args below meth c H1 locs1 (cells + mc) (slots + ms) Q (F0 m pc ls rest) q9) : W p l e R s m args below meth c H locs cells slots Q (F0 m pc ls st0) :=
  vx_callv hr hS (fun q _ h => kr_free (kr_leftD hD) hS hA q h) (kr_free (kr_leftD hD) hS hA) (fun q _ h => kr_free (kr_leftD hD) hS hA q h) (fun E ce q9 u t H1 locs1 ht hal hp hB _ hk1 hS1 hce hcv hcl => by
    obtain ⟨rfl, b1, b2, b3⟩ := hB
    obtain ⟨z1, z2⟩ := kr_frame hP hD hk1 (kr_free (kr_leftD hD) hS hA) (ht ▸ b1) b3
    exact kx ce q9 H1 locs1 z1 z2 hS1 hce hcv hcl) (fun u t H1 locs1 _ _ hf => hf.elim)
theorem kr_fxi (hr : vx_Run p l e R s m args below meth c H locs cells slots mc ms (F0 m pc ls st0) rest (va_Qi (fun (_ : Int32) (_ : Unit) => False) (kr_B D cl tys (fun _ => wx) (va_A wx H.size)) (va_A wx H.size) a) (kr_X D cl tys wx (va_A wx H.size)) (va_A wx H.size)) (hP : va_P D cl (wx ++ wr) H) (hD : va_D A (wx ++ wr)) (hS : va_S A s.heap H locs) (hA : ∀ q, s.heap.size ≤ q → A q) (kx : ∀ (ce : Cell) (q9 : Addr) (H1 : Heap) (locs1 : List Loc), va_P D cl (wx ++ wr) H1 → va_D A (wx ++ wr) → va_S A s.heap H1 locs1 → H1[q9]? = some ce → ce.vm = .none → s.vm.findClass "java/lang/IllegalArgumentException" = some ce.cls → vx_W p l e R s m args below meth c H1 locs1 (cells + mc) (slots + ms) Q (F0 m pc ls rest) q9) : W p l e R s m args below meth c H locs cells slots Q (F0 m pc ls st0) :=
  vx_calli hr hS (fun q _ h => kr_free (kr_leftD hD) hS hA q h) (kr_free (kr_leftD hD) hS hA) (fun q _ h => kr_free (kr_leftD hD) hS hA q h) (fun E ce q9 u t H1 locs1 ht hal hp hB _ hk1 hS1 hce hcv hcl => by
    obtain ⟨rfl, b1, b2, b3⟩ := hB
    obtain ⟨z1, z2⟩ := kr_frame hP hD hk1 (kr_free (kr_leftD hD) hS hA) (ht ▸ b1) b3
    exact kx ce q9 H1 locs1 z1 z2 hS1 hce hcv hcl) (fun _ u t H1 locs1 _ _ hf => hf.elim)
theorem kr_fxl (hr : vx_Run p l e R s m args below meth c H locs cells slots mc ms (F0 m pc ls st0) rest (va_Ql (fun (_ : Int64) (_ : Unit) => False) (kr_B D cl tys (fun _ => wx) (va_A wx H.size)) (va_A wx H.size) a) (kr_X D cl tys wx (va_A wx H.size)) (va_A wx H.size)) (hP : va_P D cl (wx ++ wr) H) (hD : va_D A (wx ++ wr)) (hS : va_S A s.heap H locs) (hA : ∀ q, s.heap.size ≤ q → A q) (kx : ∀ (ce : Cell) (q9 : Addr) (H1 : Heap) (locs1 : List Loc), va_P D cl (wx ++ wr) H1 → va_D A (wx ++ wr) → va_S A s.heap H1 locs1 → H1[q9]? = some ce → ce.vm = .none → s.vm.findClass "java/lang/IllegalArgumentException" = some ce.cls → vx_W p l e R s m args below meth c H1 locs1 (cells + mc) (slots + ms) Q (F0 m pc ls rest) q9) : W p l e R s m args below meth c H locs cells slots Q (F0 m pc ls st0) :=
  vx_calll hr hS (fun q _ h => kr_free (kr_leftD hD) hS hA q h) (kr_free (kr_leftD hD) hS hA) (fun q _ h => kr_free (kr_leftD hD) hS hA q h) (fun E ce q9 u t H1 locs1 ht hal hp hB _ hk1 hS1 hce hcv hcl => by
    obtain ⟨rfl, b1, b2, b3⟩ := hB
    obtain ⟨z1, z2⟩ := kr_frame hP hD hk1 (kr_free (kr_leftD hD) hS hA) (ht ▸ b1) b3
    exact kx ce q9 H1 locs1 z1 z2 hS1 hce hcv hcl) (fun _ u t H1 locs1 _ _ hf => hf.elim)
end KRF
/-- the class's world, and the law's out -/
def kw_O (ct : Nat → ClassId) (qo : Nat) (o : Nat → Int64) : va_W := [(qo, .inl (ct 2, 1, .inr (.inl o)))]
set_option maxHeartbeats 4000000 in
set_option maxRecDepth 100000 in
theorem kl_clear (l : Launch) (D : va_G) (ct : Nat → ClassId) (ad tb : Nat → Nat) (qo : Nat) (M : Nat → Nat → Int64) (Pl : Nat → Nat) (C V o : Nat → Int64) (sz : Nat) {k : Nat} (hk : k < 8) : Met l yL_clear wsL_clear ({ frames := 2, cells := 0, slots := 0, locals := 44 }) (kr_P D vwCl (kw_T ct) (kw_B tb) [.ref (ad 0), .int (nI k)] (kw_X ct ad M Pl C V ++ kw_O ct qo o) sz) (va_Qi (S := Unit) (fun r _ => r = nI 0) (kr_B D vwCl (kw_T ct) (fun u => kw_X ct ad (va_up M k (fun _ => 0)) (va_up Pl k 0) C V ++ kw_O ct qo o) (va_A (kw_X ct ad M Pl C V ++ kw_O ct qo o) sz)) (va_A (kw_X ct ad M Pl C V ++ kw_O ct qo o) sz)) 0 0 (va_A (kw_X ct ad M Pl C V ++ kw_O ct qo o) sz) := by
  refine va_MetW (cc := cL_clear) (maxL := 3) (ret := some .int) (hh := [(0, 5, 8, 13)]) (by decide) rfl ?_
  intro p e s m args below meth c s₁ B hml hv
  obtain ⟨rfl, hsz, hP, hK, hD0, hB⟩ := hv
  have hx := B.exec
  have hb := B.bytes
  have hr := B.returns
  have hts := atoms_spec (ws := wsL_clear) B.pre
  have hown : s.vm.findClass RL = some m.cls := findClass_of_methodNamed B.named
  have hlocks := B.notSynchronized
  have htab := vx_table (x := yL_clear) B (hts (.codeWith yL_clear cL_clear 3 (some .int) [(0, 5, 8, 13)]) List.mem_cons_self)
  subst hsz
  have hD := hD0.self (sz := s.heap.size)
  generalize hAe : va_A (kw_X ct ad M Pl C V ++ kw_O ct qo o) s.heap.size = A at hD hB ⊢
  have hA : ∀ q : Nat, s.heap.size ≤ q → A q := fun q h => by rw [← hAe]; exact Or.inr h
  have hS : va_S A s.heap s.heap [] := va_S.rf
  have hl := lv_entry ([.ref (ad 0), .int (nI k)]) (n := 3) (Nat.le_of_ble_eq_true rfl)
  rw [lg_entry_eq]
  generalize (lg_sl ([.ref (ad 0), .int (nI k)]) ++ List.replicate (3 - (lg_sl ([.ref (ad 0), .int (nI k)])).length) Slot.unset).toArray = ls at hl ⊢
  have hl : lv_has ls 3 [(0, .ref (ad 0)), (1, .int (nI k))] := hl
  refine lv_aload_n hx hb dL_clear_0 rfl (lv_at hl 0 rfl) ?_
  refine lv_iload_n hx hb dL_clear_1 rfl (lv_at hl 1 rfl) ?_
  refine kr_fv (va_runV (As := [.int (nI k)]) (rest := []) ⟨hx, hb, hml, hown, hts⟩ (kc_clear l D ct ad tb M Pl C V _ hk) (cwV 1 hts gL_clear_X0_clear rfl rfl rfl (by decide +kernel) ⟨Nat.le_of_ble_eq_true rfl, Nat.le_of_ble_eq_true rfl⟩) (kr_preV (kw_Bok tb) (q := (RX0, TX0, 4)) (q0 := 0) (ci := 0) _ (kr_left hP) hK (kr_leftD hD) hB hS hA rfl rfl rfl) rfl rfl hl.1 rfl (lv_room (Nat.le_of_ble_eq_true rfl)) dL_clear_2 ⟨Nat.le_of_ble_eq_true rfl, Nat.le_of_ble_eq_true rfl⟩) hP hD hS hA (fun u H locs hq hP hD hS => ?_)
  have hP : va_P D vwCl (kw_X ct ad (va_up M k (fun _ => 0)) (va_up Pl k 0) C V ++ kw_O ct qo o) H := hP
  have hD : va_D A (kw_X ct ad (va_up M k (fun _ => 0)) (va_up Pl k 0) C V ++ kw_O ct qo o) := hD
  refine lv_goto (tgt := 11) hx hb dL_clear_5 rfl ?_
  refine lv_iconst (v := nI 0) hx hb dL_clear_11 rfl ?_
  exact W.iret hx hb hr (fun t ht hW => ⟨⟨_, (), rfl, rfl, by rw [ht]; exact hP, va_K.moved hW.alike hK, hD⟩, hS.F ht⟩) hS.2.2 dL_clear_12
set_option maxHeartbeats 4000000 in
set_option maxRecDepth 100000 in
theorem kl_clear1 (l : Launch) (D : va_G) (ct : Nat → ClassId) (ad tb : Nat → Nat) (qo : Nat) (M : Nat → Nat → Int64) (Pl : Nat → Nat) (C V o : Nat → Int64) (hl0 : l.stackTraces = false) (sz : Nat) (x : Int32) (hbad : x < 0 ∨ ¬ x ≤ nI 7) : Met l yL_clear wsL_clear ({ frames := 8, cells := 1, slots := 6, locals := 126 }) (kr_P D vwCl (kw_T ct) (kw_B tb) [.ref (ad 0), .int x] (kw_X ct ad M Pl C V ++ kw_O ct qo o) sz) (va_Qi (S := Unit) (fun r _ => r = nI 1) (kr_B D vwCl (kw_T ct) (fun u => kw_X ct ad M Pl C V ++ kw_O ct qo o) (va_A (kw_X ct ad M Pl C V ++ kw_O ct qo o) sz)) (va_A (kw_X ct ad M Pl C V ++ kw_O ct qo o) sz)) 1 6 (va_A (kw_X ct ad M Pl C V ++ kw_O ct qo o) sz) := by
  refine va_MetW (cc := cL_clear) (maxL := 3) (ret := some .int) (hh := [(0, 5, 8, 13)]) (by decide) rfl ?_
  intro p e s m args below meth c s₁ B hml hv
  obtain ⟨rfl, hsz, hP, hK, hD0, hB⟩ := hv
  have hx := B.exec
  have hb := B.bytes
  have hr := B.returns
  have hts := atoms_spec (ws := wsL_clear) B.pre
  have hown : s.vm.findClass RL = some m.cls := findClass_of_methodNamed B.named
  have hlocks := B.notSynchronized
  have htab := vx_table (x := yL_clear) B (hts (.codeWith yL_clear cL_clear 3 (some .int) [(0, 5, 8, 13)]) List.mem_cons_self)
  subst hsz
  have hD := hD0.self (sz := s.heap.size)
  generalize hAe : va_A (kw_X ct ad M Pl C V ++ kw_O ct qo o) s.heap.size = A at hD hB ⊢
  have hA : ∀ q : Nat, s.heap.size ≤ q → A q := fun q h => by rw [← hAe]; exact Or.inr h
  have hS : va_S A s.heap s.heap [] := va_S.rf
  have hl := lv_entry ([.ref (ad 0), .int x]) (n := 3) (Nat.le_of_ble_eq_true rfl)
  rw [lg_entry_eq]
  generalize (lg_sl ([.ref (ad 0), .int x]) ++ List.replicate (3 - (lg_sl ([.ref (ad 0), .int x])).length) Slot.unset).toArray = ls at hl ⊢
  have hl : lv_has ls 3 [(0, .ref (ad 0)), (1, .int x)] := hl
  refine lv_aload_n hx hb dL_clear_0 rfl (lv_at hl 0 rfl) ?_
  refine lv_iload_n hx hb dL_clear_1 rfl (lv_at hl 1 rfl) ?_
  refine kr_fxv (vx_runV (As := [.int x]) (rest := []) ⟨hx, hb, hml, hown, hts⟩ (kx_clear1 l D ct ad tb M Pl C V hl0 _ x hbad) (cwV 1 hts gL_clear_X0_clear rfl rfl rfl (by decide +kernel) ⟨Nat.le_of_ble_eq_true rfl, Nat.le_of_ble_eq_true rfl⟩) (kr_preV (kw_Bok tb) (q := (RX0, TX0, 4)) (q0 := 0) (ci := 0) _ (kr_left hP) hK (kr_leftD hD) hB hS hA rfl rfl rfl) rfl rfl hl.1 rfl (lv_room (Nat.le_of_ble_eq_true rfl)) dL_clear_2 ⟨Nat.le_of_ble_eq_true rfl, Nat.le_of_ble_eq_true rfl⟩) hP hD hS hA (fun ce q9 H locs hP hD hS hce hcv hcl => ?_)
  refine vx_catch (own := RL) (name := "java/lang/IllegalArgumentException") (E := "java/lang/IllegalArgumentException") hown [] ⟨0, 5, 8, 13⟩ [] htab (fun z h => absurd h List.not_mem_nil) (by decide) (by decide) (hts (.classLink RL 13 "java/lang/IllegalArgumentException") (by decide +kernel)) (va_Nw.use rfl hB.2.2.2.2.2.2.1) hce hcv hcl ?_
  refine lv_astore_n hx hb dL_clear_8 rfl hl (Nat.le_of_ble_eq_true rfl) rfl (fun ls hl => ?_)
  have hl : lv_has ls 3 [(2, .ref q9), (0, .ref (ad 0)), (1, .int x)] := hl
  refine lv_iconst (v := nI 1) hx hb dL_clear_9 rfl ?_
  exact W.iret hx hb hr (fun t ht hW => ⟨⟨_, (), rfl, rfl, by rw [ht]; exact hP, va_K.moved hW.alike hK, hD⟩, hS.F ht⟩) hS.2.2 dL_clear_10
set_option maxHeartbeats 4000000 in
set_option maxRecDepth 100000 in
theorem kl_take (l : Launch) (D : va_G) (ct : Nat → ClassId) (ad tb : Nat → Nat) (qo : Nat) (M : Nat → Nat → Int64) (Pl : Nat → Nat) (C V o : Nat → Int64) (sz : Nat) {k n : Nat} (hk : k < 8) (hn8 : n ≤ 8) (hq0 : (M k, Pl k).2 < 136) (v : Int64) : Met l yL_take wsL_take ({ frames := 5, cells := 0, slots := 0, locals := 122 }) (kr_P D vwCl (kw_T ct) (kw_B tb) [.ref (ad 0), .int (nI k), .long v, .int (nI n), .ref qo] (kw_X ct ad M Pl C V ++ kw_O ct qo o) sz) (va_Qi (S := ((Nat → Int64) × (Nat → Int64))) (fun r _ => r = nI 0) (kr_B D vwCl (kw_T ct) (fun u => kw_X ct ad (va_up M k (kk_ins (M k, Pl k) (kk_tb v) n).1) (va_up Pl k (kk_ins (M k, Pl k) (kk_tb v) n).2) u.1 u.2 ++ kw_O ct qo (vp_updL o 0 ((nI ((kk_ins (M k, Pl k) (kk_tb v) n).2)).toInt64))) (va_A (kw_X ct ad M Pl C V ++ kw_O ct qo o) sz)) (va_A (kw_X ct ad M Pl C V ++ kw_O ct qo o) sz)) 0 0 (va_A (kw_X ct ad M Pl C V ++ kw_O ct qo o) sz) := by
  refine va_MetW (cc := cL_take) (maxL := 7) (ret := some .int) (hh := [(0, 13, 16, 13)]) (by decide) rfl ?_
  intro p e s m args below meth c s₁ B hml hv
  obtain ⟨rfl, hsz, hP, hK, hD0, hB⟩ := hv
  have hx := B.exec
  have hb := B.bytes
  have hr := B.returns
  have hts := atoms_spec (ws := wsL_take) B.pre
  have hown : s.vm.findClass RL = some m.cls := findClass_of_methodNamed B.named
  have hlocks := B.notSynchronized
  have htab := vx_table (x := yL_clear) B (hts (.codeWith yL_take cL_take 7 (some .int) [(0, 13, 16, 13)]) List.mem_cons_self)
  subst hsz
  have hD := hD0.self (sz := s.heap.size)
  generalize hAe : va_A (kw_X ct ad M Pl C V ++ kw_O ct qo o) s.heap.size = A at hD hB ⊢
  have hA : ∀ q : Nat, s.heap.size ≤ q → A q := fun q h => by rw [← hAe]; exact Or.inr h
  have hS : va_S A s.heap s.heap [] := va_S.rf
  have hl := lv_entry ([.ref (ad 0), .int (nI k), .long v, .int (nI n), .ref qo]) (n := 7) (Nat.le_of_ble_eq_true rfl)
  rw [lg_entry_eq]
  generalize (lg_sl ([.ref (ad 0), .int (nI k), .long v, .int (nI n), .ref qo]) ++ List.replicate (7 - (lg_sl ([.ref (ad 0), .int (nI k), .long v, .int (nI n), .ref qo])).length) Slot.unset).toArray = ls at hl ⊢
  have hl : lv_has ls 7 [(0, .ref (ad 0)), (1, .int (nI k)), (2, .long v), (4, .int (nI n)), (5, .ref qo)] := hl
  refine lv_aload hx hb dL_take_0 (lv_at hl 4 rfl) ?_
  refine lv_iconst (v := nI 0) hx hb dL_take_2 rfl ?_
  refine lv_aload_n hx hb dL_take_3 rfl (lv_at hl 0 rfl) ?_
  refine lv_iload_n hx hb dL_take_4 rfl (lv_at hl 1 rfl) ?_
  refine lv_lload_n hx hb dL_take_5 rfl (lv_at hl 2 rfl) ?_
  refine lv_iload hx hb dL_take_6 (lv_at hl 3 rfl) ?_
  refine kr_fi (va_runV (As := [.int (nI k), .long v, .int (nI n)]) (rest := [.int (nI 0), .ref qo]) ⟨hx, hb, hml, hown, hts⟩ (kc_take l D ct ad tb M Pl C V _ hk hn8 hq0 v) (cwV 3 hts gL_take_X0_take rfl rfl rfl (by decide +kernel) ⟨Nat.le_of_ble_eq_true rfl, Nat.le_of_ble_eq_true rfl⟩) (kr_preV (kw_Bok tb) (q := (RX0, TX0, 4)) (q0 := 0) (ci := 0) _ (kr_left hP) hK (kr_leftD hD) hB hS hA rfl rfl rfl) rfl rfl hl.1 rfl (lv_room (Nat.le_of_ble_eq_true rfl)) dL_take_8 ⟨Nat.le_of_ble_eq_true rfl, Nat.le_of_ble_eq_true rfl⟩) hP hD hS hA (fun r u H locs hq hP hD hS => ?_)
  obtain rfl : r = nI ((kk_ins (M k, Pl k) (kk_tb v) n).2) := hq
  have hP : va_P D vwCl (kw_X ct ad (va_up M k (kk_ins (M k, Pl k) (kk_tb v) n).1) (va_up Pl k (kk_ins (M k, Pl k) (kk_tb v) n).2) u.1 u.2 ++ kw_O ct qo o) H := hP
  have hD : va_D A (kw_X ct ad (va_up M k (kk_ins (M k, Pl k) (kk_tb v) n).1) (va_up Pl k (kk_ins (M k, Pl k) (kk_tb v) n).2) u.1 u.2 ++ kw_O ct qo o) := hD
  refine lv_i2l hx hb dL_take_11 rfl ?_
  refine kr_last (w := kw_X ct ad (va_up M k (kk_ins (M k, Pl k) (kk_tb v) n).1) (va_up Pl k (kk_ins (M k, Pl k) (kk_tb v) n).2) u.1 u.2 ++ kw_O ct qo (vp_updL o 0 ((nI ((kk_ins (M k, Pl k) (kk_tb v) n).2)).toInt64))) hx hb hK hP hD hS 14 2 rfl rfl (n := 0) (by omega) (by omega) rfl dL_take_12 (fun H locs hP hD hS => ?_)
  refine lv_goto (tgt := 20) hx hb dL_take_13 rfl ?_
  refine lv_iconst (v := nI 0) hx hb dL_take_20 rfl ?_
  exact W.iret hx hb hr (fun t ht hW => ⟨⟨_, u, rfl, rfl, by rw [ht]; exact hP, va_K.moved hW.alike hK, hD⟩, hS.F ht⟩) hS.2.2 dL_take_21
set_option maxHeartbeats 4000000 in
set_option maxRecDepth 100000 in
theorem kl_fill (l : Launch) (D : va_G) (ct : Nat → ClassId) (ad tb : Nat → Nat) (qo : Nat) (M : Nat → Nat → Int64) (Pl : Nat → Nat) (C V o : Nat → Int64) (sz : Nat) {k n : Nat} (hk : k < 8) (hn8 : n ≤ 2000) (hq0 : (M k, Pl k).2 < 136) (v t : Int32) : Met l yL_fill wsL_fill ({ frames := 5, cells := 0, slots := 0, locals := 122 }) (kr_P D vwCl (kw_T ct) (kw_B tb) [.ref (ad 0), .int (nI k), .int v, .int t, .int (nI n), .ref qo] (kw_X ct ad M Pl C V ++ kw_O ct qo o) sz) (va_Qi (S := ((Nat → Int64) × (Nat → Int64))) (fun r _ => r = nI 0) (kr_B D vwCl (kw_T ct) (fun u => kw_X ct ad (va_up M k (kk_ins (M k, Pl k) (kk_fb v t) n).1) (va_up Pl k (kk_ins (M k, Pl k) (kk_fb v t) n).2) u.1 u.2 ++ kw_O ct qo (vp_updL o 0 ((nI ((kk_ins (M k, Pl k) (kk_fb v t) n).2)).toInt64))) (va_A (kw_X ct ad M Pl C V ++ kw_O ct qo o) sz)) (va_A (kw_X ct ad M Pl C V ++ kw_O ct qo o) sz)) 0 0 (va_A (kw_X ct ad M Pl C V ++ kw_O ct qo o) sz) := by
  refine va_MetW (cc := cL_fill) (maxL := 7) (ret := some .int) (hh := [(0, 14, 17, 13)]) (by decide) rfl ?_
  intro p e s m args below meth c s₁ B hml hv
  obtain ⟨rfl, hsz, hP, hK, hD0, hB⟩ := hv
  have hx := B.exec
  have hb := B.bytes
  have hr := B.returns
  have hts := atoms_spec (ws := wsL_fill) B.pre
  have hown : s.vm.findClass RL = some m.cls := findClass_of_methodNamed B.named
  have hlocks := B.notSynchronized
  have htab := vx_table (x := yL_clear) B (hts (.codeWith yL_fill cL_fill 7 (some .int) [(0, 14, 17, 13)]) List.mem_cons_self)
  subst hsz
  have hD := hD0.self (sz := s.heap.size)
  generalize hAe : va_A (kw_X ct ad M Pl C V ++ kw_O ct qo o) s.heap.size = A at hD hB ⊢
  have hA : ∀ q : Nat, s.heap.size ≤ q → A q := fun q h => by rw [← hAe]; exact Or.inr h
  have hS : va_S A s.heap s.heap [] := va_S.rf
  have hl := lv_entry ([.ref (ad 0), .int (nI k), .int v, .int t, .int (nI n), .ref qo]) (n := 7) (Nat.le_of_ble_eq_true rfl)
  rw [lg_entry_eq]
  generalize (lg_sl ([.ref (ad 0), .int (nI k), .int v, .int t, .int (nI n), .ref qo]) ++ List.replicate (7 - (lg_sl ([.ref (ad 0), .int (nI k), .int v, .int t, .int (nI n), .ref qo])).length) Slot.unset).toArray = ls at hl ⊢
  have hl : lv_has ls 7 [(0, .ref (ad 0)), (1, .int (nI k)), (2, .int v), (3, .int t), (4, .int (nI n)), (5, .ref qo)] := hl
  refine lv_aload hx hb dL_fill_0 (lv_at hl 5 rfl) ?_
  refine lv_iconst (v := nI 0) hx hb dL_fill_2 rfl ?_
  refine lv_aload_n hx hb dL_fill_3 rfl (lv_at hl 0 rfl) ?_
  refine lv_iload_n hx hb dL_fill_4 rfl (lv_at hl 1 rfl) ?_
  refine lv_iload_n hx hb dL_fill_5 rfl (lv_at hl 2 rfl) ?_
  refine lv_iload_n hx hb dL_fill_6 rfl (lv_at hl 3 rfl) ?_
  refine lv_iload hx hb dL_fill_7 (lv_at hl 4 rfl) ?_
  refine kr_fi (va_runV (As := [.int (nI k), .int v, .int t, .int (nI n)]) (rest := [.int (nI 0), .ref qo]) ⟨hx, hb, hml, hown, hts⟩ (kc_fill l D ct ad tb M Pl C V _ hk hn8 hq0 v t) (cwV 4 hts gL_fill_X0_fill rfl rfl rfl (by decide +kernel) ⟨Nat.le_of_ble_eq_true rfl, Nat.le_of_ble_eq_true rfl⟩) (kr_preV (kw_Bok tb) (q := (RX0, TX0, 4)) (q0 := 0) (ci := 0) _ (kr_left hP) hK (kr_leftD hD) hB hS hA rfl rfl rfl) rfl rfl hl.1 rfl (lv_room (Nat.le_of_ble_eq_true rfl)) dL_fill_9 ⟨Nat.le_of_ble_eq_true rfl, Nat.le_of_ble_eq_true rfl⟩) hP hD hS hA (fun r u H locs hq hP hD hS => ?_)
  obtain rfl : r = nI ((kk_ins (M k, Pl k) (kk_fb v t) n).2) := hq
  have hP : va_P D vwCl (kw_X ct ad (va_up M k (kk_ins (M k, Pl k) (kk_fb v t) n).1) (va_up Pl k (kk_ins (M k, Pl k) (kk_fb v t) n).2) u.1 u.2 ++ kw_O ct qo o) H := hP
  have hD : va_D A (kw_X ct ad (va_up M k (kk_ins (M k, Pl k) (kk_fb v t) n).1) (va_up Pl k (kk_ins (M k, Pl k) (kk_fb v t) n).2) u.1 u.2 ++ kw_O ct qo o) := hD
  refine lv_i2l hx hb dL_fill_12 rfl ?_
  refine kr_last (w := kw_X ct ad (va_up M k (kk_ins (M k, Pl k) (kk_fb v t) n).1) (va_up Pl k (kk_ins (M k, Pl k) (kk_fb v t) n).2) u.1 u.2 ++ kw_O ct qo (vp_updL o 0 ((nI ((kk_ins (M k, Pl k) (kk_fb v t) n).2)).toInt64))) hx hb hK hP hD hS 14 2 rfl rfl (n := 0) (by omega) (by omega) rfl dL_fill_13 (fun H locs hP hD hS => ?_)
  refine lv_goto (tgt := 21) hx hb dL_fill_14 rfl ?_
  refine lv_iconst (v := nI 0) hx hb dL_fill_21 rfl ?_
  exact W.iret hx hb hr (fun t ht hW => ⟨⟨_, u, rfl, rfl, by rw [ht]; exact hP, va_K.moved hW.alike hK, hD⟩, hS.F ht⟩) hS.2.2 dL_fill_22
set_option maxHeartbeats 4000000 in
set_option maxRecDepth 100000 in
theorem kl_take1 (l : Launch) (D : va_G) (ct : Nat → ClassId) (ad tb : Nat → Nat) (qo : Nat) (M : Nat → Nat → Int64) (Pl : Nat → Nat) (C V o : Nat → Int64) (hl0 : l.stackTraces = false) (sz : Nat) (x : Int32) (v : Int64) (y : Int32) (hbad : x < 0 ∨ ¬ x ≤ nI 7) : Met l yL_take wsL_take ({ frames := 8, cells := 1, slots := 6, locals := 128 }) (kr_P D vwCl (kw_T ct) (kw_B tb) [.ref (ad 0), .int x, .long v, .int y, .ref qo] (kw_X ct ad M Pl C V ++ kw_O ct qo o) sz) (va_Qi (S := Unit) (fun r _ => r = nI 1) (kr_B D vwCl (kw_T ct) (fun u => kw_X ct ad M Pl C V ++ kw_O ct qo o) (va_A (kw_X ct ad M Pl C V ++ kw_O ct qo o) sz)) (va_A (kw_X ct ad M Pl C V ++ kw_O ct qo o) sz)) 1 6 (va_A (kw_X ct ad M Pl C V ++ kw_O ct qo o) sz) := by
  refine va_MetW (cc := cL_take) (maxL := 7) (ret := some .int) (hh := [(0, 13, 16, 13)]) (by decide) rfl ?_
  intro p e s m args below meth c s₁ B hml hv
  obtain ⟨rfl, hsz, hP, hK, hD0, hB⟩ := hv
  have hx := B.exec
  have hb := B.bytes
  have hr := B.returns
  have hts := atoms_spec (ws := wsL_take) B.pre
  have hown : s.vm.findClass RL = some m.cls := findClass_of_methodNamed B.named
  have hlocks := B.notSynchronized
  have htab := vx_table (x := yL_clear) B (hts (.codeWith yL_take cL_take 7 (some .int) [(0, 13, 16, 13)]) List.mem_cons_self)
  subst hsz
  have hD := hD0.self (sz := s.heap.size)
  generalize hAe : va_A (kw_X ct ad M Pl C V ++ kw_O ct qo o) s.heap.size = A at hD hB ⊢
  have hA : ∀ q : Nat, s.heap.size ≤ q → A q := fun q h => by rw [← hAe]; exact Or.inr h
  have hS : va_S A s.heap s.heap [] := va_S.rf
  have hl := lv_entry ([.ref (ad 0), .int x, .long v, .int y, .ref qo]) (n := 7) (Nat.le_of_ble_eq_true rfl)
  rw [lg_entry_eq]
  generalize (lg_sl ([.ref (ad 0), .int x, .long v, .int y, .ref qo]) ++ List.replicate (7 - (lg_sl ([.ref (ad 0), .int x, .long v, .int y, .ref qo])).length) Slot.unset).toArray = ls at hl ⊢
  have hl : lv_has ls 7 [(0, .ref (ad 0)), (1, .int x), (2, .long v), (4, .int y), (5, .ref qo)] := hl
  refine lv_aload hx hb dL_take_0 (lv_at hl 4 rfl) ?_
  refine lv_iconst (v := nI 0) hx hb dL_take_2 rfl ?_
  refine lv_aload_n hx hb dL_take_3 rfl (lv_at hl 0 rfl) ?_
  refine lv_iload_n hx hb dL_take_4 rfl (lv_at hl 1 rfl) ?_
  refine lv_lload_n hx hb dL_take_5 rfl (lv_at hl 2 rfl) ?_
  refine lv_iload hx hb dL_take_6 (lv_at hl 3 rfl) ?_
  refine kr_fxi (vx_runV (As := [.int x, .long v, .int y]) (rest := [.int (nI 0), .ref qo]) ⟨hx, hb, hml, hown, hts⟩ (kx_take1 l D ct ad tb M Pl C V hl0 _ x v y hbad) (cwV 3 hts gL_take_X0_take rfl rfl rfl (by decide +kernel) ⟨Nat.le_of_ble_eq_true rfl, Nat.le_of_ble_eq_true rfl⟩) (kr_preV (kw_Bok tb) (q := (RX0, TX0, 4)) (q0 := 0) (ci := 0) _ (kr_left hP) hK (kr_leftD hD) hB hS hA rfl rfl rfl) rfl rfl hl.1 rfl (lv_room (Nat.le_of_ble_eq_true rfl)) dL_take_8 ⟨Nat.le_of_ble_eq_true rfl, Nat.le_of_ble_eq_true rfl⟩) hP hD hS hA (fun ce q9 H locs hP hD hS hce hcv hcl => ?_)
  refine vx_catch (own := RL) (name := "java/lang/IllegalArgumentException") (E := "java/lang/IllegalArgumentException") hown [] ⟨0, 13, 16, 13⟩ [] htab (fun z h => absurd h List.not_mem_nil) (by decide) (by decide) (hts (.classLink RL 13 "java/lang/IllegalArgumentException") (by decide +kernel)) (va_Nw.use rfl hB.2.2.2.2.2.2.1) hce hcv hcl ?_
  refine lv_astore hx hb dL_take_16 hl (Nat.le_of_ble_eq_true rfl) rfl (fun ls hl => ?_)
  have hl : lv_has ls 7 [(6, .ref q9), (0, .ref (ad 0)), (1, .int x), (2, .long v), (4, .int y), (5, .ref qo)] := hl
  refine lv_iconst (v := nI 1) hx hb dL_take_18 rfl ?_
  exact W.iret hx hb hr (fun t ht hW => ⟨⟨_, (), rfl, rfl, by rw [ht]; exact hP, va_K.moved hW.alike hK, hD⟩, hS.F ht⟩) hS.2.2 dL_take_19
set_option maxHeartbeats 4000000 in
set_option maxRecDepth 100000 in
theorem kl_take2 (l : Launch) (D : va_G) (ct : Nat → ClassId) (ad tb : Nat → Nat) (qo : Nat) (M : Nat → Nat → Int64) (Pl : Nat → Nat) (C V o : Nat → Int64) (hl0 : l.stackTraces = false) (sz : Nat) {k : Nat} (hk : k < 8) (v : Int64) (x : Int32) (hbad : x < 0 ∨ ¬ x ≤ nI 8) : Met l yL_take wsL_take ({ frames := 8, cells := 1, slots := 6, locals := 128 }) (kr_P D vwCl (kw_T ct) (kw_B tb) [.ref (ad 0), .int (nI k), .long v, .int x, .ref qo] (kw_X ct ad M Pl C V ++ kw_O ct qo o) sz) (va_Qi (S := Unit) (fun r _ => r = nI 1) (kr_B D vwCl (kw_T ct) (fun u => kw_X ct ad M Pl C V ++ kw_O ct qo o) (va_A (kw_X ct ad M Pl C V ++ kw_O ct qo o) sz)) (va_A (kw_X ct ad M Pl C V ++ kw_O ct qo o) sz)) 1 6 (va_A (kw_X ct ad M Pl C V ++ kw_O ct qo o) sz) := by
  refine va_MetW (cc := cL_take) (maxL := 7) (ret := some .int) (hh := [(0, 13, 16, 13)]) (by decide) rfl ?_
  intro p e s m args below meth c s₁ B hml hv
  obtain ⟨rfl, hsz, hP, hK, hD0, hB⟩ := hv
  have hx := B.exec
  have hb := B.bytes
  have hr := B.returns
  have hts := atoms_spec (ws := wsL_take) B.pre
  have hown : s.vm.findClass RL = some m.cls := findClass_of_methodNamed B.named
  have hlocks := B.notSynchronized
  have htab := vx_table (x := yL_clear) B (hts (.codeWith yL_take cL_take 7 (some .int) [(0, 13, 16, 13)]) List.mem_cons_self)
  subst hsz
  have hD := hD0.self (sz := s.heap.size)
  generalize hAe : va_A (kw_X ct ad M Pl C V ++ kw_O ct qo o) s.heap.size = A at hD hB ⊢
  have hA : ∀ q : Nat, s.heap.size ≤ q → A q := fun q h => by rw [← hAe]; exact Or.inr h
  have hS : va_S A s.heap s.heap [] := va_S.rf
  have hl := lv_entry ([.ref (ad 0), .int (nI k), .long v, .int x, .ref qo]) (n := 7) (Nat.le_of_ble_eq_true rfl)
  rw [lg_entry_eq]
  generalize (lg_sl ([.ref (ad 0), .int (nI k), .long v, .int x, .ref qo]) ++ List.replicate (7 - (lg_sl ([.ref (ad 0), .int (nI k), .long v, .int x, .ref qo])).length) Slot.unset).toArray = ls at hl ⊢
  have hl : lv_has ls 7 [(0, .ref (ad 0)), (1, .int (nI k)), (2, .long v), (4, .int x), (5, .ref qo)] := hl
  refine lv_aload hx hb dL_take_0 (lv_at hl 4 rfl) ?_
  refine lv_iconst (v := nI 0) hx hb dL_take_2 rfl ?_
  refine lv_aload_n hx hb dL_take_3 rfl (lv_at hl 0 rfl) ?_
  refine lv_iload_n hx hb dL_take_4 rfl (lv_at hl 1 rfl) ?_
  refine lv_lload_n hx hb dL_take_5 rfl (lv_at hl 2 rfl) ?_
  refine lv_iload hx hb dL_take_6 (lv_at hl 3 rfl) ?_
  refine kr_fxi (vx_runV (As := [.int (nI k), .long v, .int x]) (rest := [.int (nI 0), .ref qo]) ⟨hx, hb, hml, hown, hts⟩ (kx_take2 l D ct ad tb M Pl C V hl0 _ hk v x hbad) (cwV 3 hts gL_take_X0_take rfl rfl rfl (by decide +kernel) ⟨Nat.le_of_ble_eq_true rfl, Nat.le_of_ble_eq_true rfl⟩) (kr_preV (kw_Bok tb) (q := (RX0, TX0, 4)) (q0 := 0) (ci := 0) _ (kr_left hP) hK (kr_leftD hD) hB hS hA rfl rfl rfl) rfl rfl hl.1 rfl (lv_room (Nat.le_of_ble_eq_true rfl)) dL_take_8 ⟨Nat.le_of_ble_eq_true rfl, Nat.le_of_ble_eq_true rfl⟩) hP hD hS hA (fun ce q9 H locs hP hD hS hce hcv hcl => ?_)
  refine vx_catch (own := RL) (name := "java/lang/IllegalArgumentException") (E := "java/lang/IllegalArgumentException") hown [] ⟨0, 13, 16, 13⟩ [] htab (fun z h => absurd h List.not_mem_nil) (by decide) (by decide) (hts (.classLink RL 13 "java/lang/IllegalArgumentException") (by decide +kernel)) (va_Nw.use rfl hB.2.2.2.2.2.2.1) hce hcv hcl ?_
  refine lv_astore hx hb dL_take_16 hl (Nat.le_of_ble_eq_true rfl) rfl (fun ls hl => ?_)
  have hl : lv_has ls 7 [(6, .ref q9), (0, .ref (ad 0)), (1, .int (nI k)), (2, .long v), (4, .int x), (5, .ref qo)] := hl
  refine lv_iconst (v := nI 1) hx hb dL_take_18 rfl ?_
  exact W.iret hx hb hr (fun t ht hW => ⟨⟨_, (), rfl, rfl, by rw [ht]; exact hP, va_K.moved hW.alike hK, hD⟩, hS.F ht⟩) hS.2.2 dL_take_19
set_option maxHeartbeats 4000000 in
set_option maxRecDepth 100000 in
theorem kl_fill1 (l : Launch) (D : va_G) (ct : Nat → ClassId) (ad tb : Nat → Nat) (qo : Nat) (M : Nat → Nat → Int64) (Pl : Nat → Nat) (C V o : Nat → Int64) (hl0 : l.stackTraces = false) (sz : Nat) (x v t y : Int32) (hbad : x < 0 ∨ ¬ x ≤ nI 7) : Met l yL_fill wsL_fill ({ frames := 8, cells := 1, slots := 6, locals := 128 }) (kr_P D vwCl (kw_T ct) (kw_B tb) [.ref (ad 0), .int x, .int v, .int t, .int y, .ref qo] (kw_X ct ad M Pl C V ++ kw_O ct qo o) sz) (va_Qi (S := Unit) (fun r _ => r = nI 1) (kr_B D vwCl (kw_T ct) (fun u => kw_X ct ad M Pl C V ++ kw_O ct qo o) (va_A (kw_X ct ad M Pl C V ++ kw_O ct qo o) sz)) (va_A (kw_X ct ad M Pl C V ++ kw_O ct qo o) sz)) 1 6 (va_A (kw_X ct ad M Pl C V ++ kw_O ct qo o) sz) := by
  refine va_MetW (cc := cL_fill) (maxL := 7) (ret := some .int) (hh := [(0, 14, 17, 13)]) (by decide) rfl ?_
  intro p e s m args below meth c s₁ B hml hv
  obtain ⟨rfl, hsz, hP, hK, hD0, hB⟩ := hv
  have hx := B.exec
  have hb := B.bytes
  have hr := B.returns
  have hts := atoms_spec (ws := wsL_fill) B.pre
  have hown : s.vm.findClass RL = some m.cls := findClass_of_methodNamed B.named
  have hlocks := B.notSynchronized
  have htab := vx_table (x := yL_clear) B (hts (.codeWith yL_fill cL_fill 7 (some .int) [(0, 14, 17, 13)]) List.mem_cons_self)
  subst hsz
  have hD := hD0.self (sz := s.heap.size)
  generalize hAe : va_A (kw_X ct ad M Pl C V ++ kw_O ct qo o) s.heap.size = A at hD hB ⊢
  have hA : ∀ q : Nat, s.heap.size ≤ q → A q := fun q h => by rw [← hAe]; exact Or.inr h
  have hS : va_S A s.heap s.heap [] := va_S.rf
  have hl := lv_entry ([.ref (ad 0), .int x, .int v, .int t, .int y, .ref qo]) (n := 7) (Nat.le_of_ble_eq_true rfl)
  rw [lg_entry_eq]
  generalize (lg_sl ([.ref (ad 0), .int x, .int v, .int t, .int y, .ref qo]) ++ List.replicate (7 - (lg_sl ([.ref (ad 0), .int x, .int v, .int t, .int y, .ref qo])).length) Slot.unset).toArray = ls at hl ⊢
  have hl : lv_has ls 7 [(0, .ref (ad 0)), (1, .int x), (2, .int v), (3, .int t), (4, .int y), (5, .ref qo)] := hl
  refine lv_aload hx hb dL_fill_0 (lv_at hl 5 rfl) ?_
  refine lv_iconst (v := nI 0) hx hb dL_fill_2 rfl ?_
  refine lv_aload_n hx hb dL_fill_3 rfl (lv_at hl 0 rfl) ?_
  refine lv_iload_n hx hb dL_fill_4 rfl (lv_at hl 1 rfl) ?_
  refine lv_iload_n hx hb dL_fill_5 rfl (lv_at hl 2 rfl) ?_
  refine lv_iload_n hx hb dL_fill_6 rfl (lv_at hl 3 rfl) ?_
  refine lv_iload hx hb dL_fill_7 (lv_at hl 4 rfl) ?_
  refine kr_fxi (vx_runV (As := [.int x, .int v, .int t, .int y]) (rest := [.int (nI 0), .ref qo]) ⟨hx, hb, hml, hown, hts⟩ (kx_fill1 l D ct ad tb M Pl C V hl0 _ x v t y hbad) (cwV 4 hts gL_fill_X0_fill rfl rfl rfl (by decide +kernel) ⟨Nat.le_of_ble_eq_true rfl, Nat.le_of_ble_eq_true rfl⟩) (kr_preV (kw_Bok tb) (q := (RX0, TX0, 4)) (q0 := 0) (ci := 0) _ (kr_left hP) hK (kr_leftD hD) hB hS hA rfl rfl rfl) rfl rfl hl.1 rfl (lv_room (Nat.le_of_ble_eq_true rfl)) dL_fill_9 ⟨Nat.le_of_ble_eq_true rfl, Nat.le_of_ble_eq_true rfl⟩) hP hD hS hA (fun ce q9 H locs hP hD hS hce hcv hcl => ?_)
  refine vx_catch (own := RL) (name := "java/lang/IllegalArgumentException") (E := "java/lang/IllegalArgumentException") hown [] ⟨0, 14, 17, 13⟩ [] htab (fun z h => absurd h List.not_mem_nil) (by decide) (by decide) (hts (.classLink RL 13 "java/lang/IllegalArgumentException") (by decide +kernel)) (va_Nw.use rfl hB.2.2.2.2.2.2.1) hce hcv hcl ?_
  refine lv_astore hx hb dL_fill_17 hl (Nat.le_of_ble_eq_true rfl) rfl (fun ls hl => ?_)
  have hl : lv_has ls 7 [(6, .ref q9), (0, .ref (ad 0)), (1, .int x), (2, .int v), (3, .int t), (4, .int y), (5, .ref qo)] := hl
  refine lv_iconst (v := nI 1) hx hb dL_fill_19 rfl ?_
  exact W.iret hx hb hr (fun t ht hW => ⟨⟨_, (), rfl, rfl, by rw [ht]; exact hP, va_K.moved hW.alike hK, hD⟩, hS.F ht⟩) hS.2.2 dL_fill_20
set_option maxHeartbeats 4000000 in
set_option maxRecDepth 100000 in
theorem kl_fill2 (l : Launch) (D : va_G) (ct : Nat → ClassId) (ad tb : Nat → Nat) (qo : Nat) (M : Nat → Nat → Int64) (Pl : Nat → Nat) (C V o : Nat → Int64) (hl0 : l.stackTraces = false) (sz : Nat) {k : Nat} (hk : k < 8) (v t x : Int32) (hbad : x < 0 ∨ ¬ x ≤ nI 2000) : Met l yL_fill wsL_fill ({ frames := 8, cells := 1, slots := 6, locals := 128 }) (kr_P D vwCl (kw_T ct) (kw_B tb) [.ref (ad 0), .int (nI k), .int v, .int t, .int x, .ref qo] (kw_X ct ad M Pl C V ++ kw_O ct qo o) sz) (va_Qi (S := Unit) (fun r _ => r = nI 1) (kr_B D vwCl (kw_T ct) (fun u => kw_X ct ad M Pl C V ++ kw_O ct qo o) (va_A (kw_X ct ad M Pl C V ++ kw_O ct qo o) sz)) (va_A (kw_X ct ad M Pl C V ++ kw_O ct qo o) sz)) 1 6 (va_A (kw_X ct ad M Pl C V ++ kw_O ct qo o) sz) := by
  refine va_MetW (cc := cL_fill) (maxL := 7) (ret := some .int) (hh := [(0, 14, 17, 13)]) (by decide) rfl ?_
  intro p e s m args below meth c s₁ B hml hv
  obtain ⟨rfl, hsz, hP, hK, hD0, hB⟩ := hv
  have hx := B.exec
  have hb := B.bytes
  have hr := B.returns
  have hts := atoms_spec (ws := wsL_fill) B.pre
  have hown : s.vm.findClass RL = some m.cls := findClass_of_methodNamed B.named
  have hlocks := B.notSynchronized
  have htab := vx_table (x := yL_clear) B (hts (.codeWith yL_fill cL_fill 7 (some .int) [(0, 14, 17, 13)]) List.mem_cons_self)
  subst hsz
  have hD := hD0.self (sz := s.heap.size)
  generalize hAe : va_A (kw_X ct ad M Pl C V ++ kw_O ct qo o) s.heap.size = A at hD hB ⊢
  have hA : ∀ q : Nat, s.heap.size ≤ q → A q := fun q h => by rw [← hAe]; exact Or.inr h
  have hS : va_S A s.heap s.heap [] := va_S.rf
  have hl := lv_entry ([.ref (ad 0), .int (nI k), .int v, .int t, .int x, .ref qo]) (n := 7) (Nat.le_of_ble_eq_true rfl)
  rw [lg_entry_eq]
  generalize (lg_sl ([.ref (ad 0), .int (nI k), .int v, .int t, .int x, .ref qo]) ++ List.replicate (7 - (lg_sl ([.ref (ad 0), .int (nI k), .int v, .int t, .int x, .ref qo])).length) Slot.unset).toArray = ls at hl ⊢
  have hl : lv_has ls 7 [(0, .ref (ad 0)), (1, .int (nI k)), (2, .int v), (3, .int t), (4, .int x), (5, .ref qo)] := hl
  refine lv_aload hx hb dL_fill_0 (lv_at hl 5 rfl) ?_
  refine lv_iconst (v := nI 0) hx hb dL_fill_2 rfl ?_
  refine lv_aload_n hx hb dL_fill_3 rfl (lv_at hl 0 rfl) ?_
  refine lv_iload_n hx hb dL_fill_4 rfl (lv_at hl 1 rfl) ?_
  refine lv_iload_n hx hb dL_fill_5 rfl (lv_at hl 2 rfl) ?_
  refine lv_iload_n hx hb dL_fill_6 rfl (lv_at hl 3 rfl) ?_
  refine lv_iload hx hb dL_fill_7 (lv_at hl 4 rfl) ?_
  refine kr_fxi (vx_runV (As := [.int (nI k), .int v, .int t, .int x]) (rest := [.int (nI 0), .ref qo]) ⟨hx, hb, hml, hown, hts⟩ (kx_fill2 l D ct ad tb M Pl C V hl0 _ hk v t x hbad) (cwV 4 hts gL_fill_X0_fill rfl rfl rfl (by decide +kernel) ⟨Nat.le_of_ble_eq_true rfl, Nat.le_of_ble_eq_true rfl⟩) (kr_preV (kw_Bok tb) (q := (RX0, TX0, 4)) (q0 := 0) (ci := 0) _ (kr_left hP) hK (kr_leftD hD) hB hS hA rfl rfl rfl) rfl rfl hl.1 rfl (lv_room (Nat.le_of_ble_eq_true rfl)) dL_fill_9 ⟨Nat.le_of_ble_eq_true rfl, Nat.le_of_ble_eq_true rfl⟩) hP hD hS hA (fun ce q9 H locs hP hD hS hce hcv hcl => ?_)
  refine vx_catch (own := RL) (name := "java/lang/IllegalArgumentException") (E := "java/lang/IllegalArgumentException") hown [] ⟨0, 14, 17, 13⟩ [] htab (fun z h => absurd h List.not_mem_nil) (by decide) (by decide) (hts (.classLink RL 13 "java/lang/IllegalArgumentException") (by decide +kernel)) (va_Nw.use rfl hB.2.2.2.2.2.2.1) hce hcv hcl ?_
  refine lv_astore hx hb dL_fill_17 hl (Nat.le_of_ble_eq_true rfl) rfl (fun ls hl => ?_)
  have hl : lv_has ls 7 [(6, .ref q9), (0, .ref (ad 0)), (1, .int (nI k)), (2, .int v), (3, .int t), (4, .int x), (5, .ref qo)] := hl
  refine lv_iconst (v := nI 1) hx hb dL_fill_19 rfl ?_
  exact W.iret hx hb hr (fun t ht hW => ⟨⟨_, (), rfl, rfl, by rw [ht]; exact hP, va_K.moved hW.alike hK, hD⟩, hS.F ht⟩) hS.2.2 dL_fill_20
set_option maxHeartbeats 4000000 in
set_option maxRecDepth 100000 in
theorem kl_copy (l : Launch) (D : va_G) (ct : Nat → ClassId) (ad tb : Nat → Nat) (qo : Nat) (M : Nat → Nat → Int64) (Pl : Nat → Nat) (C V o : Nat → Int64) (sz : Nat) {k t : Nat} (hk : k < 8) (ht8 : t < 8) : Met l yL_copy wsL_copy ({ frames := 3, cells := 0, slots := 0, locals := 62 }) (kr_P D vwCl (kw_T ct) (kw_B tb) [.ref (ad 0), .int (nI k), .int (nI t)] (kw_X ct ad M Pl C V ++ kw_O ct qo o) sz) (va_Qi (S := Unit) (fun r _ => r = nI 0) (kr_B D vwCl (kw_T ct) (fun u => kw_X ct ad (va_up M t (M k)) (va_up Pl t (Pl k)) C V ++ kw_O ct qo o) (va_A (kw_X ct ad M Pl C V ++ kw_O ct qo o) sz)) (va_A (kw_X ct ad M Pl C V ++ kw_O ct qo o) sz)) 0 0 (va_A (kw_X ct ad M Pl C V ++ kw_O ct qo o) sz) := by
  refine va_MetW (cc := cL_copy) (maxL := 4) (ret := some .int) (hh := [(0, 6, 9, 13)]) (by decide) rfl ?_
  intro p e s m args below meth c s₁ B hml hv
  obtain ⟨rfl, hsz, hP, hK, hD0, hB⟩ := hv
  have hx := B.exec
  have hb := B.bytes
  have hr := B.returns
  have hts := atoms_spec (ws := wsL_copy) B.pre
  have hown : s.vm.findClass RL = some m.cls := findClass_of_methodNamed B.named
  have hlocks := B.notSynchronized
  have htab := vx_table (x := yL_clear) B (hts (.codeWith yL_copy cL_copy 4 (some .int) [(0, 6, 9, 13)]) List.mem_cons_self)
  subst hsz
  have hD := hD0.self (sz := s.heap.size)
  generalize hAe : va_A (kw_X ct ad M Pl C V ++ kw_O ct qo o) s.heap.size = A at hD hB ⊢
  have hA : ∀ q : Nat, s.heap.size ≤ q → A q := fun q h => by rw [← hAe]; exact Or.inr h
  have hS : va_S A s.heap s.heap [] := va_S.rf
  have hl := lv_entry ([.ref (ad 0), .int (nI k), .int (nI t)]) (n := 4) (Nat.le_of_ble_eq_true rfl)
  rw [lg_entry_eq]
  generalize (lg_sl ([.ref (ad 0), .int (nI k), .int (nI t)]) ++ List.replicate (4 - (lg_sl ([.ref (ad 0), .int (nI k), .int (nI t)])).length) Slot.unset).toArray = ls at hl ⊢
  have hl : lv_has ls 4 [(0, .ref (ad 0)), (1, .int (nI k)), (2, .int (nI t))] := hl
  refine lv_aload_n hx hb dL_copy_0 rfl (lv_at hl 0 rfl) ?_
  refine lv_iload_n hx hb dL_copy_1 rfl (lv_at hl 1 rfl) ?_
  refine lv_iload_n hx hb dL_copy_2 rfl (lv_at hl 2 rfl) ?_
  refine kr_fv (va_runV (As := [.int (nI k), .int (nI t)]) (rest := []) ⟨hx, hb, hml, hown, hts⟩ (kc_copy l D ct ad tb M Pl C V _ hk ht8) (cwV 2 hts gL_copy_X0_copy rfl rfl rfl (by decide +kernel) ⟨Nat.le_of_ble_eq_true rfl, Nat.le_of_ble_eq_true rfl⟩) (kr_preV (kw_Bok tb) (q := (RX0, TX0, 4)) (q0 := 0) (ci := 0) _ (kr_left hP) hK (kr_leftD hD) hB hS hA rfl rfl rfl) rfl rfl hl.1 rfl (lv_room (Nat.le_of_ble_eq_true rfl)) dL_copy_3 ⟨Nat.le_of_ble_eq_true rfl, Nat.le_of_ble_eq_true rfl⟩) hP hD hS hA (fun u H locs hq hP hD hS => ?_)
  have hP : va_P D vwCl (kw_X ct ad (va_up M t (M k)) (va_up Pl t (Pl k)) C V ++ kw_O ct qo o) H := hP
  have hD : va_D A (kw_X ct ad (va_up M t (M k)) (va_up Pl t (Pl k)) C V ++ kw_O ct qo o) := hD
  refine lv_goto (tgt := 12) hx hb dL_copy_6 rfl ?_
  refine lv_iconst (v := nI 0) hx hb dL_copy_12 rfl ?_
  exact W.iret hx hb hr (fun t ht hW => ⟨⟨_, (), rfl, rfl, by rw [ht]; exact hP, va_K.moved hW.alike hK, hD⟩, hS.F ht⟩) hS.2.2 dL_copy_13
set_option maxHeartbeats 4000000 in
set_option maxRecDepth 100000 in
theorem kl_copy1 (l : Launch) (D : va_G) (ct : Nat → ClassId) (ad tb : Nat → Nat) (qo : Nat) (M : Nat → Nat → Int64) (Pl : Nat → Nat) (C V o : Nat → Int64) (hl0 : l.stackTraces = false) (sz : Nat) (x y : Int32) (hbad : x < 0 ∨ ¬ x ≤ nI 7) : Met l yL_copy wsL_copy ({ frames := 8, cells := 1, slots := 6, locals := 125 }) (kr_P D vwCl (kw_T ct) (kw_B tb) [.ref (ad 0), .int x, .int y] (kw_X ct ad M Pl C V ++ kw_O ct qo o) sz) (va_Qi (S := Unit) (fun r _ => r = nI 1) (kr_B D vwCl (kw_T ct) (fun u => kw_X ct ad M Pl C V ++ kw_O ct qo o) (va_A (kw_X ct ad M Pl C V ++ kw_O ct qo o) sz)) (va_A (kw_X ct ad M Pl C V ++ kw_O ct qo o) sz)) 1 6 (va_A (kw_X ct ad M Pl C V ++ kw_O ct qo o) sz) := by
  refine va_MetW (cc := cL_copy) (maxL := 4) (ret := some .int) (hh := [(0, 6, 9, 13)]) (by decide) rfl ?_
  intro p e s m args below meth c s₁ B hml hv
  obtain ⟨rfl, hsz, hP, hK, hD0, hB⟩ := hv
  have hx := B.exec
  have hb := B.bytes
  have hr := B.returns
  have hts := atoms_spec (ws := wsL_copy) B.pre
  have hown : s.vm.findClass RL = some m.cls := findClass_of_methodNamed B.named
  have hlocks := B.notSynchronized
  have htab := vx_table (x := yL_clear) B (hts (.codeWith yL_copy cL_copy 4 (some .int) [(0, 6, 9, 13)]) List.mem_cons_self)
  subst hsz
  have hD := hD0.self (sz := s.heap.size)
  generalize hAe : va_A (kw_X ct ad M Pl C V ++ kw_O ct qo o) s.heap.size = A at hD hB ⊢
  have hA : ∀ q : Nat, s.heap.size ≤ q → A q := fun q h => by rw [← hAe]; exact Or.inr h
  have hS : va_S A s.heap s.heap [] := va_S.rf
  have hl := lv_entry ([.ref (ad 0), .int x, .int y]) (n := 4) (Nat.le_of_ble_eq_true rfl)
  rw [lg_entry_eq]
  generalize (lg_sl ([.ref (ad 0), .int x, .int y]) ++ List.replicate (4 - (lg_sl ([.ref (ad 0), .int x, .int y])).length) Slot.unset).toArray = ls at hl ⊢
  have hl : lv_has ls 4 [(0, .ref (ad 0)), (1, .int x), (2, .int y)] := hl
  refine lv_aload_n hx hb dL_copy_0 rfl (lv_at hl 0 rfl) ?_
  refine lv_iload_n hx hb dL_copy_1 rfl (lv_at hl 1 rfl) ?_
  refine lv_iload_n hx hb dL_copy_2 rfl (lv_at hl 2 rfl) ?_
  refine kr_fxv (vx_runV (As := [.int x, .int y]) (rest := []) ⟨hx, hb, hml, hown, hts⟩ (kx_copy1 l D ct ad tb M Pl C V hl0 _ x y hbad) (cwV 2 hts gL_copy_X0_copy rfl rfl rfl (by decide +kernel) ⟨Nat.le_of_ble_eq_true rfl, Nat.le_of_ble_eq_true rfl⟩) (kr_preV (kw_Bok tb) (q := (RX0, TX0, 4)) (q0 := 0) (ci := 0) _ (kr_left hP) hK (kr_leftD hD) hB hS hA rfl rfl rfl) rfl rfl hl.1 rfl (lv_room (Nat.le_of_ble_eq_true rfl)) dL_copy_3 ⟨Nat.le_of_ble_eq_true rfl, Nat.le_of_ble_eq_true rfl⟩) hP hD hS hA (fun ce q9 H locs hP hD hS hce hcv hcl => ?_)
  refine vx_catch (own := RL) (name := "java/lang/IllegalArgumentException") (E := "java/lang/IllegalArgumentException") hown [] ⟨0, 6, 9, 13⟩ [] htab (fun z h => absurd h List.not_mem_nil) (by decide) (by decide) (hts (.classLink RL 13 "java/lang/IllegalArgumentException") (by decide +kernel)) (va_Nw.use rfl hB.2.2.2.2.2.2.1) hce hcv hcl ?_
  refine lv_astore_n hx hb dL_copy_9 rfl hl (Nat.le_of_ble_eq_true rfl) rfl (fun ls hl => ?_)
  have hl : lv_has ls 4 [(3, .ref q9), (0, .ref (ad 0)), (1, .int x), (2, .int y)] := hl
  refine lv_iconst (v := nI 1) hx hb dL_copy_10 rfl ?_
  exact W.iret hx hb hr (fun t ht hW => ⟨⟨_, (), rfl, rfl, by rw [ht]; exact hP, va_K.moved hW.alike hK, hD⟩, hS.F ht⟩) hS.2.2 dL_copy_11
set_option maxHeartbeats 4000000 in
set_option maxRecDepth 100000 in
theorem kl_copy2 (l : Launch) (D : va_G) (ct : Nat → ClassId) (ad tb : Nat → Nat) (qo : Nat) (M : Nat → Nat → Int64) (Pl : Nat → Nat) (C V o : Nat → Int64) (hl0 : l.stackTraces = false) (sz : Nat) {k : Nat} (hk : k < 8) (x : Int32) (hbad : x < 0 ∨ ¬ x ≤ nI 7) : Met l yL_copy wsL_copy ({ frames := 8, cells := 1, slots := 6, locals := 125 }) (kr_P D vwCl (kw_T ct) (kw_B tb) [.ref (ad 0), .int (nI k), .int x] (kw_X ct ad M Pl C V ++ kw_O ct qo o) sz) (va_Qi (S := Unit) (fun r _ => r = nI 1) (kr_B D vwCl (kw_T ct) (fun u => kw_X ct ad M Pl C V ++ kw_O ct qo o) (va_A (kw_X ct ad M Pl C V ++ kw_O ct qo o) sz)) (va_A (kw_X ct ad M Pl C V ++ kw_O ct qo o) sz)) 1 6 (va_A (kw_X ct ad M Pl C V ++ kw_O ct qo o) sz) := by
  refine va_MetW (cc := cL_copy) (maxL := 4) (ret := some .int) (hh := [(0, 6, 9, 13)]) (by decide) rfl ?_
  intro p e s m args below meth c s₁ B hml hv
  obtain ⟨rfl, hsz, hP, hK, hD0, hB⟩ := hv
  have hx := B.exec
  have hb := B.bytes
  have hr := B.returns
  have hts := atoms_spec (ws := wsL_copy) B.pre
  have hown : s.vm.findClass RL = some m.cls := findClass_of_methodNamed B.named
  have hlocks := B.notSynchronized
  have htab := vx_table (x := yL_clear) B (hts (.codeWith yL_copy cL_copy 4 (some .int) [(0, 6, 9, 13)]) List.mem_cons_self)
  subst hsz
  have hD := hD0.self (sz := s.heap.size)
  generalize hAe : va_A (kw_X ct ad M Pl C V ++ kw_O ct qo o) s.heap.size = A at hD hB ⊢
  have hA : ∀ q : Nat, s.heap.size ≤ q → A q := fun q h => by rw [← hAe]; exact Or.inr h
  have hS : va_S A s.heap s.heap [] := va_S.rf
  have hl := lv_entry ([.ref (ad 0), .int (nI k), .int x]) (n := 4) (Nat.le_of_ble_eq_true rfl)
  rw [lg_entry_eq]
  generalize (lg_sl ([.ref (ad 0), .int (nI k), .int x]) ++ List.replicate (4 - (lg_sl ([.ref (ad 0), .int (nI k), .int x])).length) Slot.unset).toArray = ls at hl ⊢
  have hl : lv_has ls 4 [(0, .ref (ad 0)), (1, .int (nI k)), (2, .int x)] := hl
  refine lv_aload_n hx hb dL_copy_0 rfl (lv_at hl 0 rfl) ?_
  refine lv_iload_n hx hb dL_copy_1 rfl (lv_at hl 1 rfl) ?_
  refine lv_iload_n hx hb dL_copy_2 rfl (lv_at hl 2 rfl) ?_
  refine kr_fxv (vx_runV (As := [.int (nI k), .int x]) (rest := []) ⟨hx, hb, hml, hown, hts⟩ (kx_copy2 l D ct ad tb M Pl C V hl0 _ hk x hbad) (cwV 2 hts gL_copy_X0_copy rfl rfl rfl (by decide +kernel) ⟨Nat.le_of_ble_eq_true rfl, Nat.le_of_ble_eq_true rfl⟩) (kr_preV (kw_Bok tb) (q := (RX0, TX0, 4)) (q0 := 0) (ci := 0) _ (kr_left hP) hK (kr_leftD hD) hB hS hA rfl rfl rfl) rfl rfl hl.1 rfl (lv_room (Nat.le_of_ble_eq_true rfl)) dL_copy_3 ⟨Nat.le_of_ble_eq_true rfl, Nat.le_of_ble_eq_true rfl⟩) hP hD hS hA (fun ce q9 H locs hP hD hS hce hcv hcl => ?_)
  refine vx_catch (own := RL) (name := "java/lang/IllegalArgumentException") (E := "java/lang/IllegalArgumentException") hown [] ⟨0, 6, 9, 13⟩ [] htab (fun z h => absurd h List.not_mem_nil) (by decide) (by decide) (hts (.classLink RL 13 "java/lang/IllegalArgumentException") (by decide +kernel)) (va_Nw.use rfl hB.2.2.2.2.2.2.1) hce hcv hcl ?_
  refine lv_astore_n hx hb dL_copy_9 rfl hl (Nat.le_of_ble_eq_true rfl) rfl (fun ls hl => ?_)
  have hl : lv_has ls 4 [(3, .ref q9), (0, .ref (ad 0)), (1, .int (nI k)), (2, .int x)] := hl
  refine lv_iconst (v := nI 1) hx hb dL_copy_10 rfl ?_
  exact W.iret hx hb hr (fun t ht hW => ⟨⟨_, (), rfl, rfl, by rw [ht]; exact hP, va_K.moved hW.alike hK, hD⟩, hS.F ht⟩) hS.2.2 dL_copy_11
set_option maxHeartbeats 4000000 in
set_option maxRecDepth 100000 in
theorem kl_mix (l : Launch) (D : va_G) (ct : Nat → ClassId) (ad tb : Nat → Nat) (qo : Nat) (M : Nat → Nat → Int64) (Pl : Nat → Nat) (C V o : Nat → Int64) (sz : Nat) {k : Nat} (hk : k < 8) : Met l yL_mix wsL_mix ({ frames := 4, cells := 0, slots := 0, locals := 96 }) (kr_P D vwCl (kw_T ct) (kw_B tb) [.ref (ad 0), .int (nI k)] (kw_X ct ad M Pl C V ++ kw_O ct qo o) sz) (va_Qi (S := ((Nat → Int64) × (Nat → Int64))) (fun r _ => r = nI 0) (kr_B D vwCl (kw_T ct) (fun u => kw_X ct ad (va_up M k (kk_mix (M k))) Pl u.1 u.2 ++ kw_O ct qo o) (va_A (kw_X ct ad M Pl C V ++ kw_O ct qo o) sz)) (va_A (kw_X ct ad M Pl C V ++ kw_O ct qo o) sz)) 0 0 (va_A (kw_X ct ad M Pl C V ++ kw_O ct qo o) sz) := by
  refine va_MetW (cc := cL_mix) (maxL := 3) (ret := some .int) (hh := [(0, 5, 8, 13)]) (by decide) rfl ?_
  intro p e s m args below meth c s₁ B hml hv
  obtain ⟨rfl, hsz, hP, hK, hD0, hB⟩ := hv
  have hx := B.exec
  have hb := B.bytes
  have hr := B.returns
  have hts := atoms_spec (ws := wsL_mix) B.pre
  have hown : s.vm.findClass RL = some m.cls := findClass_of_methodNamed B.named
  have hlocks := B.notSynchronized
  have htab := vx_table (x := yL_clear) B (hts (.codeWith yL_mix cL_mix 3 (some .int) [(0, 5, 8, 13)]) List.mem_cons_self)
  subst hsz
  have hD := hD0.self (sz := s.heap.size)
  generalize hAe : va_A (kw_X ct ad M Pl C V ++ kw_O ct qo o) s.heap.size = A at hD hB ⊢
  have hA : ∀ q : Nat, s.heap.size ≤ q → A q := fun q h => by rw [← hAe]; exact Or.inr h
  have hS : va_S A s.heap s.heap [] := va_S.rf
  have hl := lv_entry ([.ref (ad 0), .int (nI k)]) (n := 3) (Nat.le_of_ble_eq_true rfl)
  rw [lg_entry_eq]
  generalize (lg_sl ([.ref (ad 0), .int (nI k)]) ++ List.replicate (3 - (lg_sl ([.ref (ad 0), .int (nI k)])).length) Slot.unset).toArray = ls at hl ⊢
  have hl : lv_has ls 3 [(0, .ref (ad 0)), (1, .int (nI k))] := hl
  refine lv_aload_n hx hb dL_mix_0 rfl (lv_at hl 0 rfl) ?_
  refine lv_iload_n hx hb dL_mix_1 rfl (lv_at hl 1 rfl) ?_
  refine kr_fv (va_runV (As := [.int (nI k)]) (rest := []) ⟨hx, hb, hml, hown, hts⟩ (kc_mix l D ct ad tb M Pl C V _ hk) (cwV 1 hts gL_mix_X0_mix rfl rfl rfl (by decide +kernel) ⟨Nat.le_of_ble_eq_true rfl, Nat.le_of_ble_eq_true rfl⟩) (kr_preV (kw_Bok tb) (q := (RX0, TX0, 4)) (q0 := 0) (ci := 0) _ (kr_left hP) hK (kr_leftD hD) hB hS hA rfl rfl rfl) rfl rfl hl.1 rfl (lv_room (Nat.le_of_ble_eq_true rfl)) dL_mix_2 ⟨Nat.le_of_ble_eq_true rfl, Nat.le_of_ble_eq_true rfl⟩) hP hD hS hA (fun u H locs hq hP hD hS => ?_)
  have hP : va_P D vwCl (kw_X ct ad (va_up M k (kk_mix (M k))) Pl u.1 u.2 ++ kw_O ct qo o) H := hP
  have hD : va_D A (kw_X ct ad (va_up M k (kk_mix (M k))) Pl u.1 u.2 ++ kw_O ct qo o) := hD
  refine lv_goto (tgt := 11) hx hb dL_mix_5 rfl ?_
  refine lv_iconst (v := nI 0) hx hb dL_mix_11 rfl ?_
  exact W.iret hx hb hr (fun t ht hW => ⟨⟨_, u, rfl, rfl, by rw [ht]; exact hP, va_K.moved hW.alike hK, hD⟩, hS.F ht⟩) hS.2.2 dL_mix_12
set_option maxHeartbeats 4000000 in
set_option maxRecDepth 100000 in
theorem kl_mix1 (l : Launch) (D : va_G) (ct : Nat → ClassId) (ad tb : Nat → Nat) (qo : Nat) (M : Nat → Nat → Int64) (Pl : Nat → Nat) (C V o : Nat → Int64) (hl0 : l.stackTraces = false) (sz : Nat) (x : Int32) (hbad : x < 0 ∨ ¬ x ≤ nI 7) : Met l yL_mix wsL_mix ({ frames := 8, cells := 1, slots := 6, locals := 124 }) (kr_P D vwCl (kw_T ct) (kw_B tb) [.ref (ad 0), .int x] (kw_X ct ad M Pl C V ++ kw_O ct qo o) sz) (va_Qi (S := Unit) (fun r _ => r = nI 1) (kr_B D vwCl (kw_T ct) (fun u => kw_X ct ad M Pl C V ++ kw_O ct qo o) (va_A (kw_X ct ad M Pl C V ++ kw_O ct qo o) sz)) (va_A (kw_X ct ad M Pl C V ++ kw_O ct qo o) sz)) 1 6 (va_A (kw_X ct ad M Pl C V ++ kw_O ct qo o) sz) := by
  refine va_MetW (cc := cL_mix) (maxL := 3) (ret := some .int) (hh := [(0, 5, 8, 13)]) (by decide) rfl ?_
  intro p e s m args below meth c s₁ B hml hv
  obtain ⟨rfl, hsz, hP, hK, hD0, hB⟩ := hv
  have hx := B.exec
  have hb := B.bytes
  have hr := B.returns
  have hts := atoms_spec (ws := wsL_mix) B.pre
  have hown : s.vm.findClass RL = some m.cls := findClass_of_methodNamed B.named
  have hlocks := B.notSynchronized
  have htab := vx_table (x := yL_clear) B (hts (.codeWith yL_mix cL_mix 3 (some .int) [(0, 5, 8, 13)]) List.mem_cons_self)
  subst hsz
  have hD := hD0.self (sz := s.heap.size)
  generalize hAe : va_A (kw_X ct ad M Pl C V ++ kw_O ct qo o) s.heap.size = A at hD hB ⊢
  have hA : ∀ q : Nat, s.heap.size ≤ q → A q := fun q h => by rw [← hAe]; exact Or.inr h
  have hS : va_S A s.heap s.heap [] := va_S.rf
  have hl := lv_entry ([.ref (ad 0), .int x]) (n := 3) (Nat.le_of_ble_eq_true rfl)
  rw [lg_entry_eq]
  generalize (lg_sl ([.ref (ad 0), .int x]) ++ List.replicate (3 - (lg_sl ([.ref (ad 0), .int x])).length) Slot.unset).toArray = ls at hl ⊢
  have hl : lv_has ls 3 [(0, .ref (ad 0)), (1, .int x)] := hl
  refine lv_aload_n hx hb dL_mix_0 rfl (lv_at hl 0 rfl) ?_
  refine lv_iload_n hx hb dL_mix_1 rfl (lv_at hl 1 rfl) ?_
  refine kr_fxv (vx_runV (As := [.int x]) (rest := []) ⟨hx, hb, hml, hown, hts⟩ (kx_mix1 l D ct ad tb M Pl C V hl0 _ x hbad) (cwV 1 hts gL_mix_X0_mix rfl rfl rfl (by decide +kernel) ⟨Nat.le_of_ble_eq_true rfl, Nat.le_of_ble_eq_true rfl⟩) (kr_preV (kw_Bok tb) (q := (RX0, TX0, 4)) (q0 := 0) (ci := 0) _ (kr_left hP) hK (kr_leftD hD) hB hS hA rfl rfl rfl) rfl rfl hl.1 rfl (lv_room (Nat.le_of_ble_eq_true rfl)) dL_mix_2 ⟨Nat.le_of_ble_eq_true rfl, Nat.le_of_ble_eq_true rfl⟩) hP hD hS hA (fun ce q9 H locs hP hD hS hce hcv hcl => ?_)
  refine vx_catch (own := RL) (name := "java/lang/IllegalArgumentException") (E := "java/lang/IllegalArgumentException") hown [] ⟨0, 5, 8, 13⟩ [] htab (fun z h => absurd h List.not_mem_nil) (by decide) (by decide) (hts (.classLink RL 13 "java/lang/IllegalArgumentException") (by decide +kernel)) (va_Nw.use rfl hB.2.2.2.2.2.2.1) hce hcv hcl ?_
  refine lv_astore_n hx hb dL_mix_8 rfl hl (Nat.le_of_ble_eq_true rfl) rfl (fun ls hl => ?_)
  have hl : lv_has ls 3 [(2, .ref q9), (0, .ref (ad 0)), (1, .int x)] := hl
  refine lv_iconst (v := nI 1) hx hb dL_mix_9 rfl ?_
  exact W.iret hx hb hr (fun t ht hW => ⟨⟨_, (), rfl, rfl, by rw [ht]; exact hP, va_K.moved hW.alike hK, hD⟩, hS.F ht⟩) hS.2.2 dL_mix_10
set_option maxHeartbeats 4000000 in
set_option maxRecDepth 100000 in
theorem kl_lane (l : Launch) (D : va_G) (ct : Nat → ClassId) (ad tb : Nat → Nat) (qo : Nat) (M : Nat → Nat → Int64) (Pl : Nat → Nat) (C V o : Nat → Int64) (sz : Nat) {k i : Nat} (hk : k < 8) (hi25 : i < 25) : Met l yL_lane wsL_lane ({ frames := 2, cells := 0, slots := 0, locals := 43 }) (kr_P D vwCl (kw_T ct) (kw_B tb) [.ref (ad 0), .int (nI k), .int (nI i), .ref qo] (kw_X ct ad M Pl C V ++ kw_O ct qo o) sz) (va_Qi (S := Unit) (fun r _ => r = nI 0) (kr_B D vwCl (kw_T ct) (fun u => kw_X ct ad M Pl C V ++ kw_O ct qo (vp_updL o 0 (M k i))) (va_A (kw_X ct ad M Pl C V ++ kw_O ct qo o) sz)) (va_A (kw_X ct ad M Pl C V ++ kw_O ct qo o) sz)) 0 0 (va_A (kw_X ct ad M Pl C V ++ kw_O ct qo o) sz) := by
  refine va_MetW (cc := cL_lane) (maxL := 5) (ret := some .int) (hh := [(0, 9, 12, 13)]) (by decide) rfl ?_
  intro p e s m args below meth c s₁ B hml hv
  obtain ⟨rfl, hsz, hP, hK, hD0, hB⟩ := hv
  have hx := B.exec
  have hb := B.bytes
  have hr := B.returns
  have hts := atoms_spec (ws := wsL_lane) B.pre
  have hown : s.vm.findClass RL = some m.cls := findClass_of_methodNamed B.named
  have hlocks := B.notSynchronized
  have htab := vx_table (x := yL_clear) B (hts (.codeWith yL_lane cL_lane 5 (some .int) [(0, 9, 12, 13)]) List.mem_cons_self)
  subst hsz
  have hD := hD0.self (sz := s.heap.size)
  generalize hAe : va_A (kw_X ct ad M Pl C V ++ kw_O ct qo o) s.heap.size = A at hD hB ⊢
  have hA : ∀ q : Nat, s.heap.size ≤ q → A q := fun q h => by rw [← hAe]; exact Or.inr h
  have hS : va_S A s.heap s.heap [] := va_S.rf
  have hl := lv_entry ([.ref (ad 0), .int (nI k), .int (nI i), .ref qo]) (n := 5) (Nat.le_of_ble_eq_true rfl)
  rw [lg_entry_eq]
  generalize (lg_sl ([.ref (ad 0), .int (nI k), .int (nI i), .ref qo]) ++ List.replicate (5 - (lg_sl ([.ref (ad 0), .int (nI k), .int (nI i), .ref qo])).length) Slot.unset).toArray = ls at hl ⊢
  have hl : lv_has ls 5 [(0, .ref (ad 0)), (1, .int (nI k)), (2, .int (nI i)), (3, .ref qo)] := hl
  refine lv_aload_n hx hb dL_lane_0 rfl (lv_at hl 3 rfl) ?_
  refine lv_iconst (v := nI 0) hx hb dL_lane_1 rfl ?_
  refine lv_aload_n hx hb dL_lane_2 rfl (lv_at hl 0 rfl) ?_
  refine lv_iload_n hx hb dL_lane_3 rfl (lv_at hl 1 rfl) ?_
  refine lv_iload_n hx hb dL_lane_4 rfl (lv_at hl 2 rfl) ?_
  refine kr_fl (va_runV (As := [.int (nI k), .int (nI i)]) (rest := [.int (nI 0), .ref qo]) ⟨hx, hb, hml, hown, hts⟩ (kc_lane l D ct ad tb M Pl C V _ hk hi25) (cwV 2 hts gL_lane_X0_lane rfl rfl rfl (by decide +kernel) ⟨Nat.le_of_ble_eq_true rfl, Nat.le_of_ble_eq_true rfl⟩) (kr_preV (kw_Bok tb) (q := (RX0, TX0, 4)) (q0 := 0) (ci := 0) _ (kr_left hP) hK (kr_leftD hD) hB hS hA rfl rfl rfl) rfl rfl hl.1 rfl (lv_room (Nat.le_of_ble_eq_true rfl)) dL_lane_5 ⟨Nat.le_of_ble_eq_true rfl, Nat.le_of_ble_eq_true rfl⟩) hP hD hS hA (fun r u H locs hq hP hD hS => ?_)
  obtain rfl : r = M k i := hq
  have hP : va_P D vwCl (kw_X ct ad M Pl C V ++ kw_O ct qo o) H := hP
  have hD : va_D A (kw_X ct ad M Pl C V ++ kw_O ct qo o) := hD
  refine kr_last (w := kw_X ct ad M Pl C V ++ kw_O ct qo (vp_updL o 0 (M k i))) hx hb hK hP hD hS 14 2 rfl rfl (n := 0) (by omega) (by omega) rfl dL_lane_8 (fun H locs hP hD hS => ?_)
  refine lv_goto (tgt := 16) hx hb dL_lane_9 rfl ?_
  refine lv_iconst (v := nI 0) hx hb dL_lane_16 rfl ?_
  exact W.iret hx hb hr (fun t ht hW => ⟨⟨_, (), rfl, rfl, by rw [ht]; exact hP, va_K.moved hW.alike hK, hD⟩, hS.F ht⟩) hS.2.2 dL_lane_17
set_option maxHeartbeats 4000000 in
set_option maxRecDepth 100000 in
theorem kl_lane1 (l : Launch) (D : va_G) (ct : Nat → ClassId) (ad tb : Nat → Nat) (qo : Nat) (M : Nat → Nat → Int64) (Pl : Nat → Nat) (C V o : Nat → Int64) (hl0 : l.stackTraces = false) (sz : Nat) (x y : Int32) (hbad : x < 0 ∨ ¬ x ≤ nI 7) : Met l yL_lane wsL_lane ({ frames := 8, cells := 1, slots := 6, locals := 125 }) (kr_P D vwCl (kw_T ct) (kw_B tb) [.ref (ad 0), .int x, .int y, .ref qo] (kw_X ct ad M Pl C V ++ kw_O ct qo o) sz) (va_Qi (S := Unit) (fun r _ => r = nI 1) (kr_B D vwCl (kw_T ct) (fun u => kw_X ct ad M Pl C V ++ kw_O ct qo o) (va_A (kw_X ct ad M Pl C V ++ kw_O ct qo o) sz)) (va_A (kw_X ct ad M Pl C V ++ kw_O ct qo o) sz)) 1 6 (va_A (kw_X ct ad M Pl C V ++ kw_O ct qo o) sz) := by
  refine va_MetW (cc := cL_lane) (maxL := 5) (ret := some .int) (hh := [(0, 9, 12, 13)]) (by decide) rfl ?_
  intro p e s m args below meth c s₁ B hml hv
  obtain ⟨rfl, hsz, hP, hK, hD0, hB⟩ := hv
  have hx := B.exec
  have hb := B.bytes
  have hr := B.returns
  have hts := atoms_spec (ws := wsL_lane) B.pre
  have hown : s.vm.findClass RL = some m.cls := findClass_of_methodNamed B.named
  have hlocks := B.notSynchronized
  have htab := vx_table (x := yL_clear) B (hts (.codeWith yL_lane cL_lane 5 (some .int) [(0, 9, 12, 13)]) List.mem_cons_self)
  subst hsz
  have hD := hD0.self (sz := s.heap.size)
  generalize hAe : va_A (kw_X ct ad M Pl C V ++ kw_O ct qo o) s.heap.size = A at hD hB ⊢
  have hA : ∀ q : Nat, s.heap.size ≤ q → A q := fun q h => by rw [← hAe]; exact Or.inr h
  have hS : va_S A s.heap s.heap [] := va_S.rf
  have hl := lv_entry ([.ref (ad 0), .int x, .int y, .ref qo]) (n := 5) (Nat.le_of_ble_eq_true rfl)
  rw [lg_entry_eq]
  generalize (lg_sl ([.ref (ad 0), .int x, .int y, .ref qo]) ++ List.replicate (5 - (lg_sl ([.ref (ad 0), .int x, .int y, .ref qo])).length) Slot.unset).toArray = ls at hl ⊢
  have hl : lv_has ls 5 [(0, .ref (ad 0)), (1, .int x), (2, .int y), (3, .ref qo)] := hl
  refine lv_aload_n hx hb dL_lane_0 rfl (lv_at hl 3 rfl) ?_
  refine lv_iconst (v := nI 0) hx hb dL_lane_1 rfl ?_
  refine lv_aload_n hx hb dL_lane_2 rfl (lv_at hl 0 rfl) ?_
  refine lv_iload_n hx hb dL_lane_3 rfl (lv_at hl 1 rfl) ?_
  refine lv_iload_n hx hb dL_lane_4 rfl (lv_at hl 2 rfl) ?_
  refine kr_fxl (vx_runV (As := [.int x, .int y]) (rest := [.int (nI 0), .ref qo]) ⟨hx, hb, hml, hown, hts⟩ (kx_lane1 l D ct ad tb M Pl C V hl0 _ x y hbad) (cwV 2 hts gL_lane_X0_lane rfl rfl rfl (by decide +kernel) ⟨Nat.le_of_ble_eq_true rfl, Nat.le_of_ble_eq_true rfl⟩) (kr_preV (kw_Bok tb) (q := (RX0, TX0, 4)) (q0 := 0) (ci := 0) _ (kr_left hP) hK (kr_leftD hD) hB hS hA rfl rfl rfl) rfl rfl hl.1 rfl (lv_room (Nat.le_of_ble_eq_true rfl)) dL_lane_5 ⟨Nat.le_of_ble_eq_true rfl, Nat.le_of_ble_eq_true rfl⟩) hP hD hS hA (fun ce q9 H locs hP hD hS hce hcv hcl => ?_)
  refine vx_catch (own := RL) (name := "java/lang/IllegalArgumentException") (E := "java/lang/IllegalArgumentException") hown [] ⟨0, 9, 12, 13⟩ [] htab (fun z h => absurd h List.not_mem_nil) (by decide) (by decide) (hts (.classLink RL 13 "java/lang/IllegalArgumentException") (by decide +kernel)) (va_Nw.use rfl hB.2.2.2.2.2.2.1) hce hcv hcl ?_
  refine lv_astore hx hb dL_lane_12 hl (Nat.le_of_ble_eq_true rfl) rfl (fun ls hl => ?_)
  have hl : lv_has ls 5 [(4, .ref q9), (0, .ref (ad 0)), (1, .int x), (2, .int y), (3, .ref qo)] := hl
  refine lv_iconst (v := nI 1) hx hb dL_lane_14 rfl ?_
  exact W.iret hx hb hr (fun t ht hW => ⟨⟨_, (), rfl, rfl, by rw [ht]; exact hP, va_K.moved hW.alike hK, hD⟩, hS.F ht⟩) hS.2.2 dL_lane_15
set_option maxHeartbeats 4000000 in
set_option maxRecDepth 100000 in
theorem kl_lane2 (l : Launch) (D : va_G) (ct : Nat → ClassId) (ad tb : Nat → Nat) (qo : Nat) (M : Nat → Nat → Int64) (Pl : Nat → Nat) (C V o : Nat → Int64) (hl0 : l.stackTraces = false) (sz : Nat) {k : Nat} (hk : k < 8) (x : Int32) (hbad : x < 0 ∨ ¬ x ≤ nI 24) : Met l yL_lane wsL_lane ({ frames := 8, cells := 1, slots := 6, locals := 125 }) (kr_P D vwCl (kw_T ct) (kw_B tb) [.ref (ad 0), .int (nI k), .int x, .ref qo] (kw_X ct ad M Pl C V ++ kw_O ct qo o) sz) (va_Qi (S := Unit) (fun r _ => r = nI 1) (kr_B D vwCl (kw_T ct) (fun u => kw_X ct ad M Pl C V ++ kw_O ct qo o) (va_A (kw_X ct ad M Pl C V ++ kw_O ct qo o) sz)) (va_A (kw_X ct ad M Pl C V ++ kw_O ct qo o) sz)) 1 6 (va_A (kw_X ct ad M Pl C V ++ kw_O ct qo o) sz) := by
  refine va_MetW (cc := cL_lane) (maxL := 5) (ret := some .int) (hh := [(0, 9, 12, 13)]) (by decide) rfl ?_
  intro p e s m args below meth c s₁ B hml hv
  obtain ⟨rfl, hsz, hP, hK, hD0, hB⟩ := hv
  have hx := B.exec
  have hb := B.bytes
  have hr := B.returns
  have hts := atoms_spec (ws := wsL_lane) B.pre
  have hown : s.vm.findClass RL = some m.cls := findClass_of_methodNamed B.named
  have hlocks := B.notSynchronized
  have htab := vx_table (x := yL_clear) B (hts (.codeWith yL_lane cL_lane 5 (some .int) [(0, 9, 12, 13)]) List.mem_cons_self)
  subst hsz
  have hD := hD0.self (sz := s.heap.size)
  generalize hAe : va_A (kw_X ct ad M Pl C V ++ kw_O ct qo o) s.heap.size = A at hD hB ⊢
  have hA : ∀ q : Nat, s.heap.size ≤ q → A q := fun q h => by rw [← hAe]; exact Or.inr h
  have hS : va_S A s.heap s.heap [] := va_S.rf
  have hl := lv_entry ([.ref (ad 0), .int (nI k), .int x, .ref qo]) (n := 5) (Nat.le_of_ble_eq_true rfl)
  rw [lg_entry_eq]
  generalize (lg_sl ([.ref (ad 0), .int (nI k), .int x, .ref qo]) ++ List.replicate (5 - (lg_sl ([.ref (ad 0), .int (nI k), .int x, .ref qo])).length) Slot.unset).toArray = ls at hl ⊢
  have hl : lv_has ls 5 [(0, .ref (ad 0)), (1, .int (nI k)), (2, .int x), (3, .ref qo)] := hl
  refine lv_aload_n hx hb dL_lane_0 rfl (lv_at hl 3 rfl) ?_
  refine lv_iconst (v := nI 0) hx hb dL_lane_1 rfl ?_
  refine lv_aload_n hx hb dL_lane_2 rfl (lv_at hl 0 rfl) ?_
  refine lv_iload_n hx hb dL_lane_3 rfl (lv_at hl 1 rfl) ?_
  refine lv_iload_n hx hb dL_lane_4 rfl (lv_at hl 2 rfl) ?_
  refine kr_fxl (vx_runV (As := [.int (nI k), .int x]) (rest := [.int (nI 0), .ref qo]) ⟨hx, hb, hml, hown, hts⟩ (kx_lane2 l D ct ad tb M Pl C V hl0 _ hk x hbad) (cwV 2 hts gL_lane_X0_lane rfl rfl rfl (by decide +kernel) ⟨Nat.le_of_ble_eq_true rfl, Nat.le_of_ble_eq_true rfl⟩) (kr_preV (kw_Bok tb) (q := (RX0, TX0, 4)) (q0 := 0) (ci := 0) _ (kr_left hP) hK (kr_leftD hD) hB hS hA rfl rfl rfl) rfl rfl hl.1 rfl (lv_room (Nat.le_of_ble_eq_true rfl)) dL_lane_5 ⟨Nat.le_of_ble_eq_true rfl, Nat.le_of_ble_eq_true rfl⟩) hP hD hS hA (fun ce q9 H locs hP hD hS hce hcv hcl => ?_)
  refine vx_catch (own := RL) (name := "java/lang/IllegalArgumentException") (E := "java/lang/IllegalArgumentException") hown [] ⟨0, 9, 12, 13⟩ [] htab (fun z h => absurd h List.not_mem_nil) (by decide) (by decide) (hts (.classLink RL 13 "java/lang/IllegalArgumentException") (by decide +kernel)) (va_Nw.use rfl hB.2.2.2.2.2.2.1) hce hcv hcl ?_
  refine lv_astore hx hb dL_lane_12 hl (Nat.le_of_ble_eq_true rfl) rfl (fun ls hl => ?_)
  have hl : lv_has ls 5 [(4, .ref q9), (0, .ref (ad 0)), (1, .int (nI k)), (2, .int x), (3, .ref qo)] := hl
  refine lv_iconst (v := nI 1) hx hb dL_lane_14 rfl ?_
  exact W.iret hx hb hr (fun t ht hW => ⟨⟨_, (), rfl, rfl, by rw [ht]; exact hP, va_K.moved hW.alike hK, hD⟩, hS.F ht⟩) hS.2.2 dL_lane_15
set_option maxHeartbeats 4000000 in
set_option maxRecDepth 100000 in
theorem kl_digest (l : Launch) (D : va_G) (ct : Nat → ClassId) (ad tb : Nat → Nat) (qo : Nat) (M : Nat → Nat → Int64) (Pl : Nat → Nat) (C V o : Nat → Int64) (sz : Nat) {k i : Nat} (hk : k < 8) (hi4 : i < 4) (hq0 : Pl k < 136) : Met l yL_digest wsL_digest ({ frames := 4, cells := 0, slots := 0, locals := 98 }) (kr_P D vwCl (kw_T ct) (kw_B tb) [.ref (ad 0), .int (nI k), .int (nI i), .ref qo] (kw_X ct ad M Pl C V ++ kw_O ct qo o) sz) (va_Qi (S := ((Nat → Int64) × (Nat → Int64))) (fun r _ => r = nI 0) (kr_B D vwCl (kw_T ct) (fun u => kw_X ct ad (va_up M 8 (kk_dg (M k) (Pl k))) (va_up Pl 8 (Pl k)) u.1 u.2 ++ kw_O ct qo (vp_updL o 0 (kk_rev (kk_dg (M k) (Pl k) i) 8))) (va_A (kw_X ct ad M Pl C V ++ kw_O ct qo o) sz)) (va_A (kw_X ct ad M Pl C V ++ kw_O ct qo o) sz)) 0 0 (va_A (kw_X ct ad M Pl C V ++ kw_O ct qo o) sz) := by
  refine va_MetW (cc := cL_digest) (maxL := 5) (ret := some .int) (hh := [(0, 9, 12, 13)]) (by decide) rfl ?_
  intro p e s m args below meth c s₁ B hml hv
  obtain ⟨rfl, hsz, hP, hK, hD0, hB⟩ := hv
  have hx := B.exec
  have hb := B.bytes
  have hr := B.returns
  have hts := atoms_spec (ws := wsL_digest) B.pre
  have hown : s.vm.findClass RL = some m.cls := findClass_of_methodNamed B.named
  have hlocks := B.notSynchronized
  have htab := vx_table (x := yL_clear) B (hts (.codeWith yL_digest cL_digest 5 (some .int) [(0, 9, 12, 13)]) List.mem_cons_self)
  subst hsz
  have hD := hD0.self (sz := s.heap.size)
  generalize hAe : va_A (kw_X ct ad M Pl C V ++ kw_O ct qo o) s.heap.size = A at hD hB ⊢
  have hA : ∀ q : Nat, s.heap.size ≤ q → A q := fun q h => by rw [← hAe]; exact Or.inr h
  have hS : va_S A s.heap s.heap [] := va_S.rf
  have hl := lv_entry ([.ref (ad 0), .int (nI k), .int (nI i), .ref qo]) (n := 5) (Nat.le_of_ble_eq_true rfl)
  rw [lg_entry_eq]
  generalize (lg_sl ([.ref (ad 0), .int (nI k), .int (nI i), .ref qo]) ++ List.replicate (5 - (lg_sl ([.ref (ad 0), .int (nI k), .int (nI i), .ref qo])).length) Slot.unset).toArray = ls at hl ⊢
  have hl : lv_has ls 5 [(0, .ref (ad 0)), (1, .int (nI k)), (2, .int (nI i)), (3, .ref qo)] := hl
  refine lv_aload_n hx hb dL_digest_0 rfl (lv_at hl 3 rfl) ?_
  refine lv_iconst (v := nI 0) hx hb dL_digest_1 rfl ?_
  refine lv_aload_n hx hb dL_digest_2 rfl (lv_at hl 0 rfl) ?_
  refine lv_iload_n hx hb dL_digest_3 rfl (lv_at hl 1 rfl) ?_
  refine lv_iload_n hx hb dL_digest_4 rfl (lv_at hl 2 rfl) ?_
  refine kr_fl (va_runV (As := [.int (nI k), .int (nI i)]) (rest := [.int (nI 0), .ref qo]) ⟨hx, hb, hml, hown, hts⟩ (kc_digest l D ct ad tb M Pl C V _ hk hi4 hq0) (cwV 2 hts gL_digest_X0_digest rfl rfl rfl (by decide +kernel) ⟨Nat.le_of_ble_eq_true rfl, Nat.le_of_ble_eq_true rfl⟩) (kr_preV (kw_Bok tb) (q := (RX0, TX0, 4)) (q0 := 0) (ci := 0) _ (kr_left hP) hK (kr_leftD hD) hB hS hA rfl rfl rfl) rfl rfl hl.1 rfl (lv_room (Nat.le_of_ble_eq_true rfl)) dL_digest_5 ⟨Nat.le_of_ble_eq_true rfl, Nat.le_of_ble_eq_true rfl⟩) hP hD hS hA (fun r u H locs hq hP hD hS => ?_)
  obtain rfl : r = kk_rev (kk_dg (M k) (Pl k) i) 8 := hq
  have hP : va_P D vwCl (kw_X ct ad (va_up M 8 (kk_dg (M k) (Pl k))) (va_up Pl 8 (Pl k)) u.1 u.2 ++ kw_O ct qo o) H := hP
  have hD : va_D A (kw_X ct ad (va_up M 8 (kk_dg (M k) (Pl k))) (va_up Pl 8 (Pl k)) u.1 u.2 ++ kw_O ct qo o) := hD
  refine kr_last (w := kw_X ct ad (va_up M 8 (kk_dg (M k) (Pl k))) (va_up Pl 8 (Pl k)) u.1 u.2 ++ kw_O ct qo (vp_updL o 0 (kk_rev (kk_dg (M k) (Pl k) i) 8))) hx hb hK hP hD hS 14 2 rfl rfl (n := 0) (by omega) (by omega) rfl dL_digest_8 (fun H locs hP hD hS => ?_)
  refine lv_goto (tgt := 16) hx hb dL_digest_9 rfl ?_
  refine lv_iconst (v := nI 0) hx hb dL_digest_16 rfl ?_
  exact W.iret hx hb hr (fun t ht hW => ⟨⟨_, u, rfl, rfl, by rw [ht]; exact hP, va_K.moved hW.alike hK, hD⟩, hS.F ht⟩) hS.2.2 dL_digest_17
set_option maxHeartbeats 4000000 in
set_option maxRecDepth 100000 in
theorem kl_digest1 (l : Launch) (D : va_G) (ct : Nat → ClassId) (ad tb : Nat → Nat) (qo : Nat) (M : Nat → Nat → Int64) (Pl : Nat → Nat) (C V o : Nat → Int64) (hl0 : l.stackTraces = false) (sz : Nat) (x y : Int32) (hbad : x < 0 ∨ ¬ x ≤ nI 7) : Met l yL_digest wsL_digest ({ frames := 8, cells := 1, slots := 6, locals := 126 }) (kr_P D vwCl (kw_T ct) (kw_B tb) [.ref (ad 0), .int x, .int y, .ref qo] (kw_X ct ad M Pl C V ++ kw_O ct qo o) sz) (va_Qi (S := Unit) (fun r _ => r = nI 1) (kr_B D vwCl (kw_T ct) (fun u => kw_X ct ad M Pl C V ++ kw_O ct qo o) (va_A (kw_X ct ad M Pl C V ++ kw_O ct qo o) sz)) (va_A (kw_X ct ad M Pl C V ++ kw_O ct qo o) sz)) 1 6 (va_A (kw_X ct ad M Pl C V ++ kw_O ct qo o) sz) := by
  refine va_MetW (cc := cL_digest) (maxL := 5) (ret := some .int) (hh := [(0, 9, 12, 13)]) (by decide) rfl ?_
  intro p e s m args below meth c s₁ B hml hv
  obtain ⟨rfl, hsz, hP, hK, hD0, hB⟩ := hv
  have hx := B.exec
  have hb := B.bytes
  have hr := B.returns
  have hts := atoms_spec (ws := wsL_digest) B.pre
  have hown : s.vm.findClass RL = some m.cls := findClass_of_methodNamed B.named
  have hlocks := B.notSynchronized
  have htab := vx_table (x := yL_clear) B (hts (.codeWith yL_digest cL_digest 5 (some .int) [(0, 9, 12, 13)]) List.mem_cons_self)
  subst hsz
  have hD := hD0.self (sz := s.heap.size)
  generalize hAe : va_A (kw_X ct ad M Pl C V ++ kw_O ct qo o) s.heap.size = A at hD hB ⊢
  have hA : ∀ q : Nat, s.heap.size ≤ q → A q := fun q h => by rw [← hAe]; exact Or.inr h
  have hS : va_S A s.heap s.heap [] := va_S.rf
  have hl := lv_entry ([.ref (ad 0), .int x, .int y, .ref qo]) (n := 5) (Nat.le_of_ble_eq_true rfl)
  rw [lg_entry_eq]
  generalize (lg_sl ([.ref (ad 0), .int x, .int y, .ref qo]) ++ List.replicate (5 - (lg_sl ([.ref (ad 0), .int x, .int y, .ref qo])).length) Slot.unset).toArray = ls at hl ⊢
  have hl : lv_has ls 5 [(0, .ref (ad 0)), (1, .int x), (2, .int y), (3, .ref qo)] := hl
  refine lv_aload_n hx hb dL_digest_0 rfl (lv_at hl 3 rfl) ?_
  refine lv_iconst (v := nI 0) hx hb dL_digest_1 rfl ?_
  refine lv_aload_n hx hb dL_digest_2 rfl (lv_at hl 0 rfl) ?_
  refine lv_iload_n hx hb dL_digest_3 rfl (lv_at hl 1 rfl) ?_
  refine lv_iload_n hx hb dL_digest_4 rfl (lv_at hl 2 rfl) ?_
  refine kr_fxl (vx_runV (As := [.int x, .int y]) (rest := [.int (nI 0), .ref qo]) ⟨hx, hb, hml, hown, hts⟩ (kx_digest1 l D ct ad tb M Pl C V hl0 _ x y hbad) (cwV 2 hts gL_digest_X0_digest rfl rfl rfl (by decide +kernel) ⟨Nat.le_of_ble_eq_true rfl, Nat.le_of_ble_eq_true rfl⟩) (kr_preV (kw_Bok tb) (q := (RX0, TX0, 4)) (q0 := 0) (ci := 0) _ (kr_left hP) hK (kr_leftD hD) hB hS hA rfl rfl rfl) rfl rfl hl.1 rfl (lv_room (Nat.le_of_ble_eq_true rfl)) dL_digest_5 ⟨Nat.le_of_ble_eq_true rfl, Nat.le_of_ble_eq_true rfl⟩) hP hD hS hA (fun ce q9 H locs hP hD hS hce hcv hcl => ?_)
  refine vx_catch (own := RL) (name := "java/lang/IllegalArgumentException") (E := "java/lang/IllegalArgumentException") hown [] ⟨0, 9, 12, 13⟩ [] htab (fun z h => absurd h List.not_mem_nil) (by decide) (by decide) (hts (.classLink RL 13 "java/lang/IllegalArgumentException") (by decide +kernel)) (va_Nw.use rfl hB.2.2.2.2.2.2.1) hce hcv hcl ?_
  refine lv_astore hx hb dL_digest_12 hl (Nat.le_of_ble_eq_true rfl) rfl (fun ls hl => ?_)
  have hl : lv_has ls 5 [(4, .ref q9), (0, .ref (ad 0)), (1, .int x), (2, .int y), (3, .ref qo)] := hl
  refine lv_iconst (v := nI 1) hx hb dL_digest_14 rfl ?_
  exact W.iret hx hb hr (fun t ht hW => ⟨⟨_, (), rfl, rfl, by rw [ht]; exact hP, va_K.moved hW.alike hK, hD⟩, hS.F ht⟩) hS.2.2 dL_digest_15
set_option maxHeartbeats 4000000 in
set_option maxRecDepth 100000 in
theorem kl_digest2 (l : Launch) (D : va_G) (ct : Nat → ClassId) (ad tb : Nat → Nat) (qo : Nat) (M : Nat → Nat → Int64) (Pl : Nat → Nat) (C V o : Nat → Int64) (hl0 : l.stackTraces = false) (sz : Nat) {k : Nat} (hk : k < 8) (x : Int32) (hbad : x < 0 ∨ ¬ x ≤ nI 3) : Met l yL_digest wsL_digest ({ frames := 8, cells := 1, slots := 6, locals := 126 }) (kr_P D vwCl (kw_T ct) (kw_B tb) [.ref (ad 0), .int (nI k), .int x, .ref qo] (kw_X ct ad M Pl C V ++ kw_O ct qo o) sz) (va_Qi (S := Unit) (fun r _ => r = nI 1) (kr_B D vwCl (kw_T ct) (fun u => kw_X ct ad M Pl C V ++ kw_O ct qo o) (va_A (kw_X ct ad M Pl C V ++ kw_O ct qo o) sz)) (va_A (kw_X ct ad M Pl C V ++ kw_O ct qo o) sz)) 1 6 (va_A (kw_X ct ad M Pl C V ++ kw_O ct qo o) sz) := by
  refine va_MetW (cc := cL_digest) (maxL := 5) (ret := some .int) (hh := [(0, 9, 12, 13)]) (by decide) rfl ?_
  intro p e s m args below meth c s₁ B hml hv
  obtain ⟨rfl, hsz, hP, hK, hD0, hB⟩ := hv
  have hx := B.exec
  have hb := B.bytes
  have hr := B.returns
  have hts := atoms_spec (ws := wsL_digest) B.pre
  have hown : s.vm.findClass RL = some m.cls := findClass_of_methodNamed B.named
  have hlocks := B.notSynchronized
  have htab := vx_table (x := yL_clear) B (hts (.codeWith yL_digest cL_digest 5 (some .int) [(0, 9, 12, 13)]) List.mem_cons_self)
  subst hsz
  have hD := hD0.self (sz := s.heap.size)
  generalize hAe : va_A (kw_X ct ad M Pl C V ++ kw_O ct qo o) s.heap.size = A at hD hB ⊢
  have hA : ∀ q : Nat, s.heap.size ≤ q → A q := fun q h => by rw [← hAe]; exact Or.inr h
  have hS : va_S A s.heap s.heap [] := va_S.rf
  have hl := lv_entry ([.ref (ad 0), .int (nI k), .int x, .ref qo]) (n := 5) (Nat.le_of_ble_eq_true rfl)
  rw [lg_entry_eq]
  generalize (lg_sl ([.ref (ad 0), .int (nI k), .int x, .ref qo]) ++ List.replicate (5 - (lg_sl ([.ref (ad 0), .int (nI k), .int x, .ref qo])).length) Slot.unset).toArray = ls at hl ⊢
  have hl : lv_has ls 5 [(0, .ref (ad 0)), (1, .int (nI k)), (2, .int x), (3, .ref qo)] := hl
  refine lv_aload_n hx hb dL_digest_0 rfl (lv_at hl 3 rfl) ?_
  refine lv_iconst (v := nI 0) hx hb dL_digest_1 rfl ?_
  refine lv_aload_n hx hb dL_digest_2 rfl (lv_at hl 0 rfl) ?_
  refine lv_iload_n hx hb dL_digest_3 rfl (lv_at hl 1 rfl) ?_
  refine lv_iload_n hx hb dL_digest_4 rfl (lv_at hl 2 rfl) ?_
  refine kr_fxl (vx_runV (As := [.int (nI k), .int x]) (rest := [.int (nI 0), .ref qo]) ⟨hx, hb, hml, hown, hts⟩ (kx_digest2 l D ct ad tb M Pl C V hl0 _ hk x hbad) (cwV 2 hts gL_digest_X0_digest rfl rfl rfl (by decide +kernel) ⟨Nat.le_of_ble_eq_true rfl, Nat.le_of_ble_eq_true rfl⟩) (kr_preV (kw_Bok tb) (q := (RX0, TX0, 4)) (q0 := 0) (ci := 0) _ (kr_left hP) hK (kr_leftD hD) hB hS hA rfl rfl rfl) rfl rfl hl.1 rfl (lv_room (Nat.le_of_ble_eq_true rfl)) dL_digest_5 ⟨Nat.le_of_ble_eq_true rfl, Nat.le_of_ble_eq_true rfl⟩) hP hD hS hA (fun ce q9 H locs hP hD hS hce hcv hcl => ?_)
  refine vx_catch (own := RL) (name := "java/lang/IllegalArgumentException") (E := "java/lang/IllegalArgumentException") hown [] ⟨0, 9, 12, 13⟩ [] htab (fun z h => absurd h List.not_mem_nil) (by decide) (by decide) (hts (.classLink RL 13 "java/lang/IllegalArgumentException") (by decide +kernel)) (va_Nw.use rfl hB.2.2.2.2.2.2.1) hce hcv hcl ?_
  refine lv_astore hx hb dL_digest_12 hl (Nat.le_of_ble_eq_true rfl) rfl (fun ls hl => ?_)
  have hl : lv_has ls 5 [(4, .ref q9), (0, .ref (ad 0)), (1, .int (nI k)), (2, .int x), (3, .ref qo)] := hl
  refine lv_iconst (v := nI 1) hx hb dL_digest_14 rfl ?_
  exact W.iret hx hb hr (fun t ht hW => ⟨⟨_, (), rfl, rfl, by rw [ht]; exact hP, va_K.moved hW.alike hK, hD⟩, hS.F ht⟩) hS.2.2 dL_digest_15
end
section
/-! THE CLAIM OUT OF ONE WALK OF THE LAW'S BODY. Your part is whole_start (and what it stands on); all else here is the same for every law, but numbers. -/
def R_law : String := "KeccakLanesLaw"
def lw_P (b : Addr) (xs : List Int32) (args : Array Value) (s : State) : Prop := args = #[.ref b] ∧ s.IntsAt b xs ∧ xs.length ≤ 2560 ∧ (Jvm.Cond.and given_1 narrow_1).before args s = true
def lw_Q (_ : Array Value) (s : State) (o : Outcome) (t : State) : Prop := o = .returned (some (.int 1)) ∧ Framed s o t [] 601024 7293034
def lw_Z (below : List Frame) (a : Array Value) (s : State) : State → Prop := fun t => ∃ o, t.status = .running ∧ Ended t below o ∧ lw_Q a s o t
/-- the law's own end, with 1 on the stack, nothing written that was there before, its room as the claim has it -/
theorem lw_ret {p : Program} {l : Launch} {e : Env} {s : State} {m : MethodId} {below : List Frame} {meth : Method} {c : Code} {b : Nat} (hx : p.tables.exec = Jvm.exec) (hb : c.code = code) (hr : meth.sig.returnType = ret) (hlocks : meth.locks = false) {pc : Nat} {H : Heap} {ls : Array Slot} (hdg : decode code pc = .ok (.ireturn, 1)) : W p l e room_1 s m #[Value.ref b] below meth c H [] 601024 7293034 (lw_Z below #[Value.ref b] s) (F0 m pc ls [.int 1]) := by
  intro T hT X
  obtain ⟨fs, hret, hrun, hended, hW, hframe⟩ := X.leave (v := some (.int 1)) (hlocks := hlocks) (fun h => by rw [hr] at h; cases h)
  have hmeth' : T.vm.method? m = some meth := X.method'
  refine ⟨T.setFrames fs, ?_, .returned (some (.int 1)), hrun, hended, rfl, ⟨_, rfl⟩, hW, hframe⟩
  jvm_step X.here [X.here.top, hx, hb, hdg, hmeth', hr, ret, narrow_b1]
  (try refine ⟨rfl, ?_⟩); (try refine ⟨rfl, ?_⟩)
  first | (intro acts; rw [hret _ acts rfl rfl rfl]) | rw [hret _ _ rfl rfl rfl]
  exact Steps.refl _
/-- what holds at the law's entry: the machine, the code, the tables' words (any of lw_tbl by 'hts w (by decide +kernel)'), the script of L ints xs at the cell b, what the Statement gives of the start (any of its parts by flat_of_before) -/
def lw_At (p : Program) (s : State) (m : MethodId) (meth : Method) (c : Code) (b L : Nat) (xs : Nat → Int32) : Prop :=
  p.tables.exec = Jvm.exec ∧ c.code = code ∧ meth.sig.returnType = ret ∧ c.maxLocals = 8 ∧ s.vm.findClass R_law = some m.cls ∧ (∀ w ∈ lw_tbl, w.before #[Value.ref b] s = true) ∧ va_X b L xs s s.heap ∧ b < s.heap.size ∧ meth.locks = false ∧ (Jvm.Cond.and given_1 narrow_1).before #[Value.ref b] s = true
/-! what holds at the law's start -/
theorem kl_cls {s : State} {args : Array Value} {ty : FieldType} (h : (Cond.arrayClass ty).before args s = true) (ho : ∀ C, ty ≠ .object C) : ∃ c : ClassId, ArrOfT s c ty ∧ va_RA s c ty := by
  obtain ⟨c, k, comp, h1, h2, h3⟩ := Cond.arrayClass_spec h
  refine ⟨c, fun N z => ⟨(fun q hq => by cases hq), k, h2, comp, h3⟩, ?_⟩
  cases ty <;> first | exact h1 | exact absurd rfl (ho _)
theorem kl_over {s : State} {args : Array Value} {ty : FieldType} (h : (Cond.arrayOver (.array ty)).before args s = true) : ∃ c : ClassId, ArrOfT s c (.array ty) ∧ va_RA s c (.array ty) := by
  obtain ⟨comp, c, k, h1, h2, h3, h4⟩ := Cond.arrayOver_specA h
  exact ⟨c, fun N z => ⟨(fun q hq => by cases hq), k, h2, comp, h3⟩, h4⟩
set_option maxRecDepth 100000 in
theorem kl_K {s : State} {b : Nat} (hts : ∀ w ∈ lw_tbl, w.before #[Value.ref b] s = true) : ∃ (D : va_G) (ct : Nat → ClassId), va_K D vwCl (kw_T ct) s := by
  obtain ⟨c0, i0, k0⟩ := u_known (T := TX0) (N := 4) hts inX0 (hts (.instantiable RX0 4) (by decide +kernel))
  obtain ⟨c1, i1, k1⟩ := u_known (T := TX1) (N := 7) hts inX1 (hts (.instantiable RX1 7) (by decide +kernel))
  obtain ⟨a0, h0⟩ := kl_over (hts (.arrayOver (.array .long)) (by decide +kernel))
  obtain ⟨a1, h1⟩ := kl_cls (hts (.arrayClass .int) (by decide +kernel)) (fun _ h => by cases h)
  obtain ⟨a2, h2⟩ := kl_cls (hts (.arrayClass .long) (by decide +kernel)) (fun _ h => by cases h)
  refine ⟨(fun c => if c = 0 then c0 else c1, fun c => if c = 0 then i0 else i1), fun i => if i = 0 then a0 else if i = 1 then a1 else a2, ?_, ?_⟩
  · intro c q hq
    match c, hq with
    | 0, hq => cases hq; exact k0
    | 1, hq => cases hq; exact k1
    | n + 2, hq => simp at hq
  · intro k q hq
    match k, hq with
    | 0, hq => cases hq; exact h0
    | 1, hq => cases hq; exact h1
    | 2, hq => cases hq; exact h2
    | n + 3, hq => simp [kw_T] at hq
theorem kl_e0 : ∀ j, j < 25 → Cond.eq (.elem (.static RX0 "TURNS" "[I") (.int (Int32.ofNat j))) (.int (nI (kk_tn j))) ∈ flatC (Jvm.Cond.and given_1 narrow_1) := by decide +kernel
theorem kl_e1 : ∀ j, j < 25 → Cond.eq (.elem (.static RX0 "TARGETS" "[I") (.int (Int32.ofNat j))) (.int (nI (kk_tg j))) ∈ flatC (Jvm.Cond.and given_1 narrow_1) := by decide +kernel
theorem kl_e2 : ∀ j, j < 24 → Cond.eq (.elem (.static RX0 "CONSTANTS" "[J") (.int (Int32.ofNat j))) (.long (kk_rc j)) ∈ flatC (Jvm.Cond.and given_1 narrow_1) := by decide +kernel
set_option maxRecDepth 100000 in
theorem kl_B {s : State} {b : Nat} (hts : ∀ w ∈ lw_tbl, w.before #[Value.ref b] s = true) (hgv : (Jvm.Cond.and given_1 narrow_1).before #[Value.ref b] s = true) : ∃ tb : Nat → Nat, kw_B tb (fun q => s.heap.size ≤ q) s s.heap := by
  have hs := flat_of_before _ hgv
  have hA : ∀ a : Nat, a < s.heap.size → ¬ s.heap.size ≤ a := fun a h => by omega
  have hi : (Cond.initialized RX0).before #[Value.ref b] s = true := hts (.initialized RX0) (by decide +kernel)
  have hiT : (Cond.initialized Bundle.tN).before #[Value.ref b] s = true := hts (.initialized Bundle.tN) (by decide +kernel)
  obtain ⟨t0, e0, T0⟩ := va_Tof (tm := .static RX0 "TURNS" "[I") (ty := .int) (N := 25) (f := fun j => .int (nI (kk_tn j))) (A := fun q => s.heap.size ≤ q) (by decide) (hs (.arrayOf (.static RX0 "TURNS" "[I") .int) (by decide +kernel)) (va_eqt (hs (.eq (.length (.static RX0 "TURNS" "[I")) (.int 25)) (by decide +kernel))) (fun j hj => va_eqt (hs _ (kl_e0 j hj))) hA
  obtain ⟨t1, e1, T1⟩ := va_Tof (tm := .static RX0 "TARGETS" "[I") (ty := .int) (N := 25) (f := fun j => .int (nI (kk_tg j))) (A := fun q => s.heap.size ≤ q) (by decide) (hs (.arrayOf (.static RX0 "TARGETS" "[I") .int) (by decide +kernel)) (va_eqt (hs (.eq (.length (.static RX0 "TARGETS" "[I")) (.int 25)) (by decide +kernel))) (fun j hj => va_eqt (hs _ (kl_e1 j hj))) hA
  obtain ⟨t2, e2, T2⟩ := va_Tof (tm := .static RX0 "CONSTANTS" "[J") (ty := .long) (N := 24) (f := fun j => .long (kk_rc j)) (A := fun q => s.heap.size ≤ q) (by decide) (hs (.arrayOf (.static RX0 "CONSTANTS" "[J") .long) (by decide +kernel)) (va_eqt (hs (.eq (.length (.static RX0 "CONSTANTS" "[J")) (.int 24)) (by decide +kernel))) (fun j hj => va_eqtl (hs _ (kl_e2 j hj))) hA
  obtain ⟨t3, c3, cell3, k3, q1, -⟩ := Cond.exactly_spec (hs (.exactly (.string RX0 49) "java/lang/String") (by decide +kernel))
  refine ⟨fun i => if i = 0 then t0 else if i = 1 then t1 else if i = 2 then t2 else t3, ⟨va_Zref (hts (.laysStatic RX0 "TURNS" "[I") (by decide +kernel)) hi e0 hA, T0⟩, ⟨va_Zref (hts (.laysStatic RX0 "TARGETS" "[I") (by decide +kernel)) hi e1 hA, T1⟩, ⟨va_Zref (hts (.laysStatic RX0 "CONSTANTS" "[J") (by decide +kernel)) hi e2 hA, T2⟩, vx_Zqof (hts (.laysStatic Bundle.tN "UNASSIGNED_STACK" Bundle.steD) (by decide +kernel)) hiT (hs (.isRef (.static Bundle.tN "UNASSIGNED_STACK" Bundle.steD)) (by decide +kernel)) hA, vx_Zqof (hts (.laysStatic Bundle.tN "SUPPRESSED_SENTINEL" Bundle.listD) (by decide +kernel)) hiT (hs (.isRef (.static Bundle.tN "SUPPRESSED_SENTINEL" Bundle.listD)) (by decide +kernel)) hA, vk_R.of (hts (.stringRef RX0 49 "a number is out of range") (by decide +kernel)) q1, va_Nw.of rfl (hts (.castable "java/lang/IllegalArgumentException" "java/lang/IllegalArgumentException") (by decide +kernel)), va_Nw.of rfl (hts (.declares (Bundle.initS "java/lang/RuntimeException")) (by decide +kernel)), va_Nw.of rfl (hts (.declares (Bundle.initS "java/lang/Exception")) (by decide +kernel)), va_Nw.of rfl (hts (.declares (Bundle.initS Bundle.tN)) (by decide +kernel))⟩
theorem kl_rng (x : Int32) (b : Nat) (hb : b < 2 ^ 31) : (∃ k, k ≤ b ∧ x = nI k) ∨ (x < 0 ∨ ¬ x ≤ nI b) := by
  by_cases h1 : x < 0
  · exact Or.inr (Or.inl h1)
  · by_cases h2 : x ≤ nI b
    · exact Or.inl (nI_of2 (nI_toInt hb) h1 h2)
    · exact Or.inr (Or.inr h2)
theorem kl_len {L t : Nat} (hL : L ≤ 2560) (ht : t ≤ 512) : (nI L - nI 5 < nI (5 * t)) ↔ L < 5 * t + 5 := by
  rw [Int32.lt_iff_toInt_lt, pk_sub_toInt (by omega) (by omega), nI_toInt (by omega)]
  omega
theorem kl_up {α : Type} {f g : Nat → α} (h : ∀ j, j < 8 → f j = g j) (k : Nat) (a : α) : ∀ j, j < 8 → va_up f k a j = va_up g k a j := by
  intro j hj
  by_cases e : j = k
  · subst e
    rw [va_up_self, va_up_self]
  · rw [va_up_ne _ _ e, va_up_ne _ _ e]
    exact h j hj
theorem kl_up8 {α : Type} {f g : Nat → α} (h : ∀ j, j < 8 → f j = g j) (a : α) : ∀ j, j < 8 → va_up f 8 a j = g j := by
  intro j hj
  rw [va_up_ne _ _ (by omega)]
  exact h j hj
theorem kl_lt {Pl : Nat → Nat} (h : ∀ j, j < 8 → Pl j < 136) (k : Nat) {a : Nat} (ha : a < 136) : ∀ j, j < 8 → va_up Pl k a j < 136 := by
  intro j hj
  by_cases e : j = k
  · subst e
    rw [va_up_self]
    exact ha
  · rw [va_up_ne _ _ e]
    exact h j hj
theorem kl_cmp (x : Int64) : lg_cmp x x = 0 := by simp [lg_cmp]
set_option maxRecDepth 100000 in
theorem gl_clear : GoodIn lw_tbl (wsV RL 46 RX1 yX1_clear wsM_clear) := goodIn_of _ (by decide +kernel)
set_option maxRecDepth 100000 in
theorem gl_take : GoodIn lw_tbl (wsV RL 56 RX1 yX1_take wsM_take) := goodIn_of _ (by decide +kernel)
set_option maxRecDepth 100000 in
theorem gl_fill : GoodIn lw_tbl (wsV RL 60 RX1 yX1_fill wsM_fill) := goodIn_of _ (by decide +kernel)
set_option maxRecDepth 100000 in
theorem gl_copy : GoodIn lw_tbl (wsV RL 64 RX1 yX1_copy wsM_copy) := goodIn_of _ (by decide +kernel)
set_option maxRecDepth 100000 in
theorem gl_mix : GoodIn lw_tbl (wsV RL 67 RX1 yX1_mix wsM_mix) := goodIn_of _ (by decide +kernel)
set_option maxRecDepth 100000 in
theorem gl_lane : GoodIn lw_tbl (wsV RL 71 RX1 yX1_lane wsM_lane) := goodIn_of _ (by decide +kernel)
set_option maxRecDepth 100000 in
theorem gl_digest : GoodIn lw_tbl (wsV RL 74 RX1 yX1_digest wsM_digest) := goodIn_of _ (by decide +kernel)
set_option maxRecDepth 100000 in
theorem gl_thrown : GoodIn lw_tbl (wsV RL 47 RX1 yX1_thrown wsM_thrown) := goodIn_of _ (by decide +kernel)
end
