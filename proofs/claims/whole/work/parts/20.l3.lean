/-! the law -/
set_option maxHeartbeats 40000000 in
set_option maxRecDepth 100000 in
theorem whole_start {p : Program} {e : Env} {s : State} {m : MethodId} {below : List Frame} {meth : Method} {c : Code} (l : Launch) (hl0 : l.stackTraces = false) {b L : Nat} {xs : Nat → Int32} (hL : L ≤ 2560) (C0 : lw_At p s m meth c b L xs) : W p l e room_1 s m #[Value.ref b] below meth c s.heap [] 0 0 (lw_Z below #[Value.ref b] s) (entryFrame m ([Value.ref b] : List Value).toArray 8) := by
  obtain ⟨hx, hb, hr, hml, hown0, hts, hX, hbl, hlocks, hgv⟩ := C0
  have hown : s.vm.findClass RL = some m.cls := hown0
  have htsL : ∀ w ∈ wsL_law, w.before #[Value.ref b] s = true := fun w h => hts w (wsL_law_in w h)
  obtain ⟨D, ct, hK⟩ := kl_K hts
  obtain ⟨tb, hB⟩ := kl_B hts hgv
  have hJ : kw_J (fun q => s.heap.size ≤ q) s s.heap := hts (.arrayOver (.array .long)) (by decide +kernel)
  obtain ⟨A, hAe⟩ : ∃ A : Nat → Prop, A = fun q => s.heap.size ≤ q := ⟨_, rfl⟩
  rw [← hAe] at hB hJ
  have hA : ∀ q, s.heap.size ≤ q → A q := fun q h => by rw [hAe]; exact h
  have hA2 : ∀ q, A q → s.heap.size ≤ q := fun q h => by rw [hAe] at h; exact h
  have hbA : ¬ A b := fun h => absurd (hA2 b h) (by omega)
  have hS : va_S A s.heap s.heap [] := va_S.rf
  have hP : va_P D vwCl [] s.heap := fun k q hk => by simp at hk
  have hD : va_D A [] := ⟨fun i j x y hi => by simp at hi, fun k q hk => by simp at hk⟩
  have hl := lv_entry ([.ref b]) (n := 8) (Nat.le_of_ble_eq_true rfl)
  rw [lg_entry_eq]
  generalize (lg_sl ([.ref b]) ++ List.replicate (8 - (lg_sl ([.ref b])).length) Slot.unset).toArray = ls at hl ⊢
  have hl : lv_has ls 8 [(0, .ref b)] := hl
  refine va_new (ci := 0) (fs := [.null, .null, .null, .null]) (C := RX0) (T := TX0) (N := 4) hx hb hts inX0 tyX0 tyX0_ok hown (hts (.classLink RL 8 RX0) (by decide +kernel)) (hts (.instantiable RX0 4) (by decide +kernel)) (hts (.initialized RX0) (by decide +kernel)) hK hP hD hS hA rfl (fun j hj => by rcases (show j = 0 ∨ j = 1 ∨ j = 2 ∨ j = 3 by omega) with rfl | rfl | rfl | rfl <;> rfl) (Nat.le_of_ble_eq_true rfl) (Nat.le_of_ble_eq_true rfl) dL_law_0 (fun q1 H hP hD hS => ?_)
  have hP : va_P D vwCl [(q1, .inr (0, [.null, .null, .null, .null]))] H := hP
  have hD : va_D A [(q1, .inr (0, [.null, .null, .null, .null]))] := hD
  refine W.widen (k := 1) (n := 4) (by omega) (by omega) ?_
  refine lv_dup hx hb dL_law_3 rfl ?_
  refine kr_callv (va_runI (As := []) (rest := [.ref q1]) ⟨hx, hb, hml, hown, htsL⟩ (kc_init l D ct q1 _) (cwI 0 htsL gL_law_X0_init rfl rfl rfl (hts (.initialized RX0) (by decide +kernel)) (hts (.methodLink RL 37 yX0_init) (by decide +kernel)) (hts (.instanceMethod yX0_init) (by decide +kernel)) rfl (by decide +kernel) ⟨Nat.le_of_ble_eq_true rfl, Nat.le_of_ble_eq_true rfl⟩) (kr_preS kw_Jok _ hP hK hD hJ hS hA) rfl rfl hl.1 rfl (lv_room (Nat.le_of_ble_eq_true rfl)) dL_law_4 ⟨Nat.le_of_ble_eq_true rfl, Nat.le_of_ble_eq_true rfl⟩) hD hS hA (fun aX H9 locs hq hP9 hD9 hS9 => ?_)
  obtain rfl : aX 0 = q1 := hq
  have hP : va_P D vwCl (kw_X ct aX (fun _ _ => 0) (fun _ => 0) (fun _ => 0) (fun _ => 0)) H9 := hP9
  have hD : va_D A (kw_X ct aX (fun _ _ => 0) (fun _ => 0) (fun _ => 0) (fun _ => 0)) := hD9
  have hS := hS9
  refine W.widen (k := 14) (n := 277) (by omega) (by omega) ?_
  refine lv_astore_n hx hb dL_law_7 rfl hl (Nat.le_of_ble_eq_true rfl) rfl (fun ls hl => ?_)
  have hl : lv_has ls 8 [(1, .ref (aX 0)), (0, .ref b)] := hl
  refine va_new (ci := 1) (fs := [.int 0, .null, .null, .null, .null, .null, .null]) (C := RX1) (T := TX1) (N := 7) hx hb hts inX1 tyX1 tyX1_ok hown (hts (.classLink RL 38 RX1) (by decide +kernel)) (hts (.instantiable RX1 7) (by decide +kernel)) (hts (.initialized RX1) (by decide +kernel)) hK hP hD hS hA rfl (fun j hj => by rcases (show j = 0 ∨ j = 1 ∨ j = 2 ∨ j = 3 ∨ j = 4 ∨ j = 5 ∨ j = 6 by omega) with rfl | rfl | rfl | rfl | rfl | rfl | rfl <;> rfl) (Nat.le_of_ble_eq_true rfl) (Nat.le_of_ble_eq_true rfl) dL_law_8 (fun q2 H hP hD hS => ?_)
  have hP : va_P D vwCl ([(q2, .inr (1, [.int 0, .null, .null, .null, .null, .null, .null]))] ++ kw_X ct aX (fun _ _ => 0) (fun _ => 0) (fun _ => 0) (fun _ => 0)) H := kr_swap hP
  have hD : va_D A ([(q2, .inr (1, [.int 0, .null, .null, .null, .null, .null, .null]))] ++ kw_X ct aX (fun _ _ => 0) (fun _ => 0) (fun _ => 0) (fun _ => 0)) := kr_swapD hD
  refine W.widen (k := 15) (n := 284) (by omega) (by omega) ?_
  refine lv_dup hx hb dL_law_11 rfl ?_
  refine kr_fv (wx := [(q2, .inr (1, [.int 0, .null, .null, .null, .null, .null, .null]))]) (wr := kw_X ct aX (fun _ _ => 0) (fun _ => 0) (fun _ => 0) (fun _ => 0)) (va_runI (As := []) (rest := [.ref q2]) ⟨hx, hb, hml, hown, htsL⟩ (km_init l D ct q2 _) (cwI 0 htsL gL_law_X1_init rfl rfl rfl (hts (.initialized RX1) (by decide +kernel)) (hts (.methodLink RL 40 yX1_init) (by decide +kernel)) (hts (.instanceMethod yX1_init) (by decide +kernel)) rfl (by decide +kernel) ⟨Nat.le_of_ble_eq_true rfl, Nat.le_of_ble_eq_true rfl⟩) (kr_preS kw_Jok _ (kr_left hP) hK (kr_leftD hD) hJ hS hA) rfl rfl hl.1 rfl (lv_room (Nat.le_of_ble_eq_true rfl)) dL_law_12 ⟨Nat.le_of_ble_eq_true rfl, Nat.le_of_ble_eq_true rfl⟩) hP hD hS hA (fun aM H8 locs hq hP8 hD8 hS8 => ?_)
  obtain rfl : aM 0 = q2 := hq
  have hP : va_P D vwCl (kw_M ct aM 0 (fun _ _ => 0) (fun _ => 0) (fun _ => 0) (fun _ => 0) (fun _ => 0) kk_rc ++ kw_X ct aX (fun _ _ => 0) (fun _ => 0) (fun _ => 0) (fun _ => 0)) H8 := hP8
  have hD : va_D A (kw_M ct aM 0 (fun _ _ => 0) (fun _ => 0) (fun _ => 0) (fun _ => 0) (fun _ => 0) kk_rc ++ kw_X ct aX (fun _ _ => 0) (fun _ => 0) (fun _ => 0) (fun _ => 0)) := hD8
  have hS := hS8
  refine W.widen (k := 29) (n := 579) (by omega) (by omega) ?_
  refine lv_astore_n hx hb dL_law_15 rfl hl (Nat.le_of_ble_eq_true rfl) rfl (fun ls hl => ?_)
  have hl : lv_has ls 8 [(2, .ref (aM 0)), (1, .ref (aX 0)), (0, .ref b)] := hl
  refine lv_iconst (v := nI 1) hx hb dL_law_16 rfl ?_
  refine va_newa (atype := .long) (ty := .long) (N' := 1) (a0 := (1, .inr (.inl (fun _ => 0)))) hx hb (hts (.arrayClass .long) (by decide +kernel)) rfl hK hP hD hS hA (fun _ => rfl) (nI_pos (n := 1) (by omega)) (nI_clamp (by omega)) (by decide +kernel) (Nat.le_of_ble_eq_true rfl) (Nat.le_of_ble_eq_true rfl) dL_law_17 (fun qo cA H hK1 hP hD hS => ?_)
  obtain rfl : cA = ct 2 := kv_cls (i := 2) hK rfl (fun _ h => by cases h) hK1
  rw [List.append_assoc] at hP hD
  have hP : va_P D vwCl ((kw_X ct aX (fun _ _ => 0) (fun _ => 0) (fun _ => 0) (fun _ => 0) ++ kw_O ct qo (fun _ => 0)) ++ kw_M ct aM 0 (fun _ _ => 0) (fun _ => 0) (fun _ => 0) (fun _ => 0) (fun _ => 0) kk_rc) H := kr_swap hP
  have hD : va_D A ((kw_X ct aX (fun _ _ => 0) (fun _ => 0) (fun _ => 0) (fun _ => 0) ++ kw_O ct qo (fun _ => 0)) ++ kw_M ct aM 0 (fun _ _ => 0) (fun _ => 0) (fun _ => 0) (fun _ => 0) (fun _ => 0) kk_rc) := kr_swapD hD
  refine W.widen (k := 30) (n := 580) (by omega) (by omega) ?_
  refine lv_astore_n hx hb dL_law_19 rfl hl (Nat.le_of_ble_eq_true rfl) rfl (fun ls hl => ?_)
  have hl : lv_has ls 8 [(3, .ref qo), (2, .ref (aM 0)), (1, .ref (aX 0)), (0, .ref b)] := hl
  refine lv_iconst (v := nI 0) hx hb dL_law_20 rfl ?_
  refine lv_istore hx hb dL_law_21 hl (Nat.le_of_ble_eq_true rfl) rfl (fun ls hl => ?_)
  have hl : lv_has ls 8 [(4, .int (nI 0)), (3, .ref qo), (2, .ref (aM 0)), (1, .ref (aX 0)), (0, .ref b)] := hl
  have hl : lv_has ls 8 [(4, .int (nI 0)), (0, .ref b), (1, .ref (aX 0)), (2, .ref (aM 0)), (3, .ref qo)] := lv_sub hl [0, 4, 3, 2, 1] rfl
  have loop : ∀ (n t : Nat) (MX M : Nat → Nat → Int64) (PX Pl : Nat → Nat) (C V o : Nat → Int64) (F : Int32) (L1 C1 V1 : Nat → Int64) (H : Heap) (locs : List Loc) (ls : Array Slot), 513 - t < n → t ≤ 512 → (∀ j, j < 8 → MX j = M j) → (∀ j, j < 8 → PX j = Pl j) → (∀ j, j < 8 → Pl j < 136) → lv_has ls 8 [(4, .int (nI (5 * t))), (0, .ref b), (1, .ref (aX 0)), (2, .ref (aM 0)), (3, .ref qo)] → va_P D vwCl ((kw_X ct aX MX PX C V ++ kw_O ct qo o) ++ kw_M ct aM F M Pl L1 C1 V1 kk_rc) H → va_D A ((kw_X ct aX MX PX C V ++ kw_O ct qo o) ++ kw_M ct aM F M Pl L1 C1 V1 kk_rc) → va_S A s.heap H locs → W p l e room_1 s m #[Value.ref b] below meth c H locs (30 + t) (580 + 6 * t) (lw_Z below #[Value.ref b] s) (F0 m 23 ls []) := by
    intro n
    induction n with
    | zero => intro t MX M PX Pl C V o F L1 C1 V1 H locs ls h; omega
    | succ n ih =>
      intro t MX M PX Pl C V o F L1 C1 V1 H locs ls hn ht hM hPx hPl hl hP hD hS
      refine lv_iload hx hb dL_law_23 (lv_at hl 0 rfl) ?_
      refine lv_aload_n hx hb dL_law_25 rfl (lv_at hl 1 rfl) ?_
      refine va_slen hx hb hX hbl hbA hS dL_law_26 ?_
      refine lv_iconst (v := nI 5) hx hb dL_law_27 rfl ?_
      refine lv_isub hx hb dL_law_28 ?_
      refine lv_icmp_gt (tgt := 544) hx hb dL_law_29 rfl (fun hc => ?_) (fun hc => ?_)
      · refine lv_iconst (v := 1) hx hb dL_law_544 rfl ?_
        refine va_forget (fun q hq => hA2 _ (hS.2.2 q hq)) ?_
        refine W.widen (k := 601024) (n := 7293034) (by omega) (by omega) ?_
        exact lw_ret hx hb hr hlocks dL_law_545
      · have hLt : 5 * t + 5 ≤ L := by have h9 : ¬ L < 5 * t + 5 := (fun h => hc ((kl_len (L := L) (t := t) hL (by omega)).mpr h)); omega
        clear hc
        have ht1 : t + 1 ≤ 512 := by omega
        refine lv_aload_n hx hb dL_law_32 rfl (lv_at hl 1 rfl) ?_
        refine lv_iload hx hb dL_law_33 (lv_at hl 0 rfl) ?_
        refine va_sld hx hb hX hbl hbA hS (vp_in_nI (n := 5 * t) (by omega) (by omega)) dL_law_35 ?_
        rw [nI_clamp (n := 5 * t) (by omega)]
        refine lv_bipush (v := nI 7) hx hb dL_law_36 (by decide +kernel) ?_
        refine lv_iand hx hb dL_law_38 ?_
        obtain ⟨j, hj, ej⟩ := pk_andE (xs (5 * t)) (m := nI 7) 3 (by decide +kernel)
        rw [ej]
        have hcells : 30 + t + 7 ≤ room_1.cells := by show 30 + t + 7 ≤ 601024; omega
        have hslots : 580 + 6 * t + 42 ≤ room_1.slots := by show 580 + 6 * t + 42 ≤ 7293034; omega
        have hj8 : j < 8 := hj
        rcases (show j = 0 ∨ j = 1 ∨ j = 2 ∨ j = 3 ∨ j = 4 ∨ j = 5 ∨ j = 6 ∨ j = 7 by omega) with rfl | rfl | rfl | rfl | rfl | rfl | rfl | rfl
        · refine lv_tableIn (tgt := 80) hx hb dL_law_39 (by decide +kernel) (by decide +kernel) rfl rfl ?_
          rcases kl_rng (xs (5 * t + 1)) 7 (by omega) with ⟨k, hk, ek⟩ | hbad
          · have hk8 : k < 8 := by omega
            refine lv_aload_n hx hb dL_law_80 rfl (lv_at hl 2 rfl) ?_
            refine lv_aload_n hx hb dL_law_81 rfl (lv_at hl 1 rfl) ?_
            refine lv_iload hx hb dL_law_82 (lv_at hl 0 rfl) ?_
            refine lv_iconst (v := nI 1) hx hb dL_law_84 rfl ?_
            refine kr_iadd hx hb dL_law_85 ?_
            refine va_sld hx hb hX hbl hbA hS (vp_in_nI (n := (5 * t) + 1) (by omega) (by omega)) dL_law_86 ?_
            rw [nI_clamp (n := (5 * t) + 1) (by omega)]
            rw [ek]
            refine kr_fi (wx := kw_X ct aX MX PX C V ++ kw_O ct qo o) (wr := kw_M ct aM F M Pl L1 C1 V1 kk_rc) (vx_runSW (As := [.ref (aX 0), .int (nI k)]) (rest := []) ⟨hx, hb, hml, hown, htsL⟩ (kl_clear l D ct aX tb qo MX PX C V o _ hk8) (vx_cwSW 2 htsL gL_law_L_clear rfl rfl rfl (by decide +kernel) ⟨Nat.le_of_ble_eq_true rfl, Nat.le_of_ble_eq_true rfl⟩) (kr_preS (kw_Bok tb) _ (kr_left hP) hK (kr_leftD hD) hB hS hA) rfl rfl hl.1 rfl (lv_room (Nat.le_of_ble_eq_true rfl)) dL_law_87 ⟨by show _ ≤ 601024; omega, by show _ ≤ 7293034; omega⟩) hP hD hS hA (fun r _ H locs hq hP hD hS => ?_)
            obtain rfl : r = nI 0 := hq
            have hP : va_P D vwCl ((kw_X ct aX (va_up MX k (fun _ => 0)) (va_up PX k 0) C V ++ kw_O ct qo o) ++ kw_M ct aM F M Pl L1 C1 V1 kk_rc) H := hP
            have hD : va_D A ((kw_X ct aX (va_up MX k (fun _ => 0)) (va_up PX k 0) C V ++ kw_O ct qo o) ++ kw_M ct aM F M Pl L1 C1 V1 kk_rc) := hD
            refine lv_istore hx hb dL_law_90 hl (Nat.le_of_ble_eq_true rfl) rfl (fun ls hl => ?_)
            have hl : lv_has ls 8 [(5, .int (nI 0)), (4, .int (nI (5 * t))), (0, .ref b), (1, .ref (aX 0)), (2, .ref (aM 0)), (3, .ref qo)] := hl
            refine lv_aload_n hx hb dL_law_92 rfl (lv_at hl 4 rfl) ?_
            refine lv_aload_n hx hb dL_law_93 rfl (lv_at hl 2 rfl) ?_
            refine lv_iload hx hb dL_law_94 (lv_at hl 1 rfl) ?_
            refine lv_iconst (v := nI 1) hx hb dL_law_96 rfl ?_
            refine kr_iadd hx hb dL_law_97 ?_
            refine va_sld hx hb hX hbl hbA hS (vp_in_nI (n := (5 * t) + 1) (by omega) (by omega)) dL_law_98 ?_
            rw [nI_clamp (n := (5 * t) + 1) (by omega)]
            rw [ek]
            have hP : va_P D vwCl (kw_M ct aM F M Pl L1 C1 V1 kk_rc ++ (kw_X ct aX (va_up MX k (fun _ => 0)) (va_up PX k 0) C V ++ kw_O ct qo o)) H := kr_swap hP
            have hD : va_D A (kw_M ct aM F M Pl L1 C1 V1 kk_rc ++ (kw_X ct aX (va_up MX k (fun _ => 0)) (va_up PX k 0) C V ++ kw_O ct qo o)) := kr_swapD hD
            refine kr_fv (wx := kw_M ct aM F M Pl L1 C1 V1 kk_rc) (wr := kw_X ct aX (va_up MX k (fun _ => 0)) (va_up PX k 0) C V ++ kw_O ct qo o) (va_runV (As := [.int (nI k)]) (rest := []) ⟨hx, hb, hml, hown, hts⟩ (km_clear l D ct aM F M Pl L1 C1 V1 kk_rc _ hk8) (cwV 1 hts gl_clear rfl rfl rfl (by decide +kernel) ⟨Nat.le_of_ble_eq_true rfl, Nat.le_of_ble_eq_true rfl⟩) (kr_preV kw_Nok (q := (RX1, TX1, 7)) (q0 := 0) (ci := 1) _ (kr_left hP) hK (kr_leftD hD) trivial hS hA rfl rfl rfl) rfl rfl hl.1 rfl (lv_room (Nat.le_of_ble_eq_true rfl)) dL_law_99 ⟨by show _ ≤ 601024; omega, by show _ ≤ 7293034; omega⟩) hP hD hS hA (fun _ H locs hq hP hD hS => ?_)
            have hP : va_P D vwCl ((kw_X ct aX (va_up MX k (fun _ => 0)) (va_up PX k 0) C V ++ kw_O ct qo o) ++ kw_M ct aM (nI 0) (va_up M k (fun _ => 0)) (va_up Pl k 0) L1 C1 V1 kk_rc) H := kr_swap hP
            have hD : va_D A ((kw_X ct aX (va_up MX k (fun _ => 0)) (va_up PX k 0) C V ++ kw_O ct qo o) ++ kw_M ct aM (nI 0) (va_up M k (fun _ => 0)) (va_up Pl k 0) L1 C1 V1 kk_rc) := kr_swapD hD
            refine lv_aload_n hx hb dL_law_102 rfl (lv_at hl 4 rfl) ?_
            have hP : va_P D vwCl (kw_M ct aM (nI 0) (va_up M k (fun _ => 0)) (va_up Pl k 0) L1 C1 V1 kk_rc ++ (kw_X ct aX (va_up MX k (fun _ => 0)) (va_up PX k 0) C V ++ kw_O ct qo o)) H := kr_swap hP
            have hD : va_D A (kw_M ct aM (nI 0) (va_up M k (fun _ => 0)) (va_up Pl k 0) L1 C1 V1 kk_rc ++ (kw_X ct aX (va_up MX k (fun _ => 0)) (va_up PX k 0) C V ++ kw_O ct qo o)) := kr_swapD hD
            refine kr_fi (wx := kw_M ct aM (nI 0) (va_up M k (fun _ => 0)) (va_up Pl k 0) L1 C1 V1 kk_rc) (wr := kw_X ct aX (va_up MX k (fun _ => 0)) (va_up PX k 0) C V ++ kw_O ct qo o) (va_runV (As := []) (rest := []) ⟨hx, hb, hml, hown, hts⟩ (km_thrown l D ct aM (nI 0) (va_up M k (fun _ => 0)) (va_up Pl k 0) L1 C1 V1 kk_rc _) (cwV 0 hts gl_thrown rfl rfl rfl (by decide +kernel) ⟨Nat.le_of_ble_eq_true rfl, Nat.le_of_ble_eq_true rfl⟩) (kr_preV kw_Nok (q := (RX1, TX1, 7)) (q0 := 0) (ci := 1) _ (kr_left hP) hK (kr_leftD hD) trivial hS hA rfl rfl rfl) rfl rfl hl.1 rfl (lv_room (Nat.le_of_ble_eq_true rfl)) dL_law_103 ⟨by show _ ≤ 601024; omega, by show _ ≤ 7293034; omega⟩) hP hD hS hA (fun r _ H locs hq hP hD hS => ?_)
            obtain rfl : r = nI 0 := hq
            have hP : va_P D vwCl ((kw_X ct aX (va_up MX k (fun _ => 0)) (va_up PX k 0) C V ++ kw_O ct qo o) ++ kw_M ct aM (nI 0) (va_up M k (fun _ => 0)) (va_up Pl k 0) L1 C1 V1 kk_rc) H := kr_swap hP
            have hD : va_D A ((kw_X ct aX (va_up MX k (fun _ => 0)) (va_up PX k 0) C V ++ kw_O ct qo o) ++ kw_M ct aM (nI 0) (va_up M k (fun _ => 0)) (va_up Pl k 0) L1 C1 V1 kk_rc) := kr_swapD hD
            refine lv_iload hx hb dL_law_106 (lv_at hl 0 rfl) ?_
            refine kr_icmp_eq (tgt := 113) hx hb (by omega) (by omega) dL_law_108 rfl (fun hc => ?_) (fun hc => ?_)
            · clear hc
              refine lv_goto (tgt := 538) hx hb dL_law_113 rfl ?_
              refine lv_iinc (k := 1) (v := nI ((5 * t) + 5)) hx hb dL_law_538 hl rfl (nI_add (5 * t) 5) (Nat.le_of_ble_eq_true rfl) rfl (fun ls hl => ?_)
              have hl : lv_has ls 8 [(4, .int (nI ((5 * t) + 5))), (5, .int (nI 0)), (0, .ref b), (1, .ref (aX 0)), (2, .ref (aM 0)), (3, .ref qo)] := hl
              refine lv_goto (tgt := 23) hx hb dL_law_541 rfl ?_
              refine W.widen (k := 30 + (t + 1)) (n := 580 + 6 * (t + 1)) (by omega) (by omega) ?_
              exact ih (t + 1) (va_up MX k (fun _ => 0)) (va_up M k (fun _ => 0)) (va_up PX k 0) (va_up Pl k 0) C V o (nI 0) L1 C1 V1 H locs ls (by omega) (by omega) (kl_up hM k _) (kl_up hPx k _) (kl_lt hPl k (by omega)) (lv_sub hl [0, 2, 3, 4, 5] rfl) hP hD hS
            · exact absurd rfl hc
          · clear hcells
            refine lv_aload_n hx hb dL_law_80 rfl (lv_at hl 2 rfl) ?_
            refine lv_aload_n hx hb dL_law_81 rfl (lv_at hl 1 rfl) ?_
            refine lv_iload hx hb dL_law_82 (lv_at hl 0 rfl) ?_
            refine lv_iconst (v := nI 1) hx hb dL_law_84 rfl ?_
            refine kr_iadd hx hb dL_law_85 ?_
            refine va_sld hx hb hX hbl hbA hS (vp_in_nI (n := (5 * t) + 1) (by omega) (by omega)) dL_law_86 ?_
            rw [nI_clamp (n := (5 * t) + 1) (by omega)]
            refine kr_fi (wx := kw_X ct aX MX PX C V ++ kw_O ct qo o) (wr := kw_M ct aM F M Pl L1 C1 V1 kk_rc) (vx_runSW (As := [.ref (aX 0), .int (xs ((5 * t) + 1))]) (rest := []) ⟨hx, hb, hml, hown, htsL⟩ (kl_clear1 l D ct aX tb qo MX PX C V o hl0 _ (xs (5 * t + 1)) hbad) (vx_cwSW 2 htsL gL_law_L_clear rfl rfl rfl (by decide +kernel) ⟨Nat.le_of_ble_eq_true rfl, Nat.le_of_ble_eq_true rfl⟩) (kr_preS (kw_Bok tb) _ (kr_left hP) hK (kr_leftD hD) hB hS hA) rfl rfl hl.1 rfl (lv_room (Nat.le_of_ble_eq_true rfl)) dL_law_87 ⟨by show _ ≤ 601024; omega, by show _ ≤ 7293034; omega⟩) hP hD hS hA (fun r _ H locs hq hP hD hS => ?_)
            obtain rfl : r = nI 1 := hq
            have hP : va_P D vwCl ((kw_X ct aX MX PX C V ++ kw_O ct qo o) ++ kw_M ct aM F M Pl L1 C1 V1 kk_rc) H := hP
            have hD : va_D A ((kw_X ct aX MX PX C V ++ kw_O ct qo o) ++ kw_M ct aM F M Pl L1 C1 V1 kk_rc) := hD
            refine lv_istore hx hb dL_law_90 hl (Nat.le_of_ble_eq_true rfl) rfl (fun ls hl => ?_)
            have hl : lv_has ls 8 [(5, .int (nI 1)), (4, .int (nI (5 * t))), (0, .ref b), (1, .ref (aX 0)), (2, .ref (aM 0)), (3, .ref qo)] := hl
            refine lv_aload_n hx hb dL_law_92 rfl (lv_at hl 4 rfl) ?_
            refine lv_aload_n hx hb dL_law_93 rfl (lv_at hl 2 rfl) ?_
            refine lv_iload hx hb dL_law_94 (lv_at hl 1 rfl) ?_
            refine lv_iconst (v := nI 1) hx hb dL_law_96 rfl ?_
            refine kr_iadd hx hb dL_law_97 ?_
            refine va_sld hx hb hX hbl hbA hS (vp_in_nI (n := (5 * t) + 1) (by omega) (by omega)) dL_law_98 ?_
            rw [nI_clamp (n := (5 * t) + 1) (by omega)]
            have hP : va_P D vwCl (kw_M ct aM F M Pl L1 C1 V1 kk_rc ++ (kw_X ct aX MX PX C V ++ kw_O ct qo o)) H := kr_swap hP
            have hD : va_D A (kw_M ct aM F M Pl L1 C1 V1 kk_rc ++ (kw_X ct aX MX PX C V ++ kw_O ct qo o)) := kr_swapD hD
            refine kr_fv (wx := kw_M ct aM F M Pl L1 C1 V1 kk_rc) (wr := kw_X ct aX MX PX C V ++ kw_O ct qo o) (va_runV (As := [.int (xs ((5 * t) + 1))]) (rest := []) ⟨hx, hb, hml, hown, hts⟩ (kn_clear1 l D ct aM F M Pl L1 C1 V1 kk_rc _ (xs (5 * t + 1)) hbad) (cwV 1 hts gl_clear rfl rfl rfl (by decide +kernel) ⟨Nat.le_of_ble_eq_true rfl, Nat.le_of_ble_eq_true rfl⟩) (kr_preV kw_Nok (q := (RX1, TX1, 7)) (q0 := 0) (ci := 1) _ (kr_left hP) hK (kr_leftD hD) trivial hS hA rfl rfl rfl) rfl rfl hl.1 rfl (lv_room (Nat.le_of_ble_eq_true rfl)) dL_law_99 ⟨by show _ ≤ 601024; omega, by show _ ≤ 7293034; omega⟩) hP hD hS hA (fun _ H locs hq hP hD hS => ?_)
            have hP : va_P D vwCl ((kw_X ct aX MX PX C V ++ kw_O ct qo o) ++ kw_M ct aM (nI 1) M Pl L1 C1 V1 kk_rc) H := kr_swap hP
            have hD : va_D A ((kw_X ct aX MX PX C V ++ kw_O ct qo o) ++ kw_M ct aM (nI 1) M Pl L1 C1 V1 kk_rc) := kr_swapD hD
            refine lv_aload_n hx hb dL_law_102 rfl (lv_at hl 4 rfl) ?_
            have hP : va_P D vwCl (kw_M ct aM (nI 1) M Pl L1 C1 V1 kk_rc ++ (kw_X ct aX MX PX C V ++ kw_O ct qo o)) H := kr_swap hP
            have hD : va_D A (kw_M ct aM (nI 1) M Pl L1 C1 V1 kk_rc ++ (kw_X ct aX MX PX C V ++ kw_O ct qo o)) := kr_swapD hD
            refine kr_fi (wx := kw_M ct aM (nI 1) M Pl L1 C1 V1 kk_rc) (wr := kw_X ct aX MX PX C V ++ kw_O ct qo o) (va_runV (As := []) (rest := []) ⟨hx, hb, hml, hown, hts⟩ (km_thrown l D ct aM (nI 1) M Pl L1 C1 V1 kk_rc _) (cwV 0 hts gl_thrown rfl rfl rfl (by decide +kernel) ⟨Nat.le_of_ble_eq_true rfl, Nat.le_of_ble_eq_true rfl⟩) (kr_preV kw_Nok (q := (RX1, TX1, 7)) (q0 := 0) (ci := 1) _ (kr_left hP) hK (kr_leftD hD) trivial hS hA rfl rfl rfl) rfl rfl hl.1 rfl (lv_room (Nat.le_of_ble_eq_true rfl)) dL_law_103 ⟨by show _ ≤ 601024; omega, by show _ ≤ 7293034; omega⟩) hP hD hS hA (fun r _ H locs hq hP hD hS => ?_)
            obtain rfl : r = nI 1 := hq
            have hP : va_P D vwCl ((kw_X ct aX MX PX C V ++ kw_O ct qo o) ++ kw_M ct aM (nI 1) M Pl L1 C1 V1 kk_rc) H := kr_swap hP
            have hD : va_D A ((kw_X ct aX MX PX C V ++ kw_O ct qo o) ++ kw_M ct aM (nI 1) M Pl L1 C1 V1 kk_rc) := kr_swapD hD
            refine lv_iload hx hb dL_law_106 (lv_at hl 0 rfl) ?_
            refine kr_icmp_eq (tgt := 113) hx hb (by omega) (by omega) dL_law_108 rfl (fun hc => ?_) (fun hc => ?_)
            · clear hc
              refine lv_goto (tgt := 538) hx hb dL_law_113 rfl ?_
              refine lv_iinc (k := 1) (v := nI ((5 * t) + 5)) hx hb dL_law_538 hl rfl (nI_add (5 * t) 5) (Nat.le_of_ble_eq_true rfl) rfl (fun ls hl => ?_)
              have hl : lv_has ls 8 [(4, .int (nI ((5 * t) + 5))), (5, .int (nI 1)), (0, .ref b), (1, .ref (aX 0)), (2, .ref (aM 0)), (3, .ref qo)] := hl
              refine lv_goto (tgt := 23) hx hb dL_law_541 rfl ?_
              refine W.widen (k := 30 + (t + 1)) (n := 580 + 6 * (t + 1)) (by omega) (by omega) ?_
              exact ih (t + 1) MX M PX Pl C V o (nI 1) L1 C1 V1 H locs ls (by omega) (by omega) hM hPx hPl (lv_sub hl [0, 2, 3, 4, 5] rfl) hP hD hS
            · exact absurd rfl hc
        · refine lv_tableIn (tgt := 116) hx hb dL_law_39 (by decide +kernel) (by decide +kernel) rfl rfl ?_
          rcases kl_rng (xs (5 * t + 1)) 7 (by omega) with ⟨k, hk, ek⟩ | hbad
          · have hk8 : k < 8 := by omega
            rcases kl_rng (xs (5 * t + 4)) 8 (by omega) with ⟨n, hn, en⟩ | hbad
            · have hMk := hM k hk8
              have hPk := hPx k hk8
              have hq0 : (MX k, PX k).2 < 136 := by show PX k < 136; rw [hPk]; exact hPl k hk8
              have hq1 : (M k, Pl k).2 < 136 := hPl k hk8
              refine lv_aload_n hx hb dL_law_116 rfl (lv_at hl 2 rfl) ?_
              refine lv_aload_n hx hb dL_law_117 rfl (lv_at hl 1 rfl) ?_
              refine lv_iload hx hb dL_law_118 (lv_at hl 0 rfl) ?_
              refine lv_iconst (v := nI 1) hx hb dL_law_120 rfl ?_
              refine kr_iadd hx hb dL_law_121 ?_
              refine va_sld hx hb hX hbl hbA hS (vp_in_nI (n := (5 * t) + 1) (by omega) (by omega)) dL_law_122 ?_
              rw [nI_clamp (n := (5 * t) + 1) (by omega)]
              rw [ek]
              refine lv_aload_n hx hb dL_law_123 rfl (lv_at hl 1 rfl) ?_
              refine lv_iload hx hb dL_law_124 (lv_at hl 0 rfl) ?_
              refine lv_iconst (v := nI 2) hx hb dL_law_126 rfl ?_
              refine kr_iadd hx hb dL_law_127 ?_
              refine va_sld hx hb hX hbl hbA hS (vp_in_nI (n := (5 * t) + 2) (by omega) (by omega)) dL_law_128 ?_
              rw [nI_clamp (n := (5 * t) + 2) (by omega)]
              refine lv_i2l hx hb dL_law_129 rfl ?_
              refine lv_bipush (v := nI 32) hx hb dL_law_130 (by decide +kernel) ?_
              refine lv_lshl hx hb dL_law_132 rfl ?_
              refine lv_aload_n hx hb dL_law_133 rfl (lv_at hl 1 rfl) ?_
              refine lv_iload hx hb dL_law_134 (lv_at hl 0 rfl) ?_
              refine lv_iconst (v := nI 3) hx hb dL_law_136 rfl ?_
              refine kr_iadd hx hb dL_law_137 ?_
              refine va_sld hx hb hX hbl hbA hS (vp_in_nI (n := (5 * t) + 3) (by omega) (by omega)) dL_law_138 ?_
              rw [nI_clamp (n := (5 * t) + 3) (by omega)]
              refine lv_i2l hx hb dL_law_139 rfl ?_
              refine lv_ldc2 (v := 4294967295) hx hb hown (hts (.constantLong RL 51 4294967295) (by decide +kernel)) dL_law_140 ?_
              refine lv_land hx hb dL_law_143 ?_
              refine lv_lor hx hb dL_law_144 ?_
              refine lv_aload_n hx hb dL_law_145 rfl (lv_at hl 1 rfl) ?_
              refine lv_iload hx hb dL_law_146 (lv_at hl 0 rfl) ?_
              refine lv_iconst (v := nI 4) hx hb dL_law_148 rfl ?_
              refine kr_iadd hx hb dL_law_149 ?_
              refine va_sld hx hb hX hbl hbA hS (vp_in_nI (n := (5 * t) + 4) (by omega) (by omega)) dL_law_150 ?_
              rw [nI_clamp (n := (5 * t) + 4) (by omega)]
              rw [en]
              refine lv_aload_n hx hb dL_law_151 rfl (lv_at hl 4 rfl) ?_
              refine kr_fi (wx := kw_X ct aX MX PX C V ++ kw_O ct qo o) (wr := kw_M ct aM F M Pl L1 C1 V1 kk_rc) (vx_runSW (As := [.ref (aX 0), .int (nI k), .long ((((xs ((5 * t) + 2)).toInt64) <<< ((nI 32).toInt64 &&& 63)) ||| (((xs ((5 * t) + 3)).toInt64) &&& 4294967295)), .int (nI n), .ref qo]) (rest := []) ⟨hx, hb, hml, hown, htsL⟩ (kl_take l D ct aX tb qo MX PX C V o _ hk8 (n := n) hn hq0 (((xs (5 * t + 2)).toInt64 <<< ((nI 32).toInt64 &&& 63)) ||| ((xs (5 * t + 3)).toInt64 &&& 4294967295))) (vx_cwSW 5 htsL gL_law_L_take rfl rfl rfl (by decide +kernel) ⟨Nat.le_of_ble_eq_true rfl, Nat.le_of_ble_eq_true rfl⟩) (kr_preS (kw_Bok tb) _ (kr_left hP) hK (kr_leftD hD) hB hS hA) rfl rfl hl.1 rfl (lv_room (Nat.le_of_ble_eq_true rfl)) dL_law_152 ⟨by show _ ≤ 601024; omega, by show _ ≤ 7293034; omega⟩) hP hD hS hA (fun r u H locs hq hP hD hS => ?_)
              obtain rfl : r = nI 0 := hq
              have hP : va_P D vwCl ((kw_X ct aX (va_up MX k (kk_ins (MX k, PX k) (kk_tb (((xs (5 * t + 2)).toInt64 <<< ((nI 32).toInt64 &&& 63)) ||| ((xs (5 * t + 3)).toInt64 &&& 4294967295))) n).1) (va_up PX k (kk_ins (MX k, PX k) (kk_tb (((xs (5 * t + 2)).toInt64 <<< ((nI 32).toInt64 &&& 63)) ||| ((xs (5 * t + 3)).toInt64 &&& 4294967295))) n).2) u.1 u.2 ++ kw_O ct qo (vp_updL o 0 ((nI ((kk_ins (MX k, PX k) (kk_tb (((xs (5 * t + 2)).toInt64 <<< ((nI 32).toInt64 &&& 63)) ||| ((xs (5 * t + 3)).toInt64 &&& 4294967295))) n).2)).toInt64))) ++ kw_M ct aM F M Pl L1 C1 V1 kk_rc) H := hP
              have hD : va_D A ((kw_X ct aX (va_up MX k (kk_ins (MX k, PX k) (kk_tb (((xs (5 * t + 2)).toInt64 <<< ((nI 32).toInt64 &&& 63)) ||| ((xs (5 * t + 3)).toInt64 &&& 4294967295))) n).1) (va_up PX k (kk_ins (MX k, PX k) (kk_tb (((xs (5 * t + 2)).toInt64 <<< ((nI 32).toInt64 &&& 63)) ||| ((xs (5 * t + 3)).toInt64 &&& 4294967295))) n).2) u.1 u.2 ++ kw_O ct qo (vp_updL o 0 ((nI ((kk_ins (MX k, PX k) (kk_tb (((xs (5 * t + 2)).toInt64 <<< ((nI 32).toInt64 &&& 63)) ||| ((xs (5 * t + 3)).toInt64 &&& 4294967295))) n).2)).toInt64))) ++ kw_M ct aM F M Pl L1 C1 V1 kk_rc) := hD
              rw [hMk, hPk] at hP hD
              have hP : va_P D vwCl ((kw_X ct aX (va_up MX k (kk_ins (M k, Pl k) (kk_tb (((xs (5 * t + 2)).toInt64 <<< ((nI 32).toInt64 &&& 63)) ||| ((xs (5 * t + 3)).toInt64 &&& 4294967295))) n).1) (va_up PX k (kk_ins (M k, Pl k) (kk_tb (((xs (5 * t + 2)).toInt64 <<< ((nI 32).toInt64 &&& 63)) ||| ((xs (5 * t + 3)).toInt64 &&& 4294967295))) n).2) u.1 u.2 ++ kw_O ct qo (vp_updL o 0 ((nI ((kk_ins (M k, Pl k) (kk_tb (((xs (5 * t + 2)).toInt64 <<< ((nI 32).toInt64 &&& 63)) ||| ((xs (5 * t + 3)).toInt64 &&& 4294967295))) n).2)).toInt64))) ++ kw_M ct aM F M Pl L1 C1 V1 kk_rc) H := hP
              have hD : va_D A ((kw_X ct aX (va_up MX k (kk_ins (M k, Pl k) (kk_tb (((xs (5 * t + 2)).toInt64 <<< ((nI 32).toInt64 &&& 63)) ||| ((xs (5 * t + 3)).toInt64 &&& 4294967295))) n).1) (va_up PX k (kk_ins (M k, Pl k) (kk_tb (((xs (5 * t + 2)).toInt64 <<< ((nI 32).toInt64 &&& 63)) ||| ((xs (5 * t + 3)).toInt64 &&& 4294967295))) n).2) u.1 u.2 ++ kw_O ct qo (vp_updL o 0 ((nI ((kk_ins (M k, Pl k) (kk_tb (((xs (5 * t + 2)).toInt64 <<< ((nI 32).toInt64 &&& 63)) ||| ((xs (5 * t + 3)).toInt64 &&& 4294967295))) n).2)).toInt64))) ++ kw_M ct aM F M Pl L1 C1 V1 kk_rc) := hD
              refine lv_istore hx hb dL_law_155 hl (Nat.le_of_ble_eq_true rfl) rfl (fun ls hl => ?_)
              have hl : lv_has ls 8 [(5, .int (nI 0)), (4, .int (nI (5 * t))), (0, .ref b), (1, .ref (aX 0)), (2, .ref (aM 0)), (3, .ref qo)] := hl
              refine lv_aload_n hx hb dL_law_157 rfl (lv_at hl 4 rfl) ?_
              refine lv_aload_n hx hb dL_law_158 rfl (lv_at hl 2 rfl) ?_
              refine lv_iload hx hb dL_law_159 (lv_at hl 1 rfl) ?_
              refine lv_iconst (v := nI 1) hx hb dL_law_161 rfl ?_
              refine kr_iadd hx hb dL_law_162 ?_
              refine va_sld hx hb hX hbl hbA hS (vp_in_nI (n := (5 * t) + 1) (by omega) (by omega)) dL_law_163 ?_
              rw [nI_clamp (n := (5 * t) + 1) (by omega)]
              rw [ek]
              refine lv_aload_n hx hb dL_law_164 rfl (lv_at hl 2 rfl) ?_
              refine lv_iload hx hb dL_law_165 (lv_at hl 1 rfl) ?_
              refine lv_iconst (v := nI 2) hx hb dL_law_167 rfl ?_
              refine kr_iadd hx hb dL_law_168 ?_
              refine va_sld hx hb hX hbl hbA hS (vp_in_nI (n := (5 * t) + 2) (by omega) (by omega)) dL_law_169 ?_
              rw [nI_clamp (n := (5 * t) + 2) (by omega)]
              refine lv_i2l hx hb dL_law_170 rfl ?_
              refine lv_bipush (v := nI 32) hx hb dL_law_171 (by decide +kernel) ?_
              refine lv_lshl hx hb dL_law_173 rfl ?_
              refine lv_aload_n hx hb dL_law_174 rfl (lv_at hl 2 rfl) ?_
              refine lv_iload hx hb dL_law_175 (lv_at hl 1 rfl) ?_
              refine lv_iconst (v := nI 3) hx hb dL_law_177 rfl ?_
              refine kr_iadd hx hb dL_law_178 ?_
              refine va_sld hx hb hX hbl hbA hS (vp_in_nI (n := (5 * t) + 3) (by omega) (by omega)) dL_law_179 ?_
              rw [nI_clamp (n := (5 * t) + 3) (by omega)]
              refine lv_i2l hx hb dL_law_180 rfl ?_
              refine lv_ldc2 (v := 4294967295) hx hb hown (hts (.constantLong RL 51 4294967295) (by decide +kernel)) dL_law_181 ?_
              refine lv_land hx hb dL_law_184 ?_
              refine lv_lor hx hb dL_law_185 ?_
              refine lv_aload_n hx hb dL_law_186 rfl (lv_at hl 2 rfl) ?_
              refine lv_iload hx hb dL_law_187 (lv_at hl 1 rfl) ?_
              refine lv_iconst (v := nI 4) hx hb dL_law_189 rfl ?_
              refine kr_iadd hx hb dL_law_190 ?_
              refine va_sld hx hb hX hbl hbA hS (vp_in_nI (n := (5 * t) + 4) (by omega) (by omega)) dL_law_191 ?_
              rw [nI_clamp (n := (5 * t) + 4) (by omega)]
              rw [en]
              have hP : va_P D vwCl (kw_M ct aM F M Pl L1 C1 V1 kk_rc ++ (kw_X ct aX (va_up MX k (kk_ins (M k, Pl k) (kk_tb (((xs (5 * t + 2)).toInt64 <<< ((nI 32).toInt64 &&& 63)) ||| ((xs (5 * t + 3)).toInt64 &&& 4294967295))) n).1) (va_up PX k (kk_ins (M k, Pl k) (kk_tb (((xs (5 * t + 2)).toInt64 <<< ((nI 32).toInt64 &&& 63)) ||| ((xs (5 * t + 3)).toInt64 &&& 4294967295))) n).2) u.1 u.2 ++ kw_O ct qo (vp_updL o 0 ((nI ((kk_ins (M k, Pl k) (kk_tb (((xs (5 * t + 2)).toInt64 <<< ((nI 32).toInt64 &&& 63)) ||| ((xs (5 * t + 3)).toInt64 &&& 4294967295))) n).2)).toInt64)))) H := kr_swap hP
              have hD : va_D A (kw_M ct aM F M Pl L1 C1 V1 kk_rc ++ (kw_X ct aX (va_up MX k (kk_ins (M k, Pl k) (kk_tb (((xs (5 * t + 2)).toInt64 <<< ((nI 32).toInt64 &&& 63)) ||| ((xs (5 * t + 3)).toInt64 &&& 4294967295))) n).1) (va_up PX k (kk_ins (M k, Pl k) (kk_tb (((xs (5 * t + 2)).toInt64 <<< ((nI 32).toInt64 &&& 63)) ||| ((xs (5 * t + 3)).toInt64 &&& 4294967295))) n).2) u.1 u.2 ++ kw_O ct qo (vp_updL o 0 ((nI ((kk_ins (M k, Pl k) (kk_tb (((xs (5 * t + 2)).toInt64 <<< ((nI 32).toInt64 &&& 63)) ||| ((xs (5 * t + 3)).toInt64 &&& 4294967295))) n).2)).toInt64)))) := kr_swapD hD
              refine kr_fi (wx := kw_M ct aM F M Pl L1 C1 V1 kk_rc) (wr := kw_X ct aX (va_up MX k (kk_ins (M k, Pl k) (kk_tb (((xs (5 * t + 2)).toInt64 <<< ((nI 32).toInt64 &&& 63)) ||| ((xs (5 * t + 3)).toInt64 &&& 4294967295))) n).1) (va_up PX k (kk_ins (M k, Pl k) (kk_tb (((xs (5 * t + 2)).toInt64 <<< ((nI 32).toInt64 &&& 63)) ||| ((xs (5 * t + 3)).toInt64 &&& 4294967295))) n).2) u.1 u.2 ++ kw_O ct qo (vp_updL o 0 ((nI ((kk_ins (M k, Pl k) (kk_tb (((xs (5 * t + 2)).toInt64 <<< ((nI 32).toInt64 &&& 63)) ||| ((xs (5 * t + 3)).toInt64 &&& 4294967295))) n).2)).toInt64))) (va_runV (As := [.int (nI k), .long ((((xs ((5 * t) + 2)).toInt64) <<< ((nI 32).toInt64 &&& 63)) ||| (((xs ((5 * t) + 3)).toInt64) &&& 4294967295)), .int (nI n)]) (rest := []) ⟨hx, hb, hml, hown, hts⟩ (km_take l D ct aM F M Pl L1 C1 V1 kk_rc _ hk8 (n := n) hn hq1 (((xs (5 * t + 2)).toInt64 <<< ((nI 32).toInt64 &&& 63)) ||| ((xs (5 * t + 3)).toInt64 &&& 4294967295))) (cwV 3 hts gl_take rfl rfl rfl (by decide +kernel) ⟨Nat.le_of_ble_eq_true rfl, Nat.le_of_ble_eq_true rfl⟩) (kr_preV kw_Nok (q := (RX1, TX1, 7)) (q0 := 0) (ci := 1) _ (kr_left hP) hK (kr_leftD hD) trivial hS hA rfl rfl rfl) rfl rfl hl.1 rfl (lv_room (Nat.le_of_ble_eq_true rfl)) dL_law_192 ⟨by show _ ≤ 601024; omega, by show _ ≤ 7293034; omega⟩) hP hD hS hA (fun r u2 H locs hq hP hD hS => ?_)
              obtain rfl : r = nI ((kk_ins (M k, Pl k) (kk_tb (((xs (5 * t + 2)).toInt64 <<< ((nI 32).toInt64 &&& 63)) ||| ((xs (5 * t + 3)).toInt64 &&& 4294967295))) n).2) := hq
              have hP : va_P D vwCl ((kw_X ct aX (va_up MX k (kk_ins (M k, Pl k) (kk_tb (((xs (5 * t + 2)).toInt64 <<< ((nI 32).toInt64 &&& 63)) ||| ((xs (5 * t + 3)).toInt64 &&& 4294967295))) n).1) (va_up PX k (kk_ins (M k, Pl k) (kk_tb (((xs (5 * t + 2)).toInt64 <<< ((nI 32).toInt64 &&& 63)) ||| ((xs (5 * t + 3)).toInt64 &&& 4294967295))) n).2) u.1 u.2 ++ kw_O ct qo (vp_updL o 0 ((nI ((kk_ins (M k, Pl k) (kk_tb (((xs (5 * t + 2)).toInt64 <<< ((nI 32).toInt64 &&& 63)) ||| ((xs (5 * t + 3)).toInt64 &&& 4294967295))) n).2)).toInt64))) ++ kw_M ct aM (nI 0) (va_up M k (kk_ins (M k, Pl k) (kk_tb (((xs (5 * t + 2)).toInt64 <<< ((nI 32).toInt64 &&& 63)) ||| ((xs (5 * t + 3)).toInt64 &&& 4294967295))) n).1) (va_up Pl k (kk_ins (M k, Pl k) (kk_tb (((xs (5 * t + 2)).toInt64 <<< ((nI 32).toInt64 &&& 63)) ||| ((xs (5 * t + 3)).toInt64 &&& 4294967295))) n).2) ((kk_ins (M k, Pl k) (kk_tb (((xs (5 * t + 2)).toInt64 <<< ((nI 32).toInt64 &&& 63)) ||| ((xs (5 * t + 3)).toInt64 &&& 4294967295))) n).1) u2.1 u2.2 kk_rc) H := kr_swap hP
              have hD : va_D A ((kw_X ct aX (va_up MX k (kk_ins (M k, Pl k) (kk_tb (((xs (5 * t + 2)).toInt64 <<< ((nI 32).toInt64 &&& 63)) ||| ((xs (5 * t + 3)).toInt64 &&& 4294967295))) n).1) (va_up PX k (kk_ins (M k, Pl k) (kk_tb (((xs (5 * t + 2)).toInt64 <<< ((nI 32).toInt64 &&& 63)) ||| ((xs (5 * t + 3)).toInt64 &&& 4294967295))) n).2) u.1 u.2 ++ kw_O ct qo (vp_updL o 0 ((nI ((kk_ins (M k, Pl k) (kk_tb (((xs (5 * t + 2)).toInt64 <<< ((nI 32).toInt64 &&& 63)) ||| ((xs (5 * t + 3)).toInt64 &&& 4294967295))) n).2)).toInt64))) ++ kw_M ct aM (nI 0) (va_up M k (kk_ins (M k, Pl k) (kk_tb (((xs (5 * t + 2)).toInt64 <<< ((nI 32).toInt64 &&& 63)) ||| ((xs (5 * t + 3)).toInt64 &&& 4294967295))) n).1) (va_up Pl k (kk_ins (M k, Pl k) (kk_tb (((xs (5 * t + 2)).toInt64 <<< ((nI 32).toInt64 &&& 63)) ||| ((xs (5 * t + 3)).toInt64 &&& 4294967295))) n).2) ((kk_ins (M k, Pl k) (kk_tb (((xs (5 * t + 2)).toInt64 <<< ((nI 32).toInt64 &&& 63)) ||| ((xs (5 * t + 3)).toInt64 &&& 4294967295))) n).1) u2.1 u2.2 kk_rc) := kr_swapD hD
              refine lv_istore hx hb dL_law_195 hl (Nat.le_of_ble_eq_true rfl) rfl (fun ls hl => ?_)
              have hl : lv_has ls 8 [(6, .int (nI ((kk_ins (M k, Pl k) (kk_tb (((xs (5 * t + 2)).toInt64 <<< ((nI 32).toInt64 &&& 63)) ||| ((xs (5 * t + 3)).toInt64 &&& 4294967295))) n).2))), (5, .int (nI 0)), (4, .int (nI (5 * t))), (0, .ref b), (1, .ref (aX 0)), (2, .ref (aM 0)), (3, .ref qo)] := hl
              refine lv_aload_n hx hb dL_law_197 rfl (lv_at hl 5 rfl) ?_
              have hP : va_P D vwCl (kw_M ct aM (nI 0) (va_up M k (kk_ins (M k, Pl k) (kk_tb (((xs (5 * t + 2)).toInt64 <<< ((nI 32).toInt64 &&& 63)) ||| ((xs (5 * t + 3)).toInt64 &&& 4294967295))) n).1) (va_up Pl k (kk_ins (M k, Pl k) (kk_tb (((xs (5 * t + 2)).toInt64 <<< ((nI 32).toInt64 &&& 63)) ||| ((xs (5 * t + 3)).toInt64 &&& 4294967295))) n).2) ((kk_ins (M k, Pl k) (kk_tb (((xs (5 * t + 2)).toInt64 <<< ((nI 32).toInt64 &&& 63)) ||| ((xs (5 * t + 3)).toInt64 &&& 4294967295))) n).1) u2.1 u2.2 kk_rc ++ (kw_X ct aX (va_up MX k (kk_ins (M k, Pl k) (kk_tb (((xs (5 * t + 2)).toInt64 <<< ((nI 32).toInt64 &&& 63)) ||| ((xs (5 * t + 3)).toInt64 &&& 4294967295))) n).1) (va_up PX k (kk_ins (M k, Pl k) (kk_tb (((xs (5 * t + 2)).toInt64 <<< ((nI 32).toInt64 &&& 63)) ||| ((xs (5 * t + 3)).toInt64 &&& 4294967295))) n).2) u.1 u.2 ++ kw_O ct qo (vp_updL o 0 ((nI ((kk_ins (M k, Pl k) (kk_tb (((xs (5 * t + 2)).toInt64 <<< ((nI 32).toInt64 &&& 63)) ||| ((xs (5 * t + 3)).toInt64 &&& 4294967295))) n).2)).toInt64)))) H := kr_swap hP
              have hD : va_D A (kw_M ct aM (nI 0) (va_up M k (kk_ins (M k, Pl k) (kk_tb (((xs (5 * t + 2)).toInt64 <<< ((nI 32).toInt64 &&& 63)) ||| ((xs (5 * t + 3)).toInt64 &&& 4294967295))) n).1) (va_up Pl k (kk_ins (M k, Pl k) (kk_tb (((xs (5 * t + 2)).toInt64 <<< ((nI 32).toInt64 &&& 63)) ||| ((xs (5 * t + 3)).toInt64 &&& 4294967295))) n).2) ((kk_ins (M k, Pl k) (kk_tb (((xs (5 * t + 2)).toInt64 <<< ((nI 32).toInt64 &&& 63)) ||| ((xs (5 * t + 3)).toInt64 &&& 4294967295))) n).1) u2.1 u2.2 kk_rc ++ (kw_X ct aX (va_up MX k (kk_ins (M k, Pl k) (kk_tb (((xs (5 * t + 2)).toInt64 <<< ((nI 32).toInt64 &&& 63)) ||| ((xs (5 * t + 3)).toInt64 &&& 4294967295))) n).1) (va_up PX k (kk_ins (M k, Pl k) (kk_tb (((xs (5 * t + 2)).toInt64 <<< ((nI 32).toInt64 &&& 63)) ||| ((xs (5 * t + 3)).toInt64 &&& 4294967295))) n).2) u.1 u.2 ++ kw_O ct qo (vp_updL o 0 ((nI ((kk_ins (M k, Pl k) (kk_tb (((xs (5 * t + 2)).toInt64 <<< ((nI 32).toInt64 &&& 63)) ||| ((xs (5 * t + 3)).toInt64 &&& 4294967295))) n).2)).toInt64)))) := kr_swapD hD
              refine kr_fi (wx := kw_M ct aM (nI 0) (va_up M k (kk_ins (M k, Pl k) (kk_tb (((xs (5 * t + 2)).toInt64 <<< ((nI 32).toInt64 &&& 63)) ||| ((xs (5 * t + 3)).toInt64 &&& 4294967295))) n).1) (va_up Pl k (kk_ins (M k, Pl k) (kk_tb (((xs (5 * t + 2)).toInt64 <<< ((nI 32).toInt64 &&& 63)) ||| ((xs (5 * t + 3)).toInt64 &&& 4294967295))) n).2) ((kk_ins (M k, Pl k) (kk_tb (((xs (5 * t + 2)).toInt64 <<< ((nI 32).toInt64 &&& 63)) ||| ((xs (5 * t + 3)).toInt64 &&& 4294967295))) n).1) u2.1 u2.2 kk_rc) (wr := kw_X ct aX (va_up MX k (kk_ins (M k, Pl k) (kk_tb (((xs (5 * t + 2)).toInt64 <<< ((nI 32).toInt64 &&& 63)) ||| ((xs (5 * t + 3)).toInt64 &&& 4294967295))) n).1) (va_up PX k (kk_ins (M k, Pl k) (kk_tb (((xs (5 * t + 2)).toInt64 <<< ((nI 32).toInt64 &&& 63)) ||| ((xs (5 * t + 3)).toInt64 &&& 4294967295))) n).2) u.1 u.2 ++ kw_O ct qo (vp_updL o 0 ((nI ((kk_ins (M k, Pl k) (kk_tb (((xs (5 * t + 2)).toInt64 <<< ((nI 32).toInt64 &&& 63)) ||| ((xs (5 * t + 3)).toInt64 &&& 4294967295))) n).2)).toInt64))) (va_runV (As := []) (rest := []) ⟨hx, hb, hml, hown, hts⟩ (km_thrown l D ct aM (nI 0) (va_up M k (kk_ins (M k, Pl k) (kk_tb (((xs (5 * t + 2)).toInt64 <<< ((nI 32).toInt64 &&& 63)) ||| ((xs (5 * t + 3)).toInt64 &&& 4294967295))) n).1) (va_up Pl k (kk_ins (M k, Pl k) (kk_tb (((xs (5 * t + 2)).toInt64 <<< ((nI 32).toInt64 &&& 63)) ||| ((xs (5 * t + 3)).toInt64 &&& 4294967295))) n).2) ((kk_ins (M k, Pl k) (kk_tb (((xs (5 * t + 2)).toInt64 <<< ((nI 32).toInt64 &&& 63)) ||| ((xs (5 * t + 3)).toInt64 &&& 4294967295))) n).1) u2.1 u2.2 kk_rc _) (cwV 0 hts gl_thrown rfl rfl rfl (by decide +kernel) ⟨Nat.le_of_ble_eq_true rfl, Nat.le_of_ble_eq_true rfl⟩) (kr_preV kw_Nok (q := (RX1, TX1, 7)) (q0 := 0) (ci := 1) _ (kr_left hP) hK (kr_leftD hD) trivial hS hA rfl rfl rfl) rfl rfl hl.1 rfl (lv_room (Nat.le_of_ble_eq_true rfl)) dL_law_198 ⟨by show _ ≤ 601024; omega, by show _ ≤ 7293034; omega⟩) hP hD hS hA (fun r _ H locs hq hP hD hS => ?_)
              obtain rfl : r = nI 0 := hq
              have hP : va_P D vwCl ((kw_X ct aX (va_up MX k (kk_ins (M k, Pl k) (kk_tb (((xs (5 * t + 2)).toInt64 <<< ((nI 32).toInt64 &&& 63)) ||| ((xs (5 * t + 3)).toInt64 &&& 4294967295))) n).1) (va_up PX k (kk_ins (M k, Pl k) (kk_tb (((xs (5 * t + 2)).toInt64 <<< ((nI 32).toInt64 &&& 63)) ||| ((xs (5 * t + 3)).toInt64 &&& 4294967295))) n).2) u.1 u.2 ++ kw_O ct qo (vp_updL o 0 ((nI ((kk_ins (M k, Pl k) (kk_tb (((xs (5 * t + 2)).toInt64 <<< ((nI 32).toInt64 &&& 63)) ||| ((xs (5 * t + 3)).toInt64 &&& 4294967295))) n).2)).toInt64))) ++ kw_M ct aM (nI 0) (va_up M k (kk_ins (M k, Pl k) (kk_tb (((xs (5 * t + 2)).toInt64 <<< ((nI 32).toInt64 &&& 63)) ||| ((xs (5 * t + 3)).toInt64 &&& 4294967295))) n).1) (va_up Pl k (kk_ins (M k, Pl k) (kk_tb (((xs (5 * t + 2)).toInt64 <<< ((nI 32).toInt64 &&& 63)) ||| ((xs (5 * t + 3)).toInt64 &&& 4294967295))) n).2) ((kk_ins (M k, Pl k) (kk_tb (((xs (5 * t + 2)).toInt64 <<< ((nI 32).toInt64 &&& 63)) ||| ((xs (5 * t + 3)).toInt64 &&& 4294967295))) n).1) u2.1 u2.2 kk_rc) H := kr_swap hP
              have hD : va_D A ((kw_X ct aX (va_up MX k (kk_ins (M k, Pl k) (kk_tb (((xs (5 * t + 2)).toInt64 <<< ((nI 32).toInt64 &&& 63)) ||| ((xs (5 * t + 3)).toInt64 &&& 4294967295))) n).1) (va_up PX k (kk_ins (M k, Pl k) (kk_tb (((xs (5 * t + 2)).toInt64 <<< ((nI 32).toInt64 &&& 63)) ||| ((xs (5 * t + 3)).toInt64 &&& 4294967295))) n).2) u.1 u.2 ++ kw_O ct qo (vp_updL o 0 ((nI ((kk_ins (M k, Pl k) (kk_tb (((xs (5 * t + 2)).toInt64 <<< ((nI 32).toInt64 &&& 63)) ||| ((xs (5 * t + 3)).toInt64 &&& 4294967295))) n).2)).toInt64))) ++ kw_M ct aM (nI 0) (va_up M k (kk_ins (M k, Pl k) (kk_tb (((xs (5 * t + 2)).toInt64 <<< ((nI 32).toInt64 &&& 63)) ||| ((xs (5 * t + 3)).toInt64 &&& 4294967295))) n).1) (va_up Pl k (kk_ins (M k, Pl k) (kk_tb (((xs (5 * t + 2)).toInt64 <<< ((nI 32).toInt64 &&& 63)) ||| ((xs (5 * t + 3)).toInt64 &&& 4294967295))) n).2) ((kk_ins (M k, Pl k) (kk_tb (((xs (5 * t + 2)).toInt64 <<< ((nI 32).toInt64 &&& 63)) ||| ((xs (5 * t + 3)).toInt64 &&& 4294967295))) n).1) u2.1 u2.2 kk_rc) := kr_swapD hD
              refine lv_iload hx hb dL_law_201 (lv_at hl 1 rfl) ?_
              refine kr_icmp_eq (tgt := 208) hx hb (by omega) (by omega) dL_law_203 rfl (fun hc => ?_) (fun hc => ?_)
              · clear hc
                refine lv_iload hx hb dL_law_208 (lv_at hl 1 rfl) ?_
                refine lv_if_ne (tgt := 225) hx hb dL_law_210 rfl (fun hc => ?_) (fun hc => ?_)
                · exact absurd rfl hc
                · clear hc
                  refine lv_aload_n hx hb dL_law_213 rfl (lv_at hl 6 rfl) ?_
                  refine lv_iconst (v := nI 0) hx hb dL_law_214 rfl ?_
                  refine kr_lald hx hb hK hP 14 2 rfl rfl (n := 0) (by omega) (by omega) dL_law_215 ?_
                  rw [pk_uLs]
                  refine lv_iload hx hb dL_law_216 (lv_at hl 0 rfl) ?_
                  refine lv_i2l hx hb dL_law_218 rfl ?_
                  refine W.lcmp hx hb dL_law_219 ?_
                  rw [kl_cmp]
                  refine lv_if_eq (tgt := 225) hx hb dL_law_220 rfl (fun hc => ?_) (fun hc => ?_)
                  · clear hc
                    refine lv_goto (tgt := 538) hx hb dL_law_225 rfl ?_
                    refine lv_iinc (k := 2) (v := nI ((5 * t) + 5)) hx hb dL_law_538 hl rfl (nI_add (5 * t) 5) (Nat.le_of_ble_eq_true rfl) rfl (fun ls hl => ?_)
                    have hl : lv_has ls 8 [(4, .int (nI ((5 * t) + 5))), (6, .int (nI ((kk_ins (M k, Pl k) (kk_tb (((xs (5 * t + 2)).toInt64 <<< ((nI 32).toInt64 &&& 63)) ||| ((xs (5 * t + 3)).toInt64 &&& 4294967295))) n).2))), (5, .int (nI 0)), (0, .ref b), (1, .ref (aX 0)), (2, .ref (aM 0)), (3, .ref qo)] := hl
                    refine lv_goto (tgt := 23) hx hb dL_law_541 rfl ?_
                    refine W.widen (k := 30 + (t + 1)) (n := 580 + 6 * (t + 1)) (by omega) (by omega) ?_
                    exact ih (t + 1) (va_up MX k (kk_ins (M k, Pl k) (kk_tb (((xs (5 * t + 2)).toInt64 <<< ((nI 32).toInt64 &&& 63)) ||| ((xs (5 * t + 3)).toInt64 &&& 4294967295))) n).1) (va_up M k (kk_ins (M k, Pl k) (kk_tb (((xs (5 * t + 2)).toInt64 <<< ((nI 32).toInt64 &&& 63)) ||| ((xs (5 * t + 3)).toInt64 &&& 4294967295))) n).1) (va_up PX k (kk_ins (M k, Pl k) (kk_tb (((xs (5 * t + 2)).toInt64 <<< ((nI 32).toInt64 &&& 63)) ||| ((xs (5 * t + 3)).toInt64 &&& 4294967295))) n).2) (va_up Pl k (kk_ins (M k, Pl k) (kk_tb (((xs (5 * t + 2)).toInt64 <<< ((nI 32).toInt64 &&& 63)) ||| ((xs (5 * t + 3)).toInt64 &&& 4294967295))) n).2) u.1 u.2 _ (nI 0) ((kk_ins (M k, Pl k) (kk_tb (((xs (5 * t + 2)).toInt64 <<< ((nI 32).toInt64 &&& 63)) ||| ((xs (5 * t + 3)).toInt64 &&& 4294967295))) n).1) u2.1 u2.2 H locs ls (by omega) (by omega) (kl_up hM k _) (kl_up hPx k _) (kl_lt hPl k (kk_ins_lt hq1 n)) (lv_sub hl [0, 3, 4, 5, 6] rfl) hP hD hS
                  · exact absurd rfl hc
              · exact absurd rfl hc
            · clear hcells
              refine lv_aload_n hx hb dL_law_116 rfl (lv_at hl 2 rfl) ?_
              refine lv_aload_n hx hb dL_law_117 rfl (lv_at hl 1 rfl) ?_
              refine lv_iload hx hb dL_law_118 (lv_at hl 0 rfl) ?_
              refine lv_iconst (v := nI 1) hx hb dL_law_120 rfl ?_
              refine kr_iadd hx hb dL_law_121 ?_
              refine va_sld hx hb hX hbl hbA hS (vp_in_nI (n := (5 * t) + 1) (by omega) (by omega)) dL_law_122 ?_
              rw [nI_clamp (n := (5 * t) + 1) (by omega)]
              rw [ek]
              refine lv_aload_n hx hb dL_law_123 rfl (lv_at hl 1 rfl) ?_
              refine lv_iload hx hb dL_law_124 (lv_at hl 0 rfl) ?_
              refine lv_iconst (v := nI 2) hx hb dL_law_126 rfl ?_
              refine kr_iadd hx hb dL_law_127 ?_
              refine va_sld hx hb hX hbl hbA hS (vp_in_nI (n := (5 * t) + 2) (by omega) (by omega)) dL_law_128 ?_
              rw [nI_clamp (n := (5 * t) + 2) (by omega)]
              refine lv_i2l hx hb dL_law_129 rfl ?_
              refine lv_bipush (v := nI 32) hx hb dL_law_130 (by decide +kernel) ?_
              refine lv_lshl hx hb dL_law_132 rfl ?_
              refine lv_aload_n hx hb dL_law_133 rfl (lv_at hl 1 rfl) ?_
              refine lv_iload hx hb dL_law_134 (lv_at hl 0 rfl) ?_
              refine lv_iconst (v := nI 3) hx hb dL_law_136 rfl ?_
              refine kr_iadd hx hb dL_law_137 ?_
              refine va_sld hx hb hX hbl hbA hS (vp_in_nI (n := (5 * t) + 3) (by omega) (by omega)) dL_law_138 ?_
              rw [nI_clamp (n := (5 * t) + 3) (by omega)]
              refine lv_i2l hx hb dL_law_139 rfl ?_
              refine lv_ldc2 (v := 4294967295) hx hb hown (hts (.constantLong RL 51 4294967295) (by decide +kernel)) dL_law_140 ?_
              refine lv_land hx hb dL_law_143 ?_
              refine lv_lor hx hb dL_law_144 ?_
              refine lv_aload_n hx hb dL_law_145 rfl (lv_at hl 1 rfl) ?_
              refine lv_iload hx hb dL_law_146 (lv_at hl 0 rfl) ?_
              refine lv_iconst (v := nI 4) hx hb dL_law_148 rfl ?_
              refine kr_iadd hx hb dL_law_149 ?_
              refine va_sld hx hb hX hbl hbA hS (vp_in_nI (n := (5 * t) + 4) (by omega) (by omega)) dL_law_150 ?_
              rw [nI_clamp (n := (5 * t) + 4) (by omega)]
              refine lv_aload_n hx hb dL_law_151 rfl (lv_at hl 4 rfl) ?_
              refine kr_fi (wx := kw_X ct aX MX PX C V ++ kw_O ct qo o) (wr := kw_M ct aM F M Pl L1 C1 V1 kk_rc) (vx_runSW (As := [.ref (aX 0), .int (nI k), .long ((((xs ((5 * t) + 2)).toInt64) <<< ((nI 32).toInt64 &&& 63)) ||| (((xs ((5 * t) + 3)).toInt64) &&& 4294967295)), .int (xs ((5 * t) + 4)), .ref qo]) (rest := []) ⟨hx, hb, hml, hown, htsL⟩ (kl_take2 l D ct aX tb qo MX PX C V o hl0 _ hk8 (((xs (5 * t + 2)).toInt64 <<< ((nI 32).toInt64 &&& 63)) ||| ((xs (5 * t + 3)).toInt64 &&& 4294967295)) (xs (5 * t + 4)) hbad) (vx_cwSW 5 htsL gL_law_L_take rfl rfl rfl (by decide +kernel) ⟨Nat.le_of_ble_eq_true rfl, Nat.le_of_ble_eq_true rfl⟩) (kr_preS (kw_Bok tb) _ (kr_left hP) hK (kr_leftD hD) hB hS hA) rfl rfl hl.1 rfl (lv_room (Nat.le_of_ble_eq_true rfl)) dL_law_152 ⟨by show _ ≤ 601024; omega, by show _ ≤ 7293034; omega⟩) hP hD hS hA (fun r _ H locs hq hP hD hS => ?_)
              obtain rfl : r = nI 1 := hq
              have hP : va_P D vwCl ((kw_X ct aX MX PX C V ++ kw_O ct qo o) ++ kw_M ct aM F M Pl L1 C1 V1 kk_rc) H := hP
              have hD : va_D A ((kw_X ct aX MX PX C V ++ kw_O ct qo o) ++ kw_M ct aM F M Pl L1 C1 V1 kk_rc) := hD
              refine lv_istore hx hb dL_law_155 hl (Nat.le_of_ble_eq_true rfl) rfl (fun ls hl => ?_)
              have hl : lv_has ls 8 [(5, .int (nI 1)), (4, .int (nI (5 * t))), (0, .ref b), (1, .ref (aX 0)), (2, .ref (aM 0)), (3, .ref qo)] := hl
              refine lv_aload_n hx hb dL_law_157 rfl (lv_at hl 4 rfl) ?_
              refine lv_aload_n hx hb dL_law_158 rfl (lv_at hl 2 rfl) ?_
              refine lv_iload hx hb dL_law_159 (lv_at hl 1 rfl) ?_
              refine lv_iconst (v := nI 1) hx hb dL_law_161 rfl ?_
              refine kr_iadd hx hb dL_law_162 ?_
              refine va_sld hx hb hX hbl hbA hS (vp_in_nI (n := (5 * t) + 1) (by omega) (by omega)) dL_law_163 ?_
              rw [nI_clamp (n := (5 * t) + 1) (by omega)]
              rw [ek]
              refine lv_aload_n hx hb dL_law_164 rfl (lv_at hl 2 rfl) ?_
              refine lv_iload hx hb dL_law_165 (lv_at hl 1 rfl) ?_
              refine lv_iconst (v := nI 2) hx hb dL_law_167 rfl ?_
              refine kr_iadd hx hb dL_law_168 ?_
              refine va_sld hx hb hX hbl hbA hS (vp_in_nI (n := (5 * t) + 2) (by omega) (by omega)) dL_law_169 ?_
              rw [nI_clamp (n := (5 * t) + 2) (by omega)]
              refine lv_i2l hx hb dL_law_170 rfl ?_
              refine lv_bipush (v := nI 32) hx hb dL_law_171 (by decide +kernel) ?_
              refine lv_lshl hx hb dL_law_173 rfl ?_
              refine lv_aload_n hx hb dL_law_174 rfl (lv_at hl 2 rfl) ?_
              refine lv_iload hx hb dL_law_175 (lv_at hl 1 rfl) ?_
              refine lv_iconst (v := nI 3) hx hb dL_law_177 rfl ?_
              refine kr_iadd hx hb dL_law_178 ?_
              refine va_sld hx hb hX hbl hbA hS (vp_in_nI (n := (5 * t) + 3) (by omega) (by omega)) dL_law_179 ?_
              rw [nI_clamp (n := (5 * t) + 3) (by omega)]
              refine lv_i2l hx hb dL_law_180 rfl ?_
              refine lv_ldc2 (v := 4294967295) hx hb hown (hts (.constantLong RL 51 4294967295) (by decide +kernel)) dL_law_181 ?_
              refine lv_land hx hb dL_law_184 ?_
              refine lv_lor hx hb dL_law_185 ?_
              refine lv_aload_n hx hb dL_law_186 rfl (lv_at hl 2 rfl) ?_
              refine lv_iload hx hb dL_law_187 (lv_at hl 1 rfl) ?_
              refine lv_iconst (v := nI 4) hx hb dL_law_189 rfl ?_
              refine kr_iadd hx hb dL_law_190 ?_
              refine va_sld hx hb hX hbl hbA hS (vp_in_nI (n := (5 * t) + 4) (by omega) (by omega)) dL_law_191 ?_
              rw [nI_clamp (n := (5 * t) + 4) (by omega)]
              have hP : va_P D vwCl (kw_M ct aM F M Pl L1 C1 V1 kk_rc ++ (kw_X ct aX MX PX C V ++ kw_O ct qo o)) H := kr_swap hP
              have hD : va_D A (kw_M ct aM F M Pl L1 C1 V1 kk_rc ++ (kw_X ct aX MX PX C V ++ kw_O ct qo o)) := kr_swapD hD
              refine kr_fi (wx := kw_M ct aM F M Pl L1 C1 V1 kk_rc) (wr := kw_X ct aX MX PX C V ++ kw_O ct qo o) (va_runV (As := [.int (nI k), .long ((((xs ((5 * t) + 2)).toInt64) <<< ((nI 32).toInt64 &&& 63)) ||| (((xs ((5 * t) + 3)).toInt64) &&& 4294967295)), .int (xs ((5 * t) + 4))]) (rest := []) ⟨hx, hb, hml, hown, hts⟩ (kn_take2 l D ct aM F M Pl L1 C1 V1 kk_rc _ hk8 (((xs (5 * t + 2)).toInt64 <<< ((nI 32).toInt64 &&& 63)) ||| ((xs (5 * t + 3)).toInt64 &&& 4294967295)) (xs (5 * t + 4)) hbad) (cwV 3 hts gl_take rfl rfl rfl (by decide +kernel) ⟨Nat.le_of_ble_eq_true rfl, Nat.le_of_ble_eq_true rfl⟩) (kr_preV kw_Nok (q := (RX1, TX1, 7)) (q0 := 0) (ci := 1) _ (kr_left hP) hK (kr_leftD hD) trivial hS hA rfl rfl rfl) rfl rfl hl.1 rfl (lv_room (Nat.le_of_ble_eq_true rfl)) dL_law_192 ⟨by show _ ≤ 601024; omega, by show _ ≤ 7293034; omega⟩) hP hD hS hA (fun r _ H locs hq hP hD hS => ?_)
              have hP : va_P D vwCl ((kw_X ct aX MX PX C V ++ kw_O ct qo o) ++ kw_M ct aM (nI 1) M Pl L1 C1 V1 kk_rc) H := kr_swap hP
              have hD : va_D A ((kw_X ct aX MX PX C V ++ kw_O ct qo o) ++ kw_M ct aM (nI 1) M Pl L1 C1 V1 kk_rc) := kr_swapD hD
              refine lv_istore hx hb dL_law_195 hl (Nat.le_of_ble_eq_true rfl) rfl (fun ls hl => ?_)
              have hl : lv_has ls 8 [(6, .int r), (5, .int (nI 1)), (4, .int (nI (5 * t))), (0, .ref b), (1, .ref (aX 0)), (2, .ref (aM 0)), (3, .ref qo)] := hl
              refine lv_aload_n hx hb dL_law_197 rfl (lv_at hl 5 rfl) ?_
              have hP : va_P D vwCl (kw_M ct aM (nI 1) M Pl L1 C1 V1 kk_rc ++ (kw_X ct aX MX PX C V ++ kw_O ct qo o)) H := kr_swap hP
              have hD : va_D A (kw_M ct aM (nI 1) M Pl L1 C1 V1 kk_rc ++ (kw_X ct aX MX PX C V ++ kw_O ct qo o)) := kr_swapD hD
              refine kr_fi (wx := kw_M ct aM (nI 1) M Pl L1 C1 V1 kk_rc) (wr := kw_X ct aX MX PX C V ++ kw_O ct qo o) (va_runV (As := []) (rest := []) ⟨hx, hb, hml, hown, hts⟩ (km_thrown l D ct aM (nI 1) M Pl L1 C1 V1 kk_rc _) (cwV 0 hts gl_thrown rfl rfl rfl (by decide +kernel) ⟨Nat.le_of_ble_eq_true rfl, Nat.le_of_ble_eq_true rfl⟩) (kr_preV kw_Nok (q := (RX1, TX1, 7)) (q0 := 0) (ci := 1) _ (kr_left hP) hK (kr_leftD hD) trivial hS hA rfl rfl rfl) rfl rfl hl.1 rfl (lv_room (Nat.le_of_ble_eq_true rfl)) dL_law_198 ⟨by show _ ≤ 601024; omega, by show _ ≤ 7293034; omega⟩) hP hD hS hA (fun r _ H locs hq hP hD hS => ?_)
              obtain rfl : r = nI 1 := hq
              have hP : va_P D vwCl ((kw_X ct aX MX PX C V ++ kw_O ct qo o) ++ kw_M ct aM (nI 1) M Pl L1 C1 V1 kk_rc) H := kr_swap hP
              have hD : va_D A ((kw_X ct aX MX PX C V ++ kw_O ct qo o) ++ kw_M ct aM (nI 1) M Pl L1 C1 V1 kk_rc) := kr_swapD hD
              refine lv_iload hx hb dL_law_201 (lv_at hl 1 rfl) ?_
              refine kr_icmp_eq (tgt := 208) hx hb (by omega) (by omega) dL_law_203 rfl (fun hc => ?_) (fun hc => ?_)
              · clear hc
                refine lv_iload hx hb dL_law_208 (lv_at hl 1 rfl) ?_
                refine lv_if_ne (tgt := 225) hx hb dL_law_210 rfl (fun hc => ?_) (fun hc => ?_)
                · clear hc
                  refine lv_goto (tgt := 538) hx hb dL_law_225 rfl ?_
                  refine lv_iinc (k := 2) (v := nI ((5 * t) + 5)) hx hb dL_law_538 hl rfl (nI_add (5 * t) 5) (Nat.le_of_ble_eq_true rfl) rfl (fun ls hl => ?_)
                  have hl : lv_has ls 8 [(4, .int (nI ((5 * t) + 5))), (6, .int r), (5, .int (nI 1)), (0, .ref b), (1, .ref (aX 0)), (2, .ref (aM 0)), (3, .ref qo)] := hl
                  refine lv_goto (tgt := 23) hx hb dL_law_541 rfl ?_
                  refine W.widen (k := 30 + (t + 1)) (n := 580 + 6 * (t + 1)) (by omega) (by omega) ?_
                  exact ih (t + 1) MX M PX Pl C V o (nI 1) L1 C1 V1 H locs ls (by omega) (by omega) hM hPx hPl (lv_sub hl [0, 3, 4, 5, 6] rfl) hP hD hS
                · exact absurd hc km_ne1
              · exact absurd rfl hc
          · clear hcells
            refine lv_aload_n hx hb dL_law_116 rfl (lv_at hl 2 rfl) ?_
            refine lv_aload_n hx hb dL_law_117 rfl (lv_at hl 1 rfl) ?_
            refine lv_iload hx hb dL_law_118 (lv_at hl 0 rfl) ?_
            refine lv_iconst (v := nI 1) hx hb dL_law_120 rfl ?_
            refine kr_iadd hx hb dL_law_121 ?_
            refine va_sld hx hb hX hbl hbA hS (vp_in_nI (n := (5 * t) + 1) (by omega) (by omega)) dL_law_122 ?_
            rw [nI_clamp (n := (5 * t) + 1) (by omega)]
            refine lv_aload_n hx hb dL_law_123 rfl (lv_at hl 1 rfl) ?_
            refine lv_iload hx hb dL_law_124 (lv_at hl 0 rfl) ?_
            refine lv_iconst (v := nI 2) hx hb dL_law_126 rfl ?_
            refine kr_iadd hx hb dL_law_127 ?_
            refine va_sld hx hb hX hbl hbA hS (vp_in_nI (n := (5 * t) + 2) (by omega) (by omega)) dL_law_128 ?_
            rw [nI_clamp (n := (5 * t) + 2) (by omega)]
            refine lv_i2l hx hb dL_law_129 rfl ?_
            refine lv_bipush (v := nI 32) hx hb dL_law_130 (by decide +kernel) ?_
            refine lv_lshl hx hb dL_law_132 rfl ?_
            refine lv_aload_n hx hb dL_law_133 rfl (lv_at hl 1 rfl) ?_
            refine lv_iload hx hb dL_law_134 (lv_at hl 0 rfl) ?_
            refine lv_iconst (v := nI 3) hx hb dL_law_136 rfl ?_
            refine kr_iadd hx hb dL_law_137 ?_
            refine va_sld hx hb hX hbl hbA hS (vp_in_nI (n := (5 * t) + 3) (by omega) (by omega)) dL_law_138 ?_
            rw [nI_clamp (n := (5 * t) + 3) (by omega)]
            refine lv_i2l hx hb dL_law_139 rfl ?_
            refine lv_ldc2 (v := 4294967295) hx hb hown (hts (.constantLong RL 51 4294967295) (by decide +kernel)) dL_law_140 ?_
            refine lv_land hx hb dL_law_143 ?_
            refine lv_lor hx hb dL_law_144 ?_
            refine lv_aload_n hx hb dL_law_145 rfl (lv_at hl 1 rfl) ?_
            refine lv_iload hx hb dL_law_146 (lv_at hl 0 rfl) ?_
            refine lv_iconst (v := nI 4) hx hb dL_law_148 rfl ?_
            refine kr_iadd hx hb dL_law_149 ?_
            refine va_sld hx hb hX hbl hbA hS (vp_in_nI (n := (5 * t) + 4) (by omega) (by omega)) dL_law_150 ?_
            rw [nI_clamp (n := (5 * t) + 4) (by omega)]
            refine lv_aload_n hx hb dL_law_151 rfl (lv_at hl 4 rfl) ?_
            refine kr_fi (wx := kw_X ct aX MX PX C V ++ kw_O ct qo o) (wr := kw_M ct aM F M Pl L1 C1 V1 kk_rc) (vx_runSW (As := [.ref (aX 0), .int (xs ((5 * t) + 1)), .long ((((xs ((5 * t) + 2)).toInt64) <<< ((nI 32).toInt64 &&& 63)) ||| (((xs ((5 * t) + 3)).toInt64) &&& 4294967295)), .int (xs ((5 * t) + 4)), .ref qo]) (rest := []) ⟨hx, hb, hml, hown, htsL⟩ (kl_take1 l D ct aX tb qo MX PX C V o hl0 _ (xs (5 * t + 1)) (((xs (5 * t + 2)).toInt64 <<< ((nI 32).toInt64 &&& 63)) ||| ((xs (5 * t + 3)).toInt64 &&& 4294967295)) (xs (5 * t + 4)) hbad) (vx_cwSW 5 htsL gL_law_L_take rfl rfl rfl (by decide +kernel) ⟨Nat.le_of_ble_eq_true rfl, Nat.le_of_ble_eq_true rfl⟩) (kr_preS (kw_Bok tb) _ (kr_left hP) hK (kr_leftD hD) hB hS hA) rfl rfl hl.1 rfl (lv_room (Nat.le_of_ble_eq_true rfl)) dL_law_152 ⟨by show _ ≤ 601024; omega, by show _ ≤ 7293034; omega⟩) hP hD hS hA (fun r _ H locs hq hP hD hS => ?_)
            obtain rfl : r = nI 1 := hq
            have hP : va_P D vwCl ((kw_X ct aX MX PX C V ++ kw_O ct qo o) ++ kw_M ct aM F M Pl L1 C1 V1 kk_rc) H := hP
            have hD : va_D A ((kw_X ct aX MX PX C V ++ kw_O ct qo o) ++ kw_M ct aM F M Pl L1 C1 V1 kk_rc) := hD
            refine lv_istore hx hb dL_law_155 hl (Nat.le_of_ble_eq_true rfl) rfl (fun ls hl => ?_)
            have hl : lv_has ls 8 [(5, .int (nI 1)), (4, .int (nI (5 * t))), (0, .ref b), (1, .ref (aX 0)), (2, .ref (aM 0)), (3, .ref qo)] := hl
            refine lv_aload_n hx hb dL_law_157 rfl (lv_at hl 4 rfl) ?_
            refine lv_aload_n hx hb dL_law_158 rfl (lv_at hl 2 rfl) ?_
            refine lv_iload hx hb dL_law_159 (lv_at hl 1 rfl) ?_
            refine lv_iconst (v := nI 1) hx hb dL_law_161 rfl ?_
            refine kr_iadd hx hb dL_law_162 ?_
            refine va_sld hx hb hX hbl hbA hS (vp_in_nI (n := (5 * t) + 1) (by omega) (by omega)) dL_law_163 ?_
            rw [nI_clamp (n := (5 * t) + 1) (by omega)]
            refine lv_aload_n hx hb dL_law_164 rfl (lv_at hl 2 rfl) ?_
            refine lv_iload hx hb dL_law_165 (lv_at hl 1 rfl) ?_
            refine lv_iconst (v := nI 2) hx hb dL_law_167 rfl ?_
            refine kr_iadd hx hb dL_law_168 ?_
            refine va_sld hx hb hX hbl hbA hS (vp_in_nI (n := (5 * t) + 2) (by omega) (by omega)) dL_law_169 ?_
            rw [nI_clamp (n := (5 * t) + 2) (by omega)]
            refine lv_i2l hx hb dL_law_170 rfl ?_
            refine lv_bipush (v := nI 32) hx hb dL_law_171 (by decide +kernel) ?_
            refine lv_lshl hx hb dL_law_173 rfl ?_
            refine lv_aload_n hx hb dL_law_174 rfl (lv_at hl 2 rfl) ?_
            refine lv_iload hx hb dL_law_175 (lv_at hl 1 rfl) ?_
            refine lv_iconst (v := nI 3) hx hb dL_law_177 rfl ?_
            refine kr_iadd hx hb dL_law_178 ?_
            refine va_sld hx hb hX hbl hbA hS (vp_in_nI (n := (5 * t) + 3) (by omega) (by omega)) dL_law_179 ?_
            rw [nI_clamp (n := (5 * t) + 3) (by omega)]
            refine lv_i2l hx hb dL_law_180 rfl ?_
            refine lv_ldc2 (v := 4294967295) hx hb hown (hts (.constantLong RL 51 4294967295) (by decide +kernel)) dL_law_181 ?_
            refine lv_land hx hb dL_law_184 ?_
            refine lv_lor hx hb dL_law_185 ?_
            refine lv_aload_n hx hb dL_law_186 rfl (lv_at hl 2 rfl) ?_
            refine lv_iload hx hb dL_law_187 (lv_at hl 1 rfl) ?_
            refine lv_iconst (v := nI 4) hx hb dL_law_189 rfl ?_
            refine kr_iadd hx hb dL_law_190 ?_
            refine va_sld hx hb hX hbl hbA hS (vp_in_nI (n := (5 * t) + 4) (by omega) (by omega)) dL_law_191 ?_
            rw [nI_clamp (n := (5 * t) + 4) (by omega)]
            have hP : va_P D vwCl (kw_M ct aM F M Pl L1 C1 V1 kk_rc ++ (kw_X ct aX MX PX C V ++ kw_O ct qo o)) H := kr_swap hP
            have hD : va_D A (kw_M ct aM F M Pl L1 C1 V1 kk_rc ++ (kw_X ct aX MX PX C V ++ kw_O ct qo o)) := kr_swapD hD
            refine kr_fi (wx := kw_M ct aM F M Pl L1 C1 V1 kk_rc) (wr := kw_X ct aX MX PX C V ++ kw_O ct qo o) (va_runV (As := [.int (xs ((5 * t) + 1)), .long ((((xs ((5 * t) + 2)).toInt64) <<< ((nI 32).toInt64 &&& 63)) ||| (((xs ((5 * t) + 3)).toInt64) &&& 4294967295)), .int (xs ((5 * t) + 4))]) (rest := []) ⟨hx, hb, hml, hown, hts⟩ (kn_take1 l D ct aM F M Pl L1 C1 V1 kk_rc _ (xs (5 * t + 1)) (((xs (5 * t + 2)).toInt64 <<< ((nI 32).toInt64 &&& 63)) ||| ((xs (5 * t + 3)).toInt64 &&& 4294967295)) (xs (5 * t + 4)) hbad) (cwV 3 hts gl_take rfl rfl rfl (by decide +kernel) ⟨Nat.le_of_ble_eq_true rfl, Nat.le_of_ble_eq_true rfl⟩) (kr_preV kw_Nok (q := (RX1, TX1, 7)) (q0 := 0) (ci := 1) _ (kr_left hP) hK (kr_leftD hD) trivial hS hA rfl rfl rfl) rfl rfl hl.1 rfl (lv_room (Nat.le_of_ble_eq_true rfl)) dL_law_192 ⟨by show _ ≤ 601024; omega, by show _ ≤ 7293034; omega⟩) hP hD hS hA (fun r _ H locs hq hP hD hS => ?_)
            have hP : va_P D vwCl ((kw_X ct aX MX PX C V ++ kw_O ct qo o) ++ kw_M ct aM (nI 1) M Pl L1 C1 V1 kk_rc) H := kr_swap hP
            have hD : va_D A ((kw_X ct aX MX PX C V ++ kw_O ct qo o) ++ kw_M ct aM (nI 1) M Pl L1 C1 V1 kk_rc) := kr_swapD hD
            refine lv_istore hx hb dL_law_195 hl (Nat.le_of_ble_eq_true rfl) rfl (fun ls hl => ?_)
            have hl : lv_has ls 8 [(6, .int r), (5, .int (nI 1)), (4, .int (nI (5 * t))), (0, .ref b), (1, .ref (aX 0)), (2, .ref (aM 0)), (3, .ref qo)] := hl
            refine lv_aload_n hx hb dL_law_197 rfl (lv_at hl 5 rfl) ?_
            have hP : va_P D vwCl (kw_M ct aM (nI 1) M Pl L1 C1 V1 kk_rc ++ (kw_X ct aX MX PX C V ++ kw_O ct qo o)) H := kr_swap hP
            have hD : va_D A (kw_M ct aM (nI 1) M Pl L1 C1 V1 kk_rc ++ (kw_X ct aX MX PX C V ++ kw_O ct qo o)) := kr_swapD hD
            refine kr_fi (wx := kw_M ct aM (nI 1) M Pl L1 C1 V1 kk_rc) (wr := kw_X ct aX MX PX C V ++ kw_O ct qo o) (va_runV (As := []) (rest := []) ⟨hx, hb, hml, hown, hts⟩ (km_thrown l D ct aM (nI 1) M Pl L1 C1 V1 kk_rc _) (cwV 0 hts gl_thrown rfl rfl rfl (by decide +kernel) ⟨Nat.le_of_ble_eq_true rfl, Nat.le_of_ble_eq_true rfl⟩) (kr_preV kw_Nok (q := (RX1, TX1, 7)) (q0 := 0) (ci := 1) _ (kr_left hP) hK (kr_leftD hD) trivial hS hA rfl rfl rfl) rfl rfl hl.1 rfl (lv_room (Nat.le_of_ble_eq_true rfl)) dL_law_198 ⟨by show _ ≤ 601024; omega, by show _ ≤ 7293034; omega⟩) hP hD hS hA (fun r _ H locs hq hP hD hS => ?_)
            obtain rfl : r = nI 1 := hq
            have hP : va_P D vwCl ((kw_X ct aX MX PX C V ++ kw_O ct qo o) ++ kw_M ct aM (nI 1) M Pl L1 C1 V1 kk_rc) H := kr_swap hP
            have hD : va_D A ((kw_X ct aX MX PX C V ++ kw_O ct qo o) ++ kw_M ct aM (nI 1) M Pl L1 C1 V1 kk_rc) := kr_swapD hD
            refine lv_iload hx hb dL_law_201 (lv_at hl 1 rfl) ?_
            refine kr_icmp_eq (tgt := 208) hx hb (by omega) (by omega) dL_law_203 rfl (fun hc => ?_) (fun hc => ?_)
            · clear hc
              refine lv_iload hx hb dL_law_208 (lv_at hl 1 rfl) ?_
              refine lv_if_ne (tgt := 225) hx hb dL_law_210 rfl (fun hc => ?_) (fun hc => ?_)
              · clear hc
                refine lv_goto (tgt := 538) hx hb dL_law_225 rfl ?_
                refine lv_iinc (k := 2) (v := nI ((5 * t) + 5)) hx hb dL_law_538 hl rfl (nI_add (5 * t) 5) (Nat.le_of_ble_eq_true rfl) rfl (fun ls hl => ?_)
                have hl : lv_has ls 8 [(4, .int (nI ((5 * t) + 5))), (6, .int r), (5, .int (nI 1)), (0, .ref b), (1, .ref (aX 0)), (2, .ref (aM 0)), (3, .ref qo)] := hl
                refine lv_goto (tgt := 23) hx hb dL_law_541 rfl ?_
                refine W.widen (k := 30 + (t + 1)) (n := 580 + 6 * (t + 1)) (by omega) (by omega) ?_
                exact ih (t + 1) MX M PX Pl C V o (nI 1) L1 C1 V1 H locs ls (by omega) (by omega) hM hPx hPl (lv_sub hl [0, 3, 4, 5, 6] rfl) hP hD hS
              · exact absurd hc km_ne1
            · exact absurd rfl hc
        · refine lv_tableIn (tgt := 228) hx hb dL_law_39 (by decide +kernel) (by decide +kernel) rfl rfl ?_
          rcases kl_rng (xs (5 * t + 1)) 7 (by omega) with ⟨k, hk, ek⟩ | hbad
          · have hk8 : k < 8 := by omega
            rcases kl_rng (xs (5 * t + 4)) 2000 (by omega) with ⟨n, hn, en⟩ | hbad
            · have hMk := hM k hk8
              have hPk := hPx k hk8
              have hq0 : (MX k, PX k).2 < 136 := by show PX k < 136; rw [hPk]; exact hPl k hk8
              have hq1 : (M k, Pl k).2 < 136 := hPl k hk8
              refine lv_aload_n hx hb dL_law_228 rfl (lv_at hl 2 rfl) ?_
              refine lv_aload_n hx hb dL_law_229 rfl (lv_at hl 1 rfl) ?_
              refine lv_iload hx hb dL_law_230 (lv_at hl 0 rfl) ?_
              refine lv_iconst (v := nI 1) hx hb dL_law_232 rfl ?_
              refine kr_iadd hx hb dL_law_233 ?_
              refine va_sld hx hb hX hbl hbA hS (vp_in_nI (n := (5 * t) + 1) (by omega) (by omega)) dL_law_234 ?_
              rw [nI_clamp (n := (5 * t) + 1) (by omega)]
              rw [ek]
              refine lv_aload_n hx hb dL_law_235 rfl (lv_at hl 1 rfl) ?_
              refine lv_iload hx hb dL_law_236 (lv_at hl 0 rfl) ?_
              refine lv_iconst (v := nI 2) hx hb dL_law_238 rfl ?_
              refine kr_iadd hx hb dL_law_239 ?_
              refine va_sld hx hb hX hbl hbA hS (vp_in_nI (n := (5 * t) + 2) (by omega) (by omega)) dL_law_240 ?_
              rw [nI_clamp (n := (5 * t) + 2) (by omega)]
              refine lv_aload_n hx hb dL_law_241 rfl (lv_at hl 1 rfl) ?_
              refine lv_iload hx hb dL_law_242 (lv_at hl 0 rfl) ?_
              refine lv_iconst (v := nI 3) hx hb dL_law_244 rfl ?_
              refine kr_iadd hx hb dL_law_245 ?_
              refine va_sld hx hb hX hbl hbA hS (vp_in_nI (n := (5 * t) + 3) (by omega) (by omega)) dL_law_246 ?_
              rw [nI_clamp (n := (5 * t) + 3) (by omega)]
              refine lv_aload_n hx hb dL_law_247 rfl (lv_at hl 1 rfl) ?_
              refine lv_iload hx hb dL_law_248 (lv_at hl 0 rfl) ?_
              refine lv_iconst (v := nI 4) hx hb dL_law_250 rfl ?_
              refine kr_iadd hx hb dL_law_251 ?_
              refine va_sld hx hb hX hbl hbA hS (vp_in_nI (n := (5 * t) + 4) (by omega) (by omega)) dL_law_252 ?_
              rw [nI_clamp (n := (5 * t) + 4) (by omega)]
              rw [en]
              refine lv_aload_n hx hb dL_law_253 rfl (lv_at hl 4 rfl) ?_
              refine kr_fi (wx := kw_X ct aX MX PX C V ++ kw_O ct qo o) (wr := kw_M ct aM F M Pl L1 C1 V1 kk_rc) (vx_runSW (As := [.ref (aX 0), .int (nI k), .int (xs ((5 * t) + 2)), .int (xs ((5 * t) + 3)), .int (nI n), .ref qo]) (rest := []) ⟨hx, hb, hml, hown, htsL⟩ (kl_fill l D ct aX tb qo MX PX C V o _ hk8 (n := n) hn hq0 (xs (5 * t + 2)) (xs (5 * t + 3))) (vx_cwSW 6 htsL gL_law_L_fill rfl rfl rfl (by decide +kernel) ⟨Nat.le_of_ble_eq_true rfl, Nat.le_of_ble_eq_true rfl⟩) (kr_preS (kw_Bok tb) _ (kr_left hP) hK (kr_leftD hD) hB hS hA) rfl rfl hl.1 rfl (lv_room (Nat.le_of_ble_eq_true rfl)) dL_law_254 ⟨by show _ ≤ 601024; omega, by show _ ≤ 7293034; omega⟩) hP hD hS hA (fun r u H locs hq hP hD hS => ?_)
              obtain rfl : r = nI 0 := hq
              have hP : va_P D vwCl ((kw_X ct aX (va_up MX k (kk_ins (MX k, PX k) (kk_fb (xs (5 * t + 2)) (xs (5 * t + 3))) n).1) (va_up PX k (kk_ins (MX k, PX k) (kk_fb (xs (5 * t + 2)) (xs (5 * t + 3))) n).2) u.1 u.2 ++ kw_O ct qo (vp_updL o 0 ((nI ((kk_ins (MX k, PX k) (kk_fb (xs (5 * t + 2)) (xs (5 * t + 3))) n).2)).toInt64))) ++ kw_M ct aM F M Pl L1 C1 V1 kk_rc) H := hP
              have hD : va_D A ((kw_X ct aX (va_up MX k (kk_ins (MX k, PX k) (kk_fb (xs (5 * t + 2)) (xs (5 * t + 3))) n).1) (va_up PX k (kk_ins (MX k, PX k) (kk_fb (xs (5 * t + 2)) (xs (5 * t + 3))) n).2) u.1 u.2 ++ kw_O ct qo (vp_updL o 0 ((nI ((kk_ins (MX k, PX k) (kk_fb (xs (5 * t + 2)) (xs (5 * t + 3))) n).2)).toInt64))) ++ kw_M ct aM F M Pl L1 C1 V1 kk_rc) := hD
              rw [hMk, hPk] at hP hD
              have hP : va_P D vwCl ((kw_X ct aX (va_up MX k (kk_ins (M k, Pl k) (kk_fb (xs (5 * t + 2)) (xs (5 * t + 3))) n).1) (va_up PX k (kk_ins (M k, Pl k) (kk_fb (xs (5 * t + 2)) (xs (5 * t + 3))) n).2) u.1 u.2 ++ kw_O ct qo (vp_updL o 0 ((nI ((kk_ins (M k, Pl k) (kk_fb (xs (5 * t + 2)) (xs (5 * t + 3))) n).2)).toInt64))) ++ kw_M ct aM F M Pl L1 C1 V1 kk_rc) H := hP
              have hD : va_D A ((kw_X ct aX (va_up MX k (kk_ins (M k, Pl k) (kk_fb (xs (5 * t + 2)) (xs (5 * t + 3))) n).1) (va_up PX k (kk_ins (M k, Pl k) (kk_fb (xs (5 * t + 2)) (xs (5 * t + 3))) n).2) u.1 u.2 ++ kw_O ct qo (vp_updL o 0 ((nI ((kk_ins (M k, Pl k) (kk_fb (xs (5 * t + 2)) (xs (5 * t + 3))) n).2)).toInt64))) ++ kw_M ct aM F M Pl L1 C1 V1 kk_rc) := hD
              refine lv_istore hx hb dL_law_257 hl (Nat.le_of_ble_eq_true rfl) rfl (fun ls hl => ?_)
              have hl : lv_has ls 8 [(5, .int (nI 0)), (4, .int (nI (5 * t))), (0, .ref b), (1, .ref (aX 0)), (2, .ref (aM 0)), (3, .ref qo)] := hl
              refine lv_aload_n hx hb dL_law_259 rfl (lv_at hl 4 rfl) ?_
              refine lv_aload_n hx hb dL_law_260 rfl (lv_at hl 2 rfl) ?_
              refine lv_iload hx hb dL_law_261 (lv_at hl 1 rfl) ?_
              refine lv_iconst (v := nI 1) hx hb dL_law_263 rfl ?_
              refine kr_iadd hx hb dL_law_264 ?_
              refine va_sld hx hb hX hbl hbA hS (vp_in_nI (n := (5 * t) + 1) (by omega) (by omega)) dL_law_265 ?_
              rw [nI_clamp (n := (5 * t) + 1) (by omega)]
              rw [ek]
              refine lv_aload_n hx hb dL_law_266 rfl (lv_at hl 2 rfl) ?_
              refine lv_iload hx hb dL_law_267 (lv_at hl 1 rfl) ?_
              refine lv_iconst (v := nI 2) hx hb dL_law_269 rfl ?_
              refine kr_iadd hx hb dL_law_270 ?_
              refine va_sld hx hb hX hbl hbA hS (vp_in_nI (n := (5 * t) + 2) (by omega) (by omega)) dL_law_271 ?_
              rw [nI_clamp (n := (5 * t) + 2) (by omega)]
              refine lv_aload_n hx hb dL_law_272 rfl (lv_at hl 2 rfl) ?_
              refine lv_iload hx hb dL_law_273 (lv_at hl 1 rfl) ?_
              refine lv_iconst (v := nI 3) hx hb dL_law_275 rfl ?_
              refine kr_iadd hx hb dL_law_276 ?_
              refine va_sld hx hb hX hbl hbA hS (vp_in_nI (n := (5 * t) + 3) (by omega) (by omega)) dL_law_277 ?_
              rw [nI_clamp (n := (5 * t) + 3) (by omega)]
              refine lv_aload_n hx hb dL_law_278 rfl (lv_at hl 2 rfl) ?_
              refine lv_iload hx hb dL_law_279 (lv_at hl 1 rfl) ?_
              refine lv_iconst (v := nI 4) hx hb dL_law_281 rfl ?_
              refine kr_iadd hx hb dL_law_282 ?_
              refine va_sld hx hb hX hbl hbA hS (vp_in_nI (n := (5 * t) + 4) (by omega) (by omega)) dL_law_283 ?_
              rw [nI_clamp (n := (5 * t) + 4) (by omega)]
              rw [en]
              have hP : va_P D vwCl (kw_M ct aM F M Pl L1 C1 V1 kk_rc ++ (kw_X ct aX (va_up MX k (kk_ins (M k, Pl k) (kk_fb (xs (5 * t + 2)) (xs (5 * t + 3))) n).1) (va_up PX k (kk_ins (M k, Pl k) (kk_fb (xs (5 * t + 2)) (xs (5 * t + 3))) n).2) u.1 u.2 ++ kw_O ct qo (vp_updL o 0 ((nI ((kk_ins (M k, Pl k) (kk_fb (xs (5 * t + 2)) (xs (5 * t + 3))) n).2)).toInt64)))) H := kr_swap hP
              have hD : va_D A (kw_M ct aM F M Pl L1 C1 V1 kk_rc ++ (kw_X ct aX (va_up MX k (kk_ins (M k, Pl k) (kk_fb (xs (5 * t + 2)) (xs (5 * t + 3))) n).1) (va_up PX k (kk_ins (M k, Pl k) (kk_fb (xs (5 * t + 2)) (xs (5 * t + 3))) n).2) u.1 u.2 ++ kw_O ct qo (vp_updL o 0 ((nI ((kk_ins (M k, Pl k) (kk_fb (xs (5 * t + 2)) (xs (5 * t + 3))) n).2)).toInt64)))) := kr_swapD hD
              refine kr_fi (wx := kw_M ct aM F M Pl L1 C1 V1 kk_rc) (wr := kw_X ct aX (va_up MX k (kk_ins (M k, Pl k) (kk_fb (xs (5 * t + 2)) (xs (5 * t + 3))) n).1) (va_up PX k (kk_ins (M k, Pl k) (kk_fb (xs (5 * t + 2)) (xs (5 * t + 3))) n).2) u.1 u.2 ++ kw_O ct qo (vp_updL o 0 ((nI ((kk_ins (M k, Pl k) (kk_fb (xs (5 * t + 2)) (xs (5 * t + 3))) n).2)).toInt64))) (va_runV (As := [.int (nI k), .int (xs ((5 * t) + 2)), .int (xs ((5 * t) + 3)), .int (nI n)]) (rest := []) ⟨hx, hb, hml, hown, hts⟩ (km_fill l D ct aM F M Pl L1 C1 V1 kk_rc _ hk8 (n := n) hn hq1 (xs (5 * t + 2)) (xs (5 * t + 3))) (cwV 4 hts gl_fill rfl rfl rfl (by decide +kernel) ⟨Nat.le_of_ble_eq_true rfl, Nat.le_of_ble_eq_true rfl⟩) (kr_preV kw_Nok (q := (RX1, TX1, 7)) (q0 := 0) (ci := 1) _ (kr_left hP) hK (kr_leftD hD) trivial hS hA rfl rfl rfl) rfl rfl hl.1 rfl (lv_room (Nat.le_of_ble_eq_true rfl)) dL_law_284 ⟨by show _ ≤ 601024; omega, by show _ ≤ 7293034; omega⟩) hP hD hS hA (fun r u2 H locs hq hP hD hS => ?_)
              obtain rfl : r = nI ((kk_ins (M k, Pl k) (kk_fb (xs (5 * t + 2)) (xs (5 * t + 3))) n).2) := hq
              have hP : va_P D vwCl ((kw_X ct aX (va_up MX k (kk_ins (M k, Pl k) (kk_fb (xs (5 * t + 2)) (xs (5 * t + 3))) n).1) (va_up PX k (kk_ins (M k, Pl k) (kk_fb (xs (5 * t + 2)) (xs (5 * t + 3))) n).2) u.1 u.2 ++ kw_O ct qo (vp_updL o 0 ((nI ((kk_ins (M k, Pl k) (kk_fb (xs (5 * t + 2)) (xs (5 * t + 3))) n).2)).toInt64))) ++ kw_M ct aM (nI 0) (va_up M k (kk_ins (M k, Pl k) (kk_fb (xs (5 * t + 2)) (xs (5 * t + 3))) n).1) (va_up Pl k (kk_ins (M k, Pl k) (kk_fb (xs (5 * t + 2)) (xs (5 * t + 3))) n).2) ((kk_ins (M k, Pl k) (kk_fb (xs (5 * t + 2)) (xs (5 * t + 3))) n).1) u2.1 u2.2 kk_rc) H := kr_swap hP
              have hD : va_D A ((kw_X ct aX (va_up MX k (kk_ins (M k, Pl k) (kk_fb (xs (5 * t + 2)) (xs (5 * t + 3))) n).1) (va_up PX k (kk_ins (M k, Pl k) (kk_fb (xs (5 * t + 2)) (xs (5 * t + 3))) n).2) u.1 u.2 ++ kw_O ct qo (vp_updL o 0 ((nI ((kk_ins (M k, Pl k) (kk_fb (xs (5 * t + 2)) (xs (5 * t + 3))) n).2)).toInt64))) ++ kw_M ct aM (nI 0) (va_up M k (kk_ins (M k, Pl k) (kk_fb (xs (5 * t + 2)) (xs (5 * t + 3))) n).1) (va_up Pl k (kk_ins (M k, Pl k) (kk_fb (xs (5 * t + 2)) (xs (5 * t + 3))) n).2) ((kk_ins (M k, Pl k) (kk_fb (xs (5 * t + 2)) (xs (5 * t + 3))) n).1) u2.1 u2.2 kk_rc) := kr_swapD hD
              refine lv_istore hx hb dL_law_287 hl (Nat.le_of_ble_eq_true rfl) rfl (fun ls hl => ?_)
              have hl : lv_has ls 8 [(6, .int (nI ((kk_ins (M k, Pl k) (kk_fb (xs (5 * t + 2)) (xs (5 * t + 3))) n).2))), (5, .int (nI 0)), (4, .int (nI (5 * t))), (0, .ref b), (1, .ref (aX 0)), (2, .ref (aM 0)), (3, .ref qo)] := hl
              refine lv_aload_n hx hb dL_law_289 rfl (lv_at hl 5 rfl) ?_
              have hP : va_P D vwCl (kw_M ct aM (nI 0) (va_up M k (kk_ins (M k, Pl k) (kk_fb (xs (5 * t + 2)) (xs (5 * t + 3))) n).1) (va_up Pl k (kk_ins (M k, Pl k) (kk_fb (xs (5 * t + 2)) (xs (5 * t + 3))) n).2) ((kk_ins (M k, Pl k) (kk_fb (xs (5 * t + 2)) (xs (5 * t + 3))) n).1) u2.1 u2.2 kk_rc ++ (kw_X ct aX (va_up MX k (kk_ins (M k, Pl k) (kk_fb (xs (5 * t + 2)) (xs (5 * t + 3))) n).1) (va_up PX k (kk_ins (M k, Pl k) (kk_fb (xs (5 * t + 2)) (xs (5 * t + 3))) n).2) u.1 u.2 ++ kw_O ct qo (vp_updL o 0 ((nI ((kk_ins (M k, Pl k) (kk_fb (xs (5 * t + 2)) (xs (5 * t + 3))) n).2)).toInt64)))) H := kr_swap hP
              have hD : va_D A (kw_M ct aM (nI 0) (va_up M k (kk_ins (M k, Pl k) (kk_fb (xs (5 * t + 2)) (xs (5 * t + 3))) n).1) (va_up Pl k (kk_ins (M k, Pl k) (kk_fb (xs (5 * t + 2)) (xs (5 * t + 3))) n).2) ((kk_ins (M k, Pl k) (kk_fb (xs (5 * t + 2)) (xs (5 * t + 3))) n).1) u2.1 u2.2 kk_rc ++ (kw_X ct aX (va_up MX k (kk_ins (M k, Pl k) (kk_fb (xs (5 * t + 2)) (xs (5 * t + 3))) n).1) (va_up PX k (kk_ins (M k, Pl k) (kk_fb (xs (5 * t + 2)) (xs (5 * t + 3))) n).2) u.1 u.2 ++ kw_O ct qo (vp_updL o 0 ((nI ((kk_ins (M k, Pl k) (kk_fb (xs (5 * t + 2)) (xs (5 * t + 3))) n).2)).toInt64)))) := kr_swapD hD
              refine kr_fi (wx := kw_M ct aM (nI 0) (va_up M k (kk_ins (M k, Pl k) (kk_fb (xs (5 * t + 2)) (xs (5 * t + 3))) n).1) (va_up Pl k (kk_ins (M k, Pl k) (kk_fb (xs (5 * t + 2)) (xs (5 * t + 3))) n).2) ((kk_ins (M k, Pl k) (kk_fb (xs (5 * t + 2)) (xs (5 * t + 3))) n).1) u2.1 u2.2 kk_rc) (wr := kw_X ct aX (va_up MX k (kk_ins (M k, Pl k) (kk_fb (xs (5 * t + 2)) (xs (5 * t + 3))) n).1) (va_up PX k (kk_ins (M k, Pl k) (kk_fb (xs (5 * t + 2)) (xs (5 * t + 3))) n).2) u.1 u.2 ++ kw_O ct qo (vp_updL o 0 ((nI ((kk_ins (M k, Pl k) (kk_fb (xs (5 * t + 2)) (xs (5 * t + 3))) n).2)).toInt64))) (va_runV (As := []) (rest := []) ⟨hx, hb, hml, hown, hts⟩ (km_thrown l D ct aM (nI 0) (va_up M k (kk_ins (M k, Pl k) (kk_fb (xs (5 * t + 2)) (xs (5 * t + 3))) n).1) (va_up Pl k (kk_ins (M k, Pl k) (kk_fb (xs (5 * t + 2)) (xs (5 * t + 3))) n).2) ((kk_ins (M k, Pl k) (kk_fb (xs (5 * t + 2)) (xs (5 * t + 3))) n).1) u2.1 u2.2 kk_rc _) (cwV 0 hts gl_thrown rfl rfl rfl (by decide +kernel) ⟨Nat.le_of_ble_eq_true rfl, Nat.le_of_ble_eq_true rfl⟩) (kr_preV kw_Nok (q := (RX1, TX1, 7)) (q0 := 0) (ci := 1) _ (kr_left hP) hK (kr_leftD hD) trivial hS hA rfl rfl rfl) rfl rfl hl.1 rfl (lv_room (Nat.le_of_ble_eq_true rfl)) dL_law_290 ⟨by show _ ≤ 601024; omega, by show _ ≤ 7293034; omega⟩) hP hD hS hA (fun r _ H locs hq hP hD hS => ?_)
              obtain rfl : r = nI 0 := hq
              have hP : va_P D vwCl ((kw_X ct aX (va_up MX k (kk_ins (M k, Pl k) (kk_fb (xs (5 * t + 2)) (xs (5 * t + 3))) n).1) (va_up PX k (kk_ins (M k, Pl k) (kk_fb (xs (5 * t + 2)) (xs (5 * t + 3))) n).2) u.1 u.2 ++ kw_O ct qo (vp_updL o 0 ((nI ((kk_ins (M k, Pl k) (kk_fb (xs (5 * t + 2)) (xs (5 * t + 3))) n).2)).toInt64))) ++ kw_M ct aM (nI 0) (va_up M k (kk_ins (M k, Pl k) (kk_fb (xs (5 * t + 2)) (xs (5 * t + 3))) n).1) (va_up Pl k (kk_ins (M k, Pl k) (kk_fb (xs (5 * t + 2)) (xs (5 * t + 3))) n).2) ((kk_ins (M k, Pl k) (kk_fb (xs (5 * t + 2)) (xs (5 * t + 3))) n).1) u2.1 u2.2 kk_rc) H := kr_swap hP
              have hD : va_D A ((kw_X ct aX (va_up MX k (kk_ins (M k, Pl k) (kk_fb (xs (5 * t + 2)) (xs (5 * t + 3))) n).1) (va_up PX k (kk_ins (M k, Pl k) (kk_fb (xs (5 * t + 2)) (xs (5 * t + 3))) n).2) u.1 u.2 ++ kw_O ct qo (vp_updL o 0 ((nI ((kk_ins (M k, Pl k) (kk_fb (xs (5 * t + 2)) (xs (5 * t + 3))) n).2)).toInt64))) ++ kw_M ct aM (nI 0) (va_up M k (kk_ins (M k, Pl k) (kk_fb (xs (5 * t + 2)) (xs (5 * t + 3))) n).1) (va_up Pl k (kk_ins (M k, Pl k) (kk_fb (xs (5 * t + 2)) (xs (5 * t + 3))) n).2) ((kk_ins (M k, Pl k) (kk_fb (xs (5 * t + 2)) (xs (5 * t + 3))) n).1) u2.1 u2.2 kk_rc) := kr_swapD hD
              refine lv_iload hx hb dL_law_293 (lv_at hl 1 rfl) ?_
              refine kr_icmp_eq (tgt := 300) hx hb (by omega) (by omega) dL_law_295 rfl (fun hc => ?_) (fun hc => ?_)
              · clear hc
                refine lv_iload hx hb dL_law_300 (lv_at hl 1 rfl) ?_
                refine lv_if_ne (tgt := 317) hx hb dL_law_302 rfl (fun hc => ?_) (fun hc => ?_)
                · exact absurd rfl hc
                · clear hc
                  refine lv_aload_n hx hb dL_law_305 rfl (lv_at hl 6 rfl) ?_
                  refine lv_iconst (v := nI 0) hx hb dL_law_306 rfl ?_
                  refine kr_lald hx hb hK hP 14 2 rfl rfl (n := 0) (by omega) (by omega) dL_law_307 ?_
                  rw [pk_uLs]
                  refine lv_iload hx hb dL_law_308 (lv_at hl 0 rfl) ?_
                  refine lv_i2l hx hb dL_law_310 rfl ?_
                  refine W.lcmp hx hb dL_law_311 ?_
                  rw [kl_cmp]
                  refine lv_if_eq (tgt := 317) hx hb dL_law_312 rfl (fun hc => ?_) (fun hc => ?_)
                  · clear hc
                    refine lv_goto (tgt := 538) hx hb dL_law_317 rfl ?_
                    refine lv_iinc (k := 2) (v := nI ((5 * t) + 5)) hx hb dL_law_538 hl rfl (nI_add (5 * t) 5) (Nat.le_of_ble_eq_true rfl) rfl (fun ls hl => ?_)
                    have hl : lv_has ls 8 [(4, .int (nI ((5 * t) + 5))), (6, .int (nI ((kk_ins (M k, Pl k) (kk_fb (xs (5 * t + 2)) (xs (5 * t + 3))) n).2))), (5, .int (nI 0)), (0, .ref b), (1, .ref (aX 0)), (2, .ref (aM 0)), (3, .ref qo)] := hl
                    refine lv_goto (tgt := 23) hx hb dL_law_541 rfl ?_
                    refine W.widen (k := 30 + (t + 1)) (n := 580 + 6 * (t + 1)) (by omega) (by omega) ?_
                    exact ih (t + 1) (va_up MX k (kk_ins (M k, Pl k) (kk_fb (xs (5 * t + 2)) (xs (5 * t + 3))) n).1) (va_up M k (kk_ins (M k, Pl k) (kk_fb (xs (5 * t + 2)) (xs (5 * t + 3))) n).1) (va_up PX k (kk_ins (M k, Pl k) (kk_fb (xs (5 * t + 2)) (xs (5 * t + 3))) n).2) (va_up Pl k (kk_ins (M k, Pl k) (kk_fb (xs (5 * t + 2)) (xs (5 * t + 3))) n).2) u.1 u.2 _ (nI 0) ((kk_ins (M k, Pl k) (kk_fb (xs (5 * t + 2)) (xs (5 * t + 3))) n).1) u2.1 u2.2 H locs ls (by omega) (by omega) (kl_up hM k _) (kl_up hPx k _) (kl_lt hPl k (kk_ins_lt hq1 n)) (lv_sub hl [0, 3, 4, 5, 6] rfl) hP hD hS
                  · exact absurd rfl hc
              · exact absurd rfl hc
            · clear hcells
              refine lv_aload_n hx hb dL_law_228 rfl (lv_at hl 2 rfl) ?_
              refine lv_aload_n hx hb dL_law_229 rfl (lv_at hl 1 rfl) ?_
              refine lv_iload hx hb dL_law_230 (lv_at hl 0 rfl) ?_
              refine lv_iconst (v := nI 1) hx hb dL_law_232 rfl ?_
              refine kr_iadd hx hb dL_law_233 ?_
              refine va_sld hx hb hX hbl hbA hS (vp_in_nI (n := (5 * t) + 1) (by omega) (by omega)) dL_law_234 ?_
              rw [nI_clamp (n := (5 * t) + 1) (by omega)]
              rw [ek]
              refine lv_aload_n hx hb dL_law_235 rfl (lv_at hl 1 rfl) ?_
              refine lv_iload hx hb dL_law_236 (lv_at hl 0 rfl) ?_
              refine lv_iconst (v := nI 2) hx hb dL_law_238 rfl ?_
              refine kr_iadd hx hb dL_law_239 ?_
              refine va_sld hx hb hX hbl hbA hS (vp_in_nI (n := (5 * t) + 2) (by omega) (by omega)) dL_law_240 ?_
              rw [nI_clamp (n := (5 * t) + 2) (by omega)]
              refine lv_aload_n hx hb dL_law_241 rfl (lv_at hl 1 rfl) ?_
              refine lv_iload hx hb dL_law_242 (lv_at hl 0 rfl) ?_
              refine lv_iconst (v := nI 3) hx hb dL_law_244 rfl ?_
              refine kr_iadd hx hb dL_law_245 ?_
              refine va_sld hx hb hX hbl hbA hS (vp_in_nI (n := (5 * t) + 3) (by omega) (by omega)) dL_law_246 ?_
              rw [nI_clamp (n := (5 * t) + 3) (by omega)]
              refine lv_aload_n hx hb dL_law_247 rfl (lv_at hl 1 rfl) ?_
              refine lv_iload hx hb dL_law_248 (lv_at hl 0 rfl) ?_
              refine lv_iconst (v := nI 4) hx hb dL_law_250 rfl ?_
              refine kr_iadd hx hb dL_law_251 ?_
              refine va_sld hx hb hX hbl hbA hS (vp_in_nI (n := (5 * t) + 4) (by omega) (by omega)) dL_law_252 ?_
              rw [nI_clamp (n := (5 * t) + 4) (by omega)]
              refine lv_aload_n hx hb dL_law_253 rfl (lv_at hl 4 rfl) ?_
              refine kr_fi (wx := kw_X ct aX MX PX C V ++ kw_O ct qo o) (wr := kw_M ct aM F M Pl L1 C1 V1 kk_rc) (vx_runSW (As := [.ref (aX 0), .int (nI k), .int (xs ((5 * t) + 2)), .int (xs ((5 * t) + 3)), .int (xs ((5 * t) + 4)), .ref qo]) (rest := []) ⟨hx, hb, hml, hown, htsL⟩ (kl_fill2 l D ct aX tb qo MX PX C V o hl0 _ hk8 (xs (5 * t + 2)) (xs (5 * t + 3)) (xs (5 * t + 4)) hbad) (vx_cwSW 6 htsL gL_law_L_fill rfl rfl rfl (by decide +kernel) ⟨Nat.le_of_ble_eq_true rfl, Nat.le_of_ble_eq_true rfl⟩) (kr_preS (kw_Bok tb) _ (kr_left hP) hK (kr_leftD hD) hB hS hA) rfl rfl hl.1 rfl (lv_room (Nat.le_of_ble_eq_true rfl)) dL_law_254 ⟨by show _ ≤ 601024; omega, by show _ ≤ 7293034; omega⟩) hP hD hS hA (fun r _ H locs hq hP hD hS => ?_)
              obtain rfl : r = nI 1 := hq
              have hP : va_P D vwCl ((kw_X ct aX MX PX C V ++ kw_O ct qo o) ++ kw_M ct aM F M Pl L1 C1 V1 kk_rc) H := hP
              have hD : va_D A ((kw_X ct aX MX PX C V ++ kw_O ct qo o) ++ kw_M ct aM F M Pl L1 C1 V1 kk_rc) := hD
              refine lv_istore hx hb dL_law_257 hl (Nat.le_of_ble_eq_true rfl) rfl (fun ls hl => ?_)
              have hl : lv_has ls 8 [(5, .int (nI 1)), (4, .int (nI (5 * t))), (0, .ref b), (1, .ref (aX 0)), (2, .ref (aM 0)), (3, .ref qo)] := hl
              refine lv_aload_n hx hb dL_law_259 rfl (lv_at hl 4 rfl) ?_
              refine lv_aload_n hx hb dL_law_260 rfl (lv_at hl 2 rfl) ?_
              refine lv_iload hx hb dL_law_261 (lv_at hl 1 rfl) ?_
              refine lv_iconst (v := nI 1) hx hb dL_law_263 rfl ?_
              refine kr_iadd hx hb dL_law_264 ?_
              refine va_sld hx hb hX hbl hbA hS (vp_in_nI (n := (5 * t) + 1) (by omega) (by omega)) dL_law_265 ?_
              rw [nI_clamp (n := (5 * t) + 1) (by omega)]
              rw [ek]
              refine lv_aload_n hx hb dL_law_266 rfl (lv_at hl 2 rfl) ?_
              refine lv_iload hx hb dL_law_267 (lv_at hl 1 rfl) ?_
              refine lv_iconst (v := nI 2) hx hb dL_law_269 rfl ?_
              refine kr_iadd hx hb dL_law_270 ?_
              refine va_sld hx hb hX hbl hbA hS (vp_in_nI (n := (5 * t) + 2) (by omega) (by omega)) dL_law_271 ?_
              rw [nI_clamp (n := (5 * t) + 2) (by omega)]
              refine lv_aload_n hx hb dL_law_272 rfl (lv_at hl 2 rfl) ?_
              refine lv_iload hx hb dL_law_273 (lv_at hl 1 rfl) ?_
              refine lv_iconst (v := nI 3) hx hb dL_law_275 rfl ?_
              refine kr_iadd hx hb dL_law_276 ?_
              refine va_sld hx hb hX hbl hbA hS (vp_in_nI (n := (5 * t) + 3) (by omega) (by omega)) dL_law_277 ?_
              rw [nI_clamp (n := (5 * t) + 3) (by omega)]
              refine lv_aload_n hx hb dL_law_278 rfl (lv_at hl 2 rfl) ?_
              refine lv_iload hx hb dL_law_279 (lv_at hl 1 rfl) ?_
              refine lv_iconst (v := nI 4) hx hb dL_law_281 rfl ?_
              refine kr_iadd hx hb dL_law_282 ?_
              refine va_sld hx hb hX hbl hbA hS (vp_in_nI (n := (5 * t) + 4) (by omega) (by omega)) dL_law_283 ?_
              rw [nI_clamp (n := (5 * t) + 4) (by omega)]
              have hP : va_P D vwCl (kw_M ct aM F M Pl L1 C1 V1 kk_rc ++ (kw_X ct aX MX PX C V ++ kw_O ct qo o)) H := kr_swap hP
              have hD : va_D A (kw_M ct aM F M Pl L1 C1 V1 kk_rc ++ (kw_X ct aX MX PX C V ++ kw_O ct qo o)) := kr_swapD hD
              refine kr_fi (wx := kw_M ct aM F M Pl L1 C1 V1 kk_rc) (wr := kw_X ct aX MX PX C V ++ kw_O ct qo o) (va_runV (As := [.int (nI k), .int (xs ((5 * t) + 2)), .int (xs ((5 * t) + 3)), .int (xs ((5 * t) + 4))]) (rest := []) ⟨hx, hb, hml, hown, hts⟩ (kn_fill2 l D ct aM F M Pl L1 C1 V1 kk_rc _ hk8 (xs (5 * t + 2)) (xs (5 * t + 3)) (xs (5 * t + 4)) hbad) (cwV 4 hts gl_fill rfl rfl rfl (by decide +kernel) ⟨Nat.le_of_ble_eq_true rfl, Nat.le_of_ble_eq_true rfl⟩) (kr_preV kw_Nok (q := (RX1, TX1, 7)) (q0 := 0) (ci := 1) _ (kr_left hP) hK (kr_leftD hD) trivial hS hA rfl rfl rfl) rfl rfl hl.1 rfl (lv_room (Nat.le_of_ble_eq_true rfl)) dL_law_284 ⟨by show _ ≤ 601024; omega, by show _ ≤ 7293034; omega⟩) hP hD hS hA (fun r _ H locs hq hP hD hS => ?_)
              have hP : va_P D vwCl ((kw_X ct aX MX PX C V ++ kw_O ct qo o) ++ kw_M ct aM (nI 1) M Pl L1 C1 V1 kk_rc) H := kr_swap hP
              have hD : va_D A ((kw_X ct aX MX PX C V ++ kw_O ct qo o) ++ kw_M ct aM (nI 1) M Pl L1 C1 V1 kk_rc) := kr_swapD hD
              refine lv_istore hx hb dL_law_287 hl (Nat.le_of_ble_eq_true rfl) rfl (fun ls hl => ?_)
              have hl : lv_has ls 8 [(6, .int r), (5, .int (nI 1)), (4, .int (nI (5 * t))), (0, .ref b), (1, .ref (aX 0)), (2, .ref (aM 0)), (3, .ref qo)] := hl
              refine lv_aload_n hx hb dL_law_289 rfl (lv_at hl 5 rfl) ?_
              have hP : va_P D vwCl (kw_M ct aM (nI 1) M Pl L1 C1 V1 kk_rc ++ (kw_X ct aX MX PX C V ++ kw_O ct qo o)) H := kr_swap hP
              have hD : va_D A (kw_M ct aM (nI 1) M Pl L1 C1 V1 kk_rc ++ (kw_X ct aX MX PX C V ++ kw_O ct qo o)) := kr_swapD hD
              refine kr_fi (wx := kw_M ct aM (nI 1) M Pl L1 C1 V1 kk_rc) (wr := kw_X ct aX MX PX C V ++ kw_O ct qo o) (va_runV (As := []) (rest := []) ⟨hx, hb, hml, hown, hts⟩ (km_thrown l D ct aM (nI 1) M Pl L1 C1 V1 kk_rc _) (cwV 0 hts gl_thrown rfl rfl rfl (by decide +kernel) ⟨Nat.le_of_ble_eq_true rfl, Nat.le_of_ble_eq_true rfl⟩) (kr_preV kw_Nok (q := (RX1, TX1, 7)) (q0 := 0) (ci := 1) _ (kr_left hP) hK (kr_leftD hD) trivial hS hA rfl rfl rfl) rfl rfl hl.1 rfl (lv_room (Nat.le_of_ble_eq_true rfl)) dL_law_290 ⟨by show _ ≤ 601024; omega, by show _ ≤ 7293034; omega⟩) hP hD hS hA (fun r _ H locs hq hP hD hS => ?_)
              obtain rfl : r = nI 1 := hq
              have hP : va_P D vwCl ((kw_X ct aX MX PX C V ++ kw_O ct qo o) ++ kw_M ct aM (nI 1) M Pl L1 C1 V1 kk_rc) H := kr_swap hP
              have hD : va_D A ((kw_X ct aX MX PX C V ++ kw_O ct qo o) ++ kw_M ct aM (nI 1) M Pl L1 C1 V1 kk_rc) := kr_swapD hD
              refine lv_iload hx hb dL_law_293 (lv_at hl 1 rfl) ?_
              refine kr_icmp_eq (tgt := 300) hx hb (by omega) (by omega) dL_law_295 rfl (fun hc => ?_) (fun hc => ?_)
              · clear hc
                refine lv_iload hx hb dL_law_300 (lv_at hl 1 rfl) ?_
                refine lv_if_ne (tgt := 317) hx hb dL_law_302 rfl (fun hc => ?_) (fun hc => ?_)
                · clear hc
                  refine lv_goto (tgt := 538) hx hb dL_law_317 rfl ?_
                  refine lv_iinc (k := 2) (v := nI ((5 * t) + 5)) hx hb dL_law_538 hl rfl (nI_add (5 * t) 5) (Nat.le_of_ble_eq_true rfl) rfl (fun ls hl => ?_)
                  have hl : lv_has ls 8 [(4, .int (nI ((5 * t) + 5))), (6, .int r), (5, .int (nI 1)), (0, .ref b), (1, .ref (aX 0)), (2, .ref (aM 0)), (3, .ref qo)] := hl
                  refine lv_goto (tgt := 23) hx hb dL_law_541 rfl ?_
                  refine W.widen (k := 30 + (t + 1)) (n := 580 + 6 * (t + 1)) (by omega) (by omega) ?_
                  exact ih (t + 1) MX M PX Pl C V o (nI 1) L1 C1 V1 H locs ls (by omega) (by omega) hM hPx hPl (lv_sub hl [0, 3, 4, 5, 6] rfl) hP hD hS
                · exact absurd hc km_ne1
              · exact absurd rfl hc
          · clear hcells
            refine lv_aload_n hx hb dL_law_228 rfl (lv_at hl 2 rfl) ?_
            refine lv_aload_n hx hb dL_law_229 rfl (lv_at hl 1 rfl) ?_
            refine lv_iload hx hb dL_law_230 (lv_at hl 0 rfl) ?_
            refine lv_iconst (v := nI 1) hx hb dL_law_232 rfl ?_
            refine kr_iadd hx hb dL_law_233 ?_
            refine va_sld hx hb hX hbl hbA hS (vp_in_nI (n := (5 * t) + 1) (by omega) (by omega)) dL_law_234 ?_
            rw [nI_clamp (n := (5 * t) + 1) (by omega)]
            refine lv_aload_n hx hb dL_law_235 rfl (lv_at hl 1 rfl) ?_
            refine lv_iload hx hb dL_law_236 (lv_at hl 0 rfl) ?_
            refine lv_iconst (v := nI 2) hx hb dL_law_238 rfl ?_
            refine kr_iadd hx hb dL_law_239 ?_
            refine va_sld hx hb hX hbl hbA hS (vp_in_nI (n := (5 * t) + 2) (by omega) (by omega)) dL_law_240 ?_
            rw [nI_clamp (n := (5 * t) + 2) (by omega)]
            refine lv_aload_n hx hb dL_law_241 rfl (lv_at hl 1 rfl) ?_
            refine lv_iload hx hb dL_law_242 (lv_at hl 0 rfl) ?_
            refine lv_iconst (v := nI 3) hx hb dL_law_244 rfl ?_
            refine kr_iadd hx hb dL_law_245 ?_
            refine va_sld hx hb hX hbl hbA hS (vp_in_nI (n := (5 * t) + 3) (by omega) (by omega)) dL_law_246 ?_
            rw [nI_clamp (n := (5 * t) + 3) (by omega)]
            refine lv_aload_n hx hb dL_law_247 rfl (lv_at hl 1 rfl) ?_
            refine lv_iload hx hb dL_law_248 (lv_at hl 0 rfl) ?_
            refine lv_iconst (v := nI 4) hx hb dL_law_250 rfl ?_
            refine kr_iadd hx hb dL_law_251 ?_
            refine va_sld hx hb hX hbl hbA hS (vp_in_nI (n := (5 * t) + 4) (by omega) (by omega)) dL_law_252 ?_
            rw [nI_clamp (n := (5 * t) + 4) (by omega)]
            refine lv_aload_n hx hb dL_law_253 rfl (lv_at hl 4 rfl) ?_
            refine kr_fi (wx := kw_X ct aX MX PX C V ++ kw_O ct qo o) (wr := kw_M ct aM F M Pl L1 C1 V1 kk_rc) (vx_runSW (As := [.ref (aX 0), .int (xs ((5 * t) + 1)), .int (xs ((5 * t) + 2)), .int (xs ((5 * t) + 3)), .int (xs ((5 * t) + 4)), .ref qo]) (rest := []) ⟨hx, hb, hml, hown, htsL⟩ (kl_fill1 l D ct aX tb qo MX PX C V o hl0 _ (xs (5 * t + 1)) (xs (5 * t + 2)) (xs (5 * t + 3)) (xs (5 * t + 4)) hbad) (vx_cwSW 6 htsL gL_law_L_fill rfl rfl rfl (by decide +kernel) ⟨Nat.le_of_ble_eq_true rfl, Nat.le_of_ble_eq_true rfl⟩) (kr_preS (kw_Bok tb) _ (kr_left hP) hK (kr_leftD hD) hB hS hA) rfl rfl hl.1 rfl (lv_room (Nat.le_of_ble_eq_true rfl)) dL_law_254 ⟨by show _ ≤ 601024; omega, by show _ ≤ 7293034; omega⟩) hP hD hS hA (fun r _ H locs hq hP hD hS => ?_)
            obtain rfl : r = nI 1 := hq
            have hP : va_P D vwCl ((kw_X ct aX MX PX C V ++ kw_O ct qo o) ++ kw_M ct aM F M Pl L1 C1 V1 kk_rc) H := hP
            have hD : va_D A ((kw_X ct aX MX PX C V ++ kw_O ct qo o) ++ kw_M ct aM F M Pl L1 C1 V1 kk_rc) := hD
            refine lv_istore hx hb dL_law_257 hl (Nat.le_of_ble_eq_true rfl) rfl (fun ls hl => ?_)
            have hl : lv_has ls 8 [(5, .int (nI 1)), (4, .int (nI (5 * t))), (0, .ref b), (1, .ref (aX 0)), (2, .ref (aM 0)), (3, .ref qo)] := hl
            refine lv_aload_n hx hb dL_law_259 rfl (lv_at hl 4 rfl) ?_
            refine lv_aload_n hx hb dL_law_260 rfl (lv_at hl 2 rfl) ?_
            refine lv_iload hx hb dL_law_261 (lv_at hl 1 rfl) ?_
            refine lv_iconst (v := nI 1) hx hb dL_law_263 rfl ?_
            refine kr_iadd hx hb dL_law_264 ?_
            refine va_sld hx hb hX hbl hbA hS (vp_in_nI (n := (5 * t) + 1) (by omega) (by omega)) dL_law_265 ?_
            rw [nI_clamp (n := (5 * t) + 1) (by omega)]
            refine lv_aload_n hx hb dL_law_266 rfl (lv_at hl 2 rfl) ?_
            refine lv_iload hx hb dL_law_267 (lv_at hl 1 rfl) ?_
            refine lv_iconst (v := nI 2) hx hb dL_law_269 rfl ?_
            refine kr_iadd hx hb dL_law_270 ?_
            refine va_sld hx hb hX hbl hbA hS (vp_in_nI (n := (5 * t) + 2) (by omega) (by omega)) dL_law_271 ?_
            rw [nI_clamp (n := (5 * t) + 2) (by omega)]
            refine lv_aload_n hx hb dL_law_272 rfl (lv_at hl 2 rfl) ?_
            refine lv_iload hx hb dL_law_273 (lv_at hl 1 rfl) ?_
            refine lv_iconst (v := nI 3) hx hb dL_law_275 rfl ?_
            refine kr_iadd hx hb dL_law_276 ?_
            refine va_sld hx hb hX hbl hbA hS (vp_in_nI (n := (5 * t) + 3) (by omega) (by omega)) dL_law_277 ?_
            rw [nI_clamp (n := (5 * t) + 3) (by omega)]
            refine lv_aload_n hx hb dL_law_278 rfl (lv_at hl 2 rfl) ?_
            refine lv_iload hx hb dL_law_279 (lv_at hl 1 rfl) ?_
            refine lv_iconst (v := nI 4) hx hb dL_law_281 rfl ?_
            refine kr_iadd hx hb dL_law_282 ?_
            refine va_sld hx hb hX hbl hbA hS (vp_in_nI (n := (5 * t) + 4) (by omega) (by omega)) dL_law_283 ?_
            rw [nI_clamp (n := (5 * t) + 4) (by omega)]
            have hP : va_P D vwCl (kw_M ct aM F M Pl L1 C1 V1 kk_rc ++ (kw_X ct aX MX PX C V ++ kw_O ct qo o)) H := kr_swap hP
            have hD : va_D A (kw_M ct aM F M Pl L1 C1 V1 kk_rc ++ (kw_X ct aX MX PX C V ++ kw_O ct qo o)) := kr_swapD hD
            refine kr_fi (wx := kw_M ct aM F M Pl L1 C1 V1 kk_rc) (wr := kw_X ct aX MX PX C V ++ kw_O ct qo o) (va_runV (As := [.int (xs ((5 * t) + 1)), .int (xs ((5 * t) + 2)), .int (xs ((5 * t) + 3)), .int (xs ((5 * t) + 4))]) (rest := []) ⟨hx, hb, hml, hown, hts⟩ (kn_fill1 l D ct aM F M Pl L1 C1 V1 kk_rc _ (xs (5 * t + 1)) (xs (5 * t + 2)) (xs (5 * t + 3)) (xs (5 * t + 4)) hbad) (cwV 4 hts gl_fill rfl rfl rfl (by decide +kernel) ⟨Nat.le_of_ble_eq_true rfl, Nat.le_of_ble_eq_true rfl⟩) (kr_preV kw_Nok (q := (RX1, TX1, 7)) (q0 := 0) (ci := 1) _ (kr_left hP) hK (kr_leftD hD) trivial hS hA rfl rfl rfl) rfl rfl hl.1 rfl (lv_room (Nat.le_of_ble_eq_true rfl)) dL_law_284 ⟨by show _ ≤ 601024; omega, by show _ ≤ 7293034; omega⟩) hP hD hS hA (fun r _ H locs hq hP hD hS => ?_)
            have hP : va_P D vwCl ((kw_X ct aX MX PX C V ++ kw_O ct qo o) ++ kw_M ct aM (nI 1) M Pl L1 C1 V1 kk_rc) H := kr_swap hP
            have hD : va_D A ((kw_X ct aX MX PX C V ++ kw_O ct qo o) ++ kw_M ct aM (nI 1) M Pl L1 C1 V1 kk_rc) := kr_swapD hD
            refine lv_istore hx hb dL_law_287 hl (Nat.le_of_ble_eq_true rfl) rfl (fun ls hl => ?_)
            have hl : lv_has ls 8 [(6, .int r), (5, .int (nI 1)), (4, .int (nI (5 * t))), (0, .ref b), (1, .ref (aX 0)), (2, .ref (aM 0)), (3, .ref qo)] := hl
            refine lv_aload_n hx hb dL_law_289 rfl (lv_at hl 5 rfl) ?_
            have hP : va_P D vwCl (kw_M ct aM (nI 1) M Pl L1 C1 V1 kk_rc ++ (kw_X ct aX MX PX C V ++ kw_O ct qo o)) H := kr_swap hP
            have hD : va_D A (kw_M ct aM (nI 1) M Pl L1 C1 V1 kk_rc ++ (kw_X ct aX MX PX C V ++ kw_O ct qo o)) := kr_swapD hD
            refine kr_fi (wx := kw_M ct aM (nI 1) M Pl L1 C1 V1 kk_rc) (wr := kw_X ct aX MX PX C V ++ kw_O ct qo o) (va_runV (As := []) (rest := []) ⟨hx, hb, hml, hown, hts⟩ (km_thrown l D ct aM (nI 1) M Pl L1 C1 V1 kk_rc _) (cwV 0 hts gl_thrown rfl rfl rfl (by decide +kernel) ⟨Nat.le_of_ble_eq_true rfl, Nat.le_of_ble_eq_true rfl⟩) (kr_preV kw_Nok (q := (RX1, TX1, 7)) (q0 := 0) (ci := 1) _ (kr_left hP) hK (kr_leftD hD) trivial hS hA rfl rfl rfl) rfl rfl hl.1 rfl (lv_room (Nat.le_of_ble_eq_true rfl)) dL_law_290 ⟨by show _ ≤ 601024; omega, by show _ ≤ 7293034; omega⟩) hP hD hS hA (fun r _ H locs hq hP hD hS => ?_)
            obtain rfl : r = nI 1 := hq
            have hP : va_P D vwCl ((kw_X ct aX MX PX C V ++ kw_O ct qo o) ++ kw_M ct aM (nI 1) M Pl L1 C1 V1 kk_rc) H := kr_swap hP
            have hD : va_D A ((kw_X ct aX MX PX C V ++ kw_O ct qo o) ++ kw_M ct aM (nI 1) M Pl L1 C1 V1 kk_rc) := kr_swapD hD
            refine lv_iload hx hb dL_law_293 (lv_at hl 1 rfl) ?_
            refine kr_icmp_eq (tgt := 300) hx hb (by omega) (by omega) dL_law_295 rfl (fun hc => ?_) (fun hc => ?_)
            · clear hc
              refine lv_iload hx hb dL_law_300 (lv_at hl 1 rfl) ?_
              refine lv_if_ne (tgt := 317) hx hb dL_law_302 rfl (fun hc => ?_) (fun hc => ?_)
              · clear hc
                refine lv_goto (tgt := 538) hx hb dL_law_317 rfl ?_
                refine lv_iinc (k := 2) (v := nI ((5 * t) + 5)) hx hb dL_law_538 hl rfl (nI_add (5 * t) 5) (Nat.le_of_ble_eq_true rfl) rfl (fun ls hl => ?_)
                have hl : lv_has ls 8 [(4, .int (nI ((5 * t) + 5))), (6, .int r), (5, .int (nI 1)), (0, .ref b), (1, .ref (aX 0)), (2, .ref (aM 0)), (3, .ref qo)] := hl
                refine lv_goto (tgt := 23) hx hb dL_law_541 rfl ?_
                refine W.widen (k := 30 + (t + 1)) (n := 580 + 6 * (t + 1)) (by omega) (by omega) ?_
                exact ih (t + 1) MX M PX Pl C V o (nI 1) L1 C1 V1 H locs ls (by omega) (by omega) hM hPx hPl (lv_sub hl [0, 3, 4, 5, 6] rfl) hP hD hS
              · exact absurd hc km_ne1
            · exact absurd rfl hc
        · refine lv_tableIn (tgt := 320) hx hb dL_law_39 (by decide +kernel) (by decide +kernel) rfl rfl ?_
          rcases kl_rng (xs (5 * t + 1)) 7 (by omega) with ⟨k, hk, ek⟩ | hbad
          · have hk8 : k < 8 := by omega
            rcases kl_rng (xs (5 * t + 2)) 7 (by omega) with ⟨n, hn, en⟩ | hbad
            · have hn8 : n < 8 := by omega
              have hMk := hM k hk8
              have hPk := hPx k hk8
              refine lv_aload_n hx hb dL_law_320 rfl (lv_at hl 2 rfl) ?_
              refine lv_aload_n hx hb dL_law_321 rfl (lv_at hl 1 rfl) ?_
              refine lv_iload hx hb dL_law_322 (lv_at hl 0 rfl) ?_
              refine lv_iconst (v := nI 1) hx hb dL_law_324 rfl ?_
              refine kr_iadd hx hb dL_law_325 ?_
              refine va_sld hx hb hX hbl hbA hS (vp_in_nI (n := (5 * t) + 1) (by omega) (by omega)) dL_law_326 ?_
              rw [nI_clamp (n := (5 * t) + 1) (by omega)]
              rw [ek]
              refine lv_aload_n hx hb dL_law_327 rfl (lv_at hl 1 rfl) ?_
              refine lv_iload hx hb dL_law_328 (lv_at hl 0 rfl) ?_
              refine lv_iconst (v := nI 2) hx hb dL_law_330 rfl ?_
              refine kr_iadd hx hb dL_law_331 ?_
              refine va_sld hx hb hX hbl hbA hS (vp_in_nI (n := (5 * t) + 2) (by omega) (by omega)) dL_law_332 ?_
              rw [nI_clamp (n := (5 * t) + 2) (by omega)]
              rw [en]
              refine kr_fi (wx := kw_X ct aX MX PX C V ++ kw_O ct qo o) (wr := kw_M ct aM F M Pl L1 C1 V1 kk_rc) (vx_runSW (As := [.ref (aX 0), .int (nI k), .int (nI n)]) (rest := []) ⟨hx, hb, hml, hown, htsL⟩ (kl_copy l D ct aX tb qo MX PX C V o _ hk8 (t := n) hn8) (vx_cwSW 3 htsL gL_law_L_copy rfl rfl rfl (by decide +kernel) ⟨Nat.le_of_ble_eq_true rfl, Nat.le_of_ble_eq_true rfl⟩) (kr_preS (kw_Bok tb) _ (kr_left hP) hK (kr_leftD hD) hB hS hA) rfl rfl hl.1 rfl (lv_room (Nat.le_of_ble_eq_true rfl)) dL_law_333 ⟨by show _ ≤ 601024; omega, by show _ ≤ 7293034; omega⟩) hP hD hS hA (fun r _ H locs hq hP hD hS => ?_)
              obtain rfl : r = nI 0 := hq
              have hP : va_P D vwCl ((kw_X ct aX (va_up MX n (MX k)) (va_up PX n (PX k)) C V ++ kw_O ct qo o) ++ kw_M ct aM F M Pl L1 C1 V1 kk_rc) H := hP
              have hD : va_D A ((kw_X ct aX (va_up MX n (MX k)) (va_up PX n (PX k)) C V ++ kw_O ct qo o) ++ kw_M ct aM F M Pl L1 C1 V1 kk_rc) := hD
              rw [hMk, hPk] at hP hD
              have hP : va_P D vwCl ((kw_X ct aX (va_up MX n (M k)) (va_up PX n (Pl k)) C V ++ kw_O ct qo o) ++ kw_M ct aM F M Pl L1 C1 V1 kk_rc) H := hP
              have hD : va_D A ((kw_X ct aX (va_up MX n (M k)) (va_up PX n (Pl k)) C V ++ kw_O ct qo o) ++ kw_M ct aM F M Pl L1 C1 V1 kk_rc) := hD
              refine lv_istore hx hb dL_law_336 hl (Nat.le_of_ble_eq_true rfl) rfl (fun ls hl => ?_)
              have hl : lv_has ls 8 [(5, .int (nI 0)), (4, .int (nI (5 * t))), (0, .ref b), (1, .ref (aX 0)), (2, .ref (aM 0)), (3, .ref qo)] := hl
              refine lv_aload_n hx hb dL_law_338 rfl (lv_at hl 4 rfl) ?_
              refine lv_aload_n hx hb dL_law_339 rfl (lv_at hl 2 rfl) ?_
              refine lv_iload hx hb dL_law_340 (lv_at hl 1 rfl) ?_
              refine lv_iconst (v := nI 1) hx hb dL_law_342 rfl ?_
              refine kr_iadd hx hb dL_law_343 ?_
              refine va_sld hx hb hX hbl hbA hS (vp_in_nI (n := (5 * t) + 1) (by omega) (by omega)) dL_law_344 ?_
              rw [nI_clamp (n := (5 * t) + 1) (by omega)]
              rw [ek]
              refine lv_aload_n hx hb dL_law_345 rfl (lv_at hl 2 rfl) ?_
              refine lv_iload hx hb dL_law_346 (lv_at hl 1 rfl) ?_
              refine lv_iconst (v := nI 2) hx hb dL_law_348 rfl ?_
              refine kr_iadd hx hb dL_law_349 ?_
              refine va_sld hx hb hX hbl hbA hS (vp_in_nI (n := (5 * t) + 2) (by omega) (by omega)) dL_law_350 ?_
              rw [nI_clamp (n := (5 * t) + 2) (by omega)]
              rw [en]
              have hP : va_P D vwCl (kw_M ct aM F M Pl L1 C1 V1 kk_rc ++ (kw_X ct aX (va_up MX n (M k)) (va_up PX n (Pl k)) C V ++ kw_O ct qo o)) H := kr_swap hP
              have hD : va_D A (kw_M ct aM F M Pl L1 C1 V1 kk_rc ++ (kw_X ct aX (va_up MX n (M k)) (va_up PX n (Pl k)) C V ++ kw_O ct qo o)) := kr_swapD hD
              refine kr_fv (wx := kw_M ct aM F M Pl L1 C1 V1 kk_rc) (wr := kw_X ct aX (va_up MX n (M k)) (va_up PX n (Pl k)) C V ++ kw_O ct qo o) (va_runV (As := [.int (nI k), .int (nI n)]) (rest := []) ⟨hx, hb, hml, hown, hts⟩ (km_copy l D ct aM F M Pl L1 C1 V1 kk_rc _ hk8 (t := n) hn8) (cwV 2 hts gl_copy rfl rfl rfl (by decide +kernel) ⟨Nat.le_of_ble_eq_true rfl, Nat.le_of_ble_eq_true rfl⟩) (kr_preV kw_Nok (q := (RX1, TX1, 7)) (q0 := 0) (ci := 1) _ (kr_left hP) hK (kr_leftD hD) trivial hS hA rfl rfl rfl) rfl rfl hl.1 rfl (lv_room (Nat.le_of_ble_eq_true rfl)) dL_law_351 ⟨by show _ ≤ 601024; omega, by show _ ≤ 7293034; omega⟩) hP hD hS hA (fun _ H locs hq hP hD hS => ?_)
              have hP : va_P D vwCl ((kw_X ct aX (va_up MX n (M k)) (va_up PX n (Pl k)) C V ++ kw_O ct qo o) ++ kw_M ct aM (nI 0) (va_up M n (M k)) (va_up Pl n (Pl k)) (M k) C1 V1 kk_rc) H := kr_swap hP
              have hD : va_D A ((kw_X ct aX (va_up MX n (M k)) (va_up PX n (Pl k)) C V ++ kw_O ct qo o) ++ kw_M ct aM (nI 0) (va_up M n (M k)) (va_up Pl n (Pl k)) (M k) C1 V1 kk_rc) := kr_swapD hD
              refine lv_aload_n hx hb dL_law_354 rfl (lv_at hl 4 rfl) ?_
              have hP : va_P D vwCl (kw_M ct aM (nI 0) (va_up M n (M k)) (va_up Pl n (Pl k)) (M k) C1 V1 kk_rc ++ (kw_X ct aX (va_up MX n (M k)) (va_up PX n (Pl k)) C V ++ kw_O ct qo o)) H := kr_swap hP
              have hD : va_D A (kw_M ct aM (nI 0) (va_up M n (M k)) (va_up Pl n (Pl k)) (M k) C1 V1 kk_rc ++ (kw_X ct aX (va_up MX n (M k)) (va_up PX n (Pl k)) C V ++ kw_O ct qo o)) := kr_swapD hD
              refine kr_fi (wx := kw_M ct aM (nI 0) (va_up M n (M k)) (va_up Pl n (Pl k)) (M k) C1 V1 kk_rc) (wr := kw_X ct aX (va_up MX n (M k)) (va_up PX n (Pl k)) C V ++ kw_O ct qo o) (va_runV (As := []) (rest := []) ⟨hx, hb, hml, hown, hts⟩ (km_thrown l D ct aM (nI 0) (va_up M n (M k)) (va_up Pl n (Pl k)) (M k) C1 V1 kk_rc _) (cwV 0 hts gl_thrown rfl rfl rfl (by decide +kernel) ⟨Nat.le_of_ble_eq_true rfl, Nat.le_of_ble_eq_true rfl⟩) (kr_preV kw_Nok (q := (RX1, TX1, 7)) (q0 := 0) (ci := 1) _ (kr_left hP) hK (kr_leftD hD) trivial hS hA rfl rfl rfl) rfl rfl hl.1 rfl (lv_room (Nat.le_of_ble_eq_true rfl)) dL_law_355 ⟨by show _ ≤ 601024; omega, by show _ ≤ 7293034; omega⟩) hP hD hS hA (fun r _ H locs hq hP hD hS => ?_)
              obtain rfl : r = nI 0 := hq
              have hP : va_P D vwCl ((kw_X ct aX (va_up MX n (M k)) (va_up PX n (Pl k)) C V ++ kw_O ct qo o) ++ kw_M ct aM (nI 0) (va_up M n (M k)) (va_up Pl n (Pl k)) (M k) C1 V1 kk_rc) H := kr_swap hP
              have hD : va_D A ((kw_X ct aX (va_up MX n (M k)) (va_up PX n (Pl k)) C V ++ kw_O ct qo o) ++ kw_M ct aM (nI 0) (va_up M n (M k)) (va_up Pl n (Pl k)) (M k) C1 V1 kk_rc) := kr_swapD hD
              refine lv_iload hx hb dL_law_358 (lv_at hl 0 rfl) ?_
              refine kr_icmp_eq (tgt := 365) hx hb (by omega) (by omega) dL_law_360 rfl (fun hc => ?_) (fun hc => ?_)
              · clear hc
                refine lv_goto (tgt := 538) hx hb dL_law_365 rfl ?_
                refine lv_iinc (k := 1) (v := nI ((5 * t) + 5)) hx hb dL_law_538 hl rfl (nI_add (5 * t) 5) (Nat.le_of_ble_eq_true rfl) rfl (fun ls hl => ?_)
                have hl : lv_has ls 8 [(4, .int (nI ((5 * t) + 5))), (5, .int (nI 0)), (0, .ref b), (1, .ref (aX 0)), (2, .ref (aM 0)), (3, .ref qo)] := hl
                refine lv_goto (tgt := 23) hx hb dL_law_541 rfl ?_
                refine W.widen (k := 30 + (t + 1)) (n := 580 + 6 * (t + 1)) (by omega) (by omega) ?_
                exact ih (t + 1) (va_up MX n (M k)) (va_up M n (M k)) (va_up PX n (Pl k)) (va_up Pl n (Pl k)) C V o (nI 0) (M k) C1 V1 H locs ls (by omega) (by omega) (kl_up hM n _) (kl_up hPx n _) (kl_lt hPl n (hPl k hk8)) (lv_sub hl [0, 2, 3, 4, 5] rfl) hP hD hS
              · exact absurd rfl hc
            · clear hcells
              refine lv_aload_n hx hb dL_law_320 rfl (lv_at hl 2 rfl) ?_
              refine lv_aload_n hx hb dL_law_321 rfl (lv_at hl 1 rfl) ?_
              refine lv_iload hx hb dL_law_322 (lv_at hl 0 rfl) ?_
              refine lv_iconst (v := nI 1) hx hb dL_law_324 rfl ?_
              refine kr_iadd hx hb dL_law_325 ?_
              refine va_sld hx hb hX hbl hbA hS (vp_in_nI (n := (5 * t) + 1) (by omega) (by omega)) dL_law_326 ?_
              rw [nI_clamp (n := (5 * t) + 1) (by omega)]
              rw [ek]
              refine lv_aload_n hx hb dL_law_327 rfl (lv_at hl 1 rfl) ?_
              refine lv_iload hx hb dL_law_328 (lv_at hl 0 rfl) ?_
              refine lv_iconst (v := nI 2) hx hb dL_law_330 rfl ?_
              refine kr_iadd hx hb dL_law_331 ?_
              refine va_sld hx hb hX hbl hbA hS (vp_in_nI (n := (5 * t) + 2) (by omega) (by omega)) dL_law_332 ?_
              rw [nI_clamp (n := (5 * t) + 2) (by omega)]
              refine kr_fi (wx := kw_X ct aX MX PX C V ++ kw_O ct qo o) (wr := kw_M ct aM F M Pl L1 C1 V1 kk_rc) (vx_runSW (As := [.ref (aX 0), .int (nI k), .int (xs ((5 * t) + 2))]) (rest := []) ⟨hx, hb, hml, hown, htsL⟩ (kl_copy2 l D ct aX tb qo MX PX C V o hl0 _ hk8 (xs (5 * t + 2)) hbad) (vx_cwSW 3 htsL gL_law_L_copy rfl rfl rfl (by decide +kernel) ⟨Nat.le_of_ble_eq_true rfl, Nat.le_of_ble_eq_true rfl⟩) (kr_preS (kw_Bok tb) _ (kr_left hP) hK (kr_leftD hD) hB hS hA) rfl rfl hl.1 rfl (lv_room (Nat.le_of_ble_eq_true rfl)) dL_law_333 ⟨by show _ ≤ 601024; omega, by show _ ≤ 7293034; omega⟩) hP hD hS hA (fun r _ H locs hq hP hD hS => ?_)
              obtain rfl : r = nI 1 := hq
              have hP : va_P D vwCl ((kw_X ct aX MX PX C V ++ kw_O ct qo o) ++ kw_M ct aM F M Pl L1 C1 V1 kk_rc) H := hP
              have hD : va_D A ((kw_X ct aX MX PX C V ++ kw_O ct qo o) ++ kw_M ct aM F M Pl L1 C1 V1 kk_rc) := hD
              refine lv_istore hx hb dL_law_336 hl (Nat.le_of_ble_eq_true rfl) rfl (fun ls hl => ?_)
              have hl : lv_has ls 8 [(5, .int (nI 1)), (4, .int (nI (5 * t))), (0, .ref b), (1, .ref (aX 0)), (2, .ref (aM 0)), (3, .ref qo)] := hl
              refine lv_aload_n hx hb dL_law_338 rfl (lv_at hl 4 rfl) ?_
              refine lv_aload_n hx hb dL_law_339 rfl (lv_at hl 2 rfl) ?_
              refine lv_iload hx hb dL_law_340 (lv_at hl 1 rfl) ?_
              refine lv_iconst (v := nI 1) hx hb dL_law_342 rfl ?_
              refine kr_iadd hx hb dL_law_343 ?_
              refine va_sld hx hb hX hbl hbA hS (vp_in_nI (n := (5 * t) + 1) (by omega) (by omega)) dL_law_344 ?_
              rw [nI_clamp (n := (5 * t) + 1) (by omega)]
              rw [ek]
              refine lv_aload_n hx hb dL_law_345 rfl (lv_at hl 2 rfl) ?_
              refine lv_iload hx hb dL_law_346 (lv_at hl 1 rfl) ?_
              refine lv_iconst (v := nI 2) hx hb dL_law_348 rfl ?_
              refine kr_iadd hx hb dL_law_349 ?_
              refine va_sld hx hb hX hbl hbA hS (vp_in_nI (n := (5 * t) + 2) (by omega) (by omega)) dL_law_350 ?_
              rw [nI_clamp (n := (5 * t) + 2) (by omega)]
              have hP : va_P D vwCl (kw_M ct aM F M Pl L1 C1 V1 kk_rc ++ (kw_X ct aX MX PX C V ++ kw_O ct qo o)) H := kr_swap hP
              have hD : va_D A (kw_M ct aM F M Pl L1 C1 V1 kk_rc ++ (kw_X ct aX MX PX C V ++ kw_O ct qo o)) := kr_swapD hD
              refine kr_fv (wx := kw_M ct aM F M Pl L1 C1 V1 kk_rc) (wr := kw_X ct aX MX PX C V ++ kw_O ct qo o) (va_runV (As := [.int (nI k), .int (xs ((5 * t) + 2))]) (rest := []) ⟨hx, hb, hml, hown, hts⟩ (kn_copy2 l D ct aM F M Pl L1 C1 V1 kk_rc _ hk8 (xs (5 * t + 2)) hbad) (cwV 2 hts gl_copy rfl rfl rfl (by decide +kernel) ⟨Nat.le_of_ble_eq_true rfl, Nat.le_of_ble_eq_true rfl⟩) (kr_preV kw_Nok (q := (RX1, TX1, 7)) (q0 := 0) (ci := 1) _ (kr_left hP) hK (kr_leftD hD) trivial hS hA rfl rfl rfl) rfl rfl hl.1 rfl (lv_room (Nat.le_of_ble_eq_true rfl)) dL_law_351 ⟨by show _ ≤ 601024; omega, by show _ ≤ 7293034; omega⟩) hP hD hS hA (fun _ H locs hq hP hD hS => ?_)
              have hP : va_P D vwCl ((kw_X ct aX MX PX C V ++ kw_O ct qo o) ++ kw_M ct aM (nI 1) M Pl L1 C1 V1 kk_rc) H := kr_swap hP
              have hD : va_D A ((kw_X ct aX MX PX C V ++ kw_O ct qo o) ++ kw_M ct aM (nI 1) M Pl L1 C1 V1 kk_rc) := kr_swapD hD
              refine lv_aload_n hx hb dL_law_354 rfl (lv_at hl 4 rfl) ?_
              have hP : va_P D vwCl (kw_M ct aM (nI 1) M Pl L1 C1 V1 kk_rc ++ (kw_X ct aX MX PX C V ++ kw_O ct qo o)) H := kr_swap hP
              have hD : va_D A (kw_M ct aM (nI 1) M Pl L1 C1 V1 kk_rc ++ (kw_X ct aX MX PX C V ++ kw_O ct qo o)) := kr_swapD hD
              refine kr_fi (wx := kw_M ct aM (nI 1) M Pl L1 C1 V1 kk_rc) (wr := kw_X ct aX MX PX C V ++ kw_O ct qo o) (va_runV (As := []) (rest := []) ⟨hx, hb, hml, hown, hts⟩ (km_thrown l D ct aM (nI 1) M Pl L1 C1 V1 kk_rc _) (cwV 0 hts gl_thrown rfl rfl rfl (by decide +kernel) ⟨Nat.le_of_ble_eq_true rfl, Nat.le_of_ble_eq_true rfl⟩) (kr_preV kw_Nok (q := (RX1, TX1, 7)) (q0 := 0) (ci := 1) _ (kr_left hP) hK (kr_leftD hD) trivial hS hA rfl rfl rfl) rfl rfl hl.1 rfl (lv_room (Nat.le_of_ble_eq_true rfl)) dL_law_355 ⟨by show _ ≤ 601024; omega, by show _ ≤ 7293034; omega⟩) hP hD hS hA (fun r _ H locs hq hP hD hS => ?_)
              obtain rfl : r = nI 1 := hq
              have hP : va_P D vwCl ((kw_X ct aX MX PX C V ++ kw_O ct qo o) ++ kw_M ct aM (nI 1) M Pl L1 C1 V1 kk_rc) H := kr_swap hP
              have hD : va_D A ((kw_X ct aX MX PX C V ++ kw_O ct qo o) ++ kw_M ct aM (nI 1) M Pl L1 C1 V1 kk_rc) := kr_swapD hD
              refine lv_iload hx hb dL_law_358 (lv_at hl 0 rfl) ?_
              refine kr_icmp_eq (tgt := 365) hx hb (by omega) (by omega) dL_law_360 rfl (fun hc => ?_) (fun hc => ?_)
              · clear hc
                refine lv_goto (tgt := 538) hx hb dL_law_365 rfl ?_
                refine lv_iinc (k := 1) (v := nI ((5 * t) + 5)) hx hb dL_law_538 hl rfl (nI_add (5 * t) 5) (Nat.le_of_ble_eq_true rfl) rfl (fun ls hl => ?_)
                have hl : lv_has ls 8 [(4, .int (nI ((5 * t) + 5))), (5, .int (nI 1)), (0, .ref b), (1, .ref (aX 0)), (2, .ref (aM 0)), (3, .ref qo)] := hl
                refine lv_goto (tgt := 23) hx hb dL_law_541 rfl ?_
                refine W.widen (k := 30 + (t + 1)) (n := 580 + 6 * (t + 1)) (by omega) (by omega) ?_
                exact ih (t + 1) MX M PX Pl C V o (nI 1) L1 C1 V1 H locs ls (by omega) (by omega) hM hPx hPl (lv_sub hl [0, 2, 3, 4, 5] rfl) hP hD hS
              · exact absurd rfl hc
          · clear hcells
            refine lv_aload_n hx hb dL_law_320 rfl (lv_at hl 2 rfl) ?_
            refine lv_aload_n hx hb dL_law_321 rfl (lv_at hl 1 rfl) ?_
            refine lv_iload hx hb dL_law_322 (lv_at hl 0 rfl) ?_
            refine lv_iconst (v := nI 1) hx hb dL_law_324 rfl ?_
            refine kr_iadd hx hb dL_law_325 ?_
            refine va_sld hx hb hX hbl hbA hS (vp_in_nI (n := (5 * t) + 1) (by omega) (by omega)) dL_law_326 ?_
            rw [nI_clamp (n := (5 * t) + 1) (by omega)]
            refine lv_aload_n hx hb dL_law_327 rfl (lv_at hl 1 rfl) ?_
            refine lv_iload hx hb dL_law_328 (lv_at hl 0 rfl) ?_
            refine lv_iconst (v := nI 2) hx hb dL_law_330 rfl ?_
            refine kr_iadd hx hb dL_law_331 ?_
            refine va_sld hx hb hX hbl hbA hS (vp_in_nI (n := (5 * t) + 2) (by omega) (by omega)) dL_law_332 ?_
            rw [nI_clamp (n := (5 * t) + 2) (by omega)]
            refine kr_fi (wx := kw_X ct aX MX PX C V ++ kw_O ct qo o) (wr := kw_M ct aM F M Pl L1 C1 V1 kk_rc) (vx_runSW (As := [.ref (aX 0), .int (xs ((5 * t) + 1)), .int (xs ((5 * t) + 2))]) (rest := []) ⟨hx, hb, hml, hown, htsL⟩ (kl_copy1 l D ct aX tb qo MX PX C V o hl0 _ (xs (5 * t + 1)) (xs (5 * t + 2)) hbad) (vx_cwSW 3 htsL gL_law_L_copy rfl rfl rfl (by decide +kernel) ⟨Nat.le_of_ble_eq_true rfl, Nat.le_of_ble_eq_true rfl⟩) (kr_preS (kw_Bok tb) _ (kr_left hP) hK (kr_leftD hD) hB hS hA) rfl rfl hl.1 rfl (lv_room (Nat.le_of_ble_eq_true rfl)) dL_law_333 ⟨by show _ ≤ 601024; omega, by show _ ≤ 7293034; omega⟩) hP hD hS hA (fun r _ H locs hq hP hD hS => ?_)
            obtain rfl : r = nI 1 := hq
            have hP : va_P D vwCl ((kw_X ct aX MX PX C V ++ kw_O ct qo o) ++ kw_M ct aM F M Pl L1 C1 V1 kk_rc) H := hP
            have hD : va_D A ((kw_X ct aX MX PX C V ++ kw_O ct qo o) ++ kw_M ct aM F M Pl L1 C1 V1 kk_rc) := hD
            refine lv_istore hx hb dL_law_336 hl (Nat.le_of_ble_eq_true rfl) rfl (fun ls hl => ?_)
            have hl : lv_has ls 8 [(5, .int (nI 1)), (4, .int (nI (5 * t))), (0, .ref b), (1, .ref (aX 0)), (2, .ref (aM 0)), (3, .ref qo)] := hl
            refine lv_aload_n hx hb dL_law_338 rfl (lv_at hl 4 rfl) ?_
            refine lv_aload_n hx hb dL_law_339 rfl (lv_at hl 2 rfl) ?_
            refine lv_iload hx hb dL_law_340 (lv_at hl 1 rfl) ?_
            refine lv_iconst (v := nI 1) hx hb dL_law_342 rfl ?_
            refine kr_iadd hx hb dL_law_343 ?_
            refine va_sld hx hb hX hbl hbA hS (vp_in_nI (n := (5 * t) + 1) (by omega) (by omega)) dL_law_344 ?_
            rw [nI_clamp (n := (5 * t) + 1) (by omega)]
            refine lv_aload_n hx hb dL_law_345 rfl (lv_at hl 2 rfl) ?_
            refine lv_iload hx hb dL_law_346 (lv_at hl 1 rfl) ?_
            refine lv_iconst (v := nI 2) hx hb dL_law_348 rfl ?_
            refine kr_iadd hx hb dL_law_349 ?_
            refine va_sld hx hb hX hbl hbA hS (vp_in_nI (n := (5 * t) + 2) (by omega) (by omega)) dL_law_350 ?_
            rw [nI_clamp (n := (5 * t) + 2) (by omega)]
            have hP : va_P D vwCl (kw_M ct aM F M Pl L1 C1 V1 kk_rc ++ (kw_X ct aX MX PX C V ++ kw_O ct qo o)) H := kr_swap hP
            have hD : va_D A (kw_M ct aM F M Pl L1 C1 V1 kk_rc ++ (kw_X ct aX MX PX C V ++ kw_O ct qo o)) := kr_swapD hD
            refine kr_fv (wx := kw_M ct aM F M Pl L1 C1 V1 kk_rc) (wr := kw_X ct aX MX PX C V ++ kw_O ct qo o) (va_runV (As := [.int (xs ((5 * t) + 1)), .int (xs ((5 * t) + 2))]) (rest := []) ⟨hx, hb, hml, hown, hts⟩ (kn_copy1 l D ct aM F M Pl L1 C1 V1 kk_rc _ (xs (5 * t + 1)) (xs (5 * t + 2)) hbad) (cwV 2 hts gl_copy rfl rfl rfl (by decide +kernel) ⟨Nat.le_of_ble_eq_true rfl, Nat.le_of_ble_eq_true rfl⟩) (kr_preV kw_Nok (q := (RX1, TX1, 7)) (q0 := 0) (ci := 1) _ (kr_left hP) hK (kr_leftD hD) trivial hS hA rfl rfl rfl) rfl rfl hl.1 rfl (lv_room (Nat.le_of_ble_eq_true rfl)) dL_law_351 ⟨by show _ ≤ 601024; omega, by show _ ≤ 7293034; omega⟩) hP hD hS hA (fun _ H locs hq hP hD hS => ?_)
            have hP : va_P D vwCl ((kw_X ct aX MX PX C V ++ kw_O ct qo o) ++ kw_M ct aM (nI 1) M Pl L1 C1 V1 kk_rc) H := kr_swap hP
            have hD : va_D A ((kw_X ct aX MX PX C V ++ kw_O ct qo o) ++ kw_M ct aM (nI 1) M Pl L1 C1 V1 kk_rc) := kr_swapD hD
            refine lv_aload_n hx hb dL_law_354 rfl (lv_at hl 4 rfl) ?_
            have hP : va_P D vwCl (kw_M ct aM (nI 1) M Pl L1 C1 V1 kk_rc ++ (kw_X ct aX MX PX C V ++ kw_O ct qo o)) H := kr_swap hP
            have hD : va_D A (kw_M ct aM (nI 1) M Pl L1 C1 V1 kk_rc ++ (kw_X ct aX MX PX C V ++ kw_O ct qo o)) := kr_swapD hD
            refine kr_fi (wx := kw_M ct aM (nI 1) M Pl L1 C1 V1 kk_rc) (wr := kw_X ct aX MX PX C V ++ kw_O ct qo o) (va_runV (As := []) (rest := []) ⟨hx, hb, hml, hown, hts⟩ (km_thrown l D ct aM (nI 1) M Pl L1 C1 V1 kk_rc _) (cwV 0 hts gl_thrown rfl rfl rfl (by decide +kernel) ⟨Nat.le_of_ble_eq_true rfl, Nat.le_of_ble_eq_true rfl⟩) (kr_preV kw_Nok (q := (RX1, TX1, 7)) (q0 := 0) (ci := 1) _ (kr_left hP) hK (kr_leftD hD) trivial hS hA rfl rfl rfl) rfl rfl hl.1 rfl (lv_room (Nat.le_of_ble_eq_true rfl)) dL_law_355 ⟨by show _ ≤ 601024; omega, by show _ ≤ 7293034; omega⟩) hP hD hS hA (fun r _ H locs hq hP hD hS => ?_)
            obtain rfl : r = nI 1 := hq
            have hP : va_P D vwCl ((kw_X ct aX MX PX C V ++ kw_O ct qo o) ++ kw_M ct aM (nI 1) M Pl L1 C1 V1 kk_rc) H := kr_swap hP
            have hD : va_D A ((kw_X ct aX MX PX C V ++ kw_O ct qo o) ++ kw_M ct aM (nI 1) M Pl L1 C1 V1 kk_rc) := kr_swapD hD
            refine lv_iload hx hb dL_law_358 (lv_at hl 0 rfl) ?_
            refine kr_icmp_eq (tgt := 365) hx hb (by omega) (by omega) dL_law_360 rfl (fun hc => ?_) (fun hc => ?_)
            · clear hc
              refine lv_goto (tgt := 538) hx hb dL_law_365 rfl ?_
              refine lv_iinc (k := 1) (v := nI ((5 * t) + 5)) hx hb dL_law_538 hl rfl (nI_add (5 * t) 5) (Nat.le_of_ble_eq_true rfl) rfl (fun ls hl => ?_)
              have hl : lv_has ls 8 [(4, .int (nI ((5 * t) + 5))), (5, .int (nI 1)), (0, .ref b), (1, .ref (aX 0)), (2, .ref (aM 0)), (3, .ref qo)] := hl
              refine lv_goto (tgt := 23) hx hb dL_law_541 rfl ?_
              refine W.widen (k := 30 + (t + 1)) (n := 580 + 6 * (t + 1)) (by omega) (by omega) ?_
              exact ih (t + 1) MX M PX Pl C V o (nI 1) L1 C1 V1 H locs ls (by omega) (by omega) hM hPx hPl (lv_sub hl [0, 2, 3, 4, 5] rfl) hP hD hS
            · exact absurd rfl hc
        · refine lv_tableIn (tgt := 368) hx hb dL_law_39 (by decide +kernel) (by decide +kernel) rfl rfl ?_
          rcases kl_rng (xs (5 * t + 1)) 7 (by omega) with ⟨k, hk, ek⟩ | hbad
          · have hk8 : k < 8 := by omega
            have hMk := hM k hk8
            refine lv_aload_n hx hb dL_law_368 rfl (lv_at hl 2 rfl) ?_
            refine lv_aload_n hx hb dL_law_369 rfl (lv_at hl 1 rfl) ?_
            refine lv_iload hx hb dL_law_370 (lv_at hl 0 rfl) ?_
            refine lv_iconst (v := nI 1) hx hb dL_law_372 rfl ?_
            refine kr_iadd hx hb dL_law_373 ?_
            refine va_sld hx hb hX hbl hbA hS (vp_in_nI (n := (5 * t) + 1) (by omega) (by omega)) dL_law_374 ?_
            rw [nI_clamp (n := (5 * t) + 1) (by omega)]
            rw [ek]
            refine kr_fi (wx := kw_X ct aX MX PX C V ++ kw_O ct qo o) (wr := kw_M ct aM F M Pl L1 C1 V1 kk_rc) (vx_runSW (As := [.ref (aX 0), .int (nI k)]) (rest := []) ⟨hx, hb, hml, hown, htsL⟩ (kl_mix l D ct aX tb qo MX PX C V o _ hk8) (vx_cwSW 2 htsL gL_law_L_mix rfl rfl rfl (by decide +kernel) ⟨Nat.le_of_ble_eq_true rfl, Nat.le_of_ble_eq_true rfl⟩) (kr_preS (kw_Bok tb) _ (kr_left hP) hK (kr_leftD hD) hB hS hA) rfl rfl hl.1 rfl (lv_room (Nat.le_of_ble_eq_true rfl)) dL_law_375 ⟨by show _ ≤ 601024; omega, by show _ ≤ 7293034; omega⟩) hP hD hS hA (fun r u H locs hq hP hD hS => ?_)
            obtain rfl : r = nI 0 := hq
            have hP : va_P D vwCl ((kw_X ct aX (va_up MX k (kk_mix (MX k))) PX u.1 u.2 ++ kw_O ct qo o) ++ kw_M ct aM F M Pl L1 C1 V1 kk_rc) H := hP
            have hD : va_D A ((kw_X ct aX (va_up MX k (kk_mix (MX k))) PX u.1 u.2 ++ kw_O ct qo o) ++ kw_M ct aM F M Pl L1 C1 V1 kk_rc) := hD
            rw [hMk] at hP hD
            have hP : va_P D vwCl ((kw_X ct aX (va_up MX k (kk_mix (M k))) PX u.1 u.2 ++ kw_O ct qo o) ++ kw_M ct aM F M Pl L1 C1 V1 kk_rc) H := hP
            have hD : va_D A ((kw_X ct aX (va_up MX k (kk_mix (M k))) PX u.1 u.2 ++ kw_O ct qo o) ++ kw_M ct aM F M Pl L1 C1 V1 kk_rc) := hD
            refine lv_istore hx hb dL_law_378 hl (Nat.le_of_ble_eq_true rfl) rfl (fun ls hl => ?_)
            have hl : lv_has ls 8 [(5, .int (nI 0)), (4, .int (nI (5 * t))), (0, .ref b), (1, .ref (aX 0)), (2, .ref (aM 0)), (3, .ref qo)] := hl
            refine lv_aload_n hx hb dL_law_380 rfl (lv_at hl 4 rfl) ?_
            refine lv_aload_n hx hb dL_law_381 rfl (lv_at hl 2 rfl) ?_
            refine lv_iload hx hb dL_law_382 (lv_at hl 1 rfl) ?_
            refine lv_iconst (v := nI 1) hx hb dL_law_384 rfl ?_
            refine kr_iadd hx hb dL_law_385 ?_
            refine va_sld hx hb hX hbl hbA hS (vp_in_nI (n := (5 * t) + 1) (by omega) (by omega)) dL_law_386 ?_
            rw [nI_clamp (n := (5 * t) + 1) (by omega)]
            rw [ek]
            have hP : va_P D vwCl (kw_M ct aM F M Pl L1 C1 V1 kk_rc ++ (kw_X ct aX (va_up MX k (kk_mix (M k))) PX u.1 u.2 ++ kw_O ct qo o)) H := kr_swap hP
            have hD : va_D A (kw_M ct aM F M Pl L1 C1 V1 kk_rc ++ (kw_X ct aX (va_up MX k (kk_mix (M k))) PX u.1 u.2 ++ kw_O ct qo o)) := kr_swapD hD
            refine kr_fv (wx := kw_M ct aM F M Pl L1 C1 V1 kk_rc) (wr := kw_X ct aX (va_up MX k (kk_mix (M k))) PX u.1 u.2 ++ kw_O ct qo o) (va_runV (As := [.int (nI k)]) (rest := []) ⟨hx, hb, hml, hown, hts⟩ (km_mix l D ct aM F M Pl L1 C1 V1 kk_rc _ hk8) (cwV 1 hts gl_mix rfl rfl rfl (by decide +kernel) ⟨Nat.le_of_ble_eq_true rfl, Nat.le_of_ble_eq_true rfl⟩) (kr_preV kw_Nok (q := (RX1, TX1, 7)) (q0 := 0) (ci := 1) _ (kr_left hP) hK (kr_leftD hD) trivial hS hA rfl rfl rfl) rfl rfl hl.1 rfl (lv_room (Nat.le_of_ble_eq_true rfl)) dL_law_387 ⟨by show _ ≤ 601024; omega, by show _ ≤ 7293034; omega⟩) hP hD hS hA (fun u2 H locs hq hP hD hS => ?_)
            have hP : va_P D vwCl ((kw_X ct aX (va_up MX k (kk_mix (M k))) PX u.1 u.2 ++ kw_O ct qo o) ++ kw_M ct aM (nI 0) (va_up M k (kk_mix (M k))) Pl (kk_mix (M k)) u2.1 u2.2 kk_rc) H := kr_swap hP
            have hD : va_D A ((kw_X ct aX (va_up MX k (kk_mix (M k))) PX u.1 u.2 ++ kw_O ct qo o) ++ kw_M ct aM (nI 0) (va_up M k (kk_mix (M k))) Pl (kk_mix (M k)) u2.1 u2.2 kk_rc) := kr_swapD hD
            refine lv_aload_n hx hb dL_law_390 rfl (lv_at hl 4 rfl) ?_
            have hP : va_P D vwCl (kw_M ct aM (nI 0) (va_up M k (kk_mix (M k))) Pl (kk_mix (M k)) u2.1 u2.2 kk_rc ++ (kw_X ct aX (va_up MX k (kk_mix (M k))) PX u.1 u.2 ++ kw_O ct qo o)) H := kr_swap hP
            have hD : va_D A (kw_M ct aM (nI 0) (va_up M k (kk_mix (M k))) Pl (kk_mix (M k)) u2.1 u2.2 kk_rc ++ (kw_X ct aX (va_up MX k (kk_mix (M k))) PX u.1 u.2 ++ kw_O ct qo o)) := kr_swapD hD
            refine kr_fi (wx := kw_M ct aM (nI 0) (va_up M k (kk_mix (M k))) Pl (kk_mix (M k)) u2.1 u2.2 kk_rc) (wr := kw_X ct aX (va_up MX k (kk_mix (M k))) PX u.1 u.2 ++ kw_O ct qo o) (va_runV (As := []) (rest := []) ⟨hx, hb, hml, hown, hts⟩ (km_thrown l D ct aM (nI 0) (va_up M k (kk_mix (M k))) Pl (kk_mix (M k)) u2.1 u2.2 kk_rc _) (cwV 0 hts gl_thrown rfl rfl rfl (by decide +kernel) ⟨Nat.le_of_ble_eq_true rfl, Nat.le_of_ble_eq_true rfl⟩) (kr_preV kw_Nok (q := (RX1, TX1, 7)) (q0 := 0) (ci := 1) _ (kr_left hP) hK (kr_leftD hD) trivial hS hA rfl rfl rfl) rfl rfl hl.1 rfl (lv_room (Nat.le_of_ble_eq_true rfl)) dL_law_391 ⟨by show _ ≤ 601024; omega, by show _ ≤ 7293034; omega⟩) hP hD hS hA (fun r _ H locs hq hP hD hS => ?_)
            obtain rfl : r = nI 0 := hq
            have hP : va_P D vwCl ((kw_X ct aX (va_up MX k (kk_mix (M k))) PX u.1 u.2 ++ kw_O ct qo o) ++ kw_M ct aM (nI 0) (va_up M k (kk_mix (M k))) Pl (kk_mix (M k)) u2.1 u2.2 kk_rc) H := kr_swap hP
            have hD : va_D A ((kw_X ct aX (va_up MX k (kk_mix (M k))) PX u.1 u.2 ++ kw_O ct qo o) ++ kw_M ct aM (nI 0) (va_up M k (kk_mix (M k))) Pl (kk_mix (M k)) u2.1 u2.2 kk_rc) := kr_swapD hD
            refine lv_iload hx hb dL_law_394 (lv_at hl 0 rfl) ?_
            refine kr_icmp_eq (tgt := 401) hx hb (by omega) (by omega) dL_law_396 rfl (fun hc => ?_) (fun hc => ?_)
            · clear hc
              refine lv_goto (tgt := 538) hx hb dL_law_401 rfl ?_
              refine lv_iinc (k := 1) (v := nI ((5 * t) + 5)) hx hb dL_law_538 hl rfl (nI_add (5 * t) 5) (Nat.le_of_ble_eq_true rfl) rfl (fun ls hl => ?_)
              have hl : lv_has ls 8 [(4, .int (nI ((5 * t) + 5))), (5, .int (nI 0)), (0, .ref b), (1, .ref (aX 0)), (2, .ref (aM 0)), (3, .ref qo)] := hl
              refine lv_goto (tgt := 23) hx hb dL_law_541 rfl ?_
              refine W.widen (k := 30 + (t + 1)) (n := 580 + 6 * (t + 1)) (by omega) (by omega) ?_
              exact ih (t + 1) (va_up MX k (kk_mix (M k))) (va_up M k (kk_mix (M k))) PX Pl u.1 u.2 o (nI 0) (kk_mix (M k)) u2.1 u2.2 H locs ls (by omega) (by omega) (kl_up hM k _) hPx hPl (lv_sub hl [0, 2, 3, 4, 5] rfl) hP hD hS
            · exact absurd rfl hc
          · clear hcells
            refine lv_aload_n hx hb dL_law_368 rfl (lv_at hl 2 rfl) ?_
            refine lv_aload_n hx hb dL_law_369 rfl (lv_at hl 1 rfl) ?_
            refine lv_iload hx hb dL_law_370 (lv_at hl 0 rfl) ?_
            refine lv_iconst (v := nI 1) hx hb dL_law_372 rfl ?_
            refine kr_iadd hx hb dL_law_373 ?_
            refine va_sld hx hb hX hbl hbA hS (vp_in_nI (n := (5 * t) + 1) (by omega) (by omega)) dL_law_374 ?_
            rw [nI_clamp (n := (5 * t) + 1) (by omega)]
            refine kr_fi (wx := kw_X ct aX MX PX C V ++ kw_O ct qo o) (wr := kw_M ct aM F M Pl L1 C1 V1 kk_rc) (vx_runSW (As := [.ref (aX 0), .int (xs ((5 * t) + 1))]) (rest := []) ⟨hx, hb, hml, hown, htsL⟩ (kl_mix1 l D ct aX tb qo MX PX C V o hl0 _ (xs (5 * t + 1)) hbad) (vx_cwSW 2 htsL gL_law_L_mix rfl rfl rfl (by decide +kernel) ⟨Nat.le_of_ble_eq_true rfl, Nat.le_of_ble_eq_true rfl⟩) (kr_preS (kw_Bok tb) _ (kr_left hP) hK (kr_leftD hD) hB hS hA) rfl rfl hl.1 rfl (lv_room (Nat.le_of_ble_eq_true rfl)) dL_law_375 ⟨by show _ ≤ 601024; omega, by show _ ≤ 7293034; omega⟩) hP hD hS hA (fun r _ H locs hq hP hD hS => ?_)
            obtain rfl : r = nI 1 := hq
            have hP : va_P D vwCl ((kw_X ct aX MX PX C V ++ kw_O ct qo o) ++ kw_M ct aM F M Pl L1 C1 V1 kk_rc) H := hP
            have hD : va_D A ((kw_X ct aX MX PX C V ++ kw_O ct qo o) ++ kw_M ct aM F M Pl L1 C1 V1 kk_rc) := hD
            refine lv_istore hx hb dL_law_378 hl (Nat.le_of_ble_eq_true rfl) rfl (fun ls hl => ?_)
            have hl : lv_has ls 8 [(5, .int (nI 1)), (4, .int (nI (5 * t))), (0, .ref b), (1, .ref (aX 0)), (2, .ref (aM 0)), (3, .ref qo)] := hl
            refine lv_aload_n hx hb dL_law_380 rfl (lv_at hl 4 rfl) ?_
            refine lv_aload_n hx hb dL_law_381 rfl (lv_at hl 2 rfl) ?_
            refine lv_iload hx hb dL_law_382 (lv_at hl 1 rfl) ?_
            refine lv_iconst (v := nI 1) hx hb dL_law_384 rfl ?_
            refine kr_iadd hx hb dL_law_385 ?_
            refine va_sld hx hb hX hbl hbA hS (vp_in_nI (n := (5 * t) + 1) (by omega) (by omega)) dL_law_386 ?_
            rw [nI_clamp (n := (5 * t) + 1) (by omega)]
            have hP : va_P D vwCl (kw_M ct aM F M Pl L1 C1 V1 kk_rc ++ (kw_X ct aX MX PX C V ++ kw_O ct qo o)) H := kr_swap hP
            have hD : va_D A (kw_M ct aM F M Pl L1 C1 V1 kk_rc ++ (kw_X ct aX MX PX C V ++ kw_O ct qo o)) := kr_swapD hD
            refine kr_fv (wx := kw_M ct aM F M Pl L1 C1 V1 kk_rc) (wr := kw_X ct aX MX PX C V ++ kw_O ct qo o) (va_runV (As := [.int (xs ((5 * t) + 1))]) (rest := []) ⟨hx, hb, hml, hown, hts⟩ (kn_mix1 l D ct aM F M Pl L1 C1 V1 kk_rc _ (xs (5 * t + 1)) hbad) (cwV 1 hts gl_mix rfl rfl rfl (by decide +kernel) ⟨Nat.le_of_ble_eq_true rfl, Nat.le_of_ble_eq_true rfl⟩) (kr_preV kw_Nok (q := (RX1, TX1, 7)) (q0 := 0) (ci := 1) _ (kr_left hP) hK (kr_leftD hD) trivial hS hA rfl rfl rfl) rfl rfl hl.1 rfl (lv_room (Nat.le_of_ble_eq_true rfl)) dL_law_387 ⟨by show _ ≤ 601024; omega, by show _ ≤ 7293034; omega⟩) hP hD hS hA (fun _ H locs hq hP hD hS => ?_)
            have hP : va_P D vwCl ((kw_X ct aX MX PX C V ++ kw_O ct qo o) ++ kw_M ct aM (nI 1) M Pl L1 C1 V1 kk_rc) H := kr_swap hP
            have hD : va_D A ((kw_X ct aX MX PX C V ++ kw_O ct qo o) ++ kw_M ct aM (nI 1) M Pl L1 C1 V1 kk_rc) := kr_swapD hD
            refine lv_aload_n hx hb dL_law_390 rfl (lv_at hl 4 rfl) ?_
            have hP : va_P D vwCl (kw_M ct aM (nI 1) M Pl L1 C1 V1 kk_rc ++ (kw_X ct aX MX PX C V ++ kw_O ct qo o)) H := kr_swap hP
            have hD : va_D A (kw_M ct aM (nI 1) M Pl L1 C1 V1 kk_rc ++ (kw_X ct aX MX PX C V ++ kw_O ct qo o)) := kr_swapD hD
            refine kr_fi (wx := kw_M ct aM (nI 1) M Pl L1 C1 V1 kk_rc) (wr := kw_X ct aX MX PX C V ++ kw_O ct qo o) (va_runV (As := []) (rest := []) ⟨hx, hb, hml, hown, hts⟩ (km_thrown l D ct aM (nI 1) M Pl L1 C1 V1 kk_rc _) (cwV 0 hts gl_thrown rfl rfl rfl (by decide +kernel) ⟨Nat.le_of_ble_eq_true rfl, Nat.le_of_ble_eq_true rfl⟩) (kr_preV kw_Nok (q := (RX1, TX1, 7)) (q0 := 0) (ci := 1) _ (kr_left hP) hK (kr_leftD hD) trivial hS hA rfl rfl rfl) rfl rfl hl.1 rfl (lv_room (Nat.le_of_ble_eq_true rfl)) dL_law_391 ⟨by show _ ≤ 601024; omega, by show _ ≤ 7293034; omega⟩) hP hD hS hA (fun r _ H locs hq hP hD hS => ?_)
            obtain rfl : r = nI 1 := hq
            have hP : va_P D vwCl ((kw_X ct aX MX PX C V ++ kw_O ct qo o) ++ kw_M ct aM (nI 1) M Pl L1 C1 V1 kk_rc) H := kr_swap hP
            have hD : va_D A ((kw_X ct aX MX PX C V ++ kw_O ct qo o) ++ kw_M ct aM (nI 1) M Pl L1 C1 V1 kk_rc) := kr_swapD hD
            refine lv_iload hx hb dL_law_394 (lv_at hl 0 rfl) ?_
            refine kr_icmp_eq (tgt := 401) hx hb (by omega) (by omega) dL_law_396 rfl (fun hc => ?_) (fun hc => ?_)
            · clear hc
              refine lv_goto (tgt := 538) hx hb dL_law_401 rfl ?_
              refine lv_iinc (k := 1) (v := nI ((5 * t) + 5)) hx hb dL_law_538 hl rfl (nI_add (5 * t) 5) (Nat.le_of_ble_eq_true rfl) rfl (fun ls hl => ?_)
              have hl : lv_has ls 8 [(4, .int (nI ((5 * t) + 5))), (5, .int (nI 1)), (0, .ref b), (1, .ref (aX 0)), (2, .ref (aM 0)), (3, .ref qo)] := hl
              refine lv_goto (tgt := 23) hx hb dL_law_541 rfl ?_
              refine W.widen (k := 30 + (t + 1)) (n := 580 + 6 * (t + 1)) (by omega) (by omega) ?_
              exact ih (t + 1) MX M PX Pl C V o (nI 1) L1 C1 V1 H locs ls (by omega) (by omega) hM hPx hPl (lv_sub hl [0, 2, 3, 4, 5] rfl) hP hD hS
            · exact absurd rfl hc
        · refine lv_tableIn (tgt := 404) hx hb dL_law_39 (by decide +kernel) (by decide +kernel) rfl rfl ?_
          rcases kl_rng (xs (5 * t + 1)) 7 (by omega) with ⟨k, hk, ek⟩ | hbad
          · have hk8 : k < 8 := by omega
            rcases kl_rng (xs (5 * t + 2)) 24 (by omega) with ⟨n, hn, en⟩ | hbad
            · have hn9 : n < 25 := by omega
              have hMk := hM k hk8
              have hPk := hPx k hk8
              refine lv_aload_n hx hb dL_law_404 rfl (lv_at hl 2 rfl) ?_
              refine lv_aload_n hx hb dL_law_405 rfl (lv_at hl 1 rfl) ?_
              refine lv_iload hx hb dL_law_406 (lv_at hl 0 rfl) ?_
              refine lv_iconst (v := nI 1) hx hb dL_law_408 rfl ?_
              refine kr_iadd hx hb dL_law_409 ?_
              refine va_sld hx hb hX hbl hbA hS (vp_in_nI (n := (5 * t) + 1) (by omega) (by omega)) dL_law_410 ?_
              rw [nI_clamp (n := (5 * t) + 1) (by omega)]
              rw [ek]
              refine lv_aload_n hx hb dL_law_411 rfl (lv_at hl 1 rfl) ?_
              refine lv_iload hx hb dL_law_412 (lv_at hl 0 rfl) ?_
              refine lv_iconst (v := nI 2) hx hb dL_law_414 rfl ?_
              refine kr_iadd hx hb dL_law_415 ?_
              refine va_sld hx hb hX hbl hbA hS (vp_in_nI (n := (5 * t) + 2) (by omega) (by omega)) dL_law_416 ?_
              rw [nI_clamp (n := (5 * t) + 2) (by omega)]
              rw [en]
              refine lv_aload_n hx hb dL_law_417 rfl (lv_at hl 4 rfl) ?_
              refine kr_fi (wx := kw_X ct aX MX PX C V ++ kw_O ct qo o) (wr := kw_M ct aM F M Pl L1 C1 V1 kk_rc) (vx_runSW (As := [.ref (aX 0), .int (nI k), .int (nI n), .ref qo]) (rest := []) ⟨hx, hb, hml, hown, htsL⟩ (kl_lane l D ct aX tb qo MX PX C V o _ hk8 hn9) (vx_cwSW 4 htsL gL_law_L_lane rfl rfl rfl (by decide +kernel) ⟨Nat.le_of_ble_eq_true rfl, Nat.le_of_ble_eq_true rfl⟩) (kr_preS (kw_Bok tb) _ (kr_left hP) hK (kr_leftD hD) hB hS hA) rfl rfl hl.1 rfl (lv_room (Nat.le_of_ble_eq_true rfl)) dL_law_418 ⟨by show _ ≤ 601024; omega, by show _ ≤ 7293034; omega⟩) hP hD hS hA (fun r _ H locs hq hP hD hS => ?_)
              obtain rfl : r = nI 0 := hq
              have hP : va_P D vwCl ((kw_X ct aX MX PX C V ++ kw_O ct qo (vp_updL o 0 (MX k n))) ++ kw_M ct aM F M Pl L1 C1 V1 kk_rc) H := hP
              have hD : va_D A ((kw_X ct aX MX PX C V ++ kw_O ct qo (vp_updL o 0 (MX k n))) ++ kw_M ct aM F M Pl L1 C1 V1 kk_rc) := hD
              rw [hMk] at hP hD
              have hP : va_P D vwCl ((kw_X ct aX MX PX C V ++ kw_O ct qo (vp_updL o 0 (M k n))) ++ kw_M ct aM F M Pl L1 C1 V1 kk_rc) H := hP
              have hD : va_D A ((kw_X ct aX MX PX C V ++ kw_O ct qo (vp_updL o 0 (M k n))) ++ kw_M ct aM F M Pl L1 C1 V1 kk_rc) := hD
              refine lv_istore hx hb dL_law_421 hl (Nat.le_of_ble_eq_true rfl) rfl (fun ls hl => ?_)
              have hl : lv_has ls 8 [(5, .int (nI 0)), (4, .int (nI (5 * t))), (0, .ref b), (1, .ref (aX 0)), (2, .ref (aM 0)), (3, .ref qo)] := hl
              refine lv_aload_n hx hb dL_law_423 rfl (lv_at hl 4 rfl) ?_
              refine lv_aload_n hx hb dL_law_424 rfl (lv_at hl 2 rfl) ?_
              refine lv_iload hx hb dL_law_425 (lv_at hl 1 rfl) ?_
              refine lv_iconst (v := nI 1) hx hb dL_law_427 rfl ?_
              refine kr_iadd hx hb dL_law_428 ?_
              refine va_sld hx hb hX hbl hbA hS (vp_in_nI (n := (5 * t) + 1) (by omega) (by omega)) dL_law_429 ?_
              rw [nI_clamp (n := (5 * t) + 1) (by omega)]
              rw [ek]
              refine lv_aload_n hx hb dL_law_430 rfl (lv_at hl 2 rfl) ?_
              refine lv_iload hx hb dL_law_431 (lv_at hl 1 rfl) ?_
              refine lv_iconst (v := nI 2) hx hb dL_law_433 rfl ?_
              refine kr_iadd hx hb dL_law_434 ?_
              refine va_sld hx hb hX hbl hbA hS (vp_in_nI (n := (5 * t) + 2) (by omega) (by omega)) dL_law_435 ?_
              rw [nI_clamp (n := (5 * t) + 2) (by omega)]
              rw [en]
              have hP : va_P D vwCl (kw_M ct aM F M Pl L1 C1 V1 kk_rc ++ (kw_X ct aX MX PX C V ++ kw_O ct qo (vp_updL o 0 (M k n)))) H := kr_swap hP
              have hD : va_D A (kw_M ct aM F M Pl L1 C1 V1 kk_rc ++ (kw_X ct aX MX PX C V ++ kw_O ct qo (vp_updL o 0 (M k n)))) := kr_swapD hD
              refine kr_fl (wx := kw_M ct aM F M Pl L1 C1 V1 kk_rc) (wr := kw_X ct aX MX PX C V ++ kw_O ct qo (vp_updL o 0 (M k n))) (va_runV (As := [.int (nI k), .int (nI n)]) (rest := []) ⟨hx, hb, hml, hown, hts⟩ (km_lane l D ct aM F M Pl L1 C1 V1 kk_rc _ hk8 hn9) (cwV 2 hts gl_lane rfl rfl rfl (by decide +kernel) ⟨Nat.le_of_ble_eq_true rfl, Nat.le_of_ble_eq_true rfl⟩) (kr_preV kw_Nok (q := (RX1, TX1, 7)) (q0 := 0) (ci := 1) _ (kr_left hP) hK (kr_leftD hD) trivial hS hA rfl rfl rfl) rfl rfl hl.1 rfl (lv_room (Nat.le_of_ble_eq_true rfl)) dL_law_436 ⟨by show _ ≤ 601024; omega, by show _ ≤ 7293034; omega⟩) hP hD hS hA (fun r _ H locs hq hP hD hS => ?_)
              obtain rfl : r = M k n := hq
              have hP : va_P D vwCl ((kw_X ct aX MX PX C V ++ kw_O ct qo (vp_updL o 0 (M k n))) ++ kw_M ct aM (nI 0) M Pl L1 C1 V1 kk_rc) H := kr_swap hP
              have hD : va_D A ((kw_X ct aX MX PX C V ++ kw_O ct qo (vp_updL o 0 (M k n))) ++ kw_M ct aM (nI 0) M Pl L1 C1 V1 kk_rc) := kr_swapD hD
              refine lv_lstore hx hb dL_law_439 hl (Nat.le_of_ble_eq_true rfl) rfl (fun ls hl => ?_)
              have hl : lv_has ls 8 [(6, .long (M k n)), (5, .int (nI 0)), (4, .int (nI (5 * t))), (0, .ref b), (1, .ref (aX 0)), (2, .ref (aM 0)), (3, .ref qo)] := hl
              refine lv_aload_n hx hb dL_law_441 rfl (lv_at hl 5 rfl) ?_
              have hP : va_P D vwCl (kw_M ct aM (nI 0) M Pl L1 C1 V1 kk_rc ++ (kw_X ct aX MX PX C V ++ kw_O ct qo (vp_updL o 0 (M k n)))) H := kr_swap hP
              have hD : va_D A (kw_M ct aM (nI 0) M Pl L1 C1 V1 kk_rc ++ (kw_X ct aX MX PX C V ++ kw_O ct qo (vp_updL o 0 (M k n)))) := kr_swapD hD
              refine kr_fi (wx := kw_M ct aM (nI 0) M Pl L1 C1 V1 kk_rc) (wr := kw_X ct aX MX PX C V ++ kw_O ct qo (vp_updL o 0 (M k n))) (va_runV (As := []) (rest := []) ⟨hx, hb, hml, hown, hts⟩ (km_thrown l D ct aM (nI 0) M Pl L1 C1 V1 kk_rc _) (cwV 0 hts gl_thrown rfl rfl rfl (by decide +kernel) ⟨Nat.le_of_ble_eq_true rfl, Nat.le_of_ble_eq_true rfl⟩) (kr_preV kw_Nok (q := (RX1, TX1, 7)) (q0 := 0) (ci := 1) _ (kr_left hP) hK (kr_leftD hD) trivial hS hA rfl rfl rfl) rfl rfl hl.1 rfl (lv_room (Nat.le_of_ble_eq_true rfl)) dL_law_442 ⟨by show _ ≤ 601024; omega, by show _ ≤ 7293034; omega⟩) hP hD hS hA (fun r _ H locs hq hP hD hS => ?_)
              obtain rfl : r = nI 0 := hq
              have hP : va_P D vwCl ((kw_X ct aX MX PX C V ++ kw_O ct qo (vp_updL o 0 (M k n))) ++ kw_M ct aM (nI 0) M Pl L1 C1 V1 kk_rc) H := kr_swap hP
              have hD : va_D A ((kw_X ct aX MX PX C V ++ kw_O ct qo (vp_updL o 0 (M k n))) ++ kw_M ct aM (nI 0) M Pl L1 C1 V1 kk_rc) := kr_swapD hD
              refine lv_iload hx hb dL_law_445 (lv_at hl 1 rfl) ?_
              refine kr_icmp_eq (tgt := 452) hx hb (by omega) (by omega) dL_law_447 rfl (fun hc => ?_) (fun hc => ?_)
              · clear hc
                refine lv_iload hx hb dL_law_452 (lv_at hl 1 rfl) ?_
                refine lv_if_ne (tgt := 468) hx hb dL_law_454 rfl (fun hc => ?_) (fun hc => ?_)
                · exact absurd rfl hc
                · clear hc
                  refine lv_aload_n hx hb dL_law_457 rfl (lv_at hl 6 rfl) ?_
                  refine lv_iconst (v := nI 0) hx hb dL_law_458 rfl ?_
                  refine kr_lald hx hb hK hP 14 2 rfl rfl (n := 0) (by omega) (by omega) dL_law_459 ?_
                  rw [pk_uLs]
                  refine lv_lload hx hb dL_law_460 (lv_at hl 0 rfl) ?_
                  refine W.lcmp hx hb dL_law_462 ?_
                  rw [kl_cmp]
                  refine lv_if_eq (tgt := 468) hx hb dL_law_463 rfl (fun hc => ?_) (fun hc => ?_)
                  · clear hc
                    refine lv_goto (tgt := 538) hx hb dL_law_468 rfl ?_
                    refine lv_iinc (k := 2) (v := nI ((5 * t) + 5)) hx hb dL_law_538 hl rfl (nI_add (5 * t) 5) (Nat.le_of_ble_eq_true rfl) rfl (fun ls hl => ?_)
                    have hl : lv_has ls 8 [(4, .int (nI ((5 * t) + 5))), (6, .long (M k n)), (5, .int (nI 0)), (0, .ref b), (1, .ref (aX 0)), (2, .ref (aM 0)), (3, .ref qo)] := hl
                    refine lv_goto (tgt := 23) hx hb dL_law_541 rfl ?_
                    refine W.widen (k := 30 + (t + 1)) (n := 580 + 6 * (t + 1)) (by omega) (by omega) ?_
                    exact ih (t + 1) MX M PX Pl C V _ (nI 0) L1 C1 V1 H locs ls (by omega) (by omega) hM hPx hPl (lv_sub hl [0, 3, 4, 5, 6] rfl) hP hD hS
                  · exact absurd rfl hc
              · exact absurd rfl hc
            · clear hcells
              refine lv_aload_n hx hb dL_law_404 rfl (lv_at hl 2 rfl) ?_
              refine lv_aload_n hx hb dL_law_405 rfl (lv_at hl 1 rfl) ?_
              refine lv_iload hx hb dL_law_406 (lv_at hl 0 rfl) ?_
              refine lv_iconst (v := nI 1) hx hb dL_law_408 rfl ?_
              refine kr_iadd hx hb dL_law_409 ?_
              refine va_sld hx hb hX hbl hbA hS (vp_in_nI (n := (5 * t) + 1) (by omega) (by omega)) dL_law_410 ?_
              rw [nI_clamp (n := (5 * t) + 1) (by omega)]
              rw [ek]
              refine lv_aload_n hx hb dL_law_411 rfl (lv_at hl 1 rfl) ?_
              refine lv_iload hx hb dL_law_412 (lv_at hl 0 rfl) ?_
              refine lv_iconst (v := nI 2) hx hb dL_law_414 rfl ?_
              refine kr_iadd hx hb dL_law_415 ?_
              refine va_sld hx hb hX hbl hbA hS (vp_in_nI (n := (5 * t) + 2) (by omega) (by omega)) dL_law_416 ?_
              rw [nI_clamp (n := (5 * t) + 2) (by omega)]
              refine lv_aload_n hx hb dL_law_417 rfl (lv_at hl 4 rfl) ?_
              refine kr_fi (wx := kw_X ct aX MX PX C V ++ kw_O ct qo o) (wr := kw_M ct aM F M Pl L1 C1 V1 kk_rc) (vx_runSW (As := [.ref (aX 0), .int (nI k), .int (xs ((5 * t) + 2)), .ref qo]) (rest := []) ⟨hx, hb, hml, hown, htsL⟩ (kl_lane2 l D ct aX tb qo MX PX C V o hl0 _ hk8 (xs (5 * t + 2)) hbad) (vx_cwSW 4 htsL gL_law_L_lane rfl rfl rfl (by decide +kernel) ⟨Nat.le_of_ble_eq_true rfl, Nat.le_of_ble_eq_true rfl⟩) (kr_preS (kw_Bok tb) _ (kr_left hP) hK (kr_leftD hD) hB hS hA) rfl rfl hl.1 rfl (lv_room (Nat.le_of_ble_eq_true rfl)) dL_law_418 ⟨by show _ ≤ 601024; omega, by show _ ≤ 7293034; omega⟩) hP hD hS hA (fun r _ H locs hq hP hD hS => ?_)
              obtain rfl : r = nI 1 := hq
              have hP : va_P D vwCl ((kw_X ct aX MX PX C V ++ kw_O ct qo o) ++ kw_M ct aM F M Pl L1 C1 V1 kk_rc) H := hP
              have hD : va_D A ((kw_X ct aX MX PX C V ++ kw_O ct qo o) ++ kw_M ct aM F M Pl L1 C1 V1 kk_rc) := hD
              refine lv_istore hx hb dL_law_421 hl (Nat.le_of_ble_eq_true rfl) rfl (fun ls hl => ?_)
              have hl : lv_has ls 8 [(5, .int (nI 1)), (4, .int (nI (5 * t))), (0, .ref b), (1, .ref (aX 0)), (2, .ref (aM 0)), (3, .ref qo)] := hl
              refine lv_aload_n hx hb dL_law_423 rfl (lv_at hl 4 rfl) ?_
              refine lv_aload_n hx hb dL_law_424 rfl (lv_at hl 2 rfl) ?_
              refine lv_iload hx hb dL_law_425 (lv_at hl 1 rfl) ?_
              refine lv_iconst (v := nI 1) hx hb dL_law_427 rfl ?_
              refine kr_iadd hx hb dL_law_428 ?_
              refine va_sld hx hb hX hbl hbA hS (vp_in_nI (n := (5 * t) + 1) (by omega) (by omega)) dL_law_429 ?_
              rw [nI_clamp (n := (5 * t) + 1) (by omega)]
              rw [ek]
              refine lv_aload_n hx hb dL_law_430 rfl (lv_at hl 2 rfl) ?_
              refine lv_iload hx hb dL_law_431 (lv_at hl 1 rfl) ?_
              refine lv_iconst (v := nI 2) hx hb dL_law_433 rfl ?_
              refine kr_iadd hx hb dL_law_434 ?_
              refine va_sld hx hb hX hbl hbA hS (vp_in_nI (n := (5 * t) + 2) (by omega) (by omega)) dL_law_435 ?_
              rw [nI_clamp (n := (5 * t) + 2) (by omega)]
              have hP : va_P D vwCl (kw_M ct aM F M Pl L1 C1 V1 kk_rc ++ (kw_X ct aX MX PX C V ++ kw_O ct qo o)) H := kr_swap hP
              have hD : va_D A (kw_M ct aM F M Pl L1 C1 V1 kk_rc ++ (kw_X ct aX MX PX C V ++ kw_O ct qo o)) := kr_swapD hD
              refine kr_fl (wx := kw_M ct aM F M Pl L1 C1 V1 kk_rc) (wr := kw_X ct aX MX PX C V ++ kw_O ct qo o) (va_runV (As := [.int (nI k), .int (xs ((5 * t) + 2))]) (rest := []) ⟨hx, hb, hml, hown, hts⟩ (kn_lane2 l D ct aM F M Pl L1 C1 V1 kk_rc _ hk8 (xs (5 * t + 2)) hbad) (cwV 2 hts gl_lane rfl rfl rfl (by decide +kernel) ⟨Nat.le_of_ble_eq_true rfl, Nat.le_of_ble_eq_true rfl⟩) (kr_preV kw_Nok (q := (RX1, TX1, 7)) (q0 := 0) (ci := 1) _ (kr_left hP) hK (kr_leftD hD) trivial hS hA rfl rfl rfl) rfl rfl hl.1 rfl (lv_room (Nat.le_of_ble_eq_true rfl)) dL_law_436 ⟨by show _ ≤ 601024; omega, by show _ ≤ 7293034; omega⟩) hP hD hS hA (fun r _ H locs hq hP hD hS => ?_)
              have hP : va_P D vwCl ((kw_X ct aX MX PX C V ++ kw_O ct qo o) ++ kw_M ct aM (nI 1) M Pl L1 C1 V1 kk_rc) H := kr_swap hP
              have hD : va_D A ((kw_X ct aX MX PX C V ++ kw_O ct qo o) ++ kw_M ct aM (nI 1) M Pl L1 C1 V1 kk_rc) := kr_swapD hD
              refine lv_lstore hx hb dL_law_439 hl (Nat.le_of_ble_eq_true rfl) rfl (fun ls hl => ?_)
              have hl : lv_has ls 8 [(6, .long r), (5, .int (nI 1)), (4, .int (nI (5 * t))), (0, .ref b), (1, .ref (aX 0)), (2, .ref (aM 0)), (3, .ref qo)] := hl
              refine lv_aload_n hx hb dL_law_441 rfl (lv_at hl 5 rfl) ?_
              have hP : va_P D vwCl (kw_M ct aM (nI 1) M Pl L1 C1 V1 kk_rc ++ (kw_X ct aX MX PX C V ++ kw_O ct qo o)) H := kr_swap hP
              have hD : va_D A (kw_M ct aM (nI 1) M Pl L1 C1 V1 kk_rc ++ (kw_X ct aX MX PX C V ++ kw_O ct qo o)) := kr_swapD hD
              refine kr_fi (wx := kw_M ct aM (nI 1) M Pl L1 C1 V1 kk_rc) (wr := kw_X ct aX MX PX C V ++ kw_O ct qo o) (va_runV (As := []) (rest := []) ⟨hx, hb, hml, hown, hts⟩ (km_thrown l D ct aM (nI 1) M Pl L1 C1 V1 kk_rc _) (cwV 0 hts gl_thrown rfl rfl rfl (by decide +kernel) ⟨Nat.le_of_ble_eq_true rfl, Nat.le_of_ble_eq_true rfl⟩) (kr_preV kw_Nok (q := (RX1, TX1, 7)) (q0 := 0) (ci := 1) _ (kr_left hP) hK (kr_leftD hD) trivial hS hA rfl rfl rfl) rfl rfl hl.1 rfl (lv_room (Nat.le_of_ble_eq_true rfl)) dL_law_442 ⟨by show _ ≤ 601024; omega, by show _ ≤ 7293034; omega⟩) hP hD hS hA (fun r _ H locs hq hP hD hS => ?_)
              obtain rfl : r = nI 1 := hq
              have hP : va_P D vwCl ((kw_X ct aX MX PX C V ++ kw_O ct qo o) ++ kw_M ct aM (nI 1) M Pl L1 C1 V1 kk_rc) H := kr_swap hP
              have hD : va_D A ((kw_X ct aX MX PX C V ++ kw_O ct qo o) ++ kw_M ct aM (nI 1) M Pl L1 C1 V1 kk_rc) := kr_swapD hD
              refine lv_iload hx hb dL_law_445 (lv_at hl 1 rfl) ?_
              refine kr_icmp_eq (tgt := 452) hx hb (by omega) (by omega) dL_law_447 rfl (fun hc => ?_) (fun hc => ?_)
              · clear hc
                refine lv_iload hx hb dL_law_452 (lv_at hl 1 rfl) ?_
                refine lv_if_ne (tgt := 468) hx hb dL_law_454 rfl (fun hc => ?_) (fun hc => ?_)
                · clear hc
                  refine lv_goto (tgt := 538) hx hb dL_law_468 rfl ?_
                  refine lv_iinc (k := 2) (v := nI ((5 * t) + 5)) hx hb dL_law_538 hl rfl (nI_add (5 * t) 5) (Nat.le_of_ble_eq_true rfl) rfl (fun ls hl => ?_)
                  have hl : lv_has ls 8 [(4, .int (nI ((5 * t) + 5))), (6, .long r), (5, .int (nI 1)), (0, .ref b), (1, .ref (aX 0)), (2, .ref (aM 0)), (3, .ref qo)] := hl
                  refine lv_goto (tgt := 23) hx hb dL_law_541 rfl ?_
                  refine W.widen (k := 30 + (t + 1)) (n := 580 + 6 * (t + 1)) (by omega) (by omega) ?_
                  exact ih (t + 1) MX M PX Pl C V o (nI 1) L1 C1 V1 H locs ls (by omega) (by omega) hM hPx hPl (lv_sub hl [0, 3, 4, 5, 6] rfl) hP hD hS
                · exact absurd hc km_ne1
              · exact absurd rfl hc
          · clear hcells
            refine lv_aload_n hx hb dL_law_404 rfl (lv_at hl 2 rfl) ?_
            refine lv_aload_n hx hb dL_law_405 rfl (lv_at hl 1 rfl) ?_
            refine lv_iload hx hb dL_law_406 (lv_at hl 0 rfl) ?_
            refine lv_iconst (v := nI 1) hx hb dL_law_408 rfl ?_
            refine kr_iadd hx hb dL_law_409 ?_
            refine va_sld hx hb hX hbl hbA hS (vp_in_nI (n := (5 * t) + 1) (by omega) (by omega)) dL_law_410 ?_
            rw [nI_clamp (n := (5 * t) + 1) (by omega)]
            refine lv_aload_n hx hb dL_law_411 rfl (lv_at hl 1 rfl) ?_
            refine lv_iload hx hb dL_law_412 (lv_at hl 0 rfl) ?_
            refine lv_iconst (v := nI 2) hx hb dL_law_414 rfl ?_
            refine kr_iadd hx hb dL_law_415 ?_
            refine va_sld hx hb hX hbl hbA hS (vp_in_nI (n := (5 * t) + 2) (by omega) (by omega)) dL_law_416 ?_
            rw [nI_clamp (n := (5 * t) + 2) (by omega)]
            refine lv_aload_n hx hb dL_law_417 rfl (lv_at hl 4 rfl) ?_
            refine kr_fi (wx := kw_X ct aX MX PX C V ++ kw_O ct qo o) (wr := kw_M ct aM F M Pl L1 C1 V1 kk_rc) (vx_runSW (As := [.ref (aX 0), .int (xs ((5 * t) + 1)), .int (xs ((5 * t) + 2)), .ref qo]) (rest := []) ⟨hx, hb, hml, hown, htsL⟩ (kl_lane1 l D ct aX tb qo MX PX C V o hl0 _ (xs (5 * t + 1)) (xs (5 * t + 2)) hbad) (vx_cwSW 4 htsL gL_law_L_lane rfl rfl rfl (by decide +kernel) ⟨Nat.le_of_ble_eq_true rfl, Nat.le_of_ble_eq_true rfl⟩) (kr_preS (kw_Bok tb) _ (kr_left hP) hK (kr_leftD hD) hB hS hA) rfl rfl hl.1 rfl (lv_room (Nat.le_of_ble_eq_true rfl)) dL_law_418 ⟨by show _ ≤ 601024; omega, by show _ ≤ 7293034; omega⟩) hP hD hS hA (fun r _ H locs hq hP hD hS => ?_)
            obtain rfl : r = nI 1 := hq
            have hP : va_P D vwCl ((kw_X ct aX MX PX C V ++ kw_O ct qo o) ++ kw_M ct aM F M Pl L1 C1 V1 kk_rc) H := hP
            have hD : va_D A ((kw_X ct aX MX PX C V ++ kw_O ct qo o) ++ kw_M ct aM F M Pl L1 C1 V1 kk_rc) := hD
            refine lv_istore hx hb dL_law_421 hl (Nat.le_of_ble_eq_true rfl) rfl (fun ls hl => ?_)
            have hl : lv_has ls 8 [(5, .int (nI 1)), (4, .int (nI (5 * t))), (0, .ref b), (1, .ref (aX 0)), (2, .ref (aM 0)), (3, .ref qo)] := hl
            refine lv_aload_n hx hb dL_law_423 rfl (lv_at hl 4 rfl) ?_
            refine lv_aload_n hx hb dL_law_424 rfl (lv_at hl 2 rfl) ?_
            refine lv_iload hx hb dL_law_425 (lv_at hl 1 rfl) ?_
            refine lv_iconst (v := nI 1) hx hb dL_law_427 rfl ?_
            refine kr_iadd hx hb dL_law_428 ?_
            refine va_sld hx hb hX hbl hbA hS (vp_in_nI (n := (5 * t) + 1) (by omega) (by omega)) dL_law_429 ?_
            rw [nI_clamp (n := (5 * t) + 1) (by omega)]
            refine lv_aload_n hx hb dL_law_430 rfl (lv_at hl 2 rfl) ?_
            refine lv_iload hx hb dL_law_431 (lv_at hl 1 rfl) ?_
            refine lv_iconst (v := nI 2) hx hb dL_law_433 rfl ?_
            refine kr_iadd hx hb dL_law_434 ?_
            refine va_sld hx hb hX hbl hbA hS (vp_in_nI (n := (5 * t) + 2) (by omega) (by omega)) dL_law_435 ?_
            rw [nI_clamp (n := (5 * t) + 2) (by omega)]
            have hP : va_P D vwCl (kw_M ct aM F M Pl L1 C1 V1 kk_rc ++ (kw_X ct aX MX PX C V ++ kw_O ct qo o)) H := kr_swap hP
            have hD : va_D A (kw_M ct aM F M Pl L1 C1 V1 kk_rc ++ (kw_X ct aX MX PX C V ++ kw_O ct qo o)) := kr_swapD hD
            refine kr_fl (wx := kw_M ct aM F M Pl L1 C1 V1 kk_rc) (wr := kw_X ct aX MX PX C V ++ kw_O ct qo o) (va_runV (As := [.int (xs ((5 * t) + 1)), .int (xs ((5 * t) + 2))]) (rest := []) ⟨hx, hb, hml, hown, hts⟩ (kn_lane1 l D ct aM F M Pl L1 C1 V1 kk_rc _ (xs (5 * t + 1)) (xs (5 * t + 2)) hbad) (cwV 2 hts gl_lane rfl rfl rfl (by decide +kernel) ⟨Nat.le_of_ble_eq_true rfl, Nat.le_of_ble_eq_true rfl⟩) (kr_preV kw_Nok (q := (RX1, TX1, 7)) (q0 := 0) (ci := 1) _ (kr_left hP) hK (kr_leftD hD) trivial hS hA rfl rfl rfl) rfl rfl hl.1 rfl (lv_room (Nat.le_of_ble_eq_true rfl)) dL_law_436 ⟨by show _ ≤ 601024; omega, by show _ ≤ 7293034; omega⟩) hP hD hS hA (fun r _ H locs hq hP hD hS => ?_)
            have hP : va_P D vwCl ((kw_X ct aX MX PX C V ++ kw_O ct qo o) ++ kw_M ct aM (nI 1) M Pl L1 C1 V1 kk_rc) H := kr_swap hP
            have hD : va_D A ((kw_X ct aX MX PX C V ++ kw_O ct qo o) ++ kw_M ct aM (nI 1) M Pl L1 C1 V1 kk_rc) := kr_swapD hD
            refine lv_lstore hx hb dL_law_439 hl (Nat.le_of_ble_eq_true rfl) rfl (fun ls hl => ?_)
            have hl : lv_has ls 8 [(6, .long r), (5, .int (nI 1)), (4, .int (nI (5 * t))), (0, .ref b), (1, .ref (aX 0)), (2, .ref (aM 0)), (3, .ref qo)] := hl
            refine lv_aload_n hx hb dL_law_441 rfl (lv_at hl 5 rfl) ?_
            have hP : va_P D vwCl (kw_M ct aM (nI 1) M Pl L1 C1 V1 kk_rc ++ (kw_X ct aX MX PX C V ++ kw_O ct qo o)) H := kr_swap hP
            have hD : va_D A (kw_M ct aM (nI 1) M Pl L1 C1 V1 kk_rc ++ (kw_X ct aX MX PX C V ++ kw_O ct qo o)) := kr_swapD hD
            refine kr_fi (wx := kw_M ct aM (nI 1) M Pl L1 C1 V1 kk_rc) (wr := kw_X ct aX MX PX C V ++ kw_O ct qo o) (va_runV (As := []) (rest := []) ⟨hx, hb, hml, hown, hts⟩ (km_thrown l D ct aM (nI 1) M Pl L1 C1 V1 kk_rc _) (cwV 0 hts gl_thrown rfl rfl rfl (by decide +kernel) ⟨Nat.le_of_ble_eq_true rfl, Nat.le_of_ble_eq_true rfl⟩) (kr_preV kw_Nok (q := (RX1, TX1, 7)) (q0 := 0) (ci := 1) _ (kr_left hP) hK (kr_leftD hD) trivial hS hA rfl rfl rfl) rfl rfl hl.1 rfl (lv_room (Nat.le_of_ble_eq_true rfl)) dL_law_442 ⟨by show _ ≤ 601024; omega, by show _ ≤ 7293034; omega⟩) hP hD hS hA (fun r _ H locs hq hP hD hS => ?_)
            obtain rfl : r = nI 1 := hq
            have hP : va_P D vwCl ((kw_X ct aX MX PX C V ++ kw_O ct qo o) ++ kw_M ct aM (nI 1) M Pl L1 C1 V1 kk_rc) H := kr_swap hP
            have hD : va_D A ((kw_X ct aX MX PX C V ++ kw_O ct qo o) ++ kw_M ct aM (nI 1) M Pl L1 C1 V1 kk_rc) := kr_swapD hD
            refine lv_iload hx hb dL_law_445 (lv_at hl 1 rfl) ?_
            refine kr_icmp_eq (tgt := 452) hx hb (by omega) (by omega) dL_law_447 rfl (fun hc => ?_) (fun hc => ?_)
            · clear hc
              refine lv_iload hx hb dL_law_452 (lv_at hl 1 rfl) ?_
              refine lv_if_ne (tgt := 468) hx hb dL_law_454 rfl (fun hc => ?_) (fun hc => ?_)
              · clear hc
                refine lv_goto (tgt := 538) hx hb dL_law_468 rfl ?_
                refine lv_iinc (k := 2) (v := nI ((5 * t) + 5)) hx hb dL_law_538 hl rfl (nI_add (5 * t) 5) (Nat.le_of_ble_eq_true rfl) rfl (fun ls hl => ?_)
                have hl : lv_has ls 8 [(4, .int (nI ((5 * t) + 5))), (6, .long r), (5, .int (nI 1)), (0, .ref b), (1, .ref (aX 0)), (2, .ref (aM 0)), (3, .ref qo)] := hl
                refine lv_goto (tgt := 23) hx hb dL_law_541 rfl ?_
                refine W.widen (k := 30 + (t + 1)) (n := 580 + 6 * (t + 1)) (by omega) (by omega) ?_
                exact ih (t + 1) MX M PX Pl C V o (nI 1) L1 C1 V1 H locs ls (by omega) (by omega) hM hPx hPl (lv_sub hl [0, 3, 4, 5, 6] rfl) hP hD hS
              · exact absurd hc km_ne1
            · exact absurd rfl hc
        · refine lv_tableIn (tgt := 471) hx hb dL_law_39 (by decide +kernel) (by decide +kernel) rfl rfl ?_
          rcases kl_rng (xs (5 * t + 1)) 7 (by omega) with ⟨k, hk, ek⟩ | hbad
          · have hk8 : k < 8 := by omega
            rcases kl_rng (xs (5 * t + 2)) 3 (by omega) with ⟨n, hn, en⟩ | hbad
            · have hn9 : n < 4 := by omega
              have hMk := hM k hk8
              have hPk := hPx k hk8
              refine lv_aload_n hx hb dL_law_471 rfl (lv_at hl 2 rfl) ?_
              refine lv_aload_n hx hb dL_law_472 rfl (lv_at hl 1 rfl) ?_
              refine lv_iload hx hb dL_law_473 (lv_at hl 0 rfl) ?_
              refine lv_iconst (v := nI 1) hx hb dL_law_475 rfl ?_
              refine kr_iadd hx hb dL_law_476 ?_
              refine va_sld hx hb hX hbl hbA hS (vp_in_nI (n := (5 * t) + 1) (by omega) (by omega)) dL_law_477 ?_
              rw [nI_clamp (n := (5 * t) + 1) (by omega)]
              rw [ek]
              refine lv_aload_n hx hb dL_law_478 rfl (lv_at hl 1 rfl) ?_
              refine lv_iload hx hb dL_law_479 (lv_at hl 0 rfl) ?_
              refine lv_iconst (v := nI 2) hx hb dL_law_481 rfl ?_
              refine kr_iadd hx hb dL_law_482 ?_
              refine va_sld hx hb hX hbl hbA hS (vp_in_nI (n := (5 * t) + 2) (by omega) (by omega)) dL_law_483 ?_
              rw [nI_clamp (n := (5 * t) + 2) (by omega)]
              rw [en]
              refine lv_aload_n hx hb dL_law_484 rfl (lv_at hl 4 rfl) ?_
              have hq0 : PX k < 136 := by rw [hPk]; exact hPl k hk8
              refine kr_fi (wx := kw_X ct aX MX PX C V ++ kw_O ct qo o) (wr := kw_M ct aM F M Pl L1 C1 V1 kk_rc) (vx_runSW (As := [.ref (aX 0), .int (nI k), .int (nI n), .ref qo]) (rest := []) ⟨hx, hb, hml, hown, htsL⟩ (kl_digest l D ct aX tb qo MX PX C V o _ hk8 hn9 hq0) (vx_cwSW 4 htsL gL_law_L_digest rfl rfl rfl (by decide +kernel) ⟨Nat.le_of_ble_eq_true rfl, Nat.le_of_ble_eq_true rfl⟩) (kr_preS (kw_Bok tb) _ (kr_left hP) hK (kr_leftD hD) hB hS hA) rfl rfl hl.1 rfl (lv_room (Nat.le_of_ble_eq_true rfl)) dL_law_485 ⟨by show _ ≤ 601024; omega, by show _ ≤ 7293034; omega⟩) hP hD hS hA (fun r u H locs hq hP hD hS => ?_)
              obtain rfl : r = nI 0 := hq
              have hP : va_P D vwCl ((kw_X ct aX (va_up MX 8 (kk_dg (MX k) (PX k))) (va_up PX 8 (PX k)) u.1 u.2 ++ kw_O ct qo (vp_updL o 0 (kk_rev (kk_dg (MX k) (PX k) n) 8))) ++ kw_M ct aM F M Pl L1 C1 V1 kk_rc) H := hP
              have hD : va_D A ((kw_X ct aX (va_up MX 8 (kk_dg (MX k) (PX k))) (va_up PX 8 (PX k)) u.1 u.2 ++ kw_O ct qo (vp_updL o 0 (kk_rev (kk_dg (MX k) (PX k) n) 8))) ++ kw_M ct aM F M Pl L1 C1 V1 kk_rc) := hD
              rw [hMk, hPk] at hP hD
              have hP : va_P D vwCl ((kw_X ct aX (va_up MX 8 (kk_dg (M k) (Pl k))) (va_up PX 8 (Pl k)) u.1 u.2 ++ kw_O ct qo (vp_updL o 0 (kk_rev (kk_dg (M k) (Pl k) n) 8))) ++ kw_M ct aM F M Pl L1 C1 V1 kk_rc) H := hP
              have hD : va_D A ((kw_X ct aX (va_up MX 8 (kk_dg (M k) (Pl k))) (va_up PX 8 (Pl k)) u.1 u.2 ++ kw_O ct qo (vp_updL o 0 (kk_rev (kk_dg (M k) (Pl k) n) 8))) ++ kw_M ct aM F M Pl L1 C1 V1 kk_rc) := hD
              refine lv_istore hx hb dL_law_488 hl (Nat.le_of_ble_eq_true rfl) rfl (fun ls hl => ?_)
              have hl : lv_has ls 8 [(5, .int (nI 0)), (4, .int (nI (5 * t))), (0, .ref b), (1, .ref (aX 0)), (2, .ref (aM 0)), (3, .ref qo)] := hl
              refine lv_aload_n hx hb dL_law_490 rfl (lv_at hl 4 rfl) ?_
              refine lv_aload_n hx hb dL_law_491 rfl (lv_at hl 2 rfl) ?_
              refine lv_iload hx hb dL_law_492 (lv_at hl 1 rfl) ?_
              refine lv_iconst (v := nI 1) hx hb dL_law_494 rfl ?_
              refine kr_iadd hx hb dL_law_495 ?_
              refine va_sld hx hb hX hbl hbA hS (vp_in_nI (n := (5 * t) + 1) (by omega) (by omega)) dL_law_496 ?_
              rw [nI_clamp (n := (5 * t) + 1) (by omega)]
              rw [ek]
              refine lv_aload_n hx hb dL_law_497 rfl (lv_at hl 2 rfl) ?_
              refine lv_iload hx hb dL_law_498 (lv_at hl 1 rfl) ?_
              refine lv_iconst (v := nI 2) hx hb dL_law_500 rfl ?_
              refine kr_iadd hx hb dL_law_501 ?_
              refine va_sld hx hb hX hbl hbA hS (vp_in_nI (n := (5 * t) + 2) (by omega) (by omega)) dL_law_502 ?_
              rw [nI_clamp (n := (5 * t) + 2) (by omega)]
              rw [en]
              have hP : va_P D vwCl (kw_M ct aM F M Pl L1 C1 V1 kk_rc ++ (kw_X ct aX (va_up MX 8 (kk_dg (M k) (Pl k))) (va_up PX 8 (Pl k)) u.1 u.2 ++ kw_O ct qo (vp_updL o 0 (kk_rev (kk_dg (M k) (Pl k) n) 8)))) H := kr_swap hP
              have hD : va_D A (kw_M ct aM F M Pl L1 C1 V1 kk_rc ++ (kw_X ct aX (va_up MX 8 (kk_dg (M k) (Pl k))) (va_up PX 8 (Pl k)) u.1 u.2 ++ kw_O ct qo (vp_updL o 0 (kk_rev (kk_dg (M k) (Pl k) n) 8)))) := kr_swapD hD
              refine kr_fl (wx := kw_M ct aM F M Pl L1 C1 V1 kk_rc) (wr := kw_X ct aX (va_up MX 8 (kk_dg (M k) (Pl k))) (va_up PX 8 (Pl k)) u.1 u.2 ++ kw_O ct qo (vp_updL o 0 (kk_rev (kk_dg (M k) (Pl k) n) 8))) (va_runV (As := [.int (nI k), .int (nI n)]) (rest := []) ⟨hx, hb, hml, hown, hts⟩ (km_digest l D ct aM F M Pl L1 C1 V1 kk_rc _ hk8 hn9 (hPl k hk8)) (cwV 2 hts gl_digest rfl rfl rfl (by decide +kernel) ⟨Nat.le_of_ble_eq_true rfl, Nat.le_of_ble_eq_true rfl⟩) (kr_preV kw_Nok (q := (RX1, TX1, 7)) (q0 := 0) (ci := 1) _ (kr_left hP) hK (kr_leftD hD) trivial hS hA rfl rfl rfl) rfl rfl hl.1 rfl (lv_room (Nat.le_of_ble_eq_true rfl)) dL_law_503 ⟨by show _ ≤ 601024; omega, by show _ ≤ 7293034; omega⟩) hP hD hS hA (fun r u2 H locs hq hP hD hS => ?_)
              obtain rfl : r = kk_rev (kk_dg (M k) (Pl k) n) 8 := hq
              have hP : va_P D vwCl ((kw_X ct aX (va_up MX 8 (kk_dg (M k) (Pl k))) (va_up PX 8 (Pl k)) u.1 u.2 ++ kw_O ct qo (vp_updL o 0 (kk_rev (kk_dg (M k) (Pl k) n) 8))) ++ kw_M ct aM (nI 0) M Pl (kk_dg (M k) (Pl k)) u2.1 u2.2 kk_rc) H := kr_swap hP
              have hD : va_D A ((kw_X ct aX (va_up MX 8 (kk_dg (M k) (Pl k))) (va_up PX 8 (Pl k)) u.1 u.2 ++ kw_O ct qo (vp_updL o 0 (kk_rev (kk_dg (M k) (Pl k) n) 8))) ++ kw_M ct aM (nI 0) M Pl (kk_dg (M k) (Pl k)) u2.1 u2.2 kk_rc) := kr_swapD hD
              refine lv_lstore hx hb dL_law_506 hl (Nat.le_of_ble_eq_true rfl) rfl (fun ls hl => ?_)
              have hl : lv_has ls 8 [(6, .long (kk_rev (kk_dg (M k) (Pl k) n) 8)), (5, .int (nI 0)), (4, .int (nI (5 * t))), (0, .ref b), (1, .ref (aX 0)), (2, .ref (aM 0)), (3, .ref qo)] := hl
              refine lv_aload_n hx hb dL_law_508 rfl (lv_at hl 5 rfl) ?_
              have hP : va_P D vwCl (kw_M ct aM (nI 0) M Pl (kk_dg (M k) (Pl k)) u2.1 u2.2 kk_rc ++ (kw_X ct aX (va_up MX 8 (kk_dg (M k) (Pl k))) (va_up PX 8 (Pl k)) u.1 u.2 ++ kw_O ct qo (vp_updL o 0 (kk_rev (kk_dg (M k) (Pl k) n) 8)))) H := kr_swap hP
              have hD : va_D A (kw_M ct aM (nI 0) M Pl (kk_dg (M k) (Pl k)) u2.1 u2.2 kk_rc ++ (kw_X ct aX (va_up MX 8 (kk_dg (M k) (Pl k))) (va_up PX 8 (Pl k)) u.1 u.2 ++ kw_O ct qo (vp_updL o 0 (kk_rev (kk_dg (M k) (Pl k) n) 8)))) := kr_swapD hD
              refine kr_fi (wx := kw_M ct aM (nI 0) M Pl (kk_dg (M k) (Pl k)) u2.1 u2.2 kk_rc) (wr := kw_X ct aX (va_up MX 8 (kk_dg (M k) (Pl k))) (va_up PX 8 (Pl k)) u.1 u.2 ++ kw_O ct qo (vp_updL o 0 (kk_rev (kk_dg (M k) (Pl k) n) 8))) (va_runV (As := []) (rest := []) ⟨hx, hb, hml, hown, hts⟩ (km_thrown l D ct aM (nI 0) M Pl (kk_dg (M k) (Pl k)) u2.1 u2.2 kk_rc _) (cwV 0 hts gl_thrown rfl rfl rfl (by decide +kernel) ⟨Nat.le_of_ble_eq_true rfl, Nat.le_of_ble_eq_true rfl⟩) (kr_preV kw_Nok (q := (RX1, TX1, 7)) (q0 := 0) (ci := 1) _ (kr_left hP) hK (kr_leftD hD) trivial hS hA rfl rfl rfl) rfl rfl hl.1 rfl (lv_room (Nat.le_of_ble_eq_true rfl)) dL_law_509 ⟨by show _ ≤ 601024; omega, by show _ ≤ 7293034; omega⟩) hP hD hS hA (fun r _ H locs hq hP hD hS => ?_)
              obtain rfl : r = nI 0 := hq
              have hP : va_P D vwCl ((kw_X ct aX (va_up MX 8 (kk_dg (M k) (Pl k))) (va_up PX 8 (Pl k)) u.1 u.2 ++ kw_O ct qo (vp_updL o 0 (kk_rev (kk_dg (M k) (Pl k) n) 8))) ++ kw_M ct aM (nI 0) M Pl (kk_dg (M k) (Pl k)) u2.1 u2.2 kk_rc) H := kr_swap hP
              have hD : va_D A ((kw_X ct aX (va_up MX 8 (kk_dg (M k) (Pl k))) (va_up PX 8 (Pl k)) u.1 u.2 ++ kw_O ct qo (vp_updL o 0 (kk_rev (kk_dg (M k) (Pl k) n) 8))) ++ kw_M ct aM (nI 0) M Pl (kk_dg (M k) (Pl k)) u2.1 u2.2 kk_rc) := kr_swapD hD
              refine lv_iload hx hb dL_law_512 (lv_at hl 1 rfl) ?_
              refine kr_icmp_eq (tgt := 519) hx hb (by omega) (by omega) dL_law_514 rfl (fun hc => ?_) (fun hc => ?_)
              · clear hc
                refine lv_iload hx hb dL_law_519 (lv_at hl 1 rfl) ?_
                refine lv_if_ne (tgt := 535) hx hb dL_law_521 rfl (fun hc => ?_) (fun hc => ?_)
                · exact absurd rfl hc
                · clear hc
                  refine lv_aload_n hx hb dL_law_524 rfl (lv_at hl 6 rfl) ?_
                  refine lv_iconst (v := nI 0) hx hb dL_law_525 rfl ?_
                  refine kr_lald hx hb hK hP 14 2 rfl rfl (n := 0) (by omega) (by omega) dL_law_526 ?_
                  rw [pk_uLs]
                  refine lv_lload hx hb dL_law_527 (lv_at hl 0 rfl) ?_
                  refine W.lcmp hx hb dL_law_529 ?_
                  rw [kl_cmp]
                  refine lv_if_eq (tgt := 535) hx hb dL_law_530 rfl (fun hc => ?_) (fun hc => ?_)
                  · clear hc
                    refine lv_goto (tgt := 538) hx hb dL_law_535 rfl ?_
                    refine lv_iinc (k := 2) (v := nI ((5 * t) + 5)) hx hb dL_law_538 hl rfl (nI_add (5 * t) 5) (Nat.le_of_ble_eq_true rfl) rfl (fun ls hl => ?_)
                    have hl : lv_has ls 8 [(4, .int (nI ((5 * t) + 5))), (6, .long (kk_rev (kk_dg (M k) (Pl k) n) 8)), (5, .int (nI 0)), (0, .ref b), (1, .ref (aX 0)), (2, .ref (aM 0)), (3, .ref qo)] := hl
                    refine lv_goto (tgt := 23) hx hb dL_law_541 rfl ?_
                    refine W.widen (k := 30 + (t + 1)) (n := 580 + 6 * (t + 1)) (by omega) (by omega) ?_
                    exact ih (t + 1) (va_up MX 8 (kk_dg (M k) (Pl k))) M (va_up PX 8 (Pl k)) Pl u.1 u.2 _ (nI 0) (kk_dg (M k) (Pl k)) u2.1 u2.2 H locs ls (by omega) (by omega) (kl_up8 hM _) (kl_up8 hPx _) hPl (lv_sub hl [0, 3, 4, 5, 6] rfl) hP hD hS
                  · exact absurd rfl hc
              · exact absurd rfl hc
            · clear hcells
              refine lv_aload_n hx hb dL_law_471 rfl (lv_at hl 2 rfl) ?_
              refine lv_aload_n hx hb dL_law_472 rfl (lv_at hl 1 rfl) ?_
              refine lv_iload hx hb dL_law_473 (lv_at hl 0 rfl) ?_
              refine lv_iconst (v := nI 1) hx hb dL_law_475 rfl ?_
              refine kr_iadd hx hb dL_law_476 ?_
              refine va_sld hx hb hX hbl hbA hS (vp_in_nI (n := (5 * t) + 1) (by omega) (by omega)) dL_law_477 ?_
              rw [nI_clamp (n := (5 * t) + 1) (by omega)]
              rw [ek]
              refine lv_aload_n hx hb dL_law_478 rfl (lv_at hl 1 rfl) ?_
              refine lv_iload hx hb dL_law_479 (lv_at hl 0 rfl) ?_
              refine lv_iconst (v := nI 2) hx hb dL_law_481 rfl ?_
              refine kr_iadd hx hb dL_law_482 ?_
              refine va_sld hx hb hX hbl hbA hS (vp_in_nI (n := (5 * t) + 2) (by omega) (by omega)) dL_law_483 ?_
              rw [nI_clamp (n := (5 * t) + 2) (by omega)]
              refine lv_aload_n hx hb dL_law_484 rfl (lv_at hl 4 rfl) ?_
              refine kr_fi (wx := kw_X ct aX MX PX C V ++ kw_O ct qo o) (wr := kw_M ct aM F M Pl L1 C1 V1 kk_rc) (vx_runSW (As := [.ref (aX 0), .int (nI k), .int (xs ((5 * t) + 2)), .ref qo]) (rest := []) ⟨hx, hb, hml, hown, htsL⟩ (kl_digest2 l D ct aX tb qo MX PX C V o hl0 _ hk8 (xs (5 * t + 2)) hbad) (vx_cwSW 4 htsL gL_law_L_digest rfl rfl rfl (by decide +kernel) ⟨Nat.le_of_ble_eq_true rfl, Nat.le_of_ble_eq_true rfl⟩) (kr_preS (kw_Bok tb) _ (kr_left hP) hK (kr_leftD hD) hB hS hA) rfl rfl hl.1 rfl (lv_room (Nat.le_of_ble_eq_true rfl)) dL_law_485 ⟨by show _ ≤ 601024; omega, by show _ ≤ 7293034; omega⟩) hP hD hS hA (fun r _ H locs hq hP hD hS => ?_)
              obtain rfl : r = nI 1 := hq
              have hP : va_P D vwCl ((kw_X ct aX MX PX C V ++ kw_O ct qo o) ++ kw_M ct aM F M Pl L1 C1 V1 kk_rc) H := hP
              have hD : va_D A ((kw_X ct aX MX PX C V ++ kw_O ct qo o) ++ kw_M ct aM F M Pl L1 C1 V1 kk_rc) := hD
              refine lv_istore hx hb dL_law_488 hl (Nat.le_of_ble_eq_true rfl) rfl (fun ls hl => ?_)
              have hl : lv_has ls 8 [(5, .int (nI 1)), (4, .int (nI (5 * t))), (0, .ref b), (1, .ref (aX 0)), (2, .ref (aM 0)), (3, .ref qo)] := hl
              refine lv_aload_n hx hb dL_law_490 rfl (lv_at hl 4 rfl) ?_
              refine lv_aload_n hx hb dL_law_491 rfl (lv_at hl 2 rfl) ?_
              refine lv_iload hx hb dL_law_492 (lv_at hl 1 rfl) ?_
              refine lv_iconst (v := nI 1) hx hb dL_law_494 rfl ?_
              refine kr_iadd hx hb dL_law_495 ?_
              refine va_sld hx hb hX hbl hbA hS (vp_in_nI (n := (5 * t) + 1) (by omega) (by omega)) dL_law_496 ?_
              rw [nI_clamp (n := (5 * t) + 1) (by omega)]
              rw [ek]
              refine lv_aload_n hx hb dL_law_497 rfl (lv_at hl 2 rfl) ?_
              refine lv_iload hx hb dL_law_498 (lv_at hl 1 rfl) ?_
              refine lv_iconst (v := nI 2) hx hb dL_law_500 rfl ?_
              refine kr_iadd hx hb dL_law_501 ?_
              refine va_sld hx hb hX hbl hbA hS (vp_in_nI (n := (5 * t) + 2) (by omega) (by omega)) dL_law_502 ?_
              rw [nI_clamp (n := (5 * t) + 2) (by omega)]
              have hP : va_P D vwCl (kw_M ct aM F M Pl L1 C1 V1 kk_rc ++ (kw_X ct aX MX PX C V ++ kw_O ct qo o)) H := kr_swap hP
              have hD : va_D A (kw_M ct aM F M Pl L1 C1 V1 kk_rc ++ (kw_X ct aX MX PX C V ++ kw_O ct qo o)) := kr_swapD hD
              refine kr_fl (wx := kw_M ct aM F M Pl L1 C1 V1 kk_rc) (wr := kw_X ct aX MX PX C V ++ kw_O ct qo o) (va_runV (As := [.int (nI k), .int (xs ((5 * t) + 2))]) (rest := []) ⟨hx, hb, hml, hown, hts⟩ (kn_digest2 l D ct aM F M Pl L1 C1 V1 kk_rc _ hk8 (xs (5 * t + 2)) hbad) (cwV 2 hts gl_digest rfl rfl rfl (by decide +kernel) ⟨Nat.le_of_ble_eq_true rfl, Nat.le_of_ble_eq_true rfl⟩) (kr_preV kw_Nok (q := (RX1, TX1, 7)) (q0 := 0) (ci := 1) _ (kr_left hP) hK (kr_leftD hD) trivial hS hA rfl rfl rfl) rfl rfl hl.1 rfl (lv_room (Nat.le_of_ble_eq_true rfl)) dL_law_503 ⟨by show _ ≤ 601024; omega, by show _ ≤ 7293034; omega⟩) hP hD hS hA (fun r _ H locs hq hP hD hS => ?_)
              have hP : va_P D vwCl ((kw_X ct aX MX PX C V ++ kw_O ct qo o) ++ kw_M ct aM (nI 1) M Pl L1 C1 V1 kk_rc) H := kr_swap hP
              have hD : va_D A ((kw_X ct aX MX PX C V ++ kw_O ct qo o) ++ kw_M ct aM (nI 1) M Pl L1 C1 V1 kk_rc) := kr_swapD hD
              refine lv_lstore hx hb dL_law_506 hl (Nat.le_of_ble_eq_true rfl) rfl (fun ls hl => ?_)
              have hl : lv_has ls 8 [(6, .long r), (5, .int (nI 1)), (4, .int (nI (5 * t))), (0, .ref b), (1, .ref (aX 0)), (2, .ref (aM 0)), (3, .ref qo)] := hl
              refine lv_aload_n hx hb dL_law_508 rfl (lv_at hl 5 rfl) ?_
              have hP : va_P D vwCl (kw_M ct aM (nI 1) M Pl L1 C1 V1 kk_rc ++ (kw_X ct aX MX PX C V ++ kw_O ct qo o)) H := kr_swap hP
              have hD : va_D A (kw_M ct aM (nI 1) M Pl L1 C1 V1 kk_rc ++ (kw_X ct aX MX PX C V ++ kw_O ct qo o)) := kr_swapD hD
              refine kr_fi (wx := kw_M ct aM (nI 1) M Pl L1 C1 V1 kk_rc) (wr := kw_X ct aX MX PX C V ++ kw_O ct qo o) (va_runV (As := []) (rest := []) ⟨hx, hb, hml, hown, hts⟩ (km_thrown l D ct aM (nI 1) M Pl L1 C1 V1 kk_rc _) (cwV 0 hts gl_thrown rfl rfl rfl (by decide +kernel) ⟨Nat.le_of_ble_eq_true rfl, Nat.le_of_ble_eq_true rfl⟩) (kr_preV kw_Nok (q := (RX1, TX1, 7)) (q0 := 0) (ci := 1) _ (kr_left hP) hK (kr_leftD hD) trivial hS hA rfl rfl rfl) rfl rfl hl.1 rfl (lv_room (Nat.le_of_ble_eq_true rfl)) dL_law_509 ⟨by show _ ≤ 601024; omega, by show _ ≤ 7293034; omega⟩) hP hD hS hA (fun r _ H locs hq hP hD hS => ?_)
              obtain rfl : r = nI 1 := hq
              have hP : va_P D vwCl ((kw_X ct aX MX PX C V ++ kw_O ct qo o) ++ kw_M ct aM (nI 1) M Pl L1 C1 V1 kk_rc) H := kr_swap hP
              have hD : va_D A ((kw_X ct aX MX PX C V ++ kw_O ct qo o) ++ kw_M ct aM (nI 1) M Pl L1 C1 V1 kk_rc) := kr_swapD hD
              refine lv_iload hx hb dL_law_512 (lv_at hl 1 rfl) ?_
              refine kr_icmp_eq (tgt := 519) hx hb (by omega) (by omega) dL_law_514 rfl (fun hc => ?_) (fun hc => ?_)
              · clear hc
                refine lv_iload hx hb dL_law_519 (lv_at hl 1 rfl) ?_
                refine lv_if_ne (tgt := 535) hx hb dL_law_521 rfl (fun hc => ?_) (fun hc => ?_)
                · clear hc
                  refine lv_goto (tgt := 538) hx hb dL_law_535 rfl ?_
                  refine lv_iinc (k := 2) (v := nI ((5 * t) + 5)) hx hb dL_law_538 hl rfl (nI_add (5 * t) 5) (Nat.le_of_ble_eq_true rfl) rfl (fun ls hl => ?_)
                  have hl : lv_has ls 8 [(4, .int (nI ((5 * t) + 5))), (6, .long r), (5, .int (nI 1)), (0, .ref b), (1, .ref (aX 0)), (2, .ref (aM 0)), (3, .ref qo)] := hl
                  refine lv_goto (tgt := 23) hx hb dL_law_541 rfl ?_
                  refine W.widen (k := 30 + (t + 1)) (n := 580 + 6 * (t + 1)) (by omega) (by omega) ?_
                  exact ih (t + 1) MX M PX Pl C V o (nI 1) L1 C1 V1 H locs ls (by omega) (by omega) hM hPx hPl (lv_sub hl [0, 3, 4, 5, 6] rfl) hP hD hS
                · exact absurd hc km_ne1
              · exact absurd rfl hc
          · clear hcells
            refine lv_aload_n hx hb dL_law_471 rfl (lv_at hl 2 rfl) ?_
            refine lv_aload_n hx hb dL_law_472 rfl (lv_at hl 1 rfl) ?_
            refine lv_iload hx hb dL_law_473 (lv_at hl 0 rfl) ?_
            refine lv_iconst (v := nI 1) hx hb dL_law_475 rfl ?_
            refine kr_iadd hx hb dL_law_476 ?_
            refine va_sld hx hb hX hbl hbA hS (vp_in_nI (n := (5 * t) + 1) (by omega) (by omega)) dL_law_477 ?_
            rw [nI_clamp (n := (5 * t) + 1) (by omega)]
            refine lv_aload_n hx hb dL_law_478 rfl (lv_at hl 1 rfl) ?_
            refine lv_iload hx hb dL_law_479 (lv_at hl 0 rfl) ?_
            refine lv_iconst (v := nI 2) hx hb dL_law_481 rfl ?_
            refine kr_iadd hx hb dL_law_482 ?_
            refine va_sld hx hb hX hbl hbA hS (vp_in_nI (n := (5 * t) + 2) (by omega) (by omega)) dL_law_483 ?_
            rw [nI_clamp (n := (5 * t) + 2) (by omega)]
            refine lv_aload_n hx hb dL_law_484 rfl (lv_at hl 4 rfl) ?_
            refine kr_fi (wx := kw_X ct aX MX PX C V ++ kw_O ct qo o) (wr := kw_M ct aM F M Pl L1 C1 V1 kk_rc) (vx_runSW (As := [.ref (aX 0), .int (xs ((5 * t) + 1)), .int (xs ((5 * t) + 2)), .ref qo]) (rest := []) ⟨hx, hb, hml, hown, htsL⟩ (kl_digest1 l D ct aX tb qo MX PX C V o hl0 _ (xs (5 * t + 1)) (xs (5 * t + 2)) hbad) (vx_cwSW 4 htsL gL_law_L_digest rfl rfl rfl (by decide +kernel) ⟨Nat.le_of_ble_eq_true rfl, Nat.le_of_ble_eq_true rfl⟩) (kr_preS (kw_Bok tb) _ (kr_left hP) hK (kr_leftD hD) hB hS hA) rfl rfl hl.1 rfl (lv_room (Nat.le_of_ble_eq_true rfl)) dL_law_485 ⟨by show _ ≤ 601024; omega, by show _ ≤ 7293034; omega⟩) hP hD hS hA (fun r _ H locs hq hP hD hS => ?_)
            obtain rfl : r = nI 1 := hq
            have hP : va_P D vwCl ((kw_X ct aX MX PX C V ++ kw_O ct qo o) ++ kw_M ct aM F M Pl L1 C1 V1 kk_rc) H := hP
            have hD : va_D A ((kw_X ct aX MX PX C V ++ kw_O ct qo o) ++ kw_M ct aM F M Pl L1 C1 V1 kk_rc) := hD
            refine lv_istore hx hb dL_law_488 hl (Nat.le_of_ble_eq_true rfl) rfl (fun ls hl => ?_)
            have hl : lv_has ls 8 [(5, .int (nI 1)), (4, .int (nI (5 * t))), (0, .ref b), (1, .ref (aX 0)), (2, .ref (aM 0)), (3, .ref qo)] := hl
            refine lv_aload_n hx hb dL_law_490 rfl (lv_at hl 4 rfl) ?_
            refine lv_aload_n hx hb dL_law_491 rfl (lv_at hl 2 rfl) ?_
            refine lv_iload hx hb dL_law_492 (lv_at hl 1 rfl) ?_
            refine lv_iconst (v := nI 1) hx hb dL_law_494 rfl ?_
            refine kr_iadd hx hb dL_law_495 ?_
            refine va_sld hx hb hX hbl hbA hS (vp_in_nI (n := (5 * t) + 1) (by omega) (by omega)) dL_law_496 ?_
            rw [nI_clamp (n := (5 * t) + 1) (by omega)]
            refine lv_aload_n hx hb dL_law_497 rfl (lv_at hl 2 rfl) ?_
            refine lv_iload hx hb dL_law_498 (lv_at hl 1 rfl) ?_
            refine lv_iconst (v := nI 2) hx hb dL_law_500 rfl ?_
            refine kr_iadd hx hb dL_law_501 ?_
            refine va_sld hx hb hX hbl hbA hS (vp_in_nI (n := (5 * t) + 2) (by omega) (by omega)) dL_law_502 ?_
            rw [nI_clamp (n := (5 * t) + 2) (by omega)]
            have hP : va_P D vwCl (kw_M ct aM F M Pl L1 C1 V1 kk_rc ++ (kw_X ct aX MX PX C V ++ kw_O ct qo o)) H := kr_swap hP
            have hD : va_D A (kw_M ct aM F M Pl L1 C1 V1 kk_rc ++ (kw_X ct aX MX PX C V ++ kw_O ct qo o)) := kr_swapD hD
            refine kr_fl (wx := kw_M ct aM F M Pl L1 C1 V1 kk_rc) (wr := kw_X ct aX MX PX C V ++ kw_O ct qo o) (va_runV (As := [.int (xs ((5 * t) + 1)), .int (xs ((5 * t) + 2))]) (rest := []) ⟨hx, hb, hml, hown, hts⟩ (kn_digest1 l D ct aM F M Pl L1 C1 V1 kk_rc _ (xs (5 * t + 1)) (xs (5 * t + 2)) hbad) (cwV 2 hts gl_digest rfl rfl rfl (by decide +kernel) ⟨Nat.le_of_ble_eq_true rfl, Nat.le_of_ble_eq_true rfl⟩) (kr_preV kw_Nok (q := (RX1, TX1, 7)) (q0 := 0) (ci := 1) _ (kr_left hP) hK (kr_leftD hD) trivial hS hA rfl rfl rfl) rfl rfl hl.1 rfl (lv_room (Nat.le_of_ble_eq_true rfl)) dL_law_503 ⟨by show _ ≤ 601024; omega, by show _ ≤ 7293034; omega⟩) hP hD hS hA (fun r _ H locs hq hP hD hS => ?_)
            have hP : va_P D vwCl ((kw_X ct aX MX PX C V ++ kw_O ct qo o) ++ kw_M ct aM (nI 1) M Pl L1 C1 V1 kk_rc) H := kr_swap hP
            have hD : va_D A ((kw_X ct aX MX PX C V ++ kw_O ct qo o) ++ kw_M ct aM (nI 1) M Pl L1 C1 V1 kk_rc) := kr_swapD hD
            refine lv_lstore hx hb dL_law_506 hl (Nat.le_of_ble_eq_true rfl) rfl (fun ls hl => ?_)
            have hl : lv_has ls 8 [(6, .long r), (5, .int (nI 1)), (4, .int (nI (5 * t))), (0, .ref b), (1, .ref (aX 0)), (2, .ref (aM 0)), (3, .ref qo)] := hl
            refine lv_aload_n hx hb dL_law_508 rfl (lv_at hl 5 rfl) ?_
            have hP : va_P D vwCl (kw_M ct aM (nI 1) M Pl L1 C1 V1 kk_rc ++ (kw_X ct aX MX PX C V ++ kw_O ct qo o)) H := kr_swap hP
            have hD : va_D A (kw_M ct aM (nI 1) M Pl L1 C1 V1 kk_rc ++ (kw_X ct aX MX PX C V ++ kw_O ct qo o)) := kr_swapD hD
            refine kr_fi (wx := kw_M ct aM (nI 1) M Pl L1 C1 V1 kk_rc) (wr := kw_X ct aX MX PX C V ++ kw_O ct qo o) (va_runV (As := []) (rest := []) ⟨hx, hb, hml, hown, hts⟩ (km_thrown l D ct aM (nI 1) M Pl L1 C1 V1 kk_rc _) (cwV 0 hts gl_thrown rfl rfl rfl (by decide +kernel) ⟨Nat.le_of_ble_eq_true rfl, Nat.le_of_ble_eq_true rfl⟩) (kr_preV kw_Nok (q := (RX1, TX1, 7)) (q0 := 0) (ci := 1) _ (kr_left hP) hK (kr_leftD hD) trivial hS hA rfl rfl rfl) rfl rfl hl.1 rfl (lv_room (Nat.le_of_ble_eq_true rfl)) dL_law_509 ⟨by show _ ≤ 601024; omega, by show _ ≤ 7293034; omega⟩) hP hD hS hA (fun r _ H locs hq hP hD hS => ?_)
            obtain rfl : r = nI 1 := hq
            have hP : va_P D vwCl ((kw_X ct aX MX PX C V ++ kw_O ct qo o) ++ kw_M ct aM (nI 1) M Pl L1 C1 V1 kk_rc) H := kr_swap hP
            have hD : va_D A ((kw_X ct aX MX PX C V ++ kw_O ct qo o) ++ kw_M ct aM (nI 1) M Pl L1 C1 V1 kk_rc) := kr_swapD hD
            refine lv_iload hx hb dL_law_512 (lv_at hl 1 rfl) ?_
            refine kr_icmp_eq (tgt := 519) hx hb (by omega) (by omega) dL_law_514 rfl (fun hc => ?_) (fun hc => ?_)
            · clear hc
              refine lv_iload hx hb dL_law_519 (lv_at hl 1 rfl) ?_
              refine lv_if_ne (tgt := 535) hx hb dL_law_521 rfl (fun hc => ?_) (fun hc => ?_)
              · clear hc
                refine lv_goto (tgt := 538) hx hb dL_law_535 rfl ?_
                refine lv_iinc (k := 2) (v := nI ((5 * t) + 5)) hx hb dL_law_538 hl rfl (nI_add (5 * t) 5) (Nat.le_of_ble_eq_true rfl) rfl (fun ls hl => ?_)
                have hl : lv_has ls 8 [(4, .int (nI ((5 * t) + 5))), (6, .long r), (5, .int (nI 1)), (0, .ref b), (1, .ref (aX 0)), (2, .ref (aM 0)), (3, .ref qo)] := hl
                refine lv_goto (tgt := 23) hx hb dL_law_541 rfl ?_
                refine W.widen (k := 30 + (t + 1)) (n := 580 + 6 * (t + 1)) (by omega) (by omega) ?_
                exact ih (t + 1) MX M PX Pl C V o (nI 1) L1 C1 V1 H locs ls (by omega) (by omega) hM hPx hPl (lv_sub hl [0, 3, 4, 5, 6] rfl) hP hD hS
              · exact absurd hc km_ne1
            · exact absurd rfl hc
        · refine lv_tableOut (tgt := 538) hx hb dL_law_39 (by decide +kernel) rfl ?_
          refine lv_iinc (k := 0) (v := nI ((5 * t) + 5)) hx hb dL_law_538 hl rfl (nI_add (5 * t) 5) (Nat.le_of_ble_eq_true rfl) rfl (fun ls hl => ?_)
          have hl : lv_has ls 8 [(4, .int (nI ((5 * t) + 5))), (0, .ref b), (1, .ref (aX 0)), (2, .ref (aM 0)), (3, .ref qo)] := hl
          refine lv_goto (tgt := 23) hx hb dL_law_541 rfl ?_
          refine W.widen (k := 30 + (t + 1)) (n := 580 + 6 * (t + 1)) (by omega) (by omega) ?_
          exact ih (t + 1) MX M PX Pl C V o F L1 C1 V1 H locs ls (by omega) (by omega) hM hPx hPl (lv_sub hl [0, 1, 2, 3, 4] rfl) hP hD hS
  exact loop 514 0 (fun _ _ => 0) (fun _ _ => 0) (fun _ => 0) (fun _ => 0) (fun _ => 0) (fun _ => 0) (fun _ => 0) 0 (fun _ => 0) (fun _ => 0) (fun _ => 0) H locs ls (by omega) (by omega) (fun _ _ => rfl) (fun _ _ => rfl) (fun _ _ => by omega) hl hP hD hS
