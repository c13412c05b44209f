/-! KeccakLanesModel: taken; the public methods where they answer -/
theorem kk_bt1 : kk_bt (nI 1) = 1 := by decide +kernel
theorem kk_j135 (f : Nat → Int64) : vp_updL f 16 (f 16 ^^^ (-9223372036854775808)) = kk_join f 135 (kk_bt (nI 128)) := by
  unfold kk_join
  rw [show 135 / 8 = 16 from rfl, show (kk_bt (nI 128) <<< ((nI (8 * (135 % 8))).toInt64 &&& 63)) = -9223372036854775808 by decide +kernel]
set_option maxHeartbeats 4000000 in
set_option maxRecDepth 100000 in
theorem km_taken (l : Launch) (D : va_G) (ct : Nat → ClassId) (ad : Nat → Nat) (F : Int32) (M : Nat → Nat → Int64) (Pl : Nat → Nat) (L C V K : Nat → Int64) (sz : Nat) (f : Nat → Int64) {k q : Nat} (hk : k < 8) (hq0 : q < 136) (b : Int32) : Met l yX1_taken wsM_taken ({ frames := 2, cells := 0, slots := 0, locals := 47 }) (kr_P D vwCl (kw_T ct) kw_N [.ref (ad 0), .int (nI k), .int b] (kw_M ct ad F M (va_up Pl k q) f C V kk_rc) sz) (va_Qv (S := ((Nat → Int64) × (Nat → Int64))) (fun _ => True) (kr_B D vwCl (kw_T ct) (fun u => kw_M ct ad F M (va_up Pl k (kk_in (f, q) b).2) (kk_in (f, q) b).1 u.1 u.2 kk_rc) (va_A (kw_M ct ad F M (va_up Pl k q) f C V kk_rc) sz)) (va_A (kw_M ct ad F M (va_up Pl k q) f C V kk_rc) sz)) 0 0 (va_A (kw_M ct ad F M (va_up Pl k q) f C V kk_rc) sz) := by
  refine Met.ofW (cc := cX1_taken) (maxL := 4) (ret := none) (by decide) rfl ?_
  intro p e s m args below meth c s₁ B hml hv
  obtain ⟨rfl, hsz, hP, hK, hD0, hB⟩ := hv
  have hx := B.exec
  have hb := B.bytes
  have hr := B.returns
  have hts := atoms_spec (ws := wsM_taken) B.pre
  have hown : s.vm.findClass RX1 = some m.cls := findClass_of_methodNamed B.named
  have hlocks := B.notSynchronized
  have hin : ∀ w ∈ u_ws RX1 TX1 7, w ∈ wsM_taken := fun w h => List.mem_cons_of_mem _ (kM_in w h)
  subst hsz
  have hD := hD0.self (sz := s.heap.size)
  generalize hAe : va_A (kw_M ct ad F M (va_up Pl k q) f C V kk_rc) s.heap.size = A at hD hB ⊢
  have hA : ∀ q : Nat, s.heap.size ≤ q → A q := fun q h => by rw [← hAe]; exact Or.inr h
  have hS : va_S A s.heap s.heap [] := va_S.rf
  have hl := lv_entry ([.ref (ad 0), .int (nI k), .int b]) (n := 4) (Nat.le_of_ble_eq_true rfl)
  rw [lg_entry_eq]
  generalize (lg_sl ([.ref (ad 0), .int (nI k), .int b]) ++ List.replicate (4 - (lg_sl ([.ref (ad 0), .int (nI k), .int b])).length) Slot.unset).toArray = ls at hl ⊢
  have hl : lv_has ls 4 [(0, .ref (ad 0)), (1, .int (nI k)), (2, .int b)] := hl
  refine lv_aload_n hx hb dX1_taken_0 rfl (lv_at hl 0 rfl) ?_
  refine va_get hx hb hts hin hown hK hP 0 rfl rfl 2 (by decide) (hts (.fieldLink RX1 35 "KeccakLanesModel" "places" "[I") (by decide +kernel)) (fun _ h => h) rfl dX1_taken_1 ?_
  refine lv_iload_n hx hb dX1_taken_4 rfl (lv_at hl 1 rfl) ?_
  refine kr_iald hx hb hK hP 2 1 rfl rfl (n := k) (by omega) (by omega) dX1_taken_5 ?_
  rw [va_up_self]
  refine lv_istore_n hx hb dX1_taken_6 rfl hl (Nat.le_of_ble_eq_true rfl) rfl (fun ls hl => ?_)
  have hl : lv_has ls 4 [(3, .int (nI q)), (0, .ref (ad 0)), (1, .int (nI k)), (2, .int b)] := hl
  refine lv_aload_n hx hb dX1_taken_7 rfl (lv_at hl 1 rfl) ?_
  refine va_get hx hb hts hin hown hK hP 0 rfl rfl 3 (by decide) (hts (.fieldLink RX1 7 "KeccakLanesModel" "lanes" "[J") (by decide +kernel)) (fun _ h => h) rfl dX1_taken_8 ?_
  refine lv_iload_n hx hb dX1_taken_11 rfl (lv_at hl 0 rfl) ?_
  refine lv_bipush (v := nI 8) hx hb dX1_taken_12 (by decide +kernel) ?_
  refine kr_idiv hx hb (by omega) (by omega) (by omega) dX1_taken_14 ?_
  refine lv_dup2_11 hx hb dX1_taken_15 rfl rfl ?_
  refine kr_lald hx hb hK hP 3 2 rfl rfl (n := q / 8) (by omega) (by omega) dX1_taken_16 ?_
  refine lv_iload_n hx hb dX1_taken_17 rfl (lv_at hl 3 rfl) ?_
  refine lv_sipush (v := nI 255) hx hb dX1_taken_18 (by decide +kernel) ?_
  refine lv_iand hx hb dX1_taken_21 ?_
  refine lv_i2l hx hb dX1_taken_22 rfl ?_
  rw [kk_bt_n]
  refine lv_bipush (v := nI 8) hx hb dX1_taken_23 (by decide +kernel) ?_
  refine lv_iload_n hx hb dX1_taken_25 rfl (lv_at hl 0 rfl) ?_
  refine lv_bipush (v := nI 8) hx hb dX1_taken_26 (by decide +kernel) ?_
  refine kr_irem hx hb (by omega) (by omega) (by omega) dX1_taken_28 ?_
  refine kr_imul hx hb dX1_taken_29 ?_
  refine lv_lshl hx hb dX1_taken_30 rfl ?_
  refine lv_lxor hx hb dX1_taken_31 ?_
  refine kr_last (w := kw_M ct ad F M (va_up Pl k q) (vp_updL f (q / 8) ((f (q / 8)) ^^^ ((kk_bt b) <<< ((nI (8 * (q % 8))).toInt64 &&& 63)))) C V kk_rc) hx hb hK hP hD hS 3 2 rfl rfl (n := q / 8) (by omega) (by omega) rfl dX1_taken_32 (fun H locs hP hD hS => ?_)
  have hP : va_P D vwCl (kw_M ct ad F M (va_up Pl k q) (kk_join f q (kk_bt b)) C V kk_rc) H := hP
  have hD : va_D A (kw_M ct ad F M (va_up Pl k q) (kk_join f q (kk_bt b)) C V kk_rc) := hD
  refine lv_aload_n hx hb dX1_taken_33 rfl (lv_at hl 1 rfl) ?_
  refine va_get hx hb hts hin hown hK hP 0 rfl rfl 2 (by decide) (hts (.fieldLink RX1 35 "KeccakLanesModel" "places" "[I") (by decide +kernel)) (fun _ h => h) rfl dX1_taken_34 ?_
  refine lv_iload_n hx hb dX1_taken_37 rfl (lv_at hl 2 rfl) ?_
  refine lv_dup2_11 hx hb dX1_taken_38 rfl rfl ?_
  refine kr_iald hx hb hK hP 2 1 rfl rfl (n := k) (by omega) (by omega) dX1_taken_39 ?_
  rw [va_up_self]
  refine lv_iconst (v := nI 1) hx hb dX1_taken_40 rfl ?_
  refine kr_iadd hx hb dX1_taken_41 ?_
  refine kr_iast hx hb hK hP hD hS 2 1 rfl rfl (n := k) (by omega) (by omega) ((kw_MsP k (q + 1)).trans (by rw [bx_uu])) dX1_taken_42 (fun H locs hP hD hS => ?_)
  have hP : va_P D vwCl (kw_M ct ad F M (va_up Pl k (q + 1)) (kk_join f q (kk_bt b)) C V kk_rc) H := hP
  have hD : va_D A (kw_M ct ad F M (va_up Pl k (q + 1)) (kk_join f q (kk_bt b)) C V kk_rc) := hD
  refine lv_aload_n hx hb dX1_taken_43 rfl (lv_at hl 1 rfl) ?_
  refine va_get hx hb hts hin hown hK hP 0 rfl rfl 2 (by decide) (hts (.fieldLink RX1 35 "KeccakLanesModel" "places" "[I") (by decide +kernel)) (fun _ h => h) rfl dX1_taken_44 ?_
  refine lv_iload_n hx hb dX1_taken_47 rfl (lv_at hl 2 rfl) ?_
  refine kr_iald hx hb hK hP 2 1 rfl rfl (n := k) (by omega) (by omega) dX1_taken_48 ?_
  rw [va_up_self]
  refine lv_sipush (v := nI 136) hx hb dX1_taken_49 (by decide +kernel) ?_
  refine kr_icmp_ge (tgt := 56) hx hb (by omega) (by omega) dX1_taken_52 rfl (fun hc => ?_) (fun hc => ?_)
  · have e9 : kk_in (f, q) b = (kk_mix (kk_join f q (kk_bt b)), 0) := if_pos (show q + 1 = 136 by omega)
    refine lv_aload_n hx hb dX1_taken_56 rfl (lv_at hl 1 rfl) ?_
    refine kr_callv (va_runV (As := []) (rest := []) ⟨hx, hb, hml, hown, hts⟩ (km_permute l D ct ad F M (va_up Pl k (q + 1)) L C V K _ (kk_join f q (kk_bt b))) (cwV 0 hts gM_taken_permute rfl rfl rfl (by decide +kernel) ⟨Nat.le_of_ble_eq_true rfl, Nat.le_of_ble_eq_true rfl⟩) (kr_preV kw_Nok (q := (RX1, TX1, 7)) (q0 := 0) (ci := 1) _ hP hK hD hB hS hA rfl rfl rfl) rfl rfl hl.1 rfl (lv_room (Nat.le_of_ble_eq_true rfl)) dX1_taken_57 ⟨Nat.zero_le _, Nat.zero_le _⟩) hD hS hA (fun u H locs hq hP hD hS => ?_)
    have hP : va_P D vwCl (kw_M ct ad F M (va_up Pl k (q + 1)) (kk_mix (kk_join f q (kk_bt b))) u.1 u.2 kk_rc) H := hP
    have hD : va_D A (kw_M ct ad F M (va_up Pl k (q + 1)) (kk_mix (kk_join f q (kk_bt b))) u.1 u.2 kk_rc) := hD
    refine lv_aload_n hx hb dX1_taken_60 rfl (lv_at hl 1 rfl) ?_
    refine va_get hx hb hts hin hown hK hP 0 rfl rfl 2 (by decide) (hts (.fieldLink RX1 35 "KeccakLanesModel" "places" "[I") (by decide +kernel)) (fun _ h => h) rfl dX1_taken_61 ?_
    refine lv_iload_n hx hb dX1_taken_64 rfl (lv_at hl 2 rfl) ?_
    refine lv_iconst (v := nI 0) hx hb dX1_taken_65 rfl ?_
    refine kr_iast hx hb hK hP hD hS 2 1 rfl rfl (n := k) (by omega) (by omega) ((kw_MsP k 0).trans (by rw [bx_uu])) dX1_taken_66 (fun H locs hP hD hS => ?_)
    have hP : va_P D vwCl (kw_M ct ad F M (va_up Pl k 0) (kk_mix (kk_join f q (kk_bt b))) u.1 u.2 kk_rc) H := hP
    have hD : va_D A (kw_M ct ad F M (va_up Pl k 0) (kk_mix (kk_join f q (kk_bt b))) u.1 u.2 kk_rc) := hD
    refine W.vret hx hb hr (fun t ht hW => ⟨⟨u, rfl, trivial, ?_, va_K.moved hW.alike hK, ?_⟩, hS.F ht⟩) hS.2.2 dX1_taken_67
    · rw [ht]; show va_P D vwCl (kw_M ct ad F M (va_up Pl k (kk_in (f, q) b).2) (kk_in (f, q) b).1 u.1 u.2 kk_rc) H; rw [e9]; exact hP
    · show va_D A (kw_M ct ad F M (va_up Pl k (kk_in (f, q) b).2) (kk_in (f, q) b).1 u.1 u.2 kk_rc); rw [e9]; exact hD
  · have e9 : kk_in (f, q) b = (kk_join f q (kk_bt b), q + 1) := if_neg (show ¬ q + 1 = 136 by omega)
    refine W.vret hx hb hr (fun t ht hW => ⟨⟨(C, V), rfl, trivial, ?_, va_K.moved hW.alike hK, ?_⟩, hS.F ht⟩) hS.2.2 dX1_taken_55
    · rw [ht]; show va_P D vwCl (kw_M ct ad F M (va_up Pl k (kk_in (f, q) b).2) (kk_in (f, q) b).1 C V kk_rc) H; rw [e9]; exact hP
    · show va_D A (kw_M ct ad F M (va_up Pl k (kk_in (f, q) b).2) (kk_in (f, q) b).1 C V kk_rc); rw [e9]; exact hD
set_option maxHeartbeats 4000000 in
set_option maxRecDepth 100000 in
theorem km_clear (l : Launch) (D : va_G) (ct : Nat → ClassId) (ad : Nat → Nat) (F : Int32) (M : Nat → Nat → Int64) (Pl : Nat → Nat) (L C V K : Nat → Int64) (sz : Nat) {k : Nat} (hk : k < 8) : Met l yX1_clear wsM_clear ({ frames := 1, cells := 0, slots := 0, locals := 21 }) (kr_P D vwCl (kw_T ct) kw_N [.ref (ad 0), .int (nI k)] (kw_M ct ad F M Pl L C V kk_rc) sz) (va_Qv (S := Unit) (fun _ => True) (kr_B D vwCl (kw_T ct) (fun _ => kw_M ct ad (nI 0) (va_up M k (fun _ => 0)) (va_up Pl k 0) L C V kk_rc) (va_A (kw_M ct ad F M Pl L C V kk_rc) sz)) (va_A (kw_M ct ad F M Pl L C V kk_rc) sz)) 0 0 (va_A (kw_M ct ad F M Pl L C V kk_rc) sz) := by
  refine Met.ofW (cc := cX1_clear) (maxL := 3) (ret := none) (by decide) rfl ?_
  intro p e s m args below meth c s₁ B hml hv
  obtain ⟨rfl, hsz, hP, hK, hD0, hB⟩ := hv
  have hx := B.exec
  have hb := B.bytes
  have hr := B.returns
  have hts := atoms_spec (ws := wsM_clear) B.pre
  have hown : s.vm.findClass RX1 = some m.cls := findClass_of_methodNamed B.named
  have hlocks := B.notSynchronized
  have hin : ∀ w ∈ u_ws RX1 TX1 7, w ∈ wsM_clear := fun w h => List.mem_cons_of_mem _ (kM_in w h)
  subst hsz
  have hD := hD0.self (sz := s.heap.size)
  generalize hAe : va_A (kw_M ct ad F M Pl L C V kk_rc) s.heap.size = A at hD hB ⊢
  have hA : ∀ q : Nat, s.heap.size ≤ q → A q := fun q h => by rw [← hAe]; exact Or.inr h
  have hS : va_S A s.heap s.heap [] := va_S.rf
  have hl := lv_entry ([.ref (ad 0), .int (nI k)]) (n := 3) (Nat.le_of_ble_eq_true rfl)
  rw [lg_entry_eq]
  generalize (lg_sl ([.ref (ad 0), .int (nI k)]) ++ List.replicate (3 - (lg_sl ([.ref (ad 0), .int (nI k)])).length) Slot.unset).toArray = ls at hl ⊢
  have hl : lv_has ls 3 [(0, .ref (ad 0)), (1, .int (nI k))] := hl
  refine lv_aload_n hx hb dX1_clear_0 rfl (lv_at hl 0 rfl) ?_
  refine lv_iconst (v := nI 0) hx hb dX1_clear_1 rfl ?_
  refine va_put (ci := 1) (v := .int (nI 0)) (ty := .int) (C := RX1) (T := TX1) (N := 7) hx hb hts hin tyX1 tyX1_ok nmX1 hown hK hP hD hS 0 rfl rfl 0 (by decide) (hts (.fieldLink RX1 43 "KeccakLanesModel" "failed" "I") (by decide +kernel)) (fun _ h9 => h9) rfl (by decide +kernel) rfl rfl (Nat.le_of_ble_eq_true rfl) dX1_clear_2 (fun H locs hP hD hS => ?_)
  have hP : va_P D vwCl (kw_M ct ad (nI 0) M Pl L C V kk_rc) H := hP
  have hD : va_D A (kw_M ct ad (nI 0) M Pl L C V kk_rc) := hD
  refine lv_aload_n hx hb dX1_clear_5 rfl (lv_at hl 0 rfl) ?_
  refine lv_iload_n hx hb dX1_clear_6 rfl (lv_at hl 1 rfl) ?_
  refine kr_calli (va_runV (As := [.int (nI k)]) (rest := []) ⟨hx, hb, hml, hown, hts⟩ (km_out l D ct ad (nI 0) M Pl L C V kk_rc _ (a := k) (by omega)) (cwV 1 hts gM_clear_out rfl rfl rfl (by decide +kernel) ⟨Nat.le_of_ble_eq_true rfl, Nat.le_of_ble_eq_true rfl⟩) (kr_preV kw_Nok (q := (RX1, TX1, 7)) (q0 := 0) (ci := 1) _ hP hK hD hB hS hA rfl rfl rfl) rfl rfl hl.1 rfl (lv_room (Nat.le_of_ble_eq_true rfl)) dX1_clear_7 ⟨Nat.zero_le _, Nat.zero_le _⟩) hD hS hA (fun r u H locs hq hP hD hS => ?_)
  obtain rfl : r = nI 0 := hq
  have hP : va_P D vwCl (kw_M ct ad (nI 0) M Pl L C V kk_rc) H := hP
  have hD : va_D A (kw_M ct ad (nI 0) M Pl L C V kk_rc) := hD
  refine lv_if_eq (tgt := 21) hx hb dX1_clear_10 rfl (fun hc => ?_) (fun hc => ?_)
  · clear hc
    refine lv_iconst (v := nI 0) hx hb dX1_clear_21 rfl ?_
    refine lv_istore_n hx hb dX1_clear_22 rfl hl (Nat.le_of_ble_eq_true rfl) rfl (fun ls hl => ?_)
    have hl : lv_has ls 3 [(2, .int (nI 0)), (0, .ref (ad 0)), (1, .int (nI k))] := hl
    have loop : ∀ (Q : State → Prop), (∀ (g : Nat → Int64) (H : Heap) (locs : List Loc) (ls : Array Slot), (∀ u, u < 25 → g u = 0) → lv_has ls 3 [(2, .int (nI 25)), (0, .ref (ad 0)), (1, .int (nI k))] → va_P D vwCl (kw_M ct ad (nI 0) (va_up M k g) Pl L C V kk_rc) H → va_D A (kw_M ct ad (nI 0) (va_up M k g) Pl L C V kk_rc) → va_S A s.heap H locs → W p l e (headSpec wsM_clear ({ frames := 1, cells := 0, slots := 0, locals := 21 })).room s m (([.ref (ad 0), .int (nI k)] : List Value).toArray) below meth c H locs 0 0 Q (F0 m 44 ls [])) → ∀ (n i : Nat) (g : Nat → Int64) (H : Heap) (locs : List Loc) (ls : Array Slot), 25 - i < n → i ≤ 25 → (∀ u, u < i → g u = 0) → lv_has ls 3 [(2, .int (nI i)), (0, .ref (ad 0)), (1, .int (nI k))] → va_P D vwCl (kw_M ct ad (nI 0) (va_up M k g) Pl L C V kk_rc) H → va_D A (kw_M ct ad (nI 0) (va_up M k g) Pl L C V kk_rc) → va_S A s.heap H locs → W p l e (headSpec wsM_clear ({ frames := 1, cells := 0, slots := 0, locals := 21 })).room s m (([.ref (ad 0), .int (nI k)] : List Value).toArray) below meth c H locs 0 0 Q (F0 m 23 ls []) := by
      intro Q hend n
      induction n with
      | zero => intro i g H locs ls h; omega
      | succ n ih =>
        intro i g H locs ls hn hi hinv hl hP hD hS
        refine lv_iload_n hx hb dX1_clear_23 rfl (lv_at hl 0 rfl) ?_
        refine lv_bipush (v := nI 25) hx hb dX1_clear_24 (by decide +kernel) ?_
        refine kr_icmp_ge (tgt := 44) hx hb (by omega) (by omega) dX1_clear_26 rfl (fun hc => ?_) (fun hc => ?_)
        · obtain rfl : i = 25 := by omega
          exact hend g H locs ls hinv hl hP hD hS
        · have hi25 : i < 25 := by omega
          refine lv_aload_n hx hb dX1_clear_29 rfl (lv_at hl 1 rfl) ?_
          refine va_get hx hb hts hin hown hK hP 0 rfl rfl 1 (by decide) (hts (.fieldLink RX1 32 "KeccakLanesModel" "states" "[[J") (by decide +kernel)) (fun _ h => h) rfl dX1_clear_30 ?_
          refine lv_iload_n hx hb dX1_clear_33 rfl (lv_at hl 2 rfl) ?_
          refine kr_aald hx hb hK hP 1 0 rfl rfl (n := k) (y := ad (7 + k)) (by omega) (by omega) (if_pos (by omega)) dX1_clear_34 ?_
          refine lv_iload_n hx hb dX1_clear_35 rfl (lv_at hl 0 rfl) ?_
          refine lv_lconst (v := 0) hx hb dX1_clear_36 rfl ?_
          refine kr_last (w := kw_M ct ad (nI 0) (va_up M k (vp_updL g i 0)) Pl L C V kk_rc) hx hb hK hP hD hS (7 + k) 2 (kw_Mrg hk) rfl (n := i) (by omega) (by omega) (kw_Msg hk _) dX1_clear_37 (fun H locs hP hD hS => ?_)
          refine lv_iinc (k := 0) (v := nI (i + 1)) hx hb dX1_clear_38 hl rfl (nI_add i 1) (Nat.le_of_ble_eq_true rfl) rfl (fun ls hl => ?_)
          have hl : lv_has ls 3 [(2, .int (nI (i + 1))), (0, .ref (ad 0)), (1, .int (nI k))] := hl
          refine lv_goto (tgt := 23) hx hb dX1_clear_41 rfl ?_
          refine ih (i + 1) _ H locs ls (by omega) (by omega) (fun u hu => ?_) hl hP hD hS
          by_cases e9 : u = i
          · subst e9; rw [pk_uLs]
          · rw [pk_uLn e9]; exact hinv u (by omega)
    have hP : va_P D vwCl (kw_M ct ad (nI 0) (va_up M k (M k)) Pl L C V kk_rc) H := by rw [kw_self]; exact hP
    have hD : va_D A (kw_M ct ad (nI 0) (va_up M k (M k)) Pl L C V kk_rc) := by rw [kw_self]; exact hD
    refine loop _ (fun g H locs ls hinv hl hP hD hS => ?_) 26 0 (M k) H locs ls (by omega) (by omega) (fun u hu => absurd hu (by omega)) hl hP hD hS
    have hP : va_P D vwCl (kw_M ct ad (nI 0) (va_up M k (fun _ => 0)) Pl L C V kk_rc) H := kr_sameL (q0 := 7 + k) hP (kw_Mrg hk) hinv (kw_Msg hk _)
    have hD : va_D A (kw_M ct ad (nI 0) (va_up M k (fun _ => 0)) Pl L C V kk_rc) := kr_sameD (q0 := 7 + k) hD (kw_Mrg hk) (kw_Msg hk _)
    refine lv_aload_n hx hb dX1_clear_44 rfl (lv_at hl 1 rfl) ?_
    refine va_get hx hb hts hin hown hK hP 0 rfl rfl 2 (by decide) (hts (.fieldLink RX1 35 "KeccakLanesModel" "places" "[I") (by decide +kernel)) (fun _ h => h) rfl dX1_clear_45 ?_
    refine lv_iload_n hx hb dX1_clear_48 rfl (lv_at hl 2 rfl) ?_
    refine lv_iconst (v := nI 0) hx hb dX1_clear_49 rfl ?_
    refine kr_iast hx hb hK hP hD hS 2 1 rfl rfl (n := k) (by omega) (by omega) (kw_MsP k 0) dX1_clear_50 (fun H locs hP hD hS => ?_)
    exact W.vret hx hb hr (fun t ht hW => ⟨⟨(), rfl, trivial, by rw [ht]; exact hP, va_K.moved hW.alike hK, hD⟩, hS.F ht⟩) hS.2.2 dX1_clear_51
  · exact absurd rfl hc
set_option maxHeartbeats 4000000 in
set_option maxRecDepth 100000 in
theorem km_take (l : Launch) (D : va_G) (ct : Nat → ClassId) (ad : Nat → Nat) (F : Int32) (M : Nat → Nat → Int64) (Pl : Nat → Nat) (L C V K : Nat → Int64) (sz : Nat) {k n : Nat} (hk : k < 8) (hn8 : n ≤ 8) (hq0 : (M k, Pl k).2 < 136) (v : Int64) : Met l yX1_take wsM_take ({ frames := 3, cells := 0, slots := 0, locals := 70 }) (kr_P D vwCl (kw_T ct) kw_N [.ref (ad 0), .int (nI k), .long v, .int (nI n)] (kw_M ct ad F M Pl L C V kk_rc) sz) (va_Qi (S := ((Nat → Int64) × (Nat → Int64))) (fun r _ => r = nI (kk_ins (M k, Pl k) (kk_tb v) n).2) (kr_B D vwCl (kw_T ct) (fun u => kw_M ct ad (nI 0) (va_up M k (kk_ins (M k, Pl k) (kk_tb v) n).1) (va_up Pl k (kk_ins (M k, Pl k) (kk_tb v) n).2) (kk_ins (M k, Pl k) (kk_tb v) n).1 u.1 u.2 kk_rc) (va_A (kw_M ct ad F M Pl L C V kk_rc) sz)) (va_A (kw_M ct ad F M Pl L C V kk_rc) sz)) 0 0 (va_A (kw_M ct ad F M Pl L C V kk_rc) sz) := by
  refine Met.ofW (cc := cX1_take) (maxL := 6) (ret := (some .int)) (by decide) rfl ?_
  intro p e s m args below meth c s₁ B hml hv
  obtain ⟨rfl, hsz, hP, hK, hD0, hB⟩ := hv
  have hx := B.exec
  have hb := B.bytes
  have hr := B.returns
  have hts := atoms_spec (ws := wsM_take) B.pre
  have hown : s.vm.findClass RX1 = some m.cls := findClass_of_methodNamed B.named
  have hlocks := B.notSynchronized
  have hin : ∀ w ∈ u_ws RX1 TX1 7, w ∈ wsM_take := fun w h => List.mem_cons_of_mem _ (kM_in w h)
  subst hsz
  have hD := hD0.self (sz := s.heap.size)
  generalize hAe : va_A (kw_M ct ad F M Pl L C V kk_rc) s.heap.size = A at hD hB ⊢
  have hA : ∀ q : Nat, s.heap.size ≤ q → A q := fun q h => by rw [← hAe]; exact Or.inr h
  have hS : va_S A s.heap s.heap [] := va_S.rf
  have hl := lv_entry ([.ref (ad 0), .int (nI k), .long v, .int (nI n)]) (n := 6) (Nat.le_of_ble_eq_true rfl)
  rw [lg_entry_eq]
  generalize (lg_sl ([.ref (ad 0), .int (nI k), .long v, .int (nI n)]) ++ List.replicate (6 - (lg_sl ([.ref (ad 0), .int (nI k), .long v, .int (nI n)])).length) Slot.unset).toArray = ls at hl ⊢
  have hl : lv_has ls 6 [(0, .ref (ad 0)), (1, .int (nI k)), (2, .long v), (4, .int (nI n))] := hl
  refine lv_aload_n hx hb dX1_take_0 rfl (lv_at hl 0 rfl) ?_
  refine lv_iconst (v := nI 0) hx hb dX1_take_1 rfl ?_
  refine va_put (ci := 1) (v := .int (nI 0)) (ty := .int) (C := RX1) (T := TX1) (N := 7) hx hb hts hin tyX1 tyX1_ok nmX1 hown hK hP hD hS 0 rfl rfl 0 (by decide) (hts (.fieldLink RX1 43 "KeccakLanesModel" "failed" "I") (by decide +kernel)) (fun _ h9 => h9) rfl (by decide +kernel) rfl rfl (Nat.le_of_ble_eq_true rfl) dX1_take_2 (fun H locs hP hD hS => ?_)
  have hP : va_P D vwCl (kw_M ct ad (nI 0) M Pl L C V kk_rc) H := hP
  have hD : va_D A (kw_M ct ad (nI 0) M Pl L C V kk_rc) := hD
  refine lv_aload_n hx hb dX1_take_5 rfl (lv_at hl 0 rfl) ?_
  refine lv_iload_n hx hb dX1_take_6 rfl (lv_at hl 1 rfl) ?_
  refine kr_calli (va_runV (As := [.int (nI k)]) (rest := []) ⟨hx, hb, hml, hown, hts⟩ (km_out l D ct ad (nI 0) M Pl L C V kk_rc _ (a := k) (by omega)) (cwV 1 hts gM_take_out rfl rfl rfl (by decide +kernel) ⟨Nat.le_of_ble_eq_true rfl, Nat.le_of_ble_eq_true rfl⟩) (kr_preV kw_Nok (q := (RX1, TX1, 7)) (q0 := 0) (ci := 1) _ hP hK hD hB hS hA rfl rfl rfl) rfl rfl hl.1 rfl (lv_room (Nat.le_of_ble_eq_true rfl)) dX1_take_7 ⟨Nat.zero_le _, Nat.zero_le _⟩) hD hS hA (fun r u H locs hq hP hD hS => ?_)
  obtain rfl : r = nI 0 := hq
  have hP : va_P D vwCl (kw_M ct ad (nI 0) M Pl L C V kk_rc) H := hP
  have hD : va_D A (kw_M ct ad (nI 0) M Pl L C V kk_rc) := hD
  refine lv_if_ne (tgt := 25) hx hb dX1_take_10 rfl (fun hc => ?_) (fun hc => ?_)
  · exact absurd rfl hc
  · clear hc
    refine lv_iload hx hb dX1_take_13 (lv_at hl 3 rfl) ?_
    refine lv_if_lt (tgt := 25) hx hb dX1_take_15 rfl (fun hc => ?_) (fun hc => ?_)
    · exact absurd hc (nI_pos (by omega))
    · clear hc
      refine lv_iload hx hb dX1_take_18 (lv_at hl 3 rfl) ?_
      refine lv_bipush (v := nI 8) hx hb dX1_take_20 (by decide +kernel) ?_
      refine kr_icmp_le (tgt := 31) hx hb (by omega) (by omega) dX1_take_22 rfl (fun hc => ?_) (fun hc => ?_)
      · clear hc
        refine lv_aload_n hx hb dX1_take_31 rfl (lv_at hl 0 rfl) ?_
        refine lv_iload_n hx hb dX1_take_32 rfl (lv_at hl 1 rfl) ?_
        refine kr_callv (va_runV (As := [.int (nI k)]) (rest := []) ⟨hx, hb, hml, hown, hts⟩ (km_get l D ct ad (nI 0) M Pl L C V kk_rc _ hk) (cwV 1 hts gM_take_get rfl rfl rfl (by decide +kernel) ⟨Nat.le_of_ble_eq_true rfl, Nat.le_of_ble_eq_true rfl⟩) (kr_preV kw_Nok (q := (RX1, TX1, 7)) (q0 := 0) (ci := 1) _ hP hK hD hB hS hA rfl rfl rfl) rfl rfl hl.1 rfl (lv_room (Nat.le_of_ble_eq_true rfl)) dX1_take_33 ⟨Nat.zero_le _, Nat.zero_le _⟩) hD hS hA (fun u H locs hq hP hD hS => ?_)
        have hP : va_P D vwCl (kw_M ct ad (nI 0) M Pl (M k) C V kk_rc) H := hP
        have hD : va_D A (kw_M ct ad (nI 0) M Pl (M k) C V kk_rc) := hD
        refine lv_iconst (v := nI 0) hx hb dX1_take_36 rfl ?_
        refine lv_istore hx hb dX1_take_37 hl (Nat.le_of_ble_eq_true rfl) rfl (fun ls hl => ?_)
        have hl : lv_has ls 6 [(5, .int (nI 0)), (0, .ref (ad 0)), (1, .int (nI k)), (2, .long v), (4, .int (nI n))] := hl
        have hl : lv_has ls 6 [(5, .int (nI 0)), (0, .ref (ad 0)), (1, .int (nI k)), (2, .long v), (4, .int (nI n))] := lv_sub hl [0, 1, 2, 3, 4] rfl
        have loop : ∀ (Q : State → Prop), (∀ (C V : Nat → Int64) (H : Heap) (locs : List Loc) (ls : Array Slot), lv_has ls 6 [(5, .int (nI n)), (0, .ref (ad 0)), (1, .int (nI k)), (2, .long v), (4, .int (nI n))] → va_P D vwCl (kw_M ct ad (nI 0) M (va_up Pl k (kk_ins (M k, Pl k) (kk_tb v) n).2) (kk_ins (M k, Pl k) (kk_tb v) n).1 C V kk_rc) H → va_D A (kw_M ct ad (nI 0) M (va_up Pl k (kk_ins (M k, Pl k) (kk_tb v) n).2) (kk_ins (M k, Pl k) (kk_tb v) n).1 C V kk_rc) → va_S A s.heap H locs → W p l e (headSpec wsM_take ({ frames := 3, cells := 0, slots := 0, locals := 70 })).room s m (([.ref (ad 0), .int (nI k), .long v, .int (nI n)] : List Value).toArray) below meth c H locs 0 0 Q (F0 m 65 ls [])) → ∀ (f i : Nat) (C V : Nat → Int64) (H : Heap) (locs : List Loc) (ls : Array Slot), n - i < f → i ≤ n → lv_has ls 6 [(5, .int (nI i)), (0, .ref (ad 0)), (1, .int (nI k)), (2, .long v), (4, .int (nI n))] → va_P D vwCl (kw_M ct ad (nI 0) M (va_up Pl k (kk_ins (M k, Pl k) (kk_tb v) i).2) (kk_ins (M k, Pl k) (kk_tb v) i).1 C V kk_rc) H → va_D A (kw_M ct ad (nI 0) M (va_up Pl k (kk_ins (M k, Pl k) (kk_tb v) i).2) (kk_ins (M k, Pl k) (kk_tb v) i).1 C V kk_rc) → va_S A s.heap H locs → W p l e (headSpec wsM_take ({ frames := 3, cells := 0, slots := 0, locals := 70 })).room s m (([.ref (ad 0), .int (nI k), .long v, .int (nI n)] : List Value).toArray) below meth c H locs 0 0 Q (F0 m 39 ls []) := by
          intro Q hend f
          induction f with
          | zero => intro i C V H locs ls h; omega
          | succ f ih =>
            intro i C V H locs ls hn hi hl hP hD hS
            refine lv_iload hx hb dX1_take_39 (lv_at hl 0 rfl) ?_
            refine lv_iload hx hb dX1_take_41 (lv_at hl 4 rfl) ?_
            refine kr_icmp_ge (tgt := 65) hx hb (by omega) (by omega) dX1_take_43 rfl (fun hc => ?_) (fun hc => ?_)
            · obtain rfl : i = n := by omega
              exact hend C V H locs ls hl hP hD hS
            · have hin2 : i < n := by omega
              refine lv_aload_n hx hb dX1_take_46 rfl (lv_at hl 1 rfl) ?_
              refine lv_iload_n hx hb dX1_take_47 rfl (lv_at hl 2 rfl) ?_
              refine lv_lload_n hx hb dX1_take_48 rfl (lv_at hl 3 rfl) ?_
              refine lv_bipush (v := nI 8) hx hb dX1_take_49 (by decide +kernel) ?_
              refine lv_iload hx hb dX1_take_51 (lv_at hl 0 rfl) ?_
              refine kr_imul hx hb dX1_take_53 ?_
              refine lv_lushr hx hb dX1_take_54 rfl ?_
              refine lv_l2i hx hb dX1_take_55 rfl ?_
              refine kr_callv (va_runV (As := [.int (nI k), .int (((v.toUInt64 >>> ((nI (8 * i)).toInt64.toUInt64 &&& Int64.toUInt64 63)).toInt64).toInt32)]) (rest := []) ⟨hx, hb, hml, hown, hts⟩ (km_taken l D ct ad (nI 0) M Pl L C V kk_rc _ (kk_ins (M k, Pl k) (kk_tb v) i).1 (q := (kk_ins (M k, Pl k) (kk_tb v) i).2) hk (kk_ins_lt hq0 i) ((kk_tb v) i)) (cwV 2 hts gM_take_taken rfl rfl rfl (by decide +kernel) ⟨Nat.le_of_ble_eq_true rfl, Nat.le_of_ble_eq_true rfl⟩) (kr_preV kw_Nok (q := (RX1, TX1, 7)) (q0 := 0) (ci := 1) _ hP hK hD hB hS hA rfl rfl rfl) rfl rfl hl.1 rfl (lv_room (Nat.le_of_ble_eq_true rfl)) dX1_take_56 ⟨Nat.zero_le _, Nat.zero_le _⟩) hD hS hA (fun u H locs hq hP hD hS => ?_)
              have hP : va_P D vwCl (kw_M ct ad (nI 0) M (va_up Pl k ((kk_ins (M k, Pl k) (kk_tb v) (i + 1)).2)) ((kk_ins (M k, Pl k) (kk_tb v) (i + 1)).1) u.1 u.2 kk_rc) H := hP
              have hD : va_D A (kw_M ct ad (nI 0) M (va_up Pl k ((kk_ins (M k, Pl k) (kk_tb v) (i + 1)).2)) ((kk_ins (M k, Pl k) (kk_tb v) (i + 1)).1) u.1 u.2 kk_rc) := hD
              refine lv_iinc (k := 0) (v := nI (i + 1)) hx hb dX1_take_59 hl rfl (nI_add i 1) (Nat.le_of_ble_eq_true rfl) rfl (fun ls hl => ?_)
              have hl : lv_has ls 6 [(5, .int (nI (i + 1))), (0, .ref (ad 0)), (1, .int (nI k)), (2, .long v), (4, .int (nI n))] := hl
              refine lv_goto (tgt := 39) hx hb dX1_take_62 rfl ?_
              exact ih (i + 1) u.1 u.2 H locs ls (by omega) (by omega) hl hP hD hS
        have hP : va_P D vwCl (kw_M ct ad (nI 0) M (va_up Pl k (kk_ins (M k, Pl k) (kk_tb v) 0).2) (kk_ins (M k, Pl k) (kk_tb v) 0).1 C V kk_rc) H := by show va_P D vwCl (kw_M ct ad (nI 0) M (va_up Pl k (Pl k)) (M k) C V kk_rc) H; rw [kw_self]; exact hP
        have hD : va_D A (kw_M ct ad (nI 0) M (va_up Pl k (kk_ins (M k, Pl k) (kk_tb v) 0).2) (kk_ins (M k, Pl k) (kk_tb v) 0).1 C V kk_rc) := by show va_D A (kw_M ct ad (nI 0) M (va_up Pl k (Pl k)) (M k) C V kk_rc); rw [kw_self]; exact hD
        refine loop _ (fun C V H locs ls hl hP hD hS => ?_) (n + 1) 0 C V H locs ls (by omega) (by omega) hl hP hD hS
        refine lv_aload_n hx hb dX1_take_65 rfl (lv_at hl 1 rfl) ?_
        refine lv_iload_n hx hb dX1_take_66 rfl (lv_at hl 2 rfl) ?_
        refine kr_callv (va_runV (As := [.int (nI k)]) (rest := []) ⟨hx, hb, hml, hown, hts⟩ (km_put l D ct ad (nI 0) M (va_up Pl k (kk_ins (M k, Pl k) (kk_tb v) n).2) (kk_ins (M k, Pl k) (kk_tb v) n).1 C V kk_rc _ hk) (cwV 1 hts gM_take_put rfl rfl rfl (by decide +kernel) ⟨Nat.le_of_ble_eq_true rfl, Nat.le_of_ble_eq_true rfl⟩) (kr_preV kw_Nok (q := (RX1, TX1, 7)) (q0 := 0) (ci := 1) _ hP hK hD hB hS hA rfl rfl rfl) rfl rfl hl.1 rfl (lv_room (Nat.le_of_ble_eq_true rfl)) dX1_take_67 ⟨Nat.zero_le _, Nat.zero_le _⟩) hD hS hA (fun u H locs hq hP hD hS => ?_)
        have hP : va_P D vwCl (kw_M ct ad (nI 0) (va_up M k ((kk_ins (M k, Pl k) (kk_tb v) n).1)) (va_up Pl k ((kk_ins (M k, Pl k) (kk_tb v) n).2)) ((kk_ins (M k, Pl k) (kk_tb v) n).1) C V kk_rc) H := hP
        have hD : va_D A (kw_M ct ad (nI 0) (va_up M k ((kk_ins (M k, Pl k) (kk_tb v) n).1)) (va_up Pl k ((kk_ins (M k, Pl k) (kk_tb v) n).2)) ((kk_ins (M k, Pl k) (kk_tb v) n).1) C V kk_rc) := hD
        refine lv_aload_n hx hb dX1_take_70 rfl (lv_at hl 1 rfl) ?_
        refine va_get hx hb hts hin hown hK hP 0 rfl rfl 2 (by decide) (hts (.fieldLink RX1 35 "KeccakLanesModel" "places" "[I") (by decide +kernel)) (fun _ h => h) rfl dX1_take_71 ?_
        refine lv_iload_n hx hb dX1_take_74 rfl (lv_at hl 2 rfl) ?_
        refine kr_iald hx hb hK hP 2 1 rfl rfl (n := k) (by omega) (by omega) dX1_take_75 ?_
        rw [va_up_self]
        exact W.iret hx hb hr (fun t ht hW => ⟨⟨_, (C, V), rfl, rfl, by rw [ht]; exact hP, va_K.moved hW.alike hK, hD⟩, hS.F ht⟩) hS.2.2 dX1_take_76
      · omega
set_option maxHeartbeats 4000000 in
set_option maxRecDepth 100000 in
theorem km_fill (l : Launch) (D : va_G) (ct : Nat → ClassId) (ad : Nat → Nat) (F : Int32) (M : Nat → Nat → Int64) (Pl : Nat → Nat) (L C V K : Nat → Int64) (sz : Nat) {k n : Nat} (hk : k < 8) (hn8 : n ≤ 2000) (hq0 : (M k, Pl k).2 < 136) (v t : Int32) : Met l yX1_fill wsM_fill ({ frames := 3, cells := 0, slots := 0, locals := 70 }) (kr_P D vwCl (kw_T ct) kw_N [.ref (ad 0), .int (nI k), .int v, .int t, .int (nI n)] (kw_M ct ad F M Pl L C V kk_rc) sz) (va_Qi (S := ((Nat → Int64) × (Nat → Int64))) (fun r _ => r = nI (kk_ins (M k, Pl k) (kk_fb v t) n).2) (kr_B D vwCl (kw_T ct) (fun u => kw_M ct ad (nI 0) (va_up M k (kk_ins (M k, Pl k) (kk_fb v t) n).1) (va_up Pl k (kk_ins (M k, Pl k) (kk_fb v t) n).2) (kk_ins (M k, Pl k) (kk_fb v t) n).1 u.1 u.2 kk_rc) (va_A (kw_M ct ad F M Pl L C V kk_rc) sz)) (va_A (kw_M ct ad F M Pl L C V kk_rc) sz)) 0 0 (va_A (kw_M ct ad F M Pl L C V kk_rc) sz) := by
  refine Met.ofW (cc := cX1_fill) (maxL := 6) (ret := (some .int)) (by decide) rfl ?_
  intro p e s m args below meth c s₁ B hml hv
  obtain ⟨rfl, hsz, hP, hK, hD0, hB⟩ := hv
  have hx := B.exec
  have hb := B.bytes
  have hr := B.returns
  have hts := atoms_spec (ws := wsM_fill) B.pre
  have hown : s.vm.findClass RX1 = some m.cls := findClass_of_methodNamed B.named
  have hlocks := B.notSynchronized
  have hin : ∀ w ∈ u_ws RX1 TX1 7, w ∈ wsM_fill := fun w h => List.mem_cons_of_mem _ (kM_in w h)
  subst hsz
  have hD := hD0.self (sz := s.heap.size)
  generalize hAe : va_A (kw_M ct ad F M Pl L C V kk_rc) s.heap.size = A at hD hB ⊢
  have hA : ∀ q : Nat, s.heap.size ≤ q → A q := fun q h => by rw [← hAe]; exact Or.inr h
  have hS : va_S A s.heap s.heap [] := va_S.rf
  have hl := lv_entry ([.ref (ad 0), .int (nI k), .int v, .int t, .int (nI n)]) (n := 6) (Nat.le_of_ble_eq_true rfl)
  rw [lg_entry_eq]
  generalize (lg_sl ([.ref (ad 0), .int (nI k), .int v, .int t, .int (nI n)]) ++ List.replicate (6 - (lg_sl ([.ref (ad 0), .int (nI k), .int v, .int t, .int (nI n)])).length) Slot.unset).toArray = ls at hl ⊢
  have hl : lv_has ls 6 [(0, .ref (ad 0)), (1, .int (nI k)), (2, .int v), (3, .int t), (4, .int (nI n))] := hl
  refine lv_aload_n hx hb dX1_fill_0 rfl (lv_at hl 0 rfl) ?_
  refine lv_iconst (v := nI 0) hx hb dX1_fill_1 rfl ?_
  refine va_put (ci := 1) (v := .int (nI 0)) (ty := .int) (C := RX1) (T := TX1) (N := 7) hx hb hts hin tyX1 tyX1_ok nmX1 hown hK hP hD hS 0 rfl rfl 0 (by decide) (hts (.fieldLink RX1 43 "KeccakLanesModel" "failed" "I") (by decide +kernel)) (fun _ h9 => h9) rfl (by decide +kernel) rfl rfl (Nat.le_of_ble_eq_true rfl) dX1_fill_2 (fun H locs hP hD hS => ?_)
  have hP : va_P D vwCl (kw_M ct ad (nI 0) M Pl L C V kk_rc) H := hP
  have hD : va_D A (kw_M ct ad (nI 0) M Pl L C V kk_rc) := hD
  refine lv_aload_n hx hb dX1_fill_5 rfl (lv_at hl 0 rfl) ?_
  refine lv_iload_n hx hb dX1_fill_6 rfl (lv_at hl 1 rfl) ?_
  refine kr_calli (va_runV (As := [.int (nI k)]) (rest := []) ⟨hx, hb, hml, hown, hts⟩ (km_out l D ct ad (nI 0) M Pl L C V kk_rc _ (a := k) (by omega)) (cwV 1 hts gM_fill_out rfl rfl rfl (by decide +kernel) ⟨Nat.le_of_ble_eq_true rfl, Nat.le_of_ble_eq_true rfl⟩) (kr_preV kw_Nok (q := (RX1, TX1, 7)) (q0 := 0) (ci := 1) _ hP hK hD hB hS hA rfl rfl rfl) rfl rfl hl.1 rfl (lv_room (Nat.le_of_ble_eq_true rfl)) dX1_fill_7 ⟨Nat.zero_le _, Nat.zero_le _⟩) hD hS hA (fun r u H locs hq hP hD hS => ?_)
  obtain rfl : r = nI 0 := hq
  have hP : va_P D vwCl (kw_M ct ad (nI 0) M Pl L C V kk_rc) H := hP
  have hD : va_D A (kw_M ct ad (nI 0) M Pl L C V kk_rc) := hD
  refine lv_if_ne (tgt := 26) hx hb dX1_fill_10 rfl (fun hc => ?_) (fun hc => ?_)
  · exact absurd rfl hc
  · clear hc
    refine lv_iload hx hb dX1_fill_13 (lv_at hl 4 rfl) ?_
    refine lv_if_lt (tgt := 26) hx hb dX1_fill_15 rfl (fun hc => ?_) (fun hc => ?_)
    · exact absurd hc (nI_pos (by omega))
    · clear hc
      refine lv_iload hx hb dX1_fill_18 (lv_at hl 4 rfl) ?_
      refine lv_sipush (v := nI 2000) hx hb dX1_fill_20 (by decide +kernel) ?_
      refine kr_icmp_le (tgt := 32) hx hb (by omega) (by omega) dX1_fill_23 rfl (fun hc => ?_) (fun hc => ?_)
      · clear hc
        refine lv_aload_n hx hb dX1_fill_32 rfl (lv_at hl 0 rfl) ?_
        refine lv_iload_n hx hb dX1_fill_33 rfl (lv_at hl 1 rfl) ?_
        refine kr_callv (va_runV (As := [.int (nI k)]) (rest := []) ⟨hx, hb, hml, hown, hts⟩ (km_get l D ct ad (nI 0) M Pl L C V kk_rc _ hk) (cwV 1 hts gM_fill_get rfl rfl rfl (by decide +kernel) ⟨Nat.le_of_ble_eq_true rfl, Nat.le_of_ble_eq_true rfl⟩) (kr_preV kw_Nok (q := (RX1, TX1, 7)) (q0 := 0) (ci := 1) _ hP hK hD hB hS hA rfl rfl rfl) rfl rfl hl.1 rfl (lv_room (Nat.le_of_ble_eq_true rfl)) dX1_fill_34 ⟨Nat.zero_le _, Nat.zero_le _⟩) hD hS hA (fun u H locs hq hP hD hS => ?_)
        have hP : va_P D vwCl (kw_M ct ad (nI 0) M Pl (M k) C V kk_rc) H := hP
        have hD : va_D A (kw_M ct ad (nI 0) M Pl (M k) C V kk_rc) := hD
        refine lv_iconst (v := nI 0) hx hb dX1_fill_37 rfl ?_
        refine lv_istore hx hb dX1_fill_38 hl (Nat.le_of_ble_eq_true rfl) rfl (fun ls hl => ?_)
        have hl : lv_has ls 6 [(5, .int (nI 0)), (0, .ref (ad 0)), (1, .int (nI k)), (2, .int v), (3, .int t), (4, .int (nI n))] := hl
        have hl : lv_has ls 6 [(5, .int (nI 0)), (0, .ref (ad 0)), (1, .int (nI k)), (2, .int v), (3, .int t), (4, .int (nI n))] := lv_sub hl [0, 1, 2, 3, 4, 5] rfl
        have loop : ∀ (Q : State → Prop), (∀ (C V : Nat → Int64) (H : Heap) (locs : List Loc) (ls : Array Slot), lv_has ls 6 [(5, .int (nI n)), (0, .ref (ad 0)), (1, .int (nI k)), (2, .int v), (3, .int t), (4, .int (nI n))] → va_P D vwCl (kw_M ct ad (nI 0) M (va_up Pl k (kk_ins (M k, Pl k) (kk_fb v t) n).2) (kk_ins (M k, Pl k) (kk_fb v t) n).1 C V kk_rc) H → va_D A (kw_M ct ad (nI 0) M (va_up Pl k (kk_ins (M k, Pl k) (kk_fb v t) n).2) (kk_ins (M k, Pl k) (kk_fb v t) n).1 C V kk_rc) → va_S A s.heap H locs → W p l e (headSpec wsM_fill ({ frames := 3, cells := 0, slots := 0, locals := 70 })).room s m (([.ref (ad 0), .int (nI k), .int v, .int t, .int (nI n)] : List Value).toArray) below meth c H locs 0 0 Q (F0 m 64 ls [])) → ∀ (f i : Nat) (C V : Nat → Int64) (H : Heap) (locs : List Loc) (ls : Array Slot), n - i < f → i ≤ n → lv_has ls 6 [(5, .int (nI i)), (0, .ref (ad 0)), (1, .int (nI k)), (2, .int v), (3, .int t), (4, .int (nI n))] → va_P D vwCl (kw_M ct ad (nI 0) M (va_up Pl k (kk_ins (M k, Pl k) (kk_fb v t) i).2) (kk_ins (M k, Pl k) (kk_fb v t) i).1 C V kk_rc) H → va_D A (kw_M ct ad (nI 0) M (va_up Pl k (kk_ins (M k, Pl k) (kk_fb v t) i).2) (kk_ins (M k, Pl k) (kk_fb v t) i).1 C V kk_rc) → va_S A s.heap H locs → W p l e (headSpec wsM_fill ({ frames := 3, cells := 0, slots := 0, locals := 70 })).room s m (([.ref (ad 0), .int (nI k), .int v, .int t, .int (nI n)] : List Value).toArray) below meth c H locs 0 0 Q (F0 m 40 ls []) := by
          intro Q hend f
          induction f with
          | zero => intro i C V H locs ls h; omega
          | succ f ih =>
            intro i C V H locs ls hn hi hl hP hD hS
            refine lv_iload hx hb dX1_fill_40 (lv_at hl 0 rfl) ?_
            refine lv_iload hx hb dX1_fill_42 (lv_at hl 5 rfl) ?_
            refine kr_icmp_ge (tgt := 64) hx hb (by omega) (by omega) dX1_fill_44 rfl (fun hc => ?_) (fun hc => ?_)
            · obtain rfl : i = n := by omega
              exact hend C V H locs ls hl hP hD hS
            · have hin2 : i < n := by omega
              refine lv_aload_n hx hb dX1_fill_47 rfl (lv_at hl 1 rfl) ?_
              refine lv_iload_n hx hb dX1_fill_48 rfl (lv_at hl 2 rfl) ?_
              refine lv_iload_n hx hb dX1_fill_49 rfl (lv_at hl 3 rfl) ?_
              refine lv_iload hx hb dX1_fill_50 (lv_at hl 0 rfl) ?_
              refine lv_iload_n hx hb dX1_fill_52 rfl (lv_at hl 4 rfl) ?_
              refine lv_imul hx hb dX1_fill_53 ?_
              refine lv_iadd hx hb dX1_fill_54 ?_
              refine kr_callv (va_runV (As := [.int (nI k), .int (v + ((nI i) * t))]) (rest := []) ⟨hx, hb, hml, hown, hts⟩ (km_taken l D ct ad (nI 0) M Pl L C V kk_rc _ (kk_ins (M k, Pl k) (kk_fb v t) i).1 (q := (kk_ins (M k, Pl k) (kk_fb v t) i).2) hk (kk_ins_lt hq0 i) ((kk_fb v t) i)) (cwV 2 hts gM_fill_taken rfl rfl rfl (by decide +kernel) ⟨Nat.le_of_ble_eq_true rfl, Nat.le_of_ble_eq_true rfl⟩) (kr_preV kw_Nok (q := (RX1, TX1, 7)) (q0 := 0) (ci := 1) _ hP hK hD hB hS hA rfl rfl rfl) rfl rfl hl.1 rfl (lv_room (Nat.le_of_ble_eq_true rfl)) dX1_fill_55 ⟨Nat.zero_le _, Nat.zero_le _⟩) hD hS hA (fun u H locs hq hP hD hS => ?_)
              have hP : va_P D vwCl (kw_M ct ad (nI 0) M (va_up Pl k ((kk_ins (M k, Pl k) (kk_fb v t) (i + 1)).2)) ((kk_ins (M k, Pl k) (kk_fb v t) (i + 1)).1) u.1 u.2 kk_rc) H := hP
              have hD : va_D A (kw_M ct ad (nI 0) M (va_up Pl k ((kk_ins (M k, Pl k) (kk_fb v t) (i + 1)).2)) ((kk_ins (M k, Pl k) (kk_fb v t) (i + 1)).1) u.1 u.2 kk_rc) := hD
              refine lv_iinc (k := 0) (v := nI (i + 1)) hx hb dX1_fill_58 hl rfl (nI_add i 1) (Nat.le_of_ble_eq_true rfl) rfl (fun ls hl => ?_)
              have hl : lv_has ls 6 [(5, .int (nI (i + 1))), (0, .ref (ad 0)), (1, .int (nI k)), (2, .int v), (3, .int t), (4, .int (nI n))] := hl
              refine lv_goto (tgt := 40) hx hb dX1_fill_61 rfl ?_
              exact ih (i + 1) u.1 u.2 H locs ls (by omega) (by omega) hl hP hD hS
        have hP : va_P D vwCl (kw_M ct ad (nI 0) M (va_up Pl k (kk_ins (M k, Pl k) (kk_fb v t) 0).2) (kk_ins (M k, Pl k) (kk_fb v t) 0).1 C V kk_rc) H := by show va_P D vwCl (kw_M ct ad (nI 0) M (va_up Pl k (Pl k)) (M k) C V kk_rc) H; rw [kw_self]; exact hP
        have hD : va_D A (kw_M ct ad (nI 0) M (va_up Pl k (kk_ins (M k, Pl k) (kk_fb v t) 0).2) (kk_ins (M k, Pl k) (kk_fb v t) 0).1 C V kk_rc) := by show va_D A (kw_M ct ad (nI 0) M (va_up Pl k (Pl k)) (M k) C V kk_rc); rw [kw_self]; exact hD
        refine loop _ (fun C V H locs ls hl hP hD hS => ?_) (n + 1) 0 C V H locs ls (by omega) (by omega) hl hP hD hS
        refine lv_aload_n hx hb dX1_fill_64 rfl (lv_at hl 1 rfl) ?_
        refine lv_iload_n hx hb dX1_fill_65 rfl (lv_at hl 2 rfl) ?_
        refine kr_callv (va_runV (As := [.int (nI k)]) (rest := []) ⟨hx, hb, hml, hown, hts⟩ (km_put l D ct ad (nI 0) M (va_up Pl k (kk_ins (M k, Pl k) (kk_fb v t) n).2) (kk_ins (M k, Pl k) (kk_fb v t) n).1 C V kk_rc _ hk) (cwV 1 hts gM_fill_put rfl rfl rfl (by decide +kernel) ⟨Nat.le_of_ble_eq_true rfl, Nat.le_of_ble_eq_true rfl⟩) (kr_preV kw_Nok (q := (RX1, TX1, 7)) (q0 := 0) (ci := 1) _ hP hK hD hB hS hA rfl rfl rfl) rfl rfl hl.1 rfl (lv_room (Nat.le_of_ble_eq_true rfl)) dX1_fill_66 ⟨Nat.zero_le _, Nat.zero_le _⟩) hD hS hA (fun u H locs hq hP hD hS => ?_)
        have hP : va_P D vwCl (kw_M ct ad (nI 0) (va_up M k ((kk_ins (M k, Pl k) (kk_fb v t) n).1)) (va_up Pl k ((kk_ins (M k, Pl k) (kk_fb v t) n).2)) ((kk_ins (M k, Pl k) (kk_fb v t) n).1) C V kk_rc) H := hP
        have hD : va_D A (kw_M ct ad (nI 0) (va_up M k ((kk_ins (M k, Pl k) (kk_fb v t) n).1)) (va_up Pl k ((kk_ins (M k, Pl k) (kk_fb v t) n).2)) ((kk_ins (M k, Pl k) (kk_fb v t) n).1) C V kk_rc) := hD
        refine lv_aload_n hx hb dX1_fill_69 rfl (lv_at hl 1 rfl) ?_
        refine va_get hx hb hts hin hown hK hP 0 rfl rfl 2 (by decide) (hts (.fieldLink RX1 35 "KeccakLanesModel" "places" "[I") (by decide +kernel)) (fun _ h => h) rfl dX1_fill_70 ?_
        refine lv_iload_n hx hb dX1_fill_73 rfl (lv_at hl 2 rfl) ?_
        refine kr_iald hx hb hK hP 2 1 rfl rfl (n := k) (by omega) (by omega) dX1_fill_74 ?_
        rw [va_up_self]
        exact W.iret hx hb hr (fun t ht hW => ⟨⟨_, (C, V), rfl, rfl, by rw [ht]; exact hP, va_K.moved hW.alike hK, hD⟩, hS.F ht⟩) hS.2.2 dX1_fill_75
      · omega
set_option maxHeartbeats 4000000 in
set_option maxRecDepth 100000 in
theorem km_copy (l : Launch) (D : va_G) (ct : Nat → ClassId) (ad : Nat → Nat) (F : Int32) (M : Nat → Nat → Int64) (Pl : Nat → Nat) (L C V K : Nat → Int64) (sz : Nat) {k t : Nat} (hk : k < 8) (ht8 : t < 8) : Met l yX1_copy wsM_copy ({ frames := 1, cells := 0, slots := 0, locals := 22 }) (kr_P D vwCl (kw_T ct) kw_N [.ref (ad 0), .int (nI k), .int (nI t)] (kw_M ct ad F M Pl L C V kk_rc) sz) (va_Qv (S := Unit) (fun _ => True) (kr_B D vwCl (kw_T ct) (fun _ => kw_M ct ad (nI 0) (va_up M t (M k)) (va_up Pl t (Pl k)) (M k) C V kk_rc) (va_A (kw_M ct ad F M Pl L C V kk_rc) sz)) (va_A (kw_M ct ad F M Pl L C V kk_rc) sz)) 0 0 (va_A (kw_M ct ad F M Pl L C V kk_rc) sz) := by
  refine Met.ofW (cc := cX1_copy) (maxL := 3) (ret := none) (by decide) rfl ?_
  intro p e s m args below meth c s₁ B hml hv
  obtain ⟨rfl, hsz, hP, hK, hD0, hB⟩ := hv
  have hx := B.exec
  have hb := B.bytes
  have hr := B.returns
  have hts := atoms_spec (ws := wsM_copy) B.pre
  have hown : s.vm.findClass RX1 = some m.cls := findClass_of_methodNamed B.named
  have hlocks := B.notSynchronized
  have hin : ∀ w ∈ u_ws RX1 TX1 7, w ∈ wsM_copy := fun w h => List.mem_cons_of_mem _ (kM_in w h)
  subst hsz
  have hD := hD0.self (sz := s.heap.size)
  generalize hAe : va_A (kw_M ct ad F M Pl L C V kk_rc) s.heap.size = A at hD hB ⊢
  have hA : ∀ q : Nat, s.heap.size ≤ q → A q := fun q h => by rw [← hAe]; exact Or.inr h
  have hS : va_S A s.heap s.heap [] := va_S.rf
  have hl := lv_entry ([.ref (ad 0), .int (nI k), .int (nI t)]) (n := 3) (Nat.le_of_ble_eq_true rfl)
  rw [lg_entry_eq]
  generalize (lg_sl ([.ref (ad 0), .int (nI k), .int (nI t)]) ++ List.replicate (3 - (lg_sl ([.ref (ad 0), .int (nI k), .int (nI t)])).length) Slot.unset).toArray = ls at hl ⊢
  have hl : lv_has ls 3 [(0, .ref (ad 0)), (1, .int (nI k)), (2, .int (nI t))] := hl
  refine lv_aload_n hx hb dX1_copy_0 rfl (lv_at hl 0 rfl) ?_
  refine lv_iconst (v := nI 0) hx hb dX1_copy_1 rfl ?_
  refine va_put (ci := 1) (v := .int (nI 0)) (ty := .int) (C := RX1) (T := TX1) (N := 7) hx hb hts hin tyX1 tyX1_ok nmX1 hown hK hP hD hS 0 rfl rfl 0 (by decide) (hts (.fieldLink RX1 43 "KeccakLanesModel" "failed" "I") (by decide +kernel)) (fun _ h9 => h9) rfl (by decide +kernel) rfl rfl (Nat.le_of_ble_eq_true rfl) dX1_copy_2 (fun H locs hP hD hS => ?_)
  have hP : va_P D vwCl (kw_M ct ad (nI 0) M Pl L C V kk_rc) H := hP
  have hD : va_D A (kw_M ct ad (nI 0) M Pl L C V kk_rc) := hD
  refine lv_aload_n hx hb dX1_copy_5 rfl (lv_at hl 0 rfl) ?_
  refine lv_iload_n hx hb dX1_copy_6 rfl (lv_at hl 1 rfl) ?_
  refine kr_calli (va_runV (As := [.int (nI k)]) (rest := []) ⟨hx, hb, hml, hown, hts⟩ (km_out l D ct ad (nI 0) M Pl L C V kk_rc _ (a := k) (by omega)) (cwV 1 hts gM_copy_out rfl rfl rfl (by decide +kernel) ⟨Nat.le_of_ble_eq_true rfl, Nat.le_of_ble_eq_true rfl⟩) (kr_preV kw_Nok (q := (RX1, TX1, 7)) (q0 := 0) (ci := 1) _ hP hK hD hB hS hA rfl rfl rfl) rfl rfl hl.1 rfl (lv_room (Nat.le_of_ble_eq_true rfl)) dX1_copy_7 ⟨Nat.zero_le _, Nat.zero_le _⟩) hD hS hA (fun r u H locs hq hP hD hS => ?_)
  obtain rfl : r = nI 0 := hq
  have hP : va_P D vwCl (kw_M ct ad (nI 0) M Pl L C V kk_rc) H := hP
  have hD : va_D A (kw_M ct ad (nI 0) M Pl L C V kk_rc) := hD
  refine lv_if_ne (tgt := 21) hx hb dX1_copy_10 rfl (fun hc => ?_) (fun hc => ?_)
  · exact absurd rfl hc
  · clear hc
    refine lv_aload_n hx hb dX1_copy_13 rfl (lv_at hl 0 rfl) ?_
    refine lv_iload_n hx hb dX1_copy_14 rfl (lv_at hl 2 rfl) ?_
    refine kr_calli (va_runV (As := [.int (nI t)]) (rest := []) ⟨hx, hb, hml, hown, hts⟩ (km_out l D ct ad (nI 0) M Pl L C V kk_rc _ (a := t) (by omega)) (cwV 1 hts gM_copy_out rfl rfl rfl (by decide +kernel) ⟨Nat.le_of_ble_eq_true rfl, Nat.le_of_ble_eq_true rfl⟩) (kr_preV kw_Nok (q := (RX1, TX1, 7)) (q0 := 0) (ci := 1) _ hP hK hD hB hS hA rfl rfl rfl) rfl rfl hl.1 rfl (lv_room (Nat.le_of_ble_eq_true rfl)) dX1_copy_15 ⟨Nat.zero_le _, Nat.zero_le _⟩) hD hS hA (fun r u H locs hq hP hD hS => ?_)
    obtain rfl : r = nI 0 := hq
    have hP : va_P D vwCl (kw_M ct ad (nI 0) M Pl L C V kk_rc) H := hP
    have hD : va_D A (kw_M ct ad (nI 0) M Pl L C V kk_rc) := hD
    refine lv_if_eq (tgt := 29) hx hb dX1_copy_18 rfl (fun hc => ?_) (fun hc => ?_)
    · clear hc
      refine lv_aload_n hx hb dX1_copy_29 rfl (lv_at hl 0 rfl) ?_
      refine lv_iload_n hx hb dX1_copy_30 rfl (lv_at hl 1 rfl) ?_
      refine kr_callv (va_runV (As := [.int (nI k)]) (rest := []) ⟨hx, hb, hml, hown, hts⟩ (km_get l D ct ad (nI 0) M Pl L C V kk_rc _ hk) (cwV 1 hts gM_copy_get rfl rfl rfl (by decide +kernel) ⟨Nat.le_of_ble_eq_true rfl, Nat.le_of_ble_eq_true rfl⟩) (kr_preV kw_Nok (q := (RX1, TX1, 7)) (q0 := 0) (ci := 1) _ hP hK hD hB hS hA rfl rfl rfl) rfl rfl hl.1 rfl (lv_room (Nat.le_of_ble_eq_true rfl)) dX1_copy_31 ⟨Nat.zero_le _, Nat.zero_le _⟩) hD hS hA (fun u H locs hq hP hD hS => ?_)
      have hP : va_P D vwCl (kw_M ct ad (nI 0) M Pl (M k) C V kk_rc) H := hP
      have hD : va_D A (kw_M ct ad (nI 0) M Pl (M k) C V kk_rc) := hD
      refine lv_aload_n hx hb dX1_copy_34 rfl (lv_at hl 0 rfl) ?_
      refine lv_iload_n hx hb dX1_copy_35 rfl (lv_at hl 2 rfl) ?_
      refine kr_callv (va_runV (As := [.int (nI t)]) (rest := []) ⟨hx, hb, hml, hown, hts⟩ (km_put l D ct ad (nI 0) M Pl (M k) C V kk_rc _ ht8) (cwV 1 hts gM_copy_put rfl rfl rfl (by decide +kernel) ⟨Nat.le_of_ble_eq_true rfl, Nat.le_of_ble_eq_true rfl⟩) (kr_preV kw_Nok (q := (RX1, TX1, 7)) (q0 := 0) (ci := 1) _ hP hK hD hB hS hA rfl rfl rfl) rfl rfl hl.1 rfl (lv_room (Nat.le_of_ble_eq_true rfl)) dX1_copy_36 ⟨Nat.zero_le _, Nat.zero_le _⟩) hD hS hA (fun u H locs hq hP hD hS => ?_)
      have hP : va_P D vwCl (kw_M ct ad (nI 0) (va_up M t (M k)) Pl (M k) C V kk_rc) H := hP
      have hD : va_D A (kw_M ct ad (nI 0) (va_up M t (M k)) Pl (M k) C V kk_rc) := hD
      refine lv_aload_n hx hb dX1_copy_39 rfl (lv_at hl 0 rfl) ?_
      refine va_get hx hb hts hin hown hK hP 0 rfl rfl 2 (by decide) (hts (.fieldLink RX1 35 "KeccakLanesModel" "places" "[I") (by decide +kernel)) (fun _ h => h) rfl dX1_copy_40 ?_
      refine lv_iload_n hx hb dX1_copy_43 rfl (lv_at hl 2 rfl) ?_
      refine lv_aload_n hx hb dX1_copy_44 rfl (lv_at hl 0 rfl) ?_
      refine va_get hx hb hts hin hown hK hP 0 rfl rfl 2 (by decide) (hts (.fieldLink RX1 35 "KeccakLanesModel" "places" "[I") (by decide +kernel)) (fun _ h => h) rfl dX1_copy_45 ?_
      refine lv_iload_n hx hb dX1_copy_48 rfl (lv_at hl 1 rfl) ?_
      refine kr_iald hx hb hK hP 2 1 rfl rfl (n := k) (by omega) (by omega) dX1_copy_49 ?_
      refine kr_iast hx hb hK hP hD hS 2 1 rfl rfl (n := t) (by omega) (by omega) (kw_MsP t (Pl k)) dX1_copy_50 (fun H locs hP hD hS => ?_)
      exact W.vret hx hb hr (fun t ht hW => ⟨⟨(), rfl, trivial, by rw [ht]; exact hP, va_K.moved hW.alike hK, hD⟩, hS.F ht⟩) hS.2.2 dX1_copy_51
    · exact absurd rfl hc
set_option maxHeartbeats 4000000 in
set_option maxRecDepth 100000 in
theorem km_mix (l : Launch) (D : va_G) (ct : Nat → ClassId) (ad : Nat → Nat) (F : Int32) (M : Nat → Nat → Int64) (Pl : Nat → Nat) (L C V K : Nat → Int64) (sz : Nat) {k : Nat} (hk : k < 8) : Met l yX1_mix wsM_mix ({ frames := 2, cells := 0, slots := 0, locals := 47 }) (kr_P D vwCl (kw_T ct) kw_N [.ref (ad 0), .int (nI k)] (kw_M ct ad F M Pl L C V kk_rc) sz) (va_Qv (S := ((Nat → Int64) × (Nat → Int64))) (fun _ => True) (kr_B D vwCl (kw_T ct) (fun u => kw_M ct ad (nI 0) (va_up M k (kk_mix (M k))) Pl (kk_mix (M k)) u.1 u.2 kk_rc) (va_A (kw_M ct ad F M Pl L C V kk_rc) sz)) (va_A (kw_M ct ad F M Pl L C V kk_rc) sz)) 0 0 (va_A (kw_M ct ad F M Pl L C V kk_rc) sz) := by
  refine Met.ofW (cc := cX1_mix) (maxL := 2) (ret := none) (by decide) rfl ?_
  intro p e s m args below meth c s₁ B hml hv
  obtain ⟨rfl, hsz, hP, hK, hD0, hB⟩ := hv
  have hx := B.exec
  have hb := B.bytes
  have hr := B.returns
  have hts := atoms_spec (ws := wsM_mix) B.pre
  have hown : s.vm.findClass RX1 = some m.cls := findClass_of_methodNamed B.named
  have hlocks := B.notSynchronized
  have hin : ∀ w ∈ u_ws RX1 TX1 7, w ∈ wsM_mix := fun w h => List.mem_cons_of_mem _ (kM_in w h)
  subst hsz
  have hD := hD0.self (sz := s.heap.size)
  generalize hAe : va_A (kw_M ct ad F M Pl L C V kk_rc) s.heap.size = A at hD hB ⊢
  have hA : ∀ q : Nat, s.heap.size ≤ q → A q := fun q h => by rw [← hAe]; exact Or.inr h
  have hS : va_S A s.heap s.heap [] := va_S.rf
  have hl := lv_entry ([.ref (ad 0), .int (nI k)]) (n := 2) (Nat.le_of_ble_eq_true rfl)
  rw [lg_entry_eq]
  generalize (lg_sl ([.ref (ad 0), .int (nI k)]) ++ List.replicate (2 - (lg_sl ([.ref (ad 0), .int (nI k)])).length) Slot.unset).toArray = ls at hl ⊢
  have hl : lv_has ls 2 [(0, .ref (ad 0)), (1, .int (nI k))] := hl
  refine lv_aload_n hx hb dX1_mix_0 rfl (lv_at hl 0 rfl) ?_
  refine lv_iconst (v := nI 0) hx hb dX1_mix_1 rfl ?_
  refine va_put (ci := 1) (v := .int (nI 0)) (ty := .int) (C := RX1) (T := TX1) (N := 7) hx hb hts hin tyX1 tyX1_ok nmX1 hown hK hP hD hS 0 rfl rfl 0 (by decide) (hts (.fieldLink RX1 43 "KeccakLanesModel" "failed" "I") (by decide +kernel)) (fun _ h9 => h9) rfl (by decide +kernel) rfl rfl (Nat.le_of_ble_eq_true rfl) dX1_mix_2 (fun H locs hP hD hS => ?_)
  have hP : va_P D vwCl (kw_M ct ad (nI 0) M Pl L C V kk_rc) H := hP
  have hD : va_D A (kw_M ct ad (nI 0) M Pl L C V kk_rc) := hD
  refine lv_aload_n hx hb dX1_mix_5 rfl (lv_at hl 0 rfl) ?_
  refine lv_iload_n hx hb dX1_mix_6 rfl (lv_at hl 1 rfl) ?_
  refine kr_calli (va_runV (As := [.int (nI k)]) (rest := []) ⟨hx, hb, hml, hown, hts⟩ (km_out l D ct ad (nI 0) M Pl L C V kk_rc _ (a := k) (by omega)) (cwV 1 hts gM_mix_out rfl rfl rfl (by decide +kernel) ⟨Nat.le_of_ble_eq_true rfl, Nat.le_of_ble_eq_true rfl⟩) (kr_preV kw_Nok (q := (RX1, TX1, 7)) (q0 := 0) (ci := 1) _ hP hK hD hB hS hA rfl rfl rfl) rfl rfl hl.1 rfl (lv_room (Nat.le_of_ble_eq_true rfl)) dX1_mix_7 ⟨Nat.zero_le _, Nat.zero_le _⟩) hD hS hA (fun r u H locs hq hP hD hS => ?_)
  obtain rfl : r = nI 0 := hq
  have hP : va_P D vwCl (kw_M ct ad (nI 0) M Pl L C V kk_rc) H := hP
  have hD : va_D A (kw_M ct ad (nI 0) M Pl L C V kk_rc) := hD
  refine lv_if_eq (tgt := 21) hx hb dX1_mix_10 rfl (fun hc => ?_) (fun hc => ?_)
  · clear hc
    refine lv_aload_n hx hb dX1_mix_21 rfl (lv_at hl 0 rfl) ?_
    refine lv_iload_n hx hb dX1_mix_22 rfl (lv_at hl 1 rfl) ?_
    refine kr_callv (va_runV (As := [.int (nI k)]) (rest := []) ⟨hx, hb, hml, hown, hts⟩ (km_get l D ct ad (nI 0) M Pl L C V kk_rc _ hk) (cwV 1 hts gM_mix_get rfl rfl rfl (by decide +kernel) ⟨Nat.le_of_ble_eq_true rfl, Nat.le_of_ble_eq_true rfl⟩) (kr_preV kw_Nok (q := (RX1, TX1, 7)) (q0 := 0) (ci := 1) _ hP hK hD hB hS hA rfl rfl rfl) rfl rfl hl.1 rfl (lv_room (Nat.le_of_ble_eq_true rfl)) dX1_mix_23 ⟨Nat.zero_le _, Nat.zero_le _⟩) hD hS hA (fun u H locs hq hP hD hS => ?_)
    have hP : va_P D vwCl (kw_M ct ad (nI 0) M Pl (M k) C V kk_rc) H := hP
    have hD : va_D A (kw_M ct ad (nI 0) M Pl (M k) C V kk_rc) := hD
    refine lv_aload_n hx hb dX1_mix_26 rfl (lv_at hl 0 rfl) ?_
    refine kr_callv (va_runV (As := []) (rest := []) ⟨hx, hb, hml, hown, hts⟩ (km_permute l D ct ad (nI 0) M Pl L C V K _ (M k)) (cwV 0 hts gM_mix_permute rfl rfl rfl (by decide +kernel) ⟨Nat.le_of_ble_eq_true rfl, Nat.le_of_ble_eq_true rfl⟩) (kr_preV kw_Nok (q := (RX1, TX1, 7)) (q0 := 0) (ci := 1) _ hP hK hD hB hS hA rfl rfl rfl) rfl rfl hl.1 rfl (lv_room (Nat.le_of_ble_eq_true rfl)) dX1_mix_27 ⟨Nat.zero_le _, Nat.zero_le _⟩) hD hS hA (fun u H locs hq hP hD hS => ?_)
    have hP : va_P D vwCl (kw_M ct ad (nI 0) M Pl (kk_mix (M k)) u.1 u.2 kk_rc) H := hP
    have hD : va_D A (kw_M ct ad (nI 0) M Pl (kk_mix (M k)) u.1 u.2 kk_rc) := hD
    refine lv_aload_n hx hb dX1_mix_30 rfl (lv_at hl 0 rfl) ?_
    refine lv_iload_n hx hb dX1_mix_31 rfl (lv_at hl 1 rfl) ?_
    refine kr_callv (va_runV (As := [.int (nI k)]) (rest := []) ⟨hx, hb, hml, hown, hts⟩ (km_put l D ct ad (nI 0) M Pl (kk_mix (M k)) u.1 u.2 kk_rc _ hk) (cwV 1 hts gM_mix_put rfl rfl rfl (by decide +kernel) ⟨Nat.le_of_ble_eq_true rfl, Nat.le_of_ble_eq_true rfl⟩) (kr_preV kw_Nok (q := (RX1, TX1, 7)) (q0 := 0) (ci := 1) _ hP hK hD hB hS hA rfl rfl rfl) rfl rfl hl.1 rfl (lv_room (Nat.le_of_ble_eq_true rfl)) dX1_mix_32 ⟨Nat.zero_le _, Nat.zero_le _⟩) hD hS hA (fun _ H locs hq hP hD hS => ?_)
    have hP : va_P D vwCl (kw_M ct ad (nI 0) (va_up M k (kk_mix (M k))) Pl (kk_mix (M k)) u.1 u.2 kk_rc) H := hP
    have hD : va_D A (kw_M ct ad (nI 0) (va_up M k (kk_mix (M k))) Pl (kk_mix (M k)) u.1 u.2 kk_rc) := hD
    exact W.vret hx hb hr (fun t ht hW => ⟨⟨u, rfl, trivial, by rw [ht]; exact hP, va_K.moved hW.alike hK, hD⟩, hS.F ht⟩) hS.2.2 dX1_mix_35
  · exact absurd rfl hc
set_option maxHeartbeats 4000000 in
set_option maxRecDepth 100000 in
theorem km_lane (l : Launch) (D : va_G) (ct : Nat → ClassId) (ad : Nat → Nat) (F : Int32) (M : Nat → Nat → Int64) (Pl : Nat → Nat) (L C V K : Nat → Int64) (sz : Nat) {k i : Nat} (hk : k < 8) (hi25 : i < 25) : Met l yX1_lane wsM_lane ({ frames := 1, cells := 0, slots := 0, locals := 21 }) (kr_P D vwCl (kw_T ct) kw_N [.ref (ad 0), .int (nI k), .int (nI i)] (kw_M ct ad F M Pl L C V kk_rc) sz) (va_Ql (S := Unit) (fun r _ => r = M k i) (kr_B D vwCl (kw_T ct) (fun _ => kw_M ct ad (nI 0) M Pl L C V kk_rc) (va_A (kw_M ct ad F M Pl L C V kk_rc) sz)) (va_A (kw_M ct ad F M Pl L C V kk_rc) sz)) 0 0 (va_A (kw_M ct ad F M Pl L C V kk_rc) sz) := by
  refine Met.ofW (cc := cX1_lane) (maxL := 3) (ret := (some .long)) (by decide) rfl ?_
  intro p e s m args below meth c s₁ B hml hv
  obtain ⟨rfl, hsz, hP, hK, hD0, hB⟩ := hv
  have hx := B.exec
  have hb := B.bytes
  have hr := B.returns
  have hts := atoms_spec (ws := wsM_lane) B.pre
  have hown : s.vm.findClass RX1 = some m.cls := findClass_of_methodNamed B.named
  have hlocks := B.notSynchronized
  have hin : ∀ w ∈ u_ws RX1 TX1 7, w ∈ wsM_lane := fun w h => List.mem_cons_of_mem _ (kM_in w h)
  subst hsz
  have hD := hD0.self (sz := s.heap.size)
  generalize hAe : va_A (kw_M ct ad F M Pl L C V kk_rc) s.heap.size = A at hD hB ⊢
  have hA : ∀ q : Nat, s.heap.size ≤ q → A q := fun q h => by rw [← hAe]; exact Or.inr h
  have hS : va_S A s.heap s.heap [] := va_S.rf
  have hl := lv_entry ([.ref (ad 0), .int (nI k), .int (nI i)]) (n := 3) (Nat.le_of_ble_eq_true rfl)
  rw [lg_entry_eq]
  generalize (lg_sl ([.ref (ad 0), .int (nI k), .int (nI i)]) ++ List.replicate (3 - (lg_sl ([.ref (ad 0), .int (nI k), .int (nI i)])).length) Slot.unset).toArray = ls at hl ⊢
  have hl : lv_has ls 3 [(0, .ref (ad 0)), (1, .int (nI k)), (2, .int (nI i))] := hl
  refine lv_aload_n hx hb dX1_lane_0 rfl (lv_at hl 0 rfl) ?_
  refine lv_iconst (v := nI 0) hx hb dX1_lane_1 rfl ?_
  refine va_put (ci := 1) (v := .int (nI 0)) (ty := .int) (C := RX1) (T := TX1) (N := 7) hx hb hts hin tyX1 tyX1_ok nmX1 hown hK hP hD hS 0 rfl rfl 0 (by decide) (hts (.fieldLink RX1 43 "KeccakLanesModel" "failed" "I") (by decide +kernel)) (fun _ h9 => h9) rfl (by decide +kernel) rfl rfl (Nat.le_of_ble_eq_true rfl) dX1_lane_2 (fun H locs hP hD hS => ?_)
  have hP : va_P D vwCl (kw_M ct ad (nI 0) M Pl L C V kk_rc) H := hP
  have hD : va_D A (kw_M ct ad (nI 0) M Pl L C V kk_rc) := hD
  refine lv_aload_n hx hb dX1_lane_5 rfl (lv_at hl 0 rfl) ?_
  refine lv_iload_n hx hb dX1_lane_6 rfl (lv_at hl 1 rfl) ?_
  refine kr_calli (va_runV (As := [.int (nI k)]) (rest := []) ⟨hx, hb, hml, hown, hts⟩ (km_out l D ct ad (nI 0) M Pl L C V kk_rc _ (a := k) (by omega)) (cwV 1 hts gM_lane_out rfl rfl rfl (by decide +kernel) ⟨Nat.le_of_ble_eq_true rfl, Nat.le_of_ble_eq_true rfl⟩) (kr_preV kw_Nok (q := (RX1, TX1, 7)) (q0 := 0) (ci := 1) _ hP hK hD hB hS hA rfl rfl rfl) rfl rfl hl.1 rfl (lv_room (Nat.le_of_ble_eq_true rfl)) dX1_lane_7 ⟨Nat.zero_le _, Nat.zero_le _⟩) hD hS hA (fun r u H locs hq hP hD hS => ?_)
  obtain rfl : r = nI 0 := hq
  have hP : va_P D vwCl (kw_M ct ad (nI 0) M Pl L C V kk_rc) H := hP
  have hD : va_D A (kw_M ct ad (nI 0) M Pl L C V kk_rc) := hD
  refine lv_if_ne (tgt := 23) hx hb dX1_lane_10 rfl (fun hc => ?_) (fun hc => ?_)
  · exact absurd rfl hc
  · clear hc
    refine lv_iload_n hx hb dX1_lane_13 rfl (lv_at hl 2 rfl) ?_
    refine lv_if_lt (tgt := 23) hx hb dX1_lane_14 rfl (fun hc => ?_) (fun hc => ?_)
    · exact absurd hc (nI_pos (by omega))
    · clear hc
      refine lv_iload_n hx hb dX1_lane_17 rfl (lv_at hl 2 rfl) ?_
      refine lv_bipush (v := nI 24) hx hb dX1_lane_18 (by decide +kernel) ?_
      refine kr_icmp_le (tgt := 32) hx hb (by omega) (by omega) dX1_lane_20 rfl (fun hc => ?_) (fun hc => ?_)
      · clear hc
        refine lv_aload_n hx hb dX1_lane_32 rfl (lv_at hl 0 rfl) ?_
        refine va_get hx hb hts hin hown hK hP 0 rfl rfl 1 (by decide) (hts (.fieldLink RX1 32 "KeccakLanesModel" "states" "[[J") (by decide +kernel)) (fun _ h => h) rfl dX1_lane_33 ?_
        refine lv_iload_n hx hb dX1_lane_36 rfl (lv_at hl 1 rfl) ?_
        refine kr_aald hx hb hK hP 1 0 rfl rfl (n := k) (y := ad (7 + k)) (by omega) (by omega) (if_pos (by omega)) dX1_lane_37 ?_
        refine lv_iload_n hx hb dX1_lane_38 rfl (lv_at hl 2 rfl) ?_
        refine kr_lald hx hb hK hP (7 + k) 2 (kw_Mrow ct ad (nI 0) M Pl L C V kk_rc hk) rfl (n := i) (by omega) (by omega) dX1_lane_39 ?_
        exact W.lret hx hb hr (fun t ht hW => ⟨⟨_, (), rfl, rfl, by rw [ht]; exact hP, va_K.moved hW.alike hK, hD⟩, hS.F ht⟩) hS.2.2 dX1_lane_40
      · omega
set_option maxHeartbeats 4000000 in
set_option maxRecDepth 100000 in
theorem km_digest (l : Launch) (D : va_G) (ct : Nat → ClassId) (ad : Nat → Nat) (F : Int32) (M : Nat → Nat → Int64) (Pl : Nat → Nat) (L C V K : Nat → Int64) (sz : Nat) {k i : Nat} (hk : k < 8) (hi4 : i < 4) (hq0 : Pl k < 136) : Met l yX1_digest wsM_digest ({ frames := 2, cells := 0, slots := 0, locals := 47 }) (kr_P D vwCl (kw_T ct) kw_N [.ref (ad 0), .int (nI k), .int (nI i)] (kw_M ct ad F M Pl L C V kk_rc) sz) (va_Ql (S := ((Nat → Int64) × (Nat → Int64))) (fun r _ => r = kk_rev (kk_dg (M k) (Pl k) i) 8) (kr_B D vwCl (kw_T ct) (fun u => kw_M ct ad (nI 0) M Pl (kk_dg (M k) (Pl k)) u.1 u.2 kk_rc) (va_A (kw_M ct ad F M Pl L C V kk_rc) sz)) (va_A (kw_M ct ad F M Pl L C V kk_rc) sz)) 0 0 (va_A (kw_M ct ad F M Pl L C V kk_rc) sz) := by
  refine Met.ofW (cc := cX1_digest) (maxL := 7) (ret := (some .long)) (by decide) rfl ?_
  intro p e s m args below meth c s₁ B hml hv
  obtain ⟨rfl, hsz, hP, hK, hD0, hB⟩ := hv
  have hx := B.exec
  have hb := B.bytes
  have hr := B.returns
  have hts := atoms_spec (ws := wsM_digest) B.pre
  have hown : s.vm.findClass RX1 = some m.cls := findClass_of_methodNamed B.named
  have hlocks := B.notSynchronized
  have hin : ∀ w ∈ u_ws RX1 TX1 7, w ∈ wsM_digest := fun w h => List.mem_cons_of_mem _ (kM_in w h)
  subst hsz
  have hD := hD0.self (sz := s.heap.size)
  generalize hAe : va_A (kw_M ct ad F M Pl L C V kk_rc) s.heap.size = A at hD hB ⊢
  have hA : ∀ q : Nat, s.heap.size ≤ q → A q := fun q h => by rw [← hAe]; exact Or.inr h
  have hS : va_S A s.heap s.heap [] := va_S.rf
  have hl := lv_entry ([.ref (ad 0), .int (nI k), .int (nI i)]) (n := 7) (Nat.le_of_ble_eq_true rfl)
  rw [lg_entry_eq]
  generalize (lg_sl ([.ref (ad 0), .int (nI k), .int (nI i)]) ++ List.replicate (7 - (lg_sl ([.ref (ad 0), .int (nI k), .int (nI i)])).length) Slot.unset).toArray = ls at hl ⊢
  have hl : lv_has ls 7 [(0, .ref (ad 0)), (1, .int (nI k)), (2, .int (nI i))] := hl
  refine lv_aload_n hx hb dX1_digest_0 rfl (lv_at hl 0 rfl) ?_
  refine lv_iconst (v := nI 0) hx hb dX1_digest_1 rfl ?_
  refine va_put (ci := 1) (v := .int (nI 0)) (ty := .int) (C := RX1) (T := TX1) (N := 7) hx hb hts hin tyX1 tyX1_ok nmX1 hown hK hP hD hS 0 rfl rfl 0 (by decide) (hts (.fieldLink RX1 43 "KeccakLanesModel" "failed" "I") (by decide +kernel)) (fun _ h9 => h9) rfl (by decide +kernel) rfl rfl (Nat.le_of_ble_eq_true rfl) dX1_digest_2 (fun H locs hP hD hS => ?_)
  have hP : va_P D vwCl (kw_M ct ad (nI 0) M Pl L C V kk_rc) H := hP
  have hD : va_D A (kw_M ct ad (nI 0) M Pl L C V kk_rc) := hD
  refine lv_aload_n hx hb dX1_digest_5 rfl (lv_at hl 0 rfl) ?_
  refine lv_iload_n hx hb dX1_digest_6 rfl (lv_at hl 1 rfl) ?_
  refine kr_calli (va_runV (As := [.int (nI k)]) (rest := []) ⟨hx, hb, hml, hown, hts⟩ (km_out l D ct ad (nI 0) M Pl L C V kk_rc _ (a := k) (by omega)) (cwV 1 hts gM_digest_out rfl rfl rfl (by decide +kernel) ⟨Nat.le_of_ble_eq_true rfl, Nat.le_of_ble_eq_true rfl⟩) (kr_preV kw_Nok (q := (RX1, TX1, 7)) (q0 := 0) (ci := 1) _ hP hK hD hB hS hA rfl rfl rfl) rfl rfl hl.1 rfl (lv_room (Nat.le_of_ble_eq_true rfl)) dX1_digest_7 ⟨Nat.zero_le _, Nat.zero_le _⟩) hD hS hA (fun r u H locs hq hP hD hS => ?_)
  obtain rfl : r = nI 0 := hq
  have hP : va_P D vwCl (kw_M ct ad (nI 0) M Pl L C V kk_rc) H := hP
  have hD : va_D A (kw_M ct ad (nI 0) M Pl L C V kk_rc) := hD
  refine lv_if_ne (tgt := 22) hx hb dX1_digest_10 rfl (fun hc => ?_) (fun hc => ?_)
  · exact absurd rfl hc
  · clear hc
    refine lv_iload_n hx hb dX1_digest_13 rfl (lv_at hl 2 rfl) ?_
    refine lv_if_lt (tgt := 22) hx hb dX1_digest_14 rfl (fun hc => ?_) (fun hc => ?_)
    · exact absurd hc (nI_pos (by omega))
    · clear hc
      refine lv_iload_n hx hb dX1_digest_17 rfl (lv_at hl 2 rfl) ?_
      refine lv_iconst (v := nI 3) hx hb dX1_digest_18 rfl ?_
      refine kr_icmp_le (tgt := 29) hx hb (by omega) (by omega) dX1_digest_19 rfl (fun hc => ?_) (fun hc => ?_)
      · clear hc
        refine lv_aload_n hx hb dX1_digest_29 rfl (lv_at hl 0 rfl) ?_
        refine lv_iload_n hx hb dX1_digest_30 rfl (lv_at hl 1 rfl) ?_
        refine kr_callv (va_runV (As := [.int (nI k)]) (rest := []) ⟨hx, hb, hml, hown, hts⟩ (km_get l D ct ad (nI 0) M Pl L C V kk_rc _ hk) (cwV 1 hts gM_digest_get rfl rfl rfl (by decide +kernel) ⟨Nat.le_of_ble_eq_true rfl, Nat.le_of_ble_eq_true rfl⟩) (kr_preV kw_Nok (q := (RX1, TX1, 7)) (q0 := 0) (ci := 1) _ hP hK hD hB hS hA rfl rfl rfl) rfl rfl hl.1 rfl (lv_room (Nat.le_of_ble_eq_true rfl)) dX1_digest_31 ⟨Nat.zero_le _, Nat.zero_le _⟩) hD hS hA (fun u H locs hq hP hD hS => ?_)
        have hP : va_P D vwCl (kw_M ct ad (nI 0) M Pl (M k) C V kk_rc) H := hP
        have hD : va_D A (kw_M ct ad (nI 0) M Pl (M k) C V kk_rc) := hD
        refine lv_aload_n hx hb dX1_digest_34 rfl (lv_at hl 0 rfl) ?_
        refine va_get hx hb hts hin hown hK hP 0 rfl rfl 2 (by decide) (hts (.fieldLink RX1 35 "KeccakLanesModel" "places" "[I") (by decide +kernel)) (fun _ h => h) rfl dX1_digest_35 ?_
        refine lv_iload_n hx hb dX1_digest_38 rfl (lv_at hl 1 rfl) ?_
        refine kr_iald hx hb hK hP 2 1 rfl rfl (n := k) (by omega) (by omega) dX1_digest_39 ?_
        refine lv_istore_n hx hb dX1_digest_40 rfl hl (Nat.le_of_ble_eq_true rfl) rfl (fun ls hl => ?_)
        have hl : lv_has ls 7 [(3, .int (nI (Pl k))), (0, .ref (ad 0)), (1, .int (nI k)), (2, .int (nI i))] := hl
        refine lv_aload_n hx hb dX1_digest_41 rfl (lv_at hl 1 rfl) ?_
        refine va_get hx hb hts hin hown hK hP 0 rfl rfl 3 (by decide) (hts (.fieldLink RX1 7 "KeccakLanesModel" "lanes" "[J") (by decide +kernel)) (fun _ h => h) rfl dX1_digest_42 ?_
        refine lv_iload_n hx hb dX1_digest_45 rfl (lv_at hl 0 rfl) ?_
        refine lv_bipush (v := nI 8) hx hb dX1_digest_46 (by decide +kernel) ?_
        refine kr_idiv hx hb (by omega) (by omega) (by omega) dX1_digest_48 ?_
        refine lv_dup2_11 hx hb dX1_digest_49 rfl rfl ?_
        refine kr_lald hx hb hK hP 3 2 rfl rfl (n := (Pl k) / 8) (by omega) (by omega) dX1_digest_50 ?_
        refine lv_lconst (v := 1) hx hb dX1_digest_51 rfl ?_
        refine lv_bipush (v := nI 8) hx hb dX1_digest_52 (by decide +kernel) ?_
        refine lv_iload_n hx hb dX1_digest_54 rfl (lv_at hl 0 rfl) ?_
        refine lv_bipush (v := nI 8) hx hb dX1_digest_55 (by decide +kernel) ?_
        refine kr_irem hx hb (by omega) (by omega) (by omega) dX1_digest_57 ?_
        refine kr_imul hx hb dX1_digest_58 ?_
        refine lv_lshl hx hb dX1_digest_59 rfl ?_
        refine lv_lxor hx hb dX1_digest_60 ?_
        refine kr_last (w := kw_M ct ad (nI 0) M Pl (vp_updL (M k) ((Pl k) / 8) (((M k) ((Pl k) / 8)) ^^^ (1 <<< ((nI (8 * ((Pl k) % 8))).toInt64 &&& 63)))) C V kk_rc) hx hb hK hP hD hS 3 2 rfl rfl (n := (Pl k) / 8) (by omega) (by omega) rfl dX1_digest_61 (fun H locs hP hD hS => ?_)
        have hP : va_P D vwCl (kw_M ct ad (nI 0) M Pl (kk_join (M k) (Pl k) (kk_bt (nI 1))) C V kk_rc) H := by rw [kk_bt1]; exact hP
        have hD : va_D A (kw_M ct ad (nI 0) M Pl (kk_join (M k) (Pl k) (kk_bt (nI 1))) C V kk_rc) := by rw [kk_bt1]; exact hD
        refine lv_aload_n hx hb dX1_digest_62 rfl (lv_at hl 1 rfl) ?_
        refine va_get hx hb hts hin hown hK hP 0 rfl rfl 3 (by decide) (hts (.fieldLink RX1 7 "KeccakLanesModel" "lanes" "[J") (by decide +kernel)) (fun _ h => h) rfl dX1_digest_63 ?_
        refine lv_bipush (v := nI 16) hx hb dX1_digest_66 (by decide +kernel) ?_
        refine lv_dup2_11 hx hb dX1_digest_68 rfl rfl ?_
        refine kr_lald hx hb hK hP 3 2 rfl rfl (n := 16) (by omega) (by omega) dX1_digest_69 ?_
        refine lv_ldc2 (v := (-9223372036854775808)) hx hb hown (hts (.constantLong RX1 69 (-9223372036854775808)) (by decide +kernel)) dX1_digest_70 ?_
        refine lv_lxor hx hb dX1_digest_73 ?_
        refine kr_last (w := kw_M ct ad (nI 0) M Pl (vp_updL (kk_join (M k) (Pl k) (kk_bt (nI 1))) 16 (((kk_join (M k) (Pl k) (kk_bt (nI 1))) 16) ^^^ (-9223372036854775808))) C V kk_rc) hx hb hK hP hD hS 3 2 rfl rfl (n := 16) (by omega) (by omega) rfl dX1_digest_74 (fun H locs hP hD hS => ?_)
        rw [kk_j135] at hP hD
        have hP : va_P D vwCl (kw_M ct ad (nI 0) M Pl (kk_join (kk_join (M k) (Pl k) (kk_bt (nI 1))) 135 (kk_bt (nI 128))) C V kk_rc) H := hP
        have hD : va_D A (kw_M ct ad (nI 0) M Pl (kk_join (kk_join (M k) (Pl k) (kk_bt (nI 1))) 135 (kk_bt (nI 128))) C V kk_rc) := hD
        refine lv_aload_n hx hb dX1_digest_75 rfl (lv_at hl 1 rfl) ?_
        refine kr_callv (va_runV (As := []) (rest := []) ⟨hx, hb, hml, hown, hts⟩ (km_permute l D ct ad (nI 0) M Pl L C V K _ (kk_join (kk_join (M k) (Pl k) (kk_bt (nI 1))) 135 (kk_bt (nI 128)))) (cwV 0 hts gM_digest_permute rfl rfl rfl (by decide +kernel) ⟨Nat.le_of_ble_eq_true rfl, Nat.le_of_ble_eq_true rfl⟩) (kr_preV kw_Nok (q := (RX1, TX1, 7)) (q0 := 0) (ci := 1) _ hP hK hD hB hS hA rfl rfl rfl) rfl rfl hl.1 rfl (lv_room (Nat.le_of_ble_eq_true rfl)) dX1_digest_76 ⟨Nat.zero_le _, Nat.zero_le _⟩) hD hS hA (fun u H locs hq hP hD hS => ?_)
        have hP : va_P D vwCl (kw_M ct ad (nI 0) M Pl (kk_dg (M k) (Pl k)) u.1 u.2 kk_rc) H := hP
        have hD : va_D A (kw_M ct ad (nI 0) M Pl (kk_dg (M k) (Pl k)) u.1 u.2 kk_rc) := hD
        refine lv_lconst (v := 0) hx hb dX1_digest_79 rfl ?_
        refine lv_lstore hx hb dX1_digest_80 hl (Nat.le_of_ble_eq_true rfl) rfl (fun ls hl => ?_)
        have hl : lv_has ls 7 [(4, .long 0), (3, .int (nI (Pl k))), (0, .ref (ad 0)), (1, .int (nI k)), (2, .int (nI i))] := hl
        refine lv_iconst (v := nI 0) hx hb dX1_digest_82 rfl ?_
        refine lv_istore hx hb dX1_digest_83 hl (Nat.le_of_ble_eq_true rfl) rfl (fun ls hl => ?_)
        have hl : lv_has ls 7 [(6, .int (nI 0)), (4, .long 0), (3, .int (nI (Pl k))), (0, .ref (ad 0)), (1, .int (nI k)), (2, .int (nI i))] := hl
        have hl : lv_has ls 7 [(6, .int (nI 0)), (4, .long 0), (0, .ref (ad 0)), (2, .int (nI i))] := lv_sub hl [0, 1, 3, 5] rfl
        have hl : lv_has ls 7 [(6, .int (nI 0)), (4, .long (kk_rev (kk_dg (M k) (Pl k) i) 0)), (0, .ref (ad 0)), (2, .int (nI i))] := hl
        have loop : ∀ (Q : State → Prop), (∀ ls : Array Slot, lv_has ls 7 [(6, .int (nI 8)), (4, .long (kk_rev (kk_dg (M k) (Pl k) i) 8)), (0, .ref (ad 0)), (2, .int (nI i))] → W p l e (headSpec wsM_digest ({ frames := 2, cells := 0, slots := 0, locals := 47 })).room s m (([.ref (ad 0), .int (nI k), .int (nI i)] : List Value).toArray) below meth c H locs 0 0 Q (F0 m 122 ls [])) → ∀ (n j : Nat) (ls : Array Slot), 8 - j < n → j ≤ 8 → lv_has ls 7 [(6, .int (nI j)), (4, .long (kk_rev (kk_dg (M k) (Pl k) i) j)), (0, .ref (ad 0)), (2, .int (nI i))] → W p l e (headSpec wsM_digest ({ frames := 2, cells := 0, slots := 0, locals := 47 })).room s m (([.ref (ad 0), .int (nI k), .int (nI i)] : List Value).toArray) below meth c H locs 0 0 Q (F0 m 85 ls []) := by
          intro Q hend n
          induction n with
          | zero => intro j ls h; omega
          | succ n ih =>
            intro j ls hn hj hl
            refine lv_iload hx hb dX1_digest_85 (lv_at hl 0 rfl) ?_
            refine lv_bipush (v := nI 8) hx hb dX1_digest_87 (by decide +kernel) ?_
            refine kr_icmp_ge (tgt := 122) hx hb (by omega) (by omega) dX1_digest_89 rfl (fun hc => ?_) (fun hc => ?_)
            · obtain rfl : j = 8 := by omega
              exact hend ls hl
            · have hj8 : j < 8 := hc
              refine lv_lload hx hb dX1_digest_92 (lv_at hl 1 rfl) ?_
              refine lv_bipush (v := nI 8) hx hb dX1_digest_94 (by decide +kernel) ?_
              refine lv_lshl hx hb dX1_digest_96 rfl ?_
              refine lv_aload_n hx hb dX1_digest_97 rfl (lv_at hl 2 rfl) ?_
              refine va_get hx hb hts hin hown hK hP 0 rfl rfl 3 (by decide) (hts (.fieldLink RX1 7 "KeccakLanesModel" "lanes" "[J") (by decide +kernel)) (fun _ h => h) rfl dX1_digest_98 ?_
              refine lv_iload_n hx hb dX1_digest_101 rfl (lv_at hl 3 rfl) ?_
              refine kr_lald hx hb hK hP 3 2 rfl rfl (n := i) (by omega) (by omega) dX1_digest_102 ?_
              refine lv_bipush (v := nI 8) hx hb dX1_digest_103 (by decide +kernel) ?_
              refine lv_iload hx hb dX1_digest_105 (lv_at hl 0 rfl) ?_
              refine kr_imul hx hb dX1_digest_107 ?_
              refine lv_lushr hx hb dX1_digest_108 rfl ?_
              refine lv_ldc2 (v := 255) hx hb hown (hts (.constantLong RX1 71 255) (by decide +kernel)) dX1_digest_109 ?_
              refine lv_land hx hb dX1_digest_112 ?_
              refine lv_lor hx hb dX1_digest_113 ?_
              refine lv_lstore hx hb dX1_digest_114 hl (Nat.le_of_ble_eq_true rfl) rfl (fun ls hl => ?_)
              have hl : lv_has ls 7 [(4, .long (((kk_rev (kk_dg (M k) (Pl k) i) j) <<< ((nI 8).toInt64 &&& 63)) ||| (((((kk_dg (M k) (Pl k)) i).toUInt64 >>> ((nI (8 * j)).toInt64.toUInt64 &&& Int64.toUInt64 63)).toInt64) &&& 255))), (6, .int (nI j)), (0, .ref (ad 0)), (2, .int (nI i))] := hl
              refine lv_iinc (k := 1) (v := nI (j + 1)) hx hb dX1_digest_116 hl rfl (nI_add j 1) (Nat.le_of_ble_eq_true rfl) rfl (fun ls hl => ?_)
              have hl : lv_has ls 7 [(6, .int (nI (j + 1))), (4, .long (((kk_rev (kk_dg (M k) (Pl k) i) j) <<< ((nI 8).toInt64 &&& 63)) ||| (((((kk_dg (M k) (Pl k)) i).toUInt64 >>> ((nI (8 * j)).toInt64.toUInt64 &&& Int64.toUInt64 63)).toInt64) &&& 255))), (0, .ref (ad 0)), (2, .int (nI i))] := hl
              refine lv_goto (tgt := 85) hx hb dX1_digest_119 rfl ?_
              exact ih (j + 1) ls (by omega) (by omega) (lv_sub hl [0, 1, 2, 3] rfl)
        refine loop _ (fun ls hl => ?_) 9 0 ls (by omega) (by omega) hl
        refine lv_lload hx hb dX1_digest_122 (lv_at hl 1 rfl) ?_
        exact W.lret hx hb hr (fun t ht hW => ⟨⟨_, u, rfl, rfl, by rw [ht]; exact hP, va_K.moved hW.alike hK, hD⟩, hS.F ht⟩) hS.2.2 dX1_digest_124
      · omega
