/-! KeccakLanes: pure words: a turn, a round, mixed, a byte taken in, the digest's state; the reference's constants and its walk. -/
def kk_tl (v : Int64) (n : Int32) : Int64 := (v <<< (n.toInt64 &&& 63)) ||| (v.toUInt64 >>> ((64 - n).toInt64.toUInt64 &&& Int64.toUInt64 63)).toInt64
def kk_rl (v : Int64) (n : Int32) : Int64 := (v <<< (n.toInt64 &&& 63)) ||| (v.toUInt64 >>> ((-n).toInt64.toUInt64 &&& Int64.toUInt64 63)).toInt64
theorem kk_am : ∀ k, k < 64 → ((-(nI k)).toInt64.toUInt64 &&& Int64.toUInt64 63) = ((64 - nI k).toInt64.toUInt64 &&& Int64.toUInt64 63) := by decide +kernel
theorem kk_rl_tl (v : Int64) {k : Nat} (h : k < 64) : kk_rl v (nI k) = kk_tl v (nI k) := by
  unfold kk_rl kk_tl
  rw [kk_am k h]
def kk_tnL : List Nat := [0, 1, 62, 28, 27, 36, 44, 6, 55, 20, 3, 10, 43, 25, 39, 41, 45, 15, 21, 8, 18, 2, 61, 56, 14]
def kk_tn (j : Nat) : Nat := kk_tnL.getD j 0
def kk_tgL : List Nat := [0, 10, 20, 5, 15, 16, 1, 11, 21, 6, 7, 17, 2, 12, 22, 23, 8, 18, 3, 13, 14, 24, 9, 19, 4]
def kk_tg (j : Nat) : Nat := kk_tgL.getD j 0
def kk_srL : List Nat := [0, 6, 12, 18, 24, 3, 9, 10, 16, 22, 1, 7, 13, 19, 20, 4, 5, 11, 17, 23, 2, 8, 14, 15, 21]
def kk_sr (j : Nat) : Nat := kk_srL.getD j 0
def kk_rcL : List Int64 := [1, 32898, (-9223372036854742902), (-9223372034707259392), 32907, 2147483649, (-9223372034707259263), (-9223372036854743031), 138, 136, 2147516425, 2147483658, 2147516555, (-9223372036854775669), (-9223372036854742903), (-9223372036854743037), (-9223372036854743038), (-9223372036854775680), 32778, (-9223372034707292150), (-9223372034707259263), (-9223372036854742912), 2147483649, (-9223372034707259384)]
def kk_rc (j : Nat) : Int64 := kk_rcL.getD j 0
theorem kk_tg_lt : ∀ j, j < 25 → kk_tg j < 25 := by decide +kernel
theorem kk_sr_lt : ∀ j, j < 25 → kk_sr j < 25 := by decide +kernel
theorem kk_tn_lt : ∀ j, j < 25 → kk_tn j < 64 := by decide +kernel
theorem kk_sr_tg : ∀ j, j < 25 → kk_sr (kk_tg j) = j := by decide +kernel
theorem kk_tg_sr : ∀ j, j < 25 → kk_tg (kk_sr j) = j := by decide +kernel
def kk_col (f : Nat → Int64) (x : Nat) : Int64 := f x ^^^ f (x + 5) ^^^ f (x + 10) ^^^ f (x + 15) ^^^ f (x + 20)
def kk_d (f : Nat → Int64) (x : Nat) : Int64 := kk_col f ((x + 4) % 5) ^^^ kk_tl (kk_col f ((x + 1) % 5)) (nI 1)
def kk_mv1 (f : Nat → Int64) (i : Nat) : Int64 := kk_tl (f i ^^^ kk_d f (i % 5)) (nI (kk_tn i))
def kk_mv (f : Nat → Int64) (j : Nat) : Int64 := kk_mv1 f (kk_sr j)
def kk_ch (u : Nat → Int64) (j : Nat) : Int64 := u j ^^^ ((u (j / 5 * 5 + (j % 5 + 1) % 5) ^^^ (-1)) &&& u (j / 5 * 5 + (j % 5 + 2) % 5))
def kk_rd (f : Nat → Int64) (c : Int64) : Nat → Int64 := vp_updL (kk_ch (kk_mv f)) 0 (kk_ch (kk_mv f) 0 ^^^ c)
def kk_rs (f : Nat → Int64) : Nat → (Nat → Int64)
  | 0 => f
  | n + 1 => kk_rd (kk_rs f n) (kk_rc n)
def kk_mix (f : Nat → Int64) : Nat → Int64 := kk_rs f 24
/-- a value's lowest 8 bits, as a long -/
def kk_bt (b : Int32) : Int64 := b.toInt64 &&& 255
theorem kk_bt_i (b : Int32) : (b &&& 255).toInt64 = kk_bt b := by
  unfold kk_bt
  rw [Int32.toInt64_and]
  rfl
def kk_join (f : Nat → Int64) (p : Nat) (w : Int64) : Nat → Int64 := vp_updL f (p / 8) (f (p / 8) ^^^ (w <<< ((nI (8 * (p % 8))).toInt64 &&& 63)))
/-- a byte taken in: the lanes and the place -/
def kk_in (z : (Nat → Int64) × Nat) (b : Int32) : (Nat → Int64) × Nat := if z.2 + 1 = 136 then (kk_mix (kk_join z.1 z.2 (kk_bt b)), 0) else (kk_join z.1 z.2 (kk_bt b), z.2 + 1)
theorem kk_in_lt {z : (Nat → Int64) × Nat} {b : Int32} (h : z.2 < 136) : (kk_in z b).2 < 136 := by
  unfold kk_in
  split
  · exact Nat.zero_lt_succ _
  · show z.2 + 1 < 136
    omega
def kk_ins (z : (Nat → Int64) × Nat) (b : Nat → Int32) : Nat → (Nat → Int64) × Nat
  | 0 => z
  | n + 1 => kk_in (kk_ins z b n) (b n)
theorem kk_ins_lt {z : (Nat → Int64) × Nat} {b : Nat → Int32} (h : z.2 < 136) : ∀ n, (kk_ins z b n).2 < 136
  | 0 => h
  | n + 1 => kk_in_lt (kk_ins_lt h n)
/-- the lanes that a digest is read off -/
def kk_dg (f : Nat → Int64) (p : Nat) : Nat → Int64 := kk_mix (kk_join (kk_join f p (kk_bt (nI 1))) 135 (kk_bt (nI 128)))
def kk_rev (v : Int64) : Nat → Int64
  | 0 => 0
  | n + 1 => (kk_rev v n <<< ((nI 8).toInt64 &&& 63)) ||| ((v.toUInt64 >>> ((nI (8 * n)).toInt64.toUInt64 &&& Int64.toUInt64 63)).toInt64 &&& 255)
/-- the reference's constants -/
def kk_ls (r : Int32) : Int32 := (if (r <<< ((1 : Int32) &&& 31)) &&& 256 = 0 then r <<< ((1 : Int32) &&& 31) else (r <<< ((1 : Int32) &&& 31)) ^^^ 369) &&& 255
def kk_lf : Nat → Int32
  | 0 => 1
  | n + 1 => kk_ls (kk_lf n)
def kk_cs (i : Nat) : Nat → Int64
  | 0 => 0
  | j + 1 => if kk_lf ((j + 7 * i) % 255) &&& 1 = 0 then kk_cs i j else kk_cs i j ||| ((1 : Int64) <<< ((((1 : Int32) <<< (nI j &&& 31)) - 1).toInt64 &&& 63))
set_option maxRecDepth 100000 in
theorem kk_cs_rc : ∀ i, i < 24 → kk_cs i 7 = kk_rc i := by decide +kernel
/-- the reference's walk over the lanes -/
def kk_wxL : List Nat := [1, 0, 2, 1, 2, 3, 3, 0, 1, 3, 1, 4, 4, 0, 3, 4, 3, 2, 2, 0, 4, 2, 4, 1, 1]
def kk_wx (t : Nat) : Nat := kk_wxL.getD t 0
def kk_wyL : List Nat := [0, 2, 1, 2, 3, 3, 0, 1, 3, 1, 4, 4, 0, 3, 4, 3, 2, 2, 0, 4, 2, 4, 1, 1, 0]
def kk_wy (t : Nat) : Nat := kk_wyL.getD t 0
def kk_tiL : List Nat := [0, 23, 17, 5, 11, 6, 22, 1, 8, 21, 0, 2, 16, 15, 19, 12, 7, 3, 4, 14, 18, 9, 20, 13, 10]
def kk_ti (j : Nat) : Nat := kk_tiL.getD j 0
def kk_ws (t : Nat) : Nat := 5 * kk_wy t + kk_wx t
def kk_wt (t : Nat) : Nat := 5 * kk_wy (t + 1) + kk_wy t
theorem kk_w_lt : ∀ t, t < 25 → kk_wx t < 5 ∧ kk_wy t < 5 := by decide +kernel
theorem kk_w_x : ∀ t, t < 24 → kk_wx (t + 1) = kk_wy t := by decide +kernel
theorem kk_w_y : ∀ t, t < 24 → kk_wy (t + 1) = (2 * kk_wx t + 3 * kk_wy t) % 5 := by decide +kernel
theorem kk_w_st : ∀ t, t < 24 → kk_sr (kk_wt t) = kk_ws t ∧ kk_tn (kk_ws t) = (t + 1) * (t + 2) / 2 % 64 ∧ kk_wt t < 25 ∧ kk_ws t < 25 ∧ kk_wt t ≠ 0 := by decide +kernel
theorem kk_w_ti : ∀ j, j < 25 → j ≠ 0 → kk_ti j < 24 ∧ kk_wt (kk_ti j) = j := by decide +kernel
theorem kk_w_inj : ∀ t, t < 24 → ∀ u, u < 24 → kk_wt t = kk_wt u → t = u := by decide +kernel
