/-! how many bits -/
theorem lN_and (a b : Nat) : lN a &&& lN b = lN (a &&& b) := Int64.toBitVec_inj.mp (by
  rw [Int64.toBitVec_and]
  show BitVec.ofNat 64 a &&& BitVec.ofNat 64 b = BitVec.ofNat 64 (a &&& b)
  rw [BitVec.ofNat_and])
theorem zN_add (a b : Nat) : lN a + lN b = lN (a + b) := Int64.toBitVec_inj.mp (by
  rw [Int64.toBitVec_add]
  show BitVec.ofNat 64 a + BitVec.ofNat 64 b = BitVec.ofNat 64 (a + b)
  rw [BitVec.ofNat_add])
theorem zN_sub {a b : Nat} (h : b ≤ a) : lN a - lN b = lN (a - b) := by
  have e : lN a = lN (a - b) + lN b := by rw [zN_add, Nat.sub_add_cancel h]
  rw [e, Int64.add_sub_cancel]
theorem lN_tb {n : Nat} (h : n < 2 ^ 64) : (lN n).toBitVec.toNat = n := by
  show (BitVec.ofNat 64 n).toNat = n
  rw [BitVec.toNat_ofNat, Nat.mod_eq_of_lt h]
theorem lN_shr {n k : Nat} (hn : n < 2 ^ 64) (hk : k < 64) : ((lN n).toUInt64 >>> ((nI k).toInt64.toUInt64 &&& Int64.toUInt64 63)).toInt64 = lN (n / 2 ^ k) := by
  apply Int64.toBitVec_inj.mp
  rw [UInt64.toBitVec_toInt64, UInt64.toBitVec_shiftRight, BitVec.ushiftRight_eq', ush_i k hk, Int64.toBitVec_toUInt64]
  apply BitVec.eq_of_toNat_eq
  rw [BitVec.toNat_ushiftRight, lN_tb hn, lN_tb (Nat.lt_of_le_of_lt (Nat.div_le_self _ _) hn), Nat.shiftRight_eq_div_pow]
def g1 (m x : Nat) : Nat := x - (x / 2 &&& m)
def g2 (m x : Nat) : Nat := (x &&& m) + (x / 4 &&& m)
def g3 (m x : Nat) : Nat := (x + x / 16) &&& m
theorem and_byte {b m : Nat} (hb : b < 256) (hm : m < 256) (y M : Nat) : (b + 256 * y) &&& (m + 256 * M) = (b &&& m) + 256 * (y &&& M) := by
  have h8 : (256 : Nat) = 2 ^ 8 := by decide
  have hbm : (b &&& m) < 2 ^ 8 := Nat.and_lt_two_pow b (by rw [← h8]; exact hm)
  rw [h8] at hb hm ⊢
  apply Nat.eq_of_testBit_eq
  intro i
  rw [Nat.testBit_and, Nat.add_comm b, Nat.add_comm m, Nat.add_comm (b &&& m), Nat.testBit_two_pow_mul_add _ hb, Nat.testBit_two_pow_mul_add _ hm, Nat.testBit_two_pow_mul_add _ hbm]
  by_cases q : i < 8
  · rw [if_pos q, if_pos q, if_pos q, Nat.testBit_and]
  · rw [if_neg q, if_neg q, if_neg q, Nat.testBit_and]
theorem g1_byte {b : Nat} (hb : b < 256) (y M : Nat) : g1 (85 + 256 * M) (b + 256 * y) = g1 85 b + 256 * g1 M y := by
  unfold g1
  have e : (b + 256 * y) / 2 = (b / 2 + 128 * (y % 2)) + 256 * (y / 2) := by omega
  have d : ∀ c, c < 128 → ∀ z, z < 2 → (c + 128 * z) &&& 85 = c &&& 85 := by decide +kernel
  have l1 : (b / 2 &&& 85) ≤ b / 2 := Nat.and_le_left
  have l2 : (y / 2 &&& M) ≤ y / 2 := Nat.and_le_left
  rw [e, and_byte (by omega) (by decide), d (b / 2) (by omega) (y % 2) (by omega)]
  omega
theorem g2_byte {b : Nat} (hb : b < 256) (y M : Nat) : g2 (51 + 256 * M) (b + 256 * y) = g2 51 b + 256 * g2 M y := by
  unfold g2
  have e : (b + 256 * y) / 4 = (b / 4 + 64 * (y % 4)) + 256 * (y / 4) := by omega
  have d : ∀ c, c < 64 → ∀ z, z < 4 → (c + 64 * z) &&& 51 = c &&& 51 := by decide +kernel
  rw [e, and_byte hb (by decide), and_byte (by omega) (by decide), d (b / 4) (by omega) (y % 4) (by omega)]
  omega
theorem g3_byte {b : Nat} (hb : b ≤ 68) (y M : Nat) (hy : y % 16 ≤ 4) : g3 (15 + 256 * M) (b + 256 * y) = g3 15 b + 256 * g3 M y := by
  unfold g3
  have e : (b + 256 * y) + (b + 256 * y) / 16 = (b + b / 16 + 16 * (y % 16)) + 256 * (y + y / 16) := by omega
  have d : ∀ c, c < 69 → ∀ z, z < 5 → (c + c / 16 + 16 * z) &&& 15 = (c + c / 16) &&& 15 := by decide +kernel
  rw [e, and_byte (by omega) (by decide), d b (by omega) (y % 16) (by omega)]
/-- the bits of a number, from the lowest -/
def bs : Nat → Nat → Nat
  | 0, _ => 0
  | n + 1, x => x % 2 + bs n (x / 2)
theorem bs_add (m : Nat) : ∀ (n x : Nat), bs (m + n) x = bs m x + bs n (x / 2 ^ m) := by
  induction m with
  | zero => intro n x; rw [Nat.zero_add, bs, Nat.zero_add, Nat.pow_zero, Nat.div_one]
  | succ m ih =>
    intro n x
    rw [Nat.succ_add, bs, ih n (x / 2), bs, Nat.div_div_eq_div_mul, Nat.pow_succ, Nat.mul_comm 2, Nat.add_assoc]
theorem bs_8 (x : Nat) : bs 8 x = bs 8 (x % 256) := by
  simp only [bs]
  omega
theorem byte_1 : ∀ b, b < 256 → g1 85 b < 256 ∧ g2 51 (g1 85 b) ≤ 68 ∧ g2 51 (g1 85 b) % 16 ≤ 4 ∧ g3 15 (g2 51 (g1 85 b)) = bs 8 b ∧ bs 8 b ≤ 8 := by decide +kernel
def gg (m5 m3 mf x : Nat) : Nat := g3 mf (g2 m3 (g1 m5 x))
theorem gg_byte {b : Nat} (hb : b < 256) (y M5 M3 Mf : Nat) (hy : g2 M3 (g1 M5 y) % 16 ≤ 4) : gg (85 + 256 * M5) (51 + 256 * M3) (15 + 256 * Mf) (b + 256 * y) = bs 8 b + 256 * gg M5 M3 Mf y ∧ g2 (51 + 256 * M3) (g1 (85 + 256 * M5) (b + 256 * y)) % 16 ≤ 4 := by
  obtain ⟨h1, h2, h3, h4, _⟩ := byte_1 b hb
  unfold gg
  rw [g1_byte hb, g2_byte h1, g3_byte h2 _ _ hy, h4]
  exact ⟨rfl, by omega⟩
theorem gg_0 (M5 M3 Mf : Nat) : gg M5 M3 Mf 0 = 0 ∧ g2 M3 (g1 M5 0) % 16 ≤ 4 := by
  have e1 : g1 M5 0 = 0 := by unfold g1; omega
  have e2 : g2 M3 0 = 0 := by unfold g2; rw [Nat.zero_div, Nat.zero_and]
  have e3 : g3 Mf 0 = 0 := by unfold g3; rw [Nat.zero_div, Nat.add_zero, Nat.zero_and]
  unfold gg
  rw [e1, e2, e3]
  exact ⟨rfl, by decide⟩
theorem gg_all {x : Nat} (hx : x < 2 ^ 40) : gg 6148914691236517205 3689348814741910323 1085102592571150095 x = bs 8 (x % 256) + 256 * (bs 8 (x / 256 % 256) + 256 * (bs 8 (x / 65536 % 256) + 256 * (bs 8 (x / 16777216 % 256) + 256 * (bs 8 (x / 4294967296 % 256))))) := by
  obtain ⟨z0, z1⟩ := gg_0 5592405 3355443 986895
  obtain ⟨a0, a1⟩ := gg_byte (b := x / 4294967296 % 256) (by omega) 0 5592405 3355443 986895 z1
  obtain ⟨b0, b1⟩ := gg_byte (b := x / 16777216 % 256) (by omega) _ _ _ _ a1
  obtain ⟨c0, c1⟩ := gg_byte (b := x / 65536 % 256) (by omega) _ _ _ _ b1
  obtain ⟨d0, d1⟩ := gg_byte (b := x / 256 % 256) (by omega) _ _ _ _ c1
  obtain ⟨e0, e1⟩ := gg_byte (b := x % 256) (by omega) _ _ _ _ d1
  rw [d0, c0, b0, a0, z0] at e0
  have ex : x = x % 256 + 256 * (x / 256 % 256 + 256 * (x / 65536 % 256 + 256 * (x / 16777216 % 256 + 256 * (x / 4294967296 % 256 + 256 * 0)))) := by omega
  rw [← ex, Nat.mul_zero, Nat.add_zero] at e0
  exact e0
def c1 (v : Int64) : Int64 := v - ((v.toUInt64 >>> ((1 : Int32).toInt64.toUInt64 &&& Int64.toUInt64 63)).toInt64 &&& (6148914691236517205 : Int64))
def c2 (v : Int64) : Int64 := (v &&& (3689348814741910323 : Int64)) + ((v.toUInt64 >>> ((2 : Int32).toInt64.toUInt64 &&& Int64.toUInt64 63)).toInt64 &&& (3689348814741910323 : Int64))
def c3 (v : Int64) : Int64 := (v + (v.toUInt64 >>> ((4 : Int32).toInt64.toUInt64 &&& Int64.toUInt64 63)).toInt64) &&& (1085102592571150095 : Int64)
def c4 (v : Int64) : Int64 := v + (v.toUInt64 >>> ((8 : Int32).toInt64.toUInt64 &&& Int64.toUInt64 63)).toInt64
def c5 (v : Int64) : Int64 := v + (v.toUInt64 >>> ((16 : Int32).toInt64.toUInt64 &&& Int64.toUInt64 63)).toInt64
def c6 (v : Int64) : Int64 := v + (v.toUInt64 >>> ((32 : Int32).toInt64.toUInt64 &&& Int64.toUInt64 63)).toInt64
theorem bc_stage (v : Int64) : fJ13_bitCount_95d88 v = ((c6 (c5 (c4 (c3 (c2 (c1 v)))))).toInt32 &&& (127 : Int32)) := rfl
theorem c1_N {x : Nat} (hx : x < 2 ^ 64) : c1 (lN x) = lN (g1 6148914691236517205 x) := by
  unfold c1 g1
  show lN x - (((lN x).toUInt64 >>> ((nI 1).toInt64.toUInt64 &&& Int64.toUInt64 63)).toInt64 &&& lN 6148914691236517205) = _
  rw [lN_shr hx (by decide), lN_and, zN_sub]
  exact Nat.le_trans Nat.and_le_left (Nat.div_le_self _ _)
theorem c2_N {x : Nat} (hx : x < 2 ^ 64) : c2 (lN x) = lN (g2 3689348814741910323 x) := by
  unfold c2 g2
  show (lN x &&& lN 3689348814741910323) + (((lN x).toUInt64 >>> ((nI 2).toInt64.toUInt64 &&& Int64.toUInt64 63)).toInt64 &&& lN 3689348814741910323) = _
  rw [lN_shr hx (by decide), lN_and, lN_and, zN_add]
theorem c3_N {x : Nat} (hx : x < 2 ^ 64) : c3 (lN x) = lN (g3 1085102592571150095 x) := by
  unfold c3 g3
  show (lN x + ((lN x).toUInt64 >>> ((nI 4).toInt64.toUInt64 &&& Int64.toUInt64 63)).toInt64) &&& lN 1085102592571150095 = _
  rw [lN_shr hx (by decide), zN_add, lN_and]
theorem c4_N {x : Nat} (hx : x < 2 ^ 64) : c4 (lN x) = lN (x + x / 256) := by
  unfold c4
  show lN x + ((lN x).toUInt64 >>> ((nI 8).toInt64.toUInt64 &&& Int64.toUInt64 63)).toInt64 = _
  rw [lN_shr hx (by decide), zN_add]
theorem c5_N {x : Nat} (hx : x < 2 ^ 64) : c5 (lN x) = lN (x + x / 65536) := by
  unfold c5
  show lN x + ((lN x).toUInt64 >>> ((nI 16).toInt64.toUInt64 &&& Int64.toUInt64 63)).toInt64 = _
  rw [lN_shr hx (by decide), zN_add]
theorem c6_N {x : Nat} (hx : x < 2 ^ 64) : c6 (lN x) = lN (x + x / 4294967296) := by
  unfold c6
  show lN x + ((lN x).toUInt64 >>> ((nI 32).toInt64.toUInt64 &&& Int64.toUInt64 63)).toInt64 = _
  rw [lN_shr hx (by decide), zN_add]
theorem bs_40 (x : Nat) : bs 40 x = bs 8 (x % 256) + (bs 8 (x / 256 % 256) + (bs 8 (x / 65536 % 256) + (bs 8 (x / 16777216 % 256) + bs 8 (x / 4294967296 % 256)))) := by
  rw [show (40 : Nat) = 8 + (8 + (8 + (8 + 8))) from rfl, bs_add 8, bs_add 8, bs_add 8, bs_add 8, bs_8 x, bs_8 (x / 2 ^ 8), bs_8 (x / 2 ^ 8 / 2 ^ 8), bs_8 (x / 2 ^ 8 / 2 ^ 8 / 2 ^ 8), bs_8 (x / 2 ^ 8 / 2 ^ 8 / 2 ^ 8 / 2 ^ 8)]
  simp only [Nat.div_div_eq_div_mul]
theorem lN_i32 (a : Nat) : (lN a).toInt32 = nI a := Int32.toBitVec_inj.mp (by
  rw [Int64.toBitVec_toInt32]
  show (BitVec.ofNat 64 a).signExtend 32 = BitVec.ofNat 32 a
  rw [BitVec.signExtend_eq_setWidth_of_le _ (by decide), BitVec.setWidth_ofNat_of_le (by decide)])
theorem zI_and (a b : Nat) : nI a &&& nI b = nI (a &&& b) := Int32.toBitVec_inj.mp (by
  rw [Int32.toBitVec_and]
  show BitVec.ofNat 32 a &&& BitVec.ofNat 32 b = BitVec.ofNat 32 (a &&& b)
  rw [BitVec.ofNat_and])
theorem bc_spec {x : Nat} (hx : x < 2 ^ 40) : fJ13_bitCount_95d88 (lN x) = nI (bs 40 x) := by
  have k1 : g1 6148914691236517205 x < 2 ^ 40 := Nat.lt_of_le_of_lt (Nat.sub_le _ _) hx
  have k2 : g2 3689348814741910323 (g1 6148914691236517205 x) < 2 ^ 42 := by
    have l1 : (g1 6148914691236517205 x &&& 3689348814741910323) ≤ g1 6148914691236517205 x := Nat.and_le_left
    have l2 : (g1 6148914691236517205 x / 4 &&& 3689348814741910323) ≤ g1 6148914691236517205 x / 4 := Nat.and_le_left
    rw [g2]
    omega
  rw [bc_stage, c1_N (by omega), c2_N (by omega), c3_N (by omega)]
  have e := gg_all hx
  unfold gg at e
  rw [e, bs_40 x]
  have b0 := (byte_1 (x % 256) (by omega)).2.2.2.2
  have b1 := (byte_1 (x / 256 % 256) (by omega)).2.2.2.2
  have b2 := (byte_1 (x / 65536 % 256) (by omega)).2.2.2.2
  have b3 := (byte_1 (x / 16777216 % 256) (by omega)).2.2.2.2
  have b4 := (byte_1 (x / 4294967296 % 256) (by omega)).2.2.2.2
  clear e k1 k2
  generalize bs 8 (x % 256) = p0 at *
  generalize bs 8 (x / 256 % 256) = p1 at *
  generalize bs 8 (x / 65536 % 256) = p2 at *
  generalize bs 8 (x / 16777216 % 256) = p3 at *
  generalize bs 8 (x / 4294967296 % 256) = p4 at *
  rw [c4_N (by omega), c5_N (by omega), c6_N (by omega), lN_i32, show (127 : Int32) = nI 127 from rfl, zI_and, show (127 : Nat) = 2 ^ 7 - 1 from rfl, Nat.and_two_pow_sub_one_eq_mod]
  congr 1
  have q1 : (p0 + 256 * (p1 + 256 * (p2 + 256 * (p3 + 256 * p4)))) / 256 = p1 + 256 * (p2 + 256 * (p3 + 256 * p4)) := by omega
  rw [q1]
  have q2 : (p0 + 256 * (p1 + 256 * (p2 + 256 * (p3 + 256 * p4))) + (p1 + 256 * (p2 + 256 * (p3 + 256 * p4)))) / 65536 = (p2 + p3) + 256 * ((p3 + p4) + 256 * p4) := by omega
  rw [q2]
  have q3 : (p0 + 256 * (p1 + 256 * (p2 + 256 * (p3 + 256 * p4))) + (p1 + 256 * (p2 + 256 * (p3 + 256 * p4))) + ((p2 + p3) + 256 * ((p3 + p4) + 256 * p4))) / 4294967296 = p4 := by omega
  rw [q3]
  omega
theorem bc6_spec : ∀ a, a < 32 → fJ6_bitCount_0f7a4 (nI a) = nI (bs 5 a) := by decide +kernel
