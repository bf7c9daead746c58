/-! small facts on numbers and on the pure functions, for side conditions -/
theorem rem_nI {a d : Nat} (ha : a < 2 ^ 31) (h0 : 0 < d) (hd : d < 2 ^ 31) : nI a - nI a / nI d * nI d = nI (a % d) := pk_rem ha h0 hd
theorem ge_nI {x : Int32} (h : 0 ≤ x.toInt) : ∃ n : Nat, n < 2 ^ 31 ∧ x = nI n ∧ x.toInt = (n : Int) := by
  have h2 := Int32.toInt_lt x
  refine ⟨x.toInt.toNat, by omega, nI_of_ge h, by omega⟩
theorem half_in {x : Int32} (h0 : 0 ≤ x.toInt) (h : x.toInt < 8) : vp_in (x / (2 : Int32)) 4 := by
  obtain ⟨n, hn, rfl, e⟩ := ge_nI h0
  rw [show (2 : Int32) = nI 2 from rfl, pk_div hn (by decide) (by decide)]
  exact vp_in_nI (by omega) (by decide)
theorem nextSeed_nn (s : Int32) : 0 ≤ (fX4_nextSeed s).toInt := by
  unfold fX4_nextSeed
  generalize (1103515245 : Int64) * s.toInt64 + (12345 : Int64) = y
  have h1 : (y &&& (2147483647 : Int64)).toInt32.toBitVec = (y.toBitVec &&& 2147483647#64).setWidth 32 := by
    rw [Int64.toBitVec_toInt32, Int64.toBitVec_and, BitVec.signExtend_eq_setWidth_of_le _ (by decide)]
    rfl
  rw [← Int32.toInt_toBitVec, h1]
  have h2 : ((y.toBitVec &&& 2147483647#64).setWidth 32).toNat < 2 ^ 31 := by
    rw [BitVec.toNat_setWidth, BitVec.toNat_and]
    have : y.toBitVec.toNat &&& (2147483647#64).toNat ≤ 2147483647 := Nat.and_le_right
    omega
  rw [BitVec.toInt_eq_toNat_cond]
  split <;> omega
theorem rem5_in {x : Int32} (h : 0 ≤ x.toInt) : vp_in ((x / (65536 : Int32)) - (x / (65536 : Int32)) / (5 : Int32) * (5 : Int32)) 5 := by
  obtain ⟨n, hn, rfl, e⟩ := ge_nI h
  rw [show (65536 : Int32) = nI 65536 from rfl, show (5 : Int32) = nI 5 from rfl, pk_div hn (by decide) (by decide), rem_nI (by omega) (by decide) (by decide)]
  exact vp_in_nI (Nat.mod_lt _ (by decide)) (by decide)
