theorem dec_inv {x : Int32} {n : Nat} (h1 : ¬ x < (0 : Int32)) (h4 : x.toInt ≤ 4) (hn : (x.toInt + 1).toNat < n + 1) : (-1 ≤ (x + (-1 : Int32)).toInt ∧ (x + (-1 : Int32)).toInt ≤ 4) ∧ ((x + (-1 : Int32)).toInt + 1).toNat < n := by
  have h2 := mt Int32.lt_iff_toInt_lt.mpr h1
  have z0 : (0 : Int32).toInt = 0 := by decide
  have zm : (-1 : Int32).toInt = -1 := by decide
  rw [i_add (by omega) (by omega), zm]
  omega
theorem dec_inv40 {x : Int32} {n : Nat} (h1 : ¬ x < (0 : Int32)) (h4 : x.toInt ≤ 40) (hn : (x.toInt + 1).toNat < n + 1) : (-1 ≤ (x + (-1 : Int32)).toInt ∧ (x + (-1 : Int32)).toInt ≤ 40) ∧ ((x + (-1 : Int32)).toInt + 1).toNat < n := by
  have h2 := mt Int32.lt_iff_toInt_lt.mpr h1
  have z0 : (0 : Int32).toInt = 0 := by decide
  have zm : (-1 : Int32).toInt = -1 := by decide
  rw [i_add (by omega) (by omega), zm]
  omega
