/-! bounds of answers -/
theorem nI_gt {k i : Nat} (hk : k < 2 ^ 31) (hi : i < 2 ^ 31) (h : ¬ nI k < nI i) : i ≤ k := by
  rw [nI_ltI hk hi] at h
  omega
theorem firstHelm3_in (r : Int64) (a u : Int32) (g : Int64) : ∀ n i : Nat, i ≤ 5 → 0 ≤ (fX4_firstHelm_3 r a u g n i).toInt ∧ (fX4_firstHelm_3 r a u g n i).toInt ≤ 5 := by
  intro n
  induction n with
  | zero => intro i _; rw [fX4_firstHelm_3]; decide
  | succ n ih =>
    intro i hi
    rw [fX4_firstHelm_3]
    by_cases h : (4 : Int32) < nI i
    · rw [if_pos h]; decide
    · rw [if_neg h]
      have h4 : i ≤ 4 := nI_gt (k := 4) (by decide) (by omega) h
      split
      · exact ih (i + 1) (by omega)
      · split
        · exact ih (i + 1) (by omega)
        · rw [nI_toInt (by omega)]; omega
theorem firstHelm_in (r : Int64) (a u : Int32) (g : Int64) : 0 ≤ (fX4_firstHelm r a u g).toInt ∧ (fX4_firstHelm r a u g).toInt ≤ 5 := by
  rw [fX4_firstHelm]
  exact firstHelm3_in r a u g 6 0 (by omega)
theorem daysTo13_le (r : Int64) (k il : Nat → Int32) (sd td hi s c : Int32) : ∀ (n : Nat) (x : Int64) (i : Nat), i ≤ 41 → -1 ≤ (fX4_daysTo_13 r k il sd td hi s c n x i).toInt ∧ (fX4_daysTo_13 r k il sd td hi s c n x i).toInt ≤ 41 := by
  intro n
  induction n with
  | zero => intro x i _; rw [fX4_daysTo_13]; decide
  | succ n ih =>
    intro x i hi
    rw [fX4_daysTo_13]
    by_cases h : (40 : Int32) < nI i
    · rw [if_pos h]; split <;> decide
    · rw [if_neg h]
      have h4 : i ≤ 40 := nI_gt (k := 40) (by decide) (by omega) h
      split
      · exact ih _ (i + 1) (by omega)
      · rw [nI_toInt (by omega)]; omega
theorem daysTo_le (r : Int64) (k il ce : Nat → Int32) (sd td hi s c : Int32) : -1 ≤ (fX4_daysTo r k il ce sd td hi s c).toInt ∧ (fX4_daysTo r k il ce sd td hi s c).toInt ≤ 41 := by
  rw [fX4_daysTo]
  exact daysTo13_le r k il sd td hi s c 42 _ 0 (by omega)
theorem helm_in {r : Int64} {a u : Int32} {g : Int64} (h : ¬ fX4_firstHelm r a u g = (5 : Int32)) : vp_in (fX4_firstHelm r a u g) 5 := by
  have h1 := firstHelm_in r a u g
  have h2 := mt Int32.toInt_inj.mp h
  refine vp_in_iff.mpr ?_
  generalize (fX4_firstHelm r a u g).toInt = z at h1 h2 ⊢
  rw [show (5 : Int32).toInt = 5 by decide] at h2
  omega
