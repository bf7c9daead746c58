theorem nl_in {d q : Int32} (h : ¬ fX5_namesLodger d q = (0 : Int32)) : vp_in q 4 := by
  rw [fX5_namesLodger] at h
  by_cases h1 : d = (0 : Int32)
  · rw [if_pos h1] at h; exact absurd rfl h
  · rw [if_neg h1] at h
    by_cases h2 : q < (0 : Int32)
    · rw [if_pos h2] at h; exact absurd rfl h
    · rw [if_neg h2] at h
      by_cases h3 : (4 : Int32) ≤ q
      · rw [if_pos h3] at h; exact absurd rfl h
      · have e2 := mt Int32.lt_iff_toInt_lt.mpr h2
        have e3 := mt Int32.le_iff_toInt_le.mpr h3
        have z0 : (0 : Int32).toInt = 0 := by decide
        have z4 : (4 : Int32).toInt = 4 := by decide
        exact vp_in_iff.mpr ⟨by omega, by omega⟩
theorem ns_in {d n q : Int32} (h : ¬ fX5_namesShip d n q = (0 : Int32)) (hn : n.toInt ≤ 3) : vp_in q 3 := by
  rw [fX5_namesShip] at h
  by_cases h1 : d = (0 : Int32)
  · rw [if_pos h1] at h; exact absurd rfl h
  · rw [if_neg h1] at h
    by_cases h2 : q < (0 : Int32)
    · rw [if_pos h2] at h; exact absurd rfl h
    · rw [if_neg h2] at h
      by_cases h3 : n ≤ q
      · rw [if_pos h3] at h; exact absurd rfl h
      · have e2 := mt Int32.lt_iff_toInt_lt.mpr h2
        have e3 := mt Int32.le_iff_toInt_le.mpr h3
        have z0 : (0 : Int32).toInt = 0 := by decide
        exact vp_in_iff.mpr ⟨by omega, by omega⟩
