/-! the model: bounds for side conditions -/
theorem i64_toInt (x : Int32) : x.toInt64.toInt = x.toInt := Int32.toInt_toInt64 x
theorem in_pos {x : Int32} {lo hi : Int64} {a b : Int} (hlo : lo.toInt = a) (hhi : hi.toInt = b) (h : ¬ fX6_in x.toInt64 lo hi = (0 : Int32)) : a ≤ x.toInt ∧ x.toInt ≤ b := by
  rw [fX6_in] at h
  by_cases h1 : x.toInt64 < lo
  · rw [if_pos h1] at h; exact absurd rfl h
  · rw [if_neg h1] at h
    by_cases h2 : hi < x.toInt64
    · rw [if_pos h2] at h; exact absurd rfl h
    · have e1 := mt Int64.lt_iff_toInt_lt.mpr h1
      have e2 := mt Int64.lt_iff_toInt_lt.mpr h2
      rw [i64_toInt, hlo] at e1
      rw [i64_toInt, hhi] at e2
      omega
theorem ml_in {n k : Int32} (h : ¬ fX6_isLodger n k = (0 : Int32)) : vp_in k 4 := by
  rw [fX6_isLodger] at h
  by_cases h1 : fX6_lacks n = (0 : Int32)
  · rw [if_pos h1] at h
    by_cases h2 : fX6_in k.toInt64 (0 : Int64) (3 : Int64) = (0 : Int32)
    · rw [if_pos h2] at h; exact absurd rfl h
    · have := in_pos (a := 0) (b := 3) (by decide) (by decide) h2
      exact vp_in_iff.mpr ⟨by omega, by omega⟩
  · rw [if_neg h1] at h; exact absurd rfl h
theorem ms_in {n k : Int32} (h : ¬ fX6_isShip n k = (0 : Int32)) (h0 : 0 ≤ n.toInt) (h3 : n.toInt ≤ 3) : vp_in k 3 := by
  rw [fX6_isShip] at h
  have := in_pos (a := 0) (b := n.toInt - 1) (by decide) (by rw [i64_toInt, sub1_toInt h0]) h
  exact vp_in_iff.mpr ⟨by omega, by omega⟩
theorem ship_end {pg : Nat → Int32} {e a : Int32} : (fX6_isShipLetter pg e a).2 = (0 : Int32) ∨ (fX6_isShipLetter pg e a).2 = a ∨ (fX6_isShipLetter pg e a).2 = e := by
  rw [fX6_isShipLetter]
  repeat' split
  all_goals first | exact Or.inr (Or.inl rfl) | exact Or.inl rfl | exact Or.inr (Or.inr rfl)
theorem good_end {pg : Nat → Int32} {e : Int32} {i : Nat} (hi : i ≤ 39) (h : e.toInt = 0 ∨ (9 ≤ e.toInt ∧ e.toInt < (i : Int))) : ((fX6_isGood pg e (nI i)).2).toInt = 0 ∨ (9 ≤ ((fX6_isGood pg e (nI i)).2).toInt ∧ ((fX6_isGood pg e (nI i)).2).toInt < ((i + 1 : Nat) : Int)) := by
  have he : e.toInt = 0 ∨ (9 ≤ e.toInt ∧ e.toInt < ((i + 1 : Nat) : Int)) := by omega
  rw [fX6_isGood]
  by_cases h9 : (9 : Int32) ≤ nI i
  · rw [if_pos h9]
    have e9 := Int32.le_iff_toInt_le.mp h9
    rw [nI_toInt (by omega), show (9 : Int32).toInt = 9 by decide] at e9
    split
    · rcases ship_end (pg := pg) (e := e) (a := nI i) with q | q | q
      · exact Or.inl (by rw [q]; decide)
      · exact Or.inr (by rw [q, nI_toInt (by omega)]; omega)
      · rw [q]; exact he
    · exact he
  · rw [if_neg h9]
    split
    · split
      · exact he
      · exact he
    · exact he
theorem soon21_le (r : Int64) (d h : Int32) (k il : Nat → Int32) (c : Int32) : ∀ (n : Nat) (x : Int64) (i : Nat), i ≤ 41 → -1 ≤ (fX6_soonOf_21 r d h k il c n x i).toInt ∧ (fX6_soonOf_21 r d h k il c n x i).toInt ≤ 41 := by
  intro n
  induction n with
  | zero => intro x i _; rw [fX6_soonOf_21]; decide
  | succ n ih =>
    intro x i hi
    rw [fX6_soonOf_21]
    by_cases h : (41 : Int32) ≤ nI i
    · rw [if_pos h]; decide
    · rw [if_neg h]
      have h4 : i < 41 := Nat.not_le.mp fun q => h (nI_le (a := 41) q (by omega))
      split
      · rw [show (1 : Int32) = nI 1 from rfl, nI_add, nI_toInt (by omega)]; omega
      · exact ih _ (i + 1) (by omega)
theorem soonOf_le (r : Int64) (d h : Int32) (k il ce sa : Nat → Int32) (s c : Int32) : -1 ≤ (fX6_soonOf r d h k il ce sa s c).toInt ∧ (fX6_soonOf r d h k il ce sa s c).toInt ≤ 41 := by
  rw [fX6_soonOf]
  split
  · decide
  · exact soon21_le r d h k il c 42 _ 0 (by omega)
theorem draw_eq (s : Int32) : fX6_draw s (5 : Int32) = ((fX4_nextSeed s / (65536 : Int32)) - (fX4_nextSeed s / (65536 : Int32)) / (5 : Int32) * (5 : Int32), fX4_nextSeed s) := rfl
theorem draw_in (s : Int32) : vp_in ((fX6_draw s (5 : Int32)).1) 5 := by
  rw [draw_eq]
  exact rem5_in (nextSeed_nn s)
theorem rock_div {e pm : Int32} (he : 9 ≤ e.toInt) (hle : e.toInt ≤ pm.toInt) (hpm : pm.toInt ≤ 40) : ((pm - e) / (3 : Int32)).toInt = (pm.toInt - e.toInt) / 3 := by
  obtain ⟨a, ha, rfl, ea⟩ := ge_nI (x := pm) (by omega)
  obtain ⟨b, hb, rfl, eb⟩ := ge_nI (x := e) (by omega)
  rw [pk_sub (by omega), show (3 : Int32) = nI 3 from rfl, pk_div (by omega) (by decide) (by decide), nI_toInt (by omega)]
  omega
theorem rock_lt {e pm : Int32} {i : Nat} (hi : i ≤ 14) (he : 9 ≤ e.toInt) (hle : e.toInt ≤ pm.toInt) (hpm : pm.toInt ≤ 40) (h : ¬ (pm - e) / (3 : Int32) ≤ nI i) : (i : Int) < (pm.toInt - e.toInt) / 3 := by
  have h2 := mt Int32.le_iff_toInt_le.mpr h
  rw [rock_div he hle hpm, nI_toInt (by omega)] at h2
  omega
theorem rock_in {e pm : Int32} {i : Nat} (hi : i ≤ 14) (he : 9 ≤ e.toInt) (hle : e.toInt ≤ pm.toInt) (hpm : pm.toInt ≤ 40) (h : ¬ (pm - e) / (3 : Int32) ≤ nI i) : 0 ≤ ((e + (1 : Int32)) + ((3 : Int32) * nI i)).toInt ∧ ((e + (1 : Int32)) + ((3 : Int32) * nI i)).toInt ≤ 38 := by
  have h2 := rock_lt hi he hle hpm h
  obtain ⟨b, hb, rfl, eb⟩ := ge_nI (x := e) (by omega)
  rw [show (1 : Int32) = nI 1 from rfl, show (3 : Int32) = nI 3 from rfl, pk_mul, nI_add, nI_add, nI_toInt (by omega)]
  omega
theorem soon_m1 {m no : Int32} (h0 : 0 ≤ no.toInt) (h : no < m) (hm : m.toInt ≤ 41) : (-1 ≤ (m - (1 : Int32)).toInt ∧ (m - (1 : Int32)).toInt ≤ 40) ∧ ((m - (1 : Int32)).toInt + 1).toNat < 42 := by
  have h2 := Int32.lt_iff_toInt_lt.mp h
  rw [sub1_toInt (by omega)]
  omega
