theorem takesShip_sc {sh : Nat → Int32} {sc c : Int32} (h0 : 0 ≤ sc.toInt) (h3 : sc.toInt ≤ 3) : 0 ≤ ((fX1_takesShip sh sc c).2.2).toInt ∧ ((fX1_takesShip sh sc c).2.2).toInt ≤ 3 := by
  unfold fX1_takesShip
  by_cases h : sc < (3 : Int32)
  · rw [if_pos h]
    have hl := Int32.lt_iff_toInt_lt.mp h
    have z1 : (1 : Int32).toInt = 1 := by decide
    have z3 : (3 : Int32).toInt = 3 := by decide
    have e := i_add (x := sc) (y := (1 : Int32)) (by omega) (by omega)
    show 0 ≤ (sc + (1 : Int32)).toInt ∧ (sc + (1 : Int32)).toInt ≤ 3
    omega
  · rw [if_neg h]
    exact ⟨h0, h3⟩
theorem takesColumn_sc {sh : Nat → Int32} {sc : Int32} {ro : Int64} {rc am rw_ wh co : Int32} (h0 : 0 ≤ sc.toInt) (h3 : sc.toInt ≤ 3) : 0 ≤ ((fX1_takesColumn sh sc ro rc am rw_ wh co).2.2.1).toInt ∧ ((fX1_takesColumn sh sc ro rc am rw_ wh co).2.2.1).toInt ≤ 3 := by
  unfold fX1_takesColumn
  split
  · exact ⟨h0, h3⟩
  · split
    · exact takesShip_sc h0 h3
    · exact ⟨h0, h3⟩
theorem takes_sc {k il sh : Nat → Int32} {sc : Int32} {ro : Int64} {rc am rw_ wh pl co : Int32} (h0 : 0 ≤ sc.toInt) (h3 : sc.toInt ≤ 3) : 0 ≤ ((fX1_takes k il sh sc ro rc am rw_ wh pl co).2.2.2.2.1).toInt ∧ ((fX1_takes k il sh sc ro rc am rw_ wh pl co).2.2.2.2.1).toInt ≤ 3 := by
  unfold fX1_takes
  split
  · split
    · split
      · exact ⟨h0, h3⟩
      · exact ⟨h0, h3⟩
    · split
      · exact ⟨h0, h3⟩
      · split
        · exact takesColumn_sc h0 h3
        · exact ⟨h0, h3⟩
  · split
    · exact ⟨h0, h3⟩
    · exact ⟨h0, h3⟩
