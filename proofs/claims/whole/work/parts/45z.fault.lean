/-! the model's faultOf: where it ends, and the mark behind the ships -/
theorem fault7_spec (pg : Nat → Int32) (pm : Int32) (hz : pm.toInt ≤ 40) : ∀ (n i : Nat) (e : Int32), (i : Int) ≤ pm.toInt → (e.toInt = 0 ∨ (9 ≤ e.toInt ∧ e.toInt < (i : Int))) → 40 - i < n → (((fX6_faultOf_7 pg pm n i e).2).toInt = 0 ∨ (9 ≤ ((fX6_faultOf_7 pg pm n i e).2).toInt ∧ ((fX6_faultOf_7 pg pm n i e).2).toInt ≤ ((fX6_faultOf_7 pg pm n i e).1).toInt)) ∧ ((fX6_faultOf_7 pg pm n i e).1).toInt ≤ pm.toInt := by
  intro n
  induction n with
  | zero => intro i e _ _ h; exact absurd h (Nat.not_lt_zero _)
  | succ n ih =>
    intro i e hi he hn
    rw [fX6_faultOf_7]
    by_cases h1 : pm ≤ nI i
    · rw [if_pos h1]
      show (e.toInt = 0 ∨ (9 ≤ e.toInt ∧ e.toInt ≤ (nI i).toInt)) ∧ (nI i).toInt ≤ pm.toInt
      rw [nI_toInt (by omega)]
      omega
    · rw [if_neg h1]
      have h2 := mt Int32.le_iff_toInt_le.mpr h1
      rw [nI_toInt (by omega)] at h2
      have hg := good_end (pg := pg) (e := e) (i := i) (by omega) he
      split
      · show (((fX6_isGood pg e (nI i)).2).toInt = 0 ∨ (9 ≤ ((fX6_isGood pg e (nI i)).2).toInt ∧ ((fX6_isGood pg e (nI i)).2).toInt ≤ (nI i).toInt)) ∧ (nI i).toInt ≤ pm.toInt
        rw [nI_toInt (by omega)]
        generalize ((fX6_isGood pg e (nI i)).2).toInt = z at hg ⊢
        omega
      · exact ih (i + 1) _ (by omega) hg (by omega)
theorem fault_spec {pg : Nat → Int32} {pm : Int32} (h0 : 0 ≤ pm.toInt) (hz : pm.toInt ≤ 40) : (((fX6_faultOf pg pm).2).toInt = 0 ∨ (9 ≤ ((fX6_faultOf pg pm).2).toInt ∧ ((fX6_faultOf pg pm).2).toInt ≤ ((fX6_faultOf pg pm).1).toInt)) ∧ ((fX6_faultOf pg pm).1).toInt ≤ pm.toInt := by
  rw [fX6_faultOf]
  exact fault7_spec pg pm hz 41 0 (0 : Int32) h0 (Or.inl (by decide)) (by omega)
theorem fe_9 {pg : Nat → Int32} {pm : Int32} (h0 : 0 ≤ pm.toInt) (hz : pm.toInt ≤ 40) (h : ¬ ((fX6_faultOf pg pm).2) = (0 : Int32)) : 9 ≤ ((fX6_faultOf pg pm).2).toInt := by
  have h1 := (fault_spec (pg := pg) h0 hz).1
  have h2 := mt Int32.toInt_inj.mp h
  rw [show (0 : Int32).toInt = 0 by decide] at h2
  generalize ((fX6_faultOf pg pm).2).toInt = z at h1 h2 ⊢
  omega
theorem fe_le {pg : Nat → Int32} {pm : Int32} (h0 : 0 ≤ pm.toInt) (hz : pm.toInt ≤ 40) (h8 : ¬ ((fX6_faultOf pg pm).1) < pm) (h : ¬ ((fX6_faultOf pg pm).2) = (0 : Int32)) : ((fX6_faultOf pg pm).2).toInt ≤ pm.toInt := by
  have h1 := fault_spec (pg := pg) h0 hz
  have h9 := fe_9 h0 hz h
  generalize ((fX6_faultOf pg pm).2).toInt = z at h1 h9 ⊢
  generalize ((fX6_faultOf pg pm).1).toInt = y at h1
  omega
theorem fe_13 {e pm : Int32} {i : Nat} (he : 9 ≤ e.toInt) (hz : pm.toInt ≤ 40) (h : (i : Int) < (pm.toInt - e.toInt) / 3) : i ≤ 12 := by omega
theorem fe_14 {i : Nat} (h : i ≤ 12) : i + 1 ≤ 14 := by omega
theorem fe_mm {i n : Nat} (hn : 14 - i < n + 1) (h : i ≤ 12) : 14 - (i + 1) < n := by omega
