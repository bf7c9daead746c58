/-! what the calls keep -/
theorem letter_inv (pg : Nat → Int32) (pm x : Int32) (h0 : 0 ≤ pm.toInt) (h4 : pm.toInt ≤ 40) (h : ∀ j : Nat, 0 ≤ (pg j).toInt ∧ (pg j).toInt ≤ 126) : 0 ≤ ((fX6_letter pg pm x).2.2).toInt ∧ ((fX6_letter pg pm x).2.2).toInt ≤ 40 ∧ ∀ j : Nat, 0 ≤ ((fX6_letter pg pm x).2.1 j).toInt ∧ ((fX6_letter pg pm x).2.1 j).toInt ≤ 126 := by
  have z40 : (40 : Int32).toInt = 40 := by decide
  rw [fX6_letter]
  by_cases h1 : 1 ≤ x.toInt ∧ x.toInt ≤ 126
  · rw [if_neg (mt (in6 x (a := 1) (b := 126) (by decide) (by decide)).mp (fun q => q h1))]
    by_cases h2 : pm = (40 : Int32)
    · rw [if_pos h2]; exact ⟨h0, h4, h⟩
    · rw [if_neg h2]
      have h3 := mt Int32.toInt_inj.mp h2
      refine ⟨?_, ?_, fun j => ?_⟩
      · show 0 ≤ (pm + (1 : Int32)).toInt
        rw [add1_toInt (by omega)]; omega
      · show (pm + (1 : Int32)).toInt ≤ 40
        rw [add1_toInt (by omega)]; omega
      · show 0 ≤ (upd pg pm.toNatClampNeg x j).toInt ∧ (upd pg pm.toNatClampNeg x j).toInt ≤ 126
        by_cases hj : j = pm.toNatClampNeg
        · rw [hj, pk_us]; omega
        · rw [pk_un hj]; exact h j
  · rw [if_pos ((in6 x (a := 1) (b := 126) (by decide) (by decide)).mpr h1)]; exact ⟨h0, h4, h⟩
theorem okL_lt {ns k : Int32} (h : okL ns k) : k.toNatClampNeg < 4 := by
  have h1 := h.2
  rw [clampN]; omega
theorem ail_inv (il : Nat → Int32) (ns day k d : Int32) (hi : ∀ q : Nat, q < 4 → 0 ≤ (il q).toInt ∧ (il q).toInt ≤ 1100) (hz : ∀ q : Nat, 4 ≤ q → il q = 0) (hd : 0 ≤ day.toInt ∧ day.toInt ≤ 999) : (∀ q : Nat, q < 4 → 0 ≤ ((fX6_ail ns day il k d).2 q).toInt ∧ ((fX6_ail ns day il k d).2 q).toInt ≤ 1100) ∧ ∀ q : Nat, 4 ≤ q → (fX6_ail ns day il k d).2 q = 0 := by
  rw [fX6_ail]
  by_cases h : okL ns k
  · rw [if_neg (mt (nl6 ns k).mp (fun q => q h))]
    by_cases h2 : 0 ≤ d.toInt ∧ d.toInt ≤ 40
    · rw [if_neg (mt (in6 d (a := 0) (b := 40) (by decide) (by decide)).mp (fun q => q h2))]
      have hk := okL_lt h
      refine ⟨fun q hq => ?_, fun q hq => ?_⟩
      · show 0 ≤ (upd il k.toNatClampNeg (day + d) q).toInt ∧ (upd il k.toNatClampNeg (day + d) q).toInt ≤ 1100
        by_cases hj : q = k.toNatClampNeg
        · rw [hj, pk_us, i_add (by omega) (by omega)]; omega
        · rw [pk_un hj]; exact hi q hq
      · show upd il k.toNatClampNeg (day + d) q = 0
        rw [pk_un (by omega)]; exact hz q hq
    · rw [if_pos ((in6 d (a := 0) (b := 40) (by decide) (by decide)).mpr h2)]; exact ⟨hi, hz⟩
  · rw [if_pos ((nl6 ns k).mpr h)]; exact ⟨hi, hz⟩
theorem let_inv (kd : Nat → Int32) (ns k d : Int32) (hz : ∀ q : Nat, 4 ≤ q → kd q = 0) : ∀ q : Nat, 4 ≤ q → (fX6_let ns kd k d).2 q = 0 := by
  intro q hq
  rw [fX6_let]
  by_cases h : okL ns k
  · rw [if_neg (mt (nl6 ns k).mp (fun q => q h))]
    have hk := okL_lt h
    split
    · exact hz q hq
    · show upd kd k.toNatClampNeg d q = 0
      rw [pk_un (by omega)]; exact hz q hq
  · rw [if_pos ((nl6 ns k).mpr h)]; exact hz q hq
theorem hire_inv (ns h : Int32) (hb : isB h) : isB ((fX6_hire ns h).2) := by
  rw [fX6_hire]
  repeat' split
  all_goals first | exact nb_0 | exact nb_1 | exact hb
theorem as_eq (kd : Nat → Int32) (ns k d : Int32) : fX5_as (if ns = (0 : Int32) then (0 : Int32) else (1 : Int32)) kd k d = fX6_as ns kd k d := by
  rw [fX5_as, fX6_as]
  by_cases h : okL ns k
  · rw [if_neg (mt (nl5 ns k).mp (fun q => q h)), if_neg (mt (nl6 ns k).mp (fun q => q h))]
    by_cases h2 : 0 ≤ d.toInt ∧ d.toInt ≤ 4
    · rw [if_neg (mt (ik5 d).mp (fun q => q h2)), if_neg (mt (in6 d (a := 0) (b := 4) (by decide) (by decide)).mp (fun q => q h2)), fX5_isSuch]
      have n1 : ¬ (1 : Int32) = (0 : Int32) := by decide
      by_cases a1 : d = (0 : Int32)
      · rw [if_pos a1, if_pos a1]
      · rw [if_neg a1, if_neg a1]
        by_cases a2 : d = kd k.toNatClampNeg
        · rw [if_pos a2, if_pos a2]
        · rw [if_neg a2, if_neg a2]
          by_cases a3 : d = (1 : Int32)
          · rw [if_pos a3, if_pos a3]
            by_cases a4 : kd k.toNatClampNeg = (4 : Int32)
            · rw [if_pos a4, if_pos a4]
            · rw [if_neg a4, if_neg a4]
          · rw [if_neg a3, if_neg a3]
    · rw [if_pos ((ik5 d).mpr h2), if_pos ((in6 d (a := 0) (b := 4) (by decide) (by decide)).mpr h2)]
  · rw [if_pos ((nl5 ns k).mpr h), if_pos ((nl6 ns k).mpr h)]
/-- the next day -/
theorem day_eq (ns sd day : Int32) (sa : Nat → Int32) (hd : 0 ≤ day.toInt ∧ day.toInt ≤ 999) (hb : isB (sa 0) ∧ isB (sa 1) ∧ isB (sa 2)) (hs : sd = sa 0 + (2 : Int32) * sa 1 + (4 : Int32) * sa 2) : (fX5_day (if ns = (0 : Int32) then (0 : Int32) else (1 : Int32)) sd day).1 = (fX6_day ns day sa).1 ∧ (fX5_day (if ns = (0 : Int32) then (0 : Int32) else (1 : Int32)) sd day).2.2 = (fX6_day ns day sa).2.1 ∧ (0 ≤ ((fX6_day ns day sa).2.1).toInt ∧ ((fX6_day ns day sa).2.1).toInt ≤ 999) ∧ (isB ((fX6_day ns day sa).2.2 0) ∧ isB ((fX6_day ns day sa).2.2 1) ∧ isB ((fX6_day ns day sa).2.2 2)) ∧ (fX5_day (if ns = (0 : Int32) then (0 : Int32) else (1 : Int32)) sd day).2.1 = (fX6_day ns day sa).2.2 0 + (2 : Int32) * (fX6_day ns day sa).2.2 1 + (4 : Int32) * (fX6_day ns day sa).2.2 2 := by
  have z : (999 : Int32).toInt = 999 := by decide
  rw [fX5_day, fX6_day]
  by_cases h0 : ns = (0 : Int32)
  · rw [if_pos ((dn_0 ns).mpr h0), if_neg (mt (lk6 ns).mp (fun q => q h0))]
    exact ⟨rfl, rfl, hd, hb, hs⟩
  · rw [if_neg (mt (dn_0 ns).mp h0), if_pos ((lk6 ns).mpr h0)]
    by_cases h : day = (999 : Int32)
    · have h1 : ¬ day < (999 : Int32) := fun q => by have := Int32.lt_iff_toInt_lt.mp q; rw [h] at this; omega
      rw [if_neg h1, if_pos h]
      exact ⟨rfl, rfl, hd, hb, hs⟩
    · have h2 := mt Int32.toInt_inj.mp h
      have h1 : day < (999 : Int32) := Int32.lt_iff_toInt_lt.mpr (by omega)
      rw [if_pos h1, if_neg h]
      refine ⟨rfl, rfl, ⟨?_, ?_⟩, ⟨nb_0, nb_0, nb_0⟩, (show (0 : Int32) = (0 : Int32) + (2 : Int32) * (0 : Int32) + (4 : Int32) * (0 : Int32) by decide)⟩
      · show 0 ≤ (day + (1 : Int32)).toInt
        rw [add1_toInt (by omega)]; omega
      · show (day + (1 : Int32)).toInt ≤ 999
        rw [add1_toInt (by omega)]; omega
