/-! what is left in 'origins' from before counts for nothing -/
theorem clampN {x : Int32} : x.toNatClampNeg = x.toInt.toNat := rfl
theorem trace_indep (r : Int64) (k il : Nat → Int32) (sd td hi s : Int32) (D : Nat) (hD : D ≤ 41) : ∀ (n : Nat) (x : Int32) (o o2 : Nat → Int64), -1 ≤ x.toInt → x.toInt < (D : Int) → (∀ j : Nat, x.toInt < (j : Int) → j ≤ D → o j = o2 j) → (x.toInt + 1).toNat < n → ∀ j : Nat, j ≤ D → fX4_traceBack_16 r k il sd td hi s n x o j = fX4_traceBack_16 r k il sd td hi s n x o2 j := by
  intro n
  induction n with
  | zero => intro x o o2 _ _ _ h; exact absurd h (Nat.not_lt_zero _)
  | succ n ih =>
    intro x o o2 h1 h2 ho hn j hj
    rw [fX4_traceBack_16, fX4_traceBack_16]
    have z0 : (0 : Int32).toInt = 0 := by decide
    have z1 : (1 : Int32).toInt = 1 := by decide
    have zm : (-1 : Int32).toInt = -1 := by decide
    by_cases hx : x < (0 : Int32)
    · rw [if_pos hx, if_pos hx]
      have hx2 := Int32.lt_iff_toInt_lt.mp hx
      exact ho j (by omega) hj
    · rw [if_neg hx, if_neg hx]
      have hx2 := mt Int32.lt_iff_toInt_lt.mpr hx
      have q1 : o (x + (1 : Int32)).toNatClampNeg = o2 (x + (1 : Int32)).toNatClampNeg := by
        rw [clampN, i_add (x := x) (y := (1 : Int32)) (by omega) (by omega), z1]
        exact ho _ (by omega) (by omega)
      rw [q1]
      clear q1 z1
      have e2 := i_add (x := x) (y := (-1 : Int32)) (by omega) (by omega)
      refine ih (x + (-1 : Int32)) _ _ (by omega) (by omega) ?_ (by omega) j hj
      intro a h3 h4
      by_cases ha : a = x.toNatClampNeg
      · rw [ha, pk_uLs, pk_uLs]
      · rw [pk_uLn ha, pk_uLn ha]
        rw [clampN] at ha
        exact ho a (by omega) h4
theorem helm41_indep (r : Int64) (k il ce : Nat → Int32) (sd td hi s c fr : Int32) (o o2 : Nat → Int64) (D : Nat) (hf : fr.toInt < (D : Int)) (hf7 : fr.toInt ≤ 7)
    (ho : ∀ j : Nat, j ≤ D → fX4_traceBack o r k il sd td hi s c (fX4_daysTo r k il ce sd td hi s c) j = fX4_traceBack o2 r k il sd td hi s c (fX4_daysTo r k il ce sd td hi s c) j) : ∀ (n : Nat) (x6 x7 : Int32) (i : Nat), i ≤ 8 → fX4_helmOn_41 o r k il ce sd td hi s c fr n x6 x7 i = fX4_helmOn_41 o2 r k il ce sd td hi s c fr n x6 x7 i := by
  intro n
  induction n with
  | zero => intro x6 x7 i _; rw [fX4_helmOn_41, fX4_helmOn_41]
  | succ n ih =>
    intro x6 x7 i hi8
    rw [fX4_helmOn_41, fX4_helmOn_41]
    by_cases hx : fr < nI i
    · rw [if_pos hx, if_pos hx]
    · rw [if_neg hx, if_neg hx]
      have hx2 := mt Int32.lt_iff_toInt_lt.mpr hx
      rw [nI_toInt (by omega)] at hx2
      have q : (nI i + (1 : Int32)).toNatClampNeg = i + 1 := by
        rw [show (1 : Int32) = nI 1 from rfl, nI_add]
        exact nI_clamp (by omega)
      rw [q, ho (i + 1) (by omega)]
      split
      · exact ih _ _ (i + 1) (by omega)
      · exact ih _ _ (i + 1) (by omega)
theorem helmOn_indep (o o2 : Nat → Int64) (r : Int64) (k il ce : Nat → Int32) (sd td hi s c fr : Int32) (h0 : 0 ≤ fr.toInt) (h7 : fr.toInt ≤ 7) : fX4_helmOn o r k il ce sd td hi s c fr = fX4_helmOn o2 r k il ce sd td hi s c fr := by
  rw [fX4_helmOn, fX4_helmOn]
  by_cases hx : fr < fX4_daysTo r k il ce sd td hi s c
  · rw [if_pos hx, if_pos hx]
    have hx2 := Int32.lt_iff_toInt_lt.mp hx
    have hd := daysTo_le r k il ce sd td hi s c
    refine helm41_indep r k il ce sd td hi s c fr o o2 (fX4_daysTo r k il ce sd td hi s c).toInt.toNat (by omega) h7 ?_ 9 _ _ 0 (by omega)
    intro j hj
    rw [fX4_traceBack, fX4_traceBack]
    generalize fX4_daysTo r k il ce sd td hi s c = d at *
    have z1 : (1 : Int32).toInt = 1 := by decide
    have e1 := i_sub (x := d) (y := (1 : Int32)) (by omega) (by omega)
    refine trace_indep r k il sd td hi s d.toInt.toNat (by omega) 42 (d - (1 : Int32)) _ _ (by omega) (by omega) ?_ (by omega) j hj
    intro a h3 h4
    have ha : a = d.toNatClampNeg := by rw [clampN]; omega
    rw [ha, pk_uLs, pk_uLs]
  · rw [if_neg hx, if_neg hx]
def fX4_helmOnC (r : Int64) (k il ce : Nat → Int32) (sd td hi s c fr : Int32) : Int32 := fX4_helmOn (fun _ => 0) r k il ce sd td hi s c fr
