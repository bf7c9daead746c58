/-! what is left in 'must' from before counts for nothing -/
theorem by100_indep (r : Int64) (d h : Int32) (k il sa : Nat → Int32) (s : Int32) (m m2 : Nat → Int64) (a : Int32) (i : Nat) (hm : m (nI i + (1 : Int32)).toNatClampNeg = m2 (nI i + (1 : Int32)).toNatClampNeg) : ∀ (n : Nat) (u6 u8 x9 : Int32), fX6_byWhom_100 r d h k il sa s m a i n u6 u8 x9 = fX6_byWhom_100 r d h k il sa s m2 a i n u6 u8 x9 := by
  intro n
  induction n with
  | zero => intro u6 u8 x9; rw [fX6_byWhom_100, fX6_byWhom_100]
  | succ n ih => intro u6 u8 x9; simp only [fX6_byWhom_100, hm, ih]
theorem by84_indep (r : Int64) (d h : Int32) (k il sa : Nat → Int32) (s no : Int32) (m m2 : Nat → Int64) (D : Nat) (hf : no.toInt < (D : Int)) (h7 : no.toInt ≤ 7) (hm : ∀ j : Nat, j ≤ D → m j = m2 j) : ∀ (n : Nat) (a t : Int32) (i : Nat), i ≤ 8 → fX6_byWhom_84 r d h k il sa s no m n a t i = fX6_byWhom_84 r d h k il sa s no m2 n a t i := by
  intro n
  induction n with
  | zero => intro a t i _; rw [fX6_byWhom_84, fX6_byWhom_84]
  | succ n ih =>
    intro a t i hi8
    rw [fX6_byWhom_84, fX6_byWhom_84]
    by_cases hx : no < nI i
    · rw [if_pos hx, if_pos hx]
    · rw [if_neg hx, if_neg hx]
      have hx2 := mt Int32.lt_iff_toInt_lt.mpr hx
      rw [nI_toInt (by omega)] at hx2
      have q : (nI i + (1 : Int32)).toNatClampNeg = i + 1 := by
        rw [show (1 : Int32) = nI 1 from rfl, nI_add]
        exact nI_clamp (by omega)
      rw [by100_indep r d h k il sa s m m2 a i (by rw [q]; exact hm (i + 1) (by omega))]
      exact ih _ _ (i + 1) (by omega)
theorem by32_indep (r : Int64) (d h : Int32) (k il ce sa : Nat → Int32) (s no : Int32) (D : Nat) (hD : D ≤ 41) (hf : no.toInt < (D : Int)) (h7 : no.toInt ≤ 7) : ∀ (n : Nat) (x : Int32) (o o2 : Nat → Int64), -1 ≤ x.toInt → x.toInt < (D : Int) → (∀ j : Nat, x.toInt < (j : Int) → j ≤ D → o j = o2 j) → (x.toInt + 1).toNat < n → fX6_byWhom_32 r d h k il ce sa s no n x o = fX6_byWhom_32 r d h k il ce sa s no n x o2 := by
  intro n
  induction n with
  | zero => intro x o o2 _ _ _ h; exact absurd h (Nat.not_lt_zero _)
  | succ n ih =>
    intro x o o2 h1 h2 ho hn
    rw [fX6_byWhom_32, fX6_byWhom_32]
    have z0 : (0 : Int32).toInt = 0 := by decide
    have z1 : (1 : Int32).toInt = 1 := by decide
    have zm : (-1 : Int32).toInt = -1 := by decide
    by_cases hx : x < (0 : Int32)
    · rw [if_pos hx, if_pos hx]
      have hx2 := Int32.lt_iff_toInt_lt.mp hx
      exact by84_indep r d h k il sa s no o o2 D hf h7 (fun j hj => ho j (by omega) hj) 9 _ _ 0 (by omega)
    · rw [if_neg hx, if_neg hx]
      have hx2 := mt Int32.lt_iff_toInt_lt.mpr hx
      have q1 : o (x + (1 : Int32)).toNatClampNeg = o2 (x + (1 : Int32)).toNatClampNeg := by
        rw [clampN, i_add (x := x) (y := (1 : Int32)) (by omega) (by omega), z1]
        exact ho _ (by omega) (by omega)
      rw [q1]
      clear q1 z1
      have e2 := i_add (x := x) (y := (-1 : Int32)) (by omega) (by omega)
      refine ih (x + (-1 : Int32)) _ _ (by omega) (by omega) ?_ (by omega)
      intro a h3 h4
      by_cases ha : a = x.toNatClampNeg
      · rw [ha, pk_uLs, pk_uLs]
      · rw [pk_uLn ha, pk_uLn ha]
        rw [clampN] at ha
        exact ho a (by omega) h4
theorem byWhom_indep (r : Int64) (d h : Int32) (k il ce sa : Nat → Int32) (o o2 : Nat → Int64) (s c no : Int32) (h0 : 0 ≤ no.toInt) (h7 : no.toInt ≤ 7) : fX6_byWhom r d h k il ce sa o s c no = fX6_byWhom r d h k il ce sa o2 s c no := by
  rw [fX6_byWhom, fX6_byWhom]
  by_cases hx : no < fX6_soonOf r d h k il ce sa s c
  · rw [if_pos hx, if_pos hx]
    have hx2 := Int32.lt_iff_toInt_lt.mp hx
    have hd := soonOf_le r d h k il ce sa s c
    generalize fX6_soonOf r d h k il ce sa s c = m at *
    have z1 : (1 : Int32).toInt = 1 := by decide
    have e1 := i_sub (x := m) (y := (1 : Int32)) (by omega) (by omega)
    refine by32_indep r d h k il ce sa s no m.toInt.toNat (by omega) (by omega) h7 42 (m - (1 : Int32)) _ _ (by omega) (by omega) ?_ (by omega)
    intro a h3 h4
    have ha : a = m.toNatClampNeg := by rw [clampN]; omega
    rw [ha, pk_uLs, pk_uLs]
  · rw [if_neg hx, if_neg hx]
def fX6_byWhomC (r : Int64) (d h : Int32) (k il ce sa : Nat → Int32) (s c no : Int32) : Int32 := fX6_byWhom r d h k il ce sa (fun _ => 0) s c no
