/-! the class's functions and the model's: the simple ones -/
theorem in_iff (x : Int32) (lo hi : Int64) : fX6_in x.toInt64 lo hi = if lo.toInt ≤ x.toInt ∧ x.toInt ≤ hi.toInt then (1 : Int32) else (0 : Int32) := by
  rw [fX6_in]
  by_cases h1 : x.toInt64 < lo
  · have e1 := Int64.lt_iff_toInt_lt.mp h1
    rw [i64_toInt] at e1
    rw [if_pos h1, if_neg (by omega)]
  · have e1 := mt Int64.lt_iff_toInt_lt.mpr h1
    rw [i64_toInt] at e1
    rw [if_neg h1]
    by_cases h2 : hi < x.toInt64
    · have e2 := Int64.lt_iff_toInt_lt.mp h2
      rw [i64_toInt] at e2
      rw [if_pos h2, if_neg (by omega)]
    · have e2 := mt Int64.lt_iff_toInt_lt.mpr h2
      rw [i64_toInt] at e2
      rw [if_neg h2, if_pos (by omega)]
theorem b01 (p : Prop) [Decidable p] : ((if p then (1 : Int32) else (0 : Int32)) = (0 : Int32)) ↔ ¬ p := by
  by_cases h : p
  · rw [if_pos h]; exact ⟨fun q => absurd q (by decide), fun q => absurd h q⟩
  · rw [if_neg h]; exact ⟨fun _ => h, fun _ => rfl⟩
theorem b10 (p : Prop) [Decidable p] : ((if p then (0 : Int32) else (1 : Int32)) = (0 : Int32)) ↔ p := by
  by_cases h : p
  · rw [if_pos h]; exact ⟨fun _ => h, fun _ => rfl⟩
  · rw [if_neg h]; exact ⟨fun q => absurd q (by decide), fun q => absurd q h⟩
/-- a lodger's, ship's, cell's number -/
def okL (ns k : Int32) : Prop := ¬ ns = (0 : Int32) ∧ 0 ≤ k.toInt ∧ k.toInt ≤ 3
def okS (ns k : Int32) : Prop := 0 ≤ k.toInt ∧ k.toInt ≤ ns.toInt - 1
def okC (ns k : Int32) : Prop := ¬ ns = (0 : Int32) ∧ 0 ≤ k.toInt ∧ k.toInt ≤ 35
theorem dn_0 (ns : Int32) : ((if ns = (0 : Int32) then (0 : Int32) else (1 : Int32)) = (0 : Int32)) ↔ ns = (0 : Int32) := b10 _
theorem nl5 (ns k : Int32) : (fX5_namesLodger (if ns = (0 : Int32) then (0 : Int32) else (1 : Int32)) k = (0 : Int32)) ↔ ¬ okL ns k := by
  rw [fX5_namesLodger]
  have z0 : (0 : Int32).toInt = 0 := by decide
  have z4 : (4 : Int32).toInt = 4 := by decide
  unfold okL
  by_cases h : ns = (0 : Int32)
  · rw [if_pos ((dn_0 ns).mpr h)]; exact ⟨fun _ q => q.1 h, fun _ => rfl⟩
  · rw [if_neg (mt (dn_0 ns).mp h)]
    by_cases h1 : k < (0 : Int32)
    · have e := Int32.lt_iff_toInt_lt.mp h1
      rw [if_pos h1]; exact ⟨fun _ q => by omega, fun _ => rfl⟩
    · have e := mt Int32.lt_iff_toInt_lt.mpr h1
      rw [if_neg h1]
      by_cases h2 : (4 : Int32) ≤ k
      · have e2 := Int32.le_iff_toInt_le.mp h2
        rw [if_pos h2]; exact ⟨fun _ q => by omega, fun _ => rfl⟩
      · have e2 := mt Int32.le_iff_toInt_le.mpr h2
        rw [if_neg h2]; exact ⟨fun q => absurd q (by decide), fun q => absurd ⟨h, by omega, by omega⟩ q⟩
theorem nc5 (ns k : Int32) : (fX5_namesCell (if ns = (0 : Int32) then (0 : Int32) else (1 : Int32)) k = (0 : Int32)) ↔ ¬ okC ns k := by
  rw [fX5_namesCell]
  have z0 : (0 : Int32).toInt = 0 := by decide
  have z4 : (36 : Int32).toInt = 36 := by decide
  unfold okC
  by_cases h : ns = (0 : Int32)
  · rw [if_pos ((dn_0 ns).mpr h)]; exact ⟨fun _ q => q.1 h, fun _ => rfl⟩
  · rw [if_neg (mt (dn_0 ns).mp h)]
    by_cases h1 : k < (0 : Int32)
    · have e := Int32.lt_iff_toInt_lt.mp h1
      rw [if_pos h1]; exact ⟨fun _ q => by omega, fun _ => rfl⟩
    · have e := mt Int32.lt_iff_toInt_lt.mpr h1
      rw [if_neg h1]
      by_cases h2 : (36 : Int32) ≤ k
      · have e2 := Int32.le_iff_toInt_le.mp h2
        rw [if_pos h2]; exact ⟨fun _ q => by omega, fun _ => rfl⟩
      · have e2 := mt Int32.le_iff_toInt_le.mpr h2
        rw [if_neg h2]; exact ⟨fun q => absurd q (by decide), fun q => absurd ⟨h, by omega, by omega⟩ q⟩
theorem ns5 (ns k : Int32) : (fX5_namesShip (if ns = (0 : Int32) then (0 : Int32) else (1 : Int32)) ns k = (0 : Int32)) ↔ ¬ okS ns k := by
  rw [fX5_namesShip]
  have z0 : (0 : Int32).toInt = 0 := by decide
  unfold okS
  by_cases h : ns = (0 : Int32)
  · rw [if_pos ((dn_0 ns).mpr h)]; exact ⟨fun _ q => by rw [h, z0] at q; omega, fun _ => rfl⟩
  · rw [if_neg (mt (dn_0 ns).mp h)]
    by_cases h1 : k < (0 : Int32)
    · have e := Int32.lt_iff_toInt_lt.mp h1
      rw [if_pos h1]; exact ⟨fun _ q => by omega, fun _ => rfl⟩
    · have e := mt Int32.lt_iff_toInt_lt.mpr h1
      rw [if_neg h1]
      by_cases h2 : ns ≤ k
      · have e2 := Int32.le_iff_toInt_le.mp h2
        rw [if_pos h2]; exact ⟨fun _ q => by omega, fun _ => rfl⟩
      · have e2 := mt Int32.le_iff_toInt_le.mpr h2
        rw [if_neg h2]; exact ⟨fun q => absurd q (by decide), fun q => absurd ⟨by omega, by omega⟩ q⟩
theorem lk6 (ns : Int32) : (fX6_lacks ns = (0 : Int32)) ↔ ¬ ns = (0 : Int32) := by rw [fX6_lacks]; exact b01 _
theorem nl6 (ns k : Int32) : (fX6_isLodger ns k = (0 : Int32)) ↔ ¬ okL ns k := by
  rw [fX6_isLodger]
  unfold okL
  by_cases h : ns = (0 : Int32)
  · rw [if_neg (mt (lk6 ns).mp (fun q => q h))]; exact ⟨fun _ q => q.1 h, fun _ => rfl⟩
  · rw [if_pos ((lk6 ns).mpr h), in_iff, show (0 : Int64).toInt = 0 by decide, show (3 : Int64).toInt = 3 by decide]
    by_cases h2 : 0 ≤ k.toInt ∧ k.toInt ≤ 3
    · rw [if_pos h2, if_neg (by decide)]; exact ⟨fun q => absurd q (by decide), fun q => absurd ⟨h, h2⟩ q⟩
    · rw [if_neg h2, if_pos rfl]; exact ⟨fun _ q => h2 q.2, fun _ => rfl⟩
theorem nc6 (ns k : Int32) : (fX6_isCell ns k = (0 : Int32)) ↔ ¬ okC ns k := by
  rw [fX6_isCell]
  unfold okC
  by_cases h : ns = (0 : Int32)
  · rw [if_neg (mt (lk6 ns).mp (fun q => q h))]; exact ⟨fun _ q => q.1 h, fun _ => rfl⟩
  · rw [if_pos ((lk6 ns).mpr h), in_iff, show (0 : Int64).toInt = 0 by decide, show (35 : Int64).toInt = 35 by decide]
    by_cases h2 : 0 ≤ k.toInt ∧ k.toInt ≤ 35
    · rw [if_pos h2, if_neg (by decide)]; exact ⟨fun q => absurd q (by decide), fun q => absurd ⟨h, h2⟩ q⟩
    · rw [if_neg h2, if_pos rfl]; exact ⟨fun _ q => h2 q.2, fun _ => rfl⟩
theorem ns6 (ns k : Int32) (h0 : 0 ≤ ns.toInt) : (fX6_isShip ns k = (0 : Int32)) ↔ ¬ okS ns k := by
  rw [fX6_isShip, in_iff, i64_toInt, sub1_toInt h0, show (0 : Int64).toInt = 0 by decide]
  exact b01 _
theorem ik5 (k : Int32) : (fX5_isKind k = (0 : Int32)) ↔ ¬ (0 ≤ k.toInt ∧ k.toInt ≤ 4) := by
  rw [fX5_isKind]
  have z0 : (0 : Int32).toInt = 0 := by decide
  have z5 : (5 : Int32).toInt = 5 := by decide
  by_cases h1 : k < (0 : Int32)
  · have e := Int32.lt_iff_toInt_lt.mp h1
    rw [if_pos h1]; exact ⟨fun _ q => by omega, fun _ => rfl⟩
  · have e := mt Int32.lt_iff_toInt_lt.mpr h1
    rw [if_neg h1]
    by_cases h2 : (5 : Int32) ≤ k
    · have e2 := Int32.le_iff_toInt_le.mp h2
      rw [if_pos h2]; exact ⟨fun _ q => by omega, fun _ => rfl⟩
    · have e2 := mt Int32.le_iff_toInt_le.mpr h2
      rw [if_neg h2]; exact ⟨fun q => absurd q (by decide), fun q => absurd ⟨by omega, by omega⟩ q⟩
theorem in6 (k : Int32) {lo hi : Int64} {a b : Int} (hlo : lo.toInt = a) (hhi : hi.toInt = b) : (fX6_in k.toInt64 lo hi = (0 : Int32)) ↔ ¬ (a ≤ k.toInt ∧ k.toInt ≤ b) := by
  rw [in_iff, hlo, hhi]; exact b01 _
/-- two bounds, as the class asks for them -/
theorem two_if {α : Type} (k : Int32) {lo hi : Int32} {a b : Int} (hlo : lo.toInt = a) (hhi : hi.toInt = b) (x y : α) : (if k < lo then x else if k ≤ hi then y else x) = if a ≤ k.toInt ∧ k.toInt ≤ b then y else x := by
  by_cases h1 : k < lo
  · have e := Int32.lt_iff_toInt_lt.mp h1
    rw [if_pos h1, if_neg (by omega)]
  · have e := mt Int32.lt_iff_toInt_lt.mpr h1
    rw [if_neg h1]
    by_cases h2 : k ≤ hi
    · have e2 := Int32.le_iff_toInt_le.mp h2
      rw [if_pos h2, if_pos (by omega)]
    · have e2 := mt Int32.le_iff_toInt_le.mpr h2
      rw [if_neg h2, if_neg (by omega)]
theorem letter_eq (le : Nat → Int32) (sz x : Int32) (h0 : 0 ≤ sz.toInt) (h4 : sz.toInt ≤ 40) : fX5_letter le sz x = fX6_letter le sz x := by
  have z40 : (40 : Int32).toInt = 40 := by decide
  rw [fX5_letter, fX6_letter, two_if x (a := 1) (b := 126) (by decide) (by decide)]
  by_cases h : 1 ≤ x.toInt ∧ x.toInt ≤ 126
  · rw [if_pos h, if_neg (mt (in6 x (a := 1) (b := 126) (by decide) (by decide)).mp (fun q => q h)), fX3_append]
    by_cases h2 : sz < (40 : Int32)
    · have e := Int32.lt_iff_toInt_lt.mp h2
      have h3 : ¬ sz = (40 : Int32) := fun q => by rw [q] at e; omega
      rw [if_pos h2, if_neg h3, if_neg (show ¬ (1 : Int32) = (0 : Int32) by decide)]
    · have e := mt Int32.lt_iff_toInt_lt.mpr h2
      have h3 : sz = (40 : Int32) := Int32.toInt_inj.mp (by omega)
      rw [if_neg h2, if_pos h3, if_pos rfl]
  · rw [if_neg h, if_pos ((in6 x (a := 1) (b := 126) (by decide) (by decide)).mpr h)]
theorem illFor_eq (il : Nat → Int32) (day k : Int32) (hi : 0 ≤ (il k.toNatClampNeg).toInt ∧ (il k.toNatClampNeg).toInt ≤ 1100) (hd : 0 ≤ day.toInt ∧ day.toInt ≤ 999) : fX2_illFor il day k = fX6_illFor day il k := by
  rw [fX2_illFor, fX6_illFor]
  generalize il k.toNatClampNeg = v at *
  have z0 : (0 : Int32).toInt = 0 := by decide
  have e := i_sub (x := v) (y := day) (by omega) (by omega)
  by_cases h : v ≤ day
  · have h2 := Int32.le_iff_toInt_le.mp h
    have h3 : ¬ (0 : Int32) < v - day := fun q => by have q2 := Int32.lt_iff_toInt_lt.mp q; omega
    rw [if_pos h, if_neg h3]
  · have h2 := mt Int32.le_iff_toInt_le.mpr h
    have h3 : (0 : Int32) < v - day := Int32.lt_iff_toInt_lt.mpr (by omega)
    rw [if_neg h, if_pos h3]
theorem ail_eq (il : Nat → Int32) (ns day k d : Int32) (hi : ∀ q : Nat, q < 4 → 0 ≤ (il q).toInt ∧ (il q).toInt ≤ 1100) (hd : 0 ≤ day.toInt ∧ day.toInt ≤ 999) : fX5_ail (if ns = (0 : Int32) then (0 : Int32) else (1 : Int32)) il day k d = fX6_ail ns day il k d := by
  rw [fX5_ail, fX6_ail]
  by_cases h : okL ns k
  · rw [if_neg (mt (nl5 ns k).mp (fun q => q h)), if_neg (mt (nl6 ns k).mp (fun q => q h)), two_if d (a := 0) (b := 40) (by decide) (by decide)]
    by_cases h2 : 0 ≤ d.toInt ∧ d.toInt ≤ 40
    · rw [if_pos h2, if_neg (mt (in6 d (a := 0) (b := 40) (by decide) (by decide)).mp (fun q => q h2)), illFor_eq il day k (hi _ (by rw [clampN]; have := h.2; omega)) hd]
    · rw [if_neg h2, if_pos ((in6 d (a := 0) (b := 40) (by decide) (by decide)).mpr h2)]
  · rw [if_pos ((nl5 ns k).mpr h), if_pos ((nl6 ns k).mpr h)]
theorem let_eq (kd : Nat → Int32) (ns k d : Int32) : fX5_let (if ns = (0 : Int32) then (0 : Int32) else (1 : Int32)) kd k d = fX6_let ns kd k d := by
  rw [fX5_let, fX6_let]
  by_cases h : okL ns k
  · rw [if_neg (mt (nl5 ns k).mp (fun q => q h)), if_neg (mt (nl6 ns k).mp (fun q => q h))]
    by_cases h2 : 0 ≤ d.toInt ∧ d.toInt ≤ 4
    · rw [if_neg (mt (ik5 d).mp (fun q => q h2)), if_neg (mt (in6 d (a := 0) (b := 4) (by decide) (by decide)).mp (fun q => q h2))]
    · rw [if_pos ((ik5 d).mpr h2), if_pos ((in6 d (a := 0) (b := 4) (by decide) (by decide)).mpr h2)]
  · rw [if_pos ((nl5 ns k).mpr h), if_pos ((nl6 ns k).mpr h)]
theorem hire_eq (ns h : Int32) : fX5_hire (if ns = (0 : Int32) then (0 : Int32) else (1 : Int32)) h = fX6_hire ns h := by
  rw [fX5_hire, fX6_hire]
  by_cases h0 : ns = (0 : Int32)
  · rw [if_pos ((dn_0 ns).mpr h0), if_neg (mt (lk6 ns).mp (fun q => q h0))]
  · rw [if_neg (mt (dn_0 ns).mp h0), if_pos ((lk6 ns).mpr h0)]
    by_cases h1 : h = (0 : Int32)
    · rw [if_pos h1, if_pos h1]; decide
    · rw [if_neg h1, if_neg h1]; decide
