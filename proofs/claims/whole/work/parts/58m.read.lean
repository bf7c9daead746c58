/-! reading a page: the class's draft and the model's -/
theorem idx_kind : ∀ c, c < 127 → fJ0_indexOf_0f7a4 ((nI c).toUInt32 % 65536).toInt32 = fX6_kindBy (nI c) ∧ ((0 : Int32) ≤ fX6_kindBy (nI c) ∨ fX6_kindBy (nI c) = (-1 : Int32)) := by decide +kernel
theorem side_iff {c : Nat} (hc : c < 127) : fX1_isSide (nI c) = (0 : Int32) ↔ ¬ (48 ≤ c ∧ c ≤ 53) := by
  have h : ∀ c, c < 127 → (fX1_isSide (nI c) = (0 : Int32) ↔ ¬ (48 ≤ c ∧ c ≤ 53)) := by decide +kernel
  exact h c hc
theorem in53 {c : Nat} (hc : c < 127) : fX6_in (nI c).toInt64 (48 : Int64) (53 : Int64) = (0 : Int32) ↔ ¬ (48 ≤ c ∧ c ≤ 53) := by
  rw [in6 (nI c) (a := 48) (b := 53) (by decide) (by decide), nI_toInt (by omega)]
  omega
theorem in57 {c : Nat} (hc : c < 127) : fX6_in (nI c).toInt64 (48 : Int64) (57 : Int64) = (0 : Int32) ↔ ¬ (48 ≤ c ∧ c ≤ 57) := by
  rw [in6 (nI c) (a := 48) (b := 57) (by decide) (by decide), nI_toInt (by omega)]
  omega
def cD (P : Nat → Nat) (a : Nat) : Prop := (48 ≤ P a ∧ P a ≤ 53) ∧ (48 ≤ P (a + 1) ∧ P (a + 1) ≤ 53)
def cN (P : Nat → Nat) (a : Nat) : Nat := 6 * (P a - 48) + (P (a + 1) - 48)
theorem cN_lt {P : Nat → Nat} {a : Nat} (h : cD P a) : cN P a < 36 := by unfold cD at h; unfold cN; omega
theorem cAt {P : Nat → Nat} {pg : Nat → Int32} (hpg : ∀ j, pg j = nI (P j)) {a : Nat} (ha : a < 100) (h : cD P a) : fX6_cellAt pg (nI a) = nI (cN P a) := by
  unfold cD at h
  rw [fX6_cellAt, nI_1, nI_clamp (by omega), nI_clamp (by omega), hpg, hpg]
  show nI 6 * (nI (P a) - nI 48) + nI (P (a + 1)) - nI 48 = nI (cN P a)
  rw [pk_sub h.1.1, pk_mul, nI_add, pk_sub (by omega)]
  unfold cN
  congr 1
  omega
def shOK (P : Nat → Nat) (sh : Nat → Int32) (S : Nat) : Prop := ∀ q, q < S → cD P (9 + 3 * q) ∧ sh q = nI (cN P (9 + 3 * q))
def roOK (P : Nat → Nat) (E R : Nat) (ro : Int64) : Prop := (∀ q, q < R → cD P (E + 1 + 3 * q)) ∧ ∀ t, t < 64 → (bt ro t = true ↔ ∃ q, q < R ∧ cN P (E + 1 + 3 * q) = t)
def zOK (kd il : Nat → Int32) : Prop := ∀ q : Nat, 4 ≤ q → kd q = 0 ∧ il q = 0
def ldOK (P : Nat → Nat) (i : Nat) (kd il : Nat → Int32) : Prop := zOK kd il ∧ (∀ q, q < 4 → 2 * q < i → kd q = fX6_kindBy (nI (P (2 * q)))) ∧ ∀ q, q < 4 → 2 * q + 1 < i → (48 ≤ P (2 * q + 1) ∧ P (2 * q + 1) ≤ 57) ∧ il q = nI (P (2 * q + 1) - 48)
def rwOK (P : Nat → Nat) (i : Nat) (row : Int32) : Prop := (48 ≤ P (i - 1) ∧ P (i - 1) ≤ 53) ∧ row = nI (P (i - 1) - 48)
/-- the three stretches of a page -/
def J1 (i S : Nat) (ro : Int64) (R : Nat) (am wh : Int32) (E : Nat) : Prop := i ≤ 9 ∧ E = 0 ∧ S = 0 ∧ R = 0 ∧ ro = 0 ∧ am = 0 ∧ wh = 0
def J2 (P : Nat → Nat) (i : Nat) (sh : Nat → Int32) (S : Nat) (ro : Int64) (R : Nat) (am row wh : Int32) (E : Nat) : Prop := 9 ≤ i ∧ i ≤ 17 ∧ E = 0 ∧ am = 0 ∧ S = (i - 8) / 3 ∧ R = 0 ∧ ro = 0 ∧ wh = 0 ∧ shOK P sh S ∧ ((i - 8) % 3 = 2 → rwOK P i row)
def J3 (P : Nat → Nat) (i : Nat) (sh : Nat → Int32) (S : Nat) (ro : Int64) (R : Nat) (am row wh : Int32) (E : Nat) : Prop := 11 ≤ E ∧ E ≤ 17 ∧ E % 3 = 2 ∧ E < i ∧ i ≤ E + 18 ∧ am = 1 ∧ S = (E - 8) / 3 ∧ shOK P sh S ∧ R = (i - E) / 3 ∧ roOK P E R ro ∧ wh = (if (i - E) % 3 = 0 then (1 : Int32) else (0 : Int32)) ∧ ((i - E) % 3 = 2 → rwOK P i row)
def Jn (P : Nat → Nat) (i : Nat) (kd il sh : Nat → Int32) (S : Nat) (ro : Int64) (R : Nat) (am row wh : Int32) (E : Nat) : Prop := ldOK P i kd il ∧ (J1 i S ro R am wh E ∨ J2 P i sh S ro R am row wh E ∨ J3 P i sh S ro R am row wh E)
abbrev Tup := Int32 × (Nat → Int32) × (Nat → Int32) × (Nat → Int32) × Int32 × Int64 × Int32 × Int32 × Int32 × Int32
/-- what one letter does -/
def stp (P : Nat → Nat) (i : Nat) (T : Tup) (G : Int32 × Int32) : Prop := ∃ (t g : Int32) (kd il sh : Nat → Int32) (S : Nat) (ro : Int64) (R : Nat) (am row wh : Int32) (E : Nat), T = (t, kd, il, sh, nI S, ro, nI R, am, row, wh) ∧ G = (g, nI E) ∧ (t = (0 : Int32) ↔ g = (0 : Int32)) ∧ zOK kd il ∧ (¬ t = (0 : Int32) → Jn P (i + 1) kd il sh S ro R am row wh E)
theorem tk_lod (kd il sh : Nat → Int32) (sc : Int32) (ro : Int64) (rc am row wh c : Int32) {i : Nat} (hi : i < 8) : fX1_takes kd il sh sc ro rc am row wh (nI i) c = if i % 2 = 0 then ((fX1_takesKind kd (nI (i / 2)) c).1, (fX1_takesKind kd (nI (i / 2)) c).2, il, sh, sc, ro, rc, am, row, wh) else ((fX1_takesIll il (nI (i / 2)) c).1, kd, (fX1_takesIll il (nI (i / 2)) c).2, sh, sc, ro, rc, am, row, wh) := by
  have r : nI i - nI i / (2 : Int32) * (2 : Int32) = nI (i % 2) := rem_nI (d := 2) (by omega) (by decide) (by decide)
  have d : nI i / (2 : Int32) = nI (i / 2) := pk_div (d := 2) (by omega) (by decide) (by decide)
  rw [fX1_takes, if_neg (show ¬ (8 : Int32) ≤ nI i from nI_ge (b := 8) (by omega) (by omega)), r, d]
  by_cases q : i % 2 = 0
  · rw [if_pos q, if_pos (by rw [q]; rfl)]
  · rw [if_neg q, if_neg (show ¬ nI (i % 2) = (0 : Int32) from nI_ne0 (by omega) (by omega))]
theorem sub9 {i : Nat} (hi : 9 ≤ i) : nI i - (8 : Int32) - (1 : Int32) = nI (i - 9) := by
  show nI i - nI 8 - nI 1 = nI (i - 9)
  rw [pk_sub (by omega), pk_sub (by omega), Nat.sub_sub]
theorem tk_rest (kd il sh : Nat → Int32) (sc : Int32) (ro : Int64) (rc am row wh c : Int32) {i : Nat} (hi : 9 ≤ i) (hi2 : i < 100) : fX1_takes kd il sh sc ro rc am row wh (nI i) c = if (i - 9) % 3 = 0 then ((fX1_takesRow row c).1, kd, il, sh, sc, ro, rc, am, (fX1_takesRow row c).2, wh) else if (i - 9) % 3 = 1 then ((fX1_takesColumn sh sc ro rc am row wh c).1, kd, il, (fX1_takesColumn sh sc ro rc am row wh c).2.1, (fX1_takesColumn sh sc ro rc am row wh c).2.2.1, (fX1_takesColumn sh sc ro rc am row wh c).2.2.2.1, (fX1_takesColumn sh sc ro rc am row wh c).2.2.2.2.1, am, row, (fX1_takesColumn sh sc ro rc am row wh c).2.2.2.2.2) else ((fX1_takesMark sc rc am c).1, kd, il, sh, sc, ro, rc, (fX1_takesMark sc rc am c).2.1, row, (fX1_takesMark sc rc am c).2.2) := by
  have r : nI (i - 9) - nI (i - 9) / (3 : Int32) * (3 : Int32) = nI ((i - 9) % 3) := rem_nI (d := 3) (by omega) (by decide) (by decide)
  rw [fX1_takes, if_pos (show (8 : Int32) ≤ nI i from nI_le (a := 8) (by omega) (by omega)), if_neg (show ¬ nI i = (8 : Int32) from fun z => by have := (nI_eq (b := 8) (by omega) (by omega)).mp z; omega), sub9 hi, r]
  by_cases q : (i - 9) % 3 = 0
  · rw [if_pos q, if_pos (by rw [q]; rfl)]
  · rw [if_neg q, if_neg (show ¬ nI ((i - 9) % 3) = (0 : Int32) from nI_ne0 (by omega) (by omega))]
    by_cases q1 : (i - 9) % 3 = 1
    · rw [if_pos q1, if_pos (by rw [q1]; rfl)]
    · rw [if_neg q1, if_neg (show ¬ nI ((i - 9) % 3) = (1 : Int32) from fun z => q1 ((nI_eq (b := 1) (by omega) (by omega)).mp z))]
theorem Jn_low {P : Nat → Nat} {i : Nat} {kd il sh : Nat → Int32} {S : Nat} {ro : Int64} {R : Nat} {am row wh : Int32} {E : Nat} (h : Jn P i kd il sh S ro R am row wh E) (hi : i < 9) : J1 i S ro R am wh E := by
  rcases h.2 with q | q | q
  · exact q
  · have := q.1; omega
  · have := q.1; have := q.2.2.2.1; omega
theorem stp_kind {P : Nat → Nat} {pg : Nat → Int32} (hP : ∀ j, P j < 127) (hpg : ∀ j, pg j = nI (P j)) {i : Nat} {kd il sh : Nat → Int32} {S : Nat} {ro : Int64} {R : Nat} {am row wh : Int32} {E : Nat} (h : Jn P i kd il sh S ro R am row wh E) (hi : i < 8) (h2 : i % 2 = 0) : stp P i (fX1_takes kd il sh (nI S) ro (nI R) am row wh (nI i) (nI (P i))) (fX6_isGood pg (nI E) (nI i)) := by
  have r : nI i - nI i / (2 : Int32) * (2 : Int32) = nI (i % 2) := rem_nI (d := 2) (by omega) (by decide) (by decide)
  obtain ⟨e1, e2⟩ := idx_kind (P i) (hP i)
  obtain ⟨⟨z, k1, k2⟩, _⟩ := id h
  have hl := Jn_low h (by omega)
  rw [tk_lod _ _ _ _ _ _ _ _ _ _ hi, if_pos h2, fX1_takesKind, e1, fX6_isGood, if_neg (show ¬ (9 : Int32) ≤ nI i from nI_ge (b := 9) (by omega) (by omega)), if_neg (show ¬ (8 : Int32) ≤ nI i from nI_ge (b := 8) (by omega) (by omega)), fX6_isLodgerLetter, r, h2, if_pos (show nI 0 = (0 : Int32) from rfl), nI_clamp (show i < 2 ^ 31 by omega), hpg, nI_clamp (show i / 2 < 2 ^ 31 by omega)]
  rcases e2 with q | q
  · have q2 : ¬ fX6_kindBy (nI (P i)) = (-1 : Int32) := fun z => by rw [z] at q; exact absurd q (by decide)
    rw [if_pos q, if_neg q2]
    refine ⟨1, 1, upd kd (i / 2) (fX6_kindBy (nI (P i))), il, sh, S, ro, R, am, row, wh, E, rfl, rfl, Iff.rfl, fun q hq => ⟨by rw [pk_un (by omega)]; exact (z q hq).1, (z q hq).2⟩, fun _ => ⟨⟨fun q hq => ⟨by rw [pk_un (by omega)]; exact (z q hq).1, (z q hq).2⟩, fun q hq hq2 => ?_, fun q hq hq2 => k2 q hq (by omega)⟩, Or.inl ⟨by omega, hl.2⟩⟩⟩
    by_cases e : q = i / 2
    · rw [e, pk_us, show 2 * (i / 2) = i by omega]
    · rw [pk_un e]; exact k1 q hq (by omega)
  · rw [if_neg (show ¬ (0 : Int32) ≤ fX6_kindBy (nI (P i)) by rw [q]; decide), if_pos q]
    exact ⟨0, 0, kd, il, sh, S, ro, R, am, row, wh, E, rfl, rfl, Iff.rfl, z, fun q => absurd rfl q⟩
theorem stp_ill {P : Nat → Nat} {pg : Nat → Int32} (hP : ∀ j, P j < 127) (hpg : ∀ j, pg j = nI (P j)) {i : Nat} {kd il sh : Nat → Int32} {S : Nat} {ro : Int64} {R : Nat} {am row wh : Int32} {E : Nat} (h : Jn P i kd il sh S ro R am row wh E) (hi : i < 8) (h2 : i % 2 = 1) : stp P i (fX1_takes kd il sh (nI S) ro (nI R) am row wh (nI i) (nI (P i))) (fX6_isGood pg (nI E) (nI i)) := by
  have r : nI i - nI i / (2 : Int32) * (2 : Int32) = nI (i % 2) := rem_nI (d := 2) (by omega) (by decide) (by decide)
  have hp := hP i
  obtain ⟨⟨z, k1, k2⟩, _⟩ := id h
  have hl := Jn_low h (by omega)
  have hin := in57 (hP i)
  rw [tk_lod _ _ _ _ _ _ _ _ _ _ hi, if_neg (by omega), fX1_takesIll, two_if (nI (P i)) (a := 48) (b := 57) (by decide) (by decide), nI_toInt (by omega), fX6_isGood, if_neg (show ¬ (9 : Int32) ≤ nI i from nI_ge (b := 9) (by omega) (by omega)), if_neg (show ¬ (8 : Int32) ≤ nI i from nI_ge (b := 8) (by omega) (by omega)), fX6_isLodgerLetter, r, h2, if_neg (show ¬ nI 1 = (0 : Int32) by decide), nI_clamp (show i < 2 ^ 31 by omega), hpg, nI_clamp (show i / 2 < 2 ^ 31 by omega)]
  by_cases q : 48 ≤ P i ∧ P i ≤ 57
  · rw [if_pos (show (48 : Int) ≤ (P i : Int) ∧ (P i : Int) ≤ 57 by omega)]
    have es : nI (P i) - (48 : Int32) = nI (P i - 48) := pk_sub (b := 48) q.1
    rw [es]
    refine ⟨1, fX6_in (nI (P i)).toInt64 48 57, kd, upd il (i / 2) (nI (P i - 48)), sh, S, ro, R, am, row, wh, E, rfl, rfl, ⟨fun z => absurd z (by decide), fun z => absurd q (hin.mp z)⟩, fun q hq => ⟨(z q hq).1, by rw [pk_un (by omega)]; exact (z q hq).2⟩, fun _ => ⟨⟨fun q hq => ⟨(z q hq).1, by rw [pk_un (by omega)]; exact (z q hq).2⟩, fun q hq hq2 => k1 q hq (by omega), fun q2 hq hq2 => ?_⟩, Or.inl ⟨by omega, hl.2⟩⟩⟩
    by_cases e : q2 = i / 2
    · have e3 : 2 * q2 + 1 = i := by omega
      rw [e3]
      exact ⟨q, by rw [e, pk_us]⟩
    · rw [pk_un e]; exact k2 q2 hq (by omega)
  · rw [if_neg (show ¬ ((48 : Int) ≤ (P i : Int) ∧ (P i : Int) ≤ 57) by omega)]
    exact ⟨0, fX6_in (nI (P i)).toInt64 48 57, kd, il, sh, S, ro, R, am, row, wh, E, rfl, rfl, ⟨fun _ => hin.mpr q, fun _ => rfl⟩, z, fun q => absurd rfl q⟩
theorem stp_semi {P : Nat → Nat} {pg : Nat → Int32} (hP : ∀ j, P j < 127) (hpg : ∀ j, pg j = nI (P j)) {kd il sh : Nat → Int32} {S : Nat} {ro : Int64} {R : Nat} {am row wh : Int32} {E : Nat} (h : Jn P 8 kd il sh S ro R am row wh E) : stp P 8 (fX1_takes kd il sh (nI S) ro (nI R) am row wh (nI 8) (nI (P 8))) (fX6_isGood pg (nI E) (nI 8)) := by
  obtain ⟨⟨z, k1, k2⟩, _⟩ := id h
  have hl := Jn_low h (by omega)
  rw [fX1_takes, if_pos (show (8 : Int32) ≤ nI 8 by decide), if_pos (show nI 8 = (8 : Int32) from rfl), fX6_isGood, if_neg (show ¬ (9 : Int32) ≤ nI 8 by decide), if_pos (show (8 : Int32) ≤ nI 8 by decide), nI_clamp (show 8 < 2 ^ 31 by omega), hpg]
  by_cases q : nI (P 8) = (59 : Int32)
  · rw [if_pos q, if_pos q]
    exact ⟨1, 1, kd, il, sh, S, ro, R, am, row, wh, E, rfl, rfl, Iff.rfl, z, fun _ => ⟨⟨z, fun q hq _ => k1 q hq (by omega), fun q hq _ => k2 q hq (by omega)⟩, Or.inl ⟨by omega, hl.2⟩⟩⟩
  · rw [if_neg q, if_neg q]
    exact ⟨0, 0, kd, il, sh, S, ro, R, am, row, wh, E, rfl, rfl, Iff.rfl, z, fun q => absurd rfl q⟩
