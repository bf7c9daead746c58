/-! bits of ints -/
def bi (x : Int32) (i : Nat) : Bool := x.toBitVec.getLsbD i
theorem bi_ext {x y : Int32} (h : ∀ i, i < 32 → bi x i = bi y i) : x = y := Int32.toBitVec_inj.mp (BitVec.eq_of_getLsbD_eq h)
theorem bi_or (x y : Int32) (i : Nat) : bi (x ||| y) i = (bi x i || bi y i) := by
  unfold bi; rw [Int32.toBitVec_or, BitVec.getLsbD_or]
theorem bi_and (x y : Int32) (i : Nat) : bi (x &&& y) i = (bi x i && bi y i) := by
  unfold bi; rw [Int32.toBitVec_and, BitVec.getLsbD_and]
theorem bi_not (x : Int32) {i : Nat} (hi : i < 32) : bi (x ^^^ (-1 : Int32)) i = !bi x i := by
  unfold bi
  rw [Int32.toBitVec_xor, BitVec.getLsbD_xor]
  have : (-1 : Int32).toBitVec.getLsbD i = true := by
    have h : ∀ j, j < 32 → (-1 : Int32).toBitVec.getLsbD j = true := by decide
    exact h i hi
  rw [this, Bool.xor_true]
theorem shi_i : ∀ i : Nat, i < 32 → (((nI i) &&& (31 : Int32)).toBitVec.smod 32).toNat = i := by decide +kernel
theorem bi_zero (i : Nat) : bi (0 : Int32) i = false := by
  unfold bi
  show (0#32).getLsbD i = false
  exact BitVec.getLsbD_zero
theorem bi_shr (x : Int32) {i : Nat} (hi : i < 32) : bi (x >>> ((nI i) &&& (31 : Int32))) 0 = bi x i := by
  unfold bi
  rw [Int32.toBitVec_shiftRight, BitVec.sshiftRight_eq', shi_i i hi, BitVec.getLsbD_sshiftRight]
  simp [hi]
theorem andi1_0 (y : Int32) : (y &&& (1 : Int32)) = (0 : Int32) ↔ bi y 0 = false := by
  constructor
  · intro h
    have := congrArg (fun z => bi z 0) h
    simp only [bi_and, bi_zero] at this
    rw [show bi (1 : Int32) 0 = true by decide, Bool.and_true] at this
    exact this
  · intro h
    apply bi_ext
    intro i hi
    rw [bi_and, bi_zero]
    by_cases h0 : i = 0
    · rw [h0, h, Bool.false_and]
    · have : ∀ j, j < 32 → ¬ j = 0 → bi (1 : Int32) j = false := by decide
      rw [this i hi h0, Bool.and_false]
theorem bit32_0 (x : Int32) {i : Nat} (hi : i < 32) : ((x >>> ((nI i) &&& (31 : Int32))) &&& (1 : Int32)) = (0 : Int32) ↔ bi x i = false := by rw [andi1_0, bi_shr x hi]
theorem bi_one : ∀ c : Nat, c < 32 → ∀ j : Nat, j < 32 → bi ((1 : Int32) <<< ((nI c) &&& (31 : Int32))) j = decide (c = j) := by decide +kernel
theorem upb_bi {x : Int32} {j : Nat} (hj : j < 32) : upb x j ↔ bi x j = true := by
  unfold upb
  rw [bit32_0 x hj]
  cases bi x j <;> decide
/-! who is up -/
theorem kup_eq (k i d : Int32) : fX2_kindIsUp k i d = fX6_isUpBy k i d := rfl
theorem isUp_eq (hi : Int32) (k il : Nat → Int32) {x : Int32} (hx : ¬ x = (4 : Int32)) (d : Int32) : fX6_isUp hi k il x d = fX2_isUp k il x d := by
  rw [fX6_isUp, if_neg hx, fX2_isUp, fX2_isIll]
  split <;> rfl
theorem nI_ne4 {j : Nat} (hj : j < 4) : ¬ nI j = (4 : Int32) := by
  have h : ∀ j, j < 4 → ¬ nI j = (4 : Int32) := by decide
  exact h j hj
theorem up47_bi (k il : Nat → Int32) (td f : Int32) : ∀ (n : Nat) (x : Int32) (i : Nat), i ≤ 4 → 4 - i < n → ∀ t, t < 32 → (bi (fX2_upFor_47 k il td f n x i) t = true ↔ bi x t = true ∨ ∃ j, i ≤ j ∧ j < 4 ∧ (j = t ∧ ¬ fX2_isUp k il (nI j) (td + f) = (0 : Int32))) := by
  intro n
  induction n with
  | zero => intro x i _ h; exact absurd h (Nat.not_lt_zero _)
  | succ n ih =>
    intro x i hi hn t ht
    rw [fX2_upFor_47]
    by_cases h4 : (4 : Int32) ≤ nI i
    · have h5 : 4 ≤ i := (nI_leI (a := 4) (by decide) (by omega)).mp h4
      rw [if_pos h4, ex_end (by omega)]
    · have h5 : i < 4 := Nat.not_le.mp fun q => h4 (nI_le (a := 4) q (by omega))
      rw [if_neg h4, ex_step (by omega)]
      by_cases hu : fX2_isUp k il (nI i) (td + f) = (0 : Int32)
      · have hu2 := hu
        rw [fX2_isUp] at hu2
        rw [if_pos hu2, ih x (i + 1) (by omega) (by omega) t ht]
        have : ¬ (i = t ∧ ¬ fX2_isUp k il (nI i) (td + f) = (0 : Int32)) := fun q => q.2 hu
        simp only [this, or_false]
      · have hu2 := hu
        rw [fX2_isUp] at hu2
        rw [if_neg hu2, ih _ (i + 1) (by omega) (by omega) t ht, bi_or, Bool.or_eq_true, bi_one i (by omega) t ht, decide_eq_true_eq]
        have : (i = t ∧ ¬ fX2_isUp k il (nI i) (td + f) = (0 : Int32)) ↔ i = t := ⟨fun q => q.1, fun q => ⟨q, hu⟩⟩
        rw [this]
theorem up47_low (k il : Nat → Int32) (td f hi : Int32) {x : Int32} (hx : ∀ j, j < 4 → bi x j = false) {j : Nat} (hj : j < 4) : upb (fX2_upFor_47 k il td f 5 x 0) j ↔ ¬ fX6_isUp hi k il (nI j) (td + f) = (0 : Int32) := by
  rw [upb_bi (by omega), up47_bi k il td f 5 x 0 (by omega) (by omega) j (by omega), isUp_eq hi k il (nI_ne4 hj)]
  constructor
  · rintro (q | ⟨a, _, _, rfl, q⟩)
    · rw [hx j hj] at q; cases q
    · exact q
  · intro q
    exact Or.inr ⟨j, by omega, hj, rfl, q⟩
theorem up47_top (k il : Nat → Int32) (td f : Int32) {x : Int32} : upb (fX2_upFor_47 k il td f 5 x 0) 4 ↔ bi x 4 = true := by
  rw [upb_bi (by omega), up47_bi k il td f 5 x 0 (by omega) (by omega) 4 (by omega)]
  constructor
  · rintro (q | ⟨a, _, h, rfl, q⟩)
    · exact q
    · omega
  · exact Or.inl
theorem up_bit (k il : Nat → Int32) (sd td hi s f : Int32) (hs : f = (0 : Int32) → fX2_hasSailed sd s = (0 : Int32)) {j : Nat} (hj : j < 5) : upb (fX2_upFor k il sd td hi s f) j ↔ ¬ fX6_isUp hi k il (nI j) (td + f) = (0 : Int32) := by
  have core : upb (if hi = (0 : Int32) then (fX2_upFor_47 k il td f 5 (0 : Int32) (0)) else (if ((td + f) - (td + f) / (7 : Int32) * (7 : Int32)) = (3 : Int32) then (fX2_upFor_47 k il td f 5 (16 : Int32) (0)) else (fX2_upFor_47 k il td f 5 (0 : Int32) (0)))) j ↔ ¬ fX6_isUp hi k il (nI j) (td + f) = (0 : Int32) := by
    have z0 : ∀ j, j < 4 → bi (0 : Int32) j = false := by decide
    have z16 : ∀ j, j < 4 → bi (16 : Int32) j = false := by decide
    by_cases h4 : j < 4
    · by_cases h1 : hi = (0 : Int32)
      · rw [if_pos h1]; exact up47_low k il td f hi z0 h4
      · rw [if_neg h1]
        by_cases h2 : ((td + f) - (td + f) / (7 : Int32) * (7 : Int32)) = (3 : Int32)
        · rw [if_pos h2]; exact up47_low k il td f hi z16 h4
        · rw [if_neg h2]; exact up47_low k il td f hi z0 h4
    · have : j = 4 := by omega
      subst this
      rw [fX6_isUp, if_pos (show nI 4 = (4 : Int32) from rfl)]
      by_cases h1 : hi = (0 : Int32)
      · rw [if_pos h1, if_pos h1, up47_top]; decide
      · rw [if_neg h1, if_neg h1]
        by_cases h2 : ((td + f) - (td + f) / (7 : Int32) * (7 : Int32)) = (3 : Int32)
        · rw [if_pos h2, if_pos h2, up47_top]; decide
        · rw [if_neg h2, if_neg h2, up47_top]; decide
  rw [fX2_upFor]
  by_cases h0 : f = (0 : Int32)
  · rw [if_pos h0, if_pos (hs h0)]; exact core
  · rw [if_neg h0]; exact core
theorem up_none (k il : Nat → Int32) (sd td hi s : Int32) (hs : ¬ fX2_hasSailed sd s = (0 : Int32)) : fX2_upFor k il sd td hi s (0 : Int32) = (0 : Int32) := by
  rw [fX2_upFor, if_pos rfl, if_neg hs]
/-- the day's spread for a ship -/
theorem spread_day (rb p : Int64) (k il : Nat → Int32) (sd td hi s f : Int32) (hs : f = (0 : Int32) → fX2_hasSailed sd s = (0 : Int32)) : fX0_spread rb p (fX2_upFor k il sd td hi s f) = fX6_goOn rb hi k il p (td + f) :=
  spread_eq rb p _ hi k il (td + f) (fun j hj => up_bit k il sd td hi s f hs hj)
theorem back_day (rb p : Int64) (k il : Nat → Int32) (sd td hi s f : Int32) (hs : f = (0 : Int32) → fX2_hasSailed sd s = (0 : Int32)) : fX0_spreadBack rb p (fX2_upFor k il sd td hi s f) = fX6_goBack rb hi k il p (td + f) :=
  back_eq rb p _ hi k il (td + f) (fun j hj => up_bit k il sd td hi s f hs hj)
/-- what ties the two tellings of having sailed -/
def hsd (sd s : Int32) (sa : Nat → Int32) : Prop := fX2_hasSailed sd s = sa s.toNatClampNeg ∧ isB (sa s.toNatClampNeg)
theorem hs_enc {sd s : Int32} {sa : Nat → Int32} (hb : isB (sa 0) ∧ isB (sa 1) ∧ isB (sa 2)) (e : sd = sa 0 + (2 : Int32) * sa 1 + (4 : Int32) * sa 2) (h0 : 0 ≤ s.toInt) (h3 : s.toInt < 3) : hsd sd s sa := by
  have hs : s = 0 ∨ s = 1 ∨ s = 2 := by
    rcases (show s.toInt = 0 ∨ s.toInt = 1 ∨ s.toInt = 2 by omega) with h | h | h
    · exact Or.inl (Int32.toInt_inj.mp h)
    · exact Or.inr (Or.inl (Int32.toInt_inj.mp h))
    · exact Or.inr (Or.inr (Int32.toInt_inj.mp h))
  obtain ⟨b0, b1, b2⟩ := hb
  unfold hsd
  rw [e]
  rcases hs with rfl | rfl | rfl
  · show fX2_hasSailed (sa 0 + (2 : Int32) * sa 1 + (4 : Int32) * sa 2) 0 = sa 0 ∧ isB (sa 0)
    refine ⟨?_, b0⟩
    rcases b0 with q0 | q0 <;> rcases b1 with q1 | q1 <;> rcases b2 with q2 | q2 <;> rw [q0, q1, q2] <;> decide
  · show fX2_hasSailed (sa 0 + (2 : Int32) * sa 1 + (4 : Int32) * sa 2) 1 = sa 1 ∧ isB (sa 1)
    refine ⟨?_, b1⟩
    rcases b0 with q0 | q0 <;> rcases b1 with q1 | q1 <;> rcases b2 with q2 | q2 <;> rw [q0, q1, q2] <;> decide
  · show fX2_hasSailed (sa 0 + (2 : Int32) * sa 1 + (4 : Int32) * sa 2) 2 = sa 2 ∧ isB (sa 2)
    refine ⟨?_, b2⟩
    rcases b0 with q0 | q0 <;> rcases b1 with q1 | q1 <;> rcases b2 with q2 | q2 <;> rw [q0, q1, q2] <;> decide
/-- the first day -/
theorem first_eq (rb : Int64) (k il ce mc : Nat → Int32) (sd td hi s : Int32) (sa : Nat → Int32) (h : hsd sd s sa) (hm : mc s.toNatClampNeg = ce s.toNatClampNeg) : fX0_spread rb ((1 : Int64) <<< ((ce s.toNatClampNeg).toInt64 &&& 63)) (fX2_upFor k il sd td hi s (0 : Int32)) = fX6_first rb td hi k il mc sa s := by
  rw [fX6_first, hm]
  obtain ⟨h1, h2⟩ := h
  rcases h2 with q | q
  · rw [if_neg (by rw [q]; decide), spread_day rb _ k il sd td hi s 0 (fun _ => by rw [h1, q]), show td + (0 : Int32) = td from Int32.add_zero td]
  · rw [if_pos q, up_none k il sd td hi s (by rw [h1, q]; decide), spread_0]
