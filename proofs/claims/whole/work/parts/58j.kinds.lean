/-! what fits, and when to look -/
theorem upIf_b (d : Int32) (il : Nat → Int32) (k kd f : Int32) : fX6_upIf d il k kd f = if fX2_kindIsUp kd (fX2_isIll il k (d + f)) (d + f) = (0 : Int32) then (0 : Int32) else (1 : Int32) := by
  rw [fX6_upIf, fX2_isIll]
  by_cases h : il k.toNatClampNeg ≤ d + f
  · rw [if_pos h, if_pos h]; rfl
  · rw [if_neg h, if_neg h]; rfl
theorem upIf_isB (d : Int32) (il : Nat → Int32) (k kd f : Int32) : isB (fX6_upIf d il k kd f) := by
  rw [upIf_b]; split
  · exact nb_0
  · exact nb_1
theorem kup21_bi (il : Nat → Int32) (d k f : Int32) : ∀ (n : Nat) (x : Int32) (i : Nat), i ≤ 5 → 5 - i < n → ∀ t, t < 32 → (bi (fX2_kindsUp_21 il d k f n x i) t = true ↔ bi x t = true ∨ ∃ j, i ≤ j ∧ j < 5 ∧ (j = t ∧ fX6_upIf d il k (nI j) f = (1 : Int32))) := by
  intro n
  induction n with
  | zero => intro x i _ h; exact absurd h (Nat.not_lt_zero _)
  | succ n ih =>
    intro x i hi hn t ht
    rw [fX2_kindsUp_21]
    by_cases h4 : (5 : Int32) ≤ nI i
    · have h5 : 5 ≤ i := (nI_leI (a := 5) (by decide) (by omega)).mp h4
      rw [if_pos h4, ex_end (by omega)]
    · have h5 : i < 5 := Nat.not_le.mp fun q => h4 (nI_le (a := 5) q (by omega))
      rw [if_neg h4, ex_step (by omega)]
      by_cases hu : fX2_kindIsUp (nI i) (fX2_isIll il k (d + f)) (d + f) = (0 : Int32)
      · rw [if_pos hu, ih x (i + 1) (by omega) (by omega) t ht]
        have : ¬ (i = t ∧ fX6_upIf d il k (nI i) f = (1 : Int32)) := fun q => by
          have := q.2
          rw [upIf_b, if_pos hu] at this
          exact absurd this (by decide)
        simp only [this, or_false]
      · rw [if_neg hu, ih _ (i + 1) (by omega) (by omega) t ht, bi_or, Bool.or_eq_true, bi_one i (by omega) t ht, decide_eq_true_eq]
        have : (i = t ∧ fX6_upIf d il k (nI i) f = (1 : Int32)) ↔ i = t := ⟨fun q => q.1, fun q => ⟨q, by rw [upIf_b, if_neg hu]⟩⟩
        rw [this]
theorem kup_bi (il : Nat → Int32) (d k f : Int32) {t : Nat} (ht : t < 32) : bi (fX2_kindsUp il d k f) t = true ↔ t < 5 ∧ fX6_upIf d il k (nI t) f = (1 : Int32) := by
  rw [fX2_kindsUp, kup21_bi il d k f 6 0 0 (by omega) (by omega) t ht, bi_zero]
  constructor
  · rintro (q | ⟨j, _, h, rfl, q⟩)
    · cases q
    · exact ⟨h, q⟩
  · rintro ⟨h, q⟩
    exact Or.inr ⟨t, Nat.zero_le _, h, rfl, q⟩
/-- a sight agrees with a kind -/
def fits1 (d : Int32) (il sg : Nat → Int32) (k : Int32) (t q : Nat) : Prop := sg (3 * q) = k → fX6_upIf d il k (nI t) (sg (3 * q + 1)) = sg (3 * q + 2)
theorem all_step {i N : Nat} {P : Nat → Prop} {Q : Prop} (hi : i < N) : (Q ∧ ∀ q, i ≤ q → q < N → P q) ↔ ((Q ∧ P i) ∧ ∀ q, i + 1 ≤ q → q < N → P q) := by
  constructor
  · rintro ⟨a, b⟩
    exact ⟨⟨a, b i (Nat.le_refl _) hi⟩, fun q h => b q (by omega)⟩
  · rintro ⟨⟨a, c⟩, b⟩
    refine ⟨a, fun q h h2 => ?_⟩
    by_cases e : q = i
    · rw [e]; exact c
    · exact b q (by omega) h2
theorem all_end {i N : Nat} {P : Nat → Prop} {Q : Prop} (hi : N ≤ i) : (Q ∧ ∀ q, i ≤ q → q < N → P q) ↔ Q :=
  ⟨fun h => h.1, fun h => ⟨h, fun q a b => by omega⟩⟩
theorem fit5_bi (il : Nat → Int32) (d : Int32) (sl sy su sg : Nat → Int32) (k : Int32) {N : Nat} (hN : N ≤ 6) (hs : ∀ q : Nat, q < 6 → sl q = sg (3 * q) ∧ sy q = sg (3 * q + 1) ∧ su q = sg (3 * q + 2) ∧ isB (sg (3 * q + 2)) ∧ 0 ≤ (sg (3 * q + 1)).toInt ∧ (sg (3 * q + 1)).toInt ≤ 20) {t : Nat} (ht : t < 5) : ∀ (n : Nat) (x : Int32) (i : Nat), i ≤ 6 → 6 - i < n → (bi (fX2_kindsFitting_5 il d (nI N) sl sy su k n x i) t = true ↔ bi x t = true ∧ ∀ q, i ≤ q → q < N → fits1 d il sg k t q) := by
  intro n
  induction n with
  | zero => intro x i _ h; exact absurd h (Nat.not_lt_zero _)
  | succ n ih =>
    intro x i hi hn
    rw [fX2_kindsFitting_5]
    by_cases h4 : nI N ≤ nI i
    · have h5 : N ≤ i := (nI_leI (by omega) (by omega)).mp h4
      rw [if_pos h4, all_end h5]
    · have h5 : i < N := Nat.not_le.mp fun q => h4 (nI_le q (by omega))
      rw [if_neg h4, all_step h5, nI_clamp (by omega)]
      obtain ⟨e1, e2, e3, eB, _⟩ := hs i (by omega)
      rw [e1, e2, e3]
      by_cases hk : sg (3 * i) = k
      · rw [if_pos hk]
        have hkb := kup_bi il d k (sg (3 * i + 1)) (t := t) (by omega)
        have hf : fits1 d il sg k t i ↔ fX6_upIf d il k (nI t) (sg (3 * i + 1)) = sg (3 * i + 2) := ⟨fun z => z hk, fun z _ => z⟩
        rw [hf]
        rcases eB with eB | eB
        · rw [if_neg (show ¬ sg (3 * i + 2) = (1 : Int32) by rw [eB]; decide), ih _ (i + 1) (by omega) (by omega), bi_and, bi_not _ (by omega), Bool.and_eq_true, Bool.not_eq_true', eB]
          have : bi (fX2_kindsUp il d k (sg (3 * i + 1))) t = false ↔ fX6_upIf d il k (nI t) (sg (3 * i + 1)) = (0 : Int32) := by
            rcases upIf_isB d il k (nI t) (sg (3 * i + 1)) with z | z
            · rw [z]
              refine ⟨fun _ => rfl, fun _ => ?_⟩
              cases e : bi (fX2_kindsUp il d k (sg (3 * i + 1))) t
              · rfl
              · have := (hkb.mp e).2
                rw [z] at this
                exact absurd this (by decide)
            · rw [z, hkb.mpr ⟨ht, z⟩]
              decide
          rw [this]
        · rw [if_pos eB, ih _ (i + 1) (by omega) (by omega), bi_and, Bool.and_eq_true, eB, hkb]
          have : (t < 5 ∧ fX6_upIf d il k (nI t) (sg (3 * i + 1)) = (1 : Int32)) ↔ fX6_upIf d il k (nI t) (sg (3 * i + 1)) = (1 : Int32) := ⟨fun z => z.2, fun z => ⟨ht, z⟩⟩
          rw [this]
      · rw [if_neg hk, ih _ (i + 1) (by omega) (by omega)]
        have : (bi x t = true ∧ fits1 d il sg k t i) ↔ bi x t = true := ⟨fun z => z.1, fun z => ⟨z, fun y => absurd y hk⟩⟩
        rw [this]
theorem fit5_top (il : Nat → Int32) (d sc : Int32) (sl sy su : Nat → Int32) (k : Int32) {t : Nat} : ∀ (n : Nat) (x : Int32) (i : Nat), bi x t = false → bi (fX2_kindsFitting_5 il d sc sl sy su k n x i) t = false := by
  intro n
  induction n with
  | zero => intro x i _; rw [fX2_kindsFitting_5, bi_zero]
  | succ n ih =>
    intro x i hx
    rw [fX2_kindsFitting_5]
    repeat' split
    · exact hx
    · exact ih _ _ (by rw [bi_and, hx, Bool.false_and])
    · exact ih _ _ (by rw [bi_and, hx, Bool.false_and])
    · exact ih _ _ hx
theorem of15 (il : Nat → Int32) (d : Int32) (sg : Nat → Int32) (k : Int32) {N : Nat} (hN : N ≤ 6) {t : Nat} (ht : t < 5) : ∀ (n : Nat) (y : Int32) (i : Nat), i ≤ 6 → 6 - i < n → isB y → (¬ (fX6_kindsOf_15 d il (nI N) sg k t n y (3 * i)).1 = (0 : Int32) ↔ ¬ y = (0 : Int32) ∧ ∀ q, i ≤ q → q < N → fits1 d il sg k t q) := by
  intro n
  induction n with
  | zero => intro y i _ h; exact absurd h (Nat.not_lt_zero _)
  | succ n ih =>
    intro y i hi hn hy
    have e0 : (3 : Int32) * nI N = nI (3 * N) := pk_mul 3 N
    rw [fX6_kindsOf_15, e0]
    by_cases h4 : nI (3 * N) ≤ nI (3 * i)
    · have h5 : N ≤ i := by
        have := (nI_leI (by omega) (by omega)).mp h4
        omega
      rw [if_pos h4, all_end h5]
    · have h5 : i < N := Nat.not_le.mp fun q => h4 (nI_le (by omega) (by omega))
      have c0 : (nI (3 * i)).toNatClampNeg = 3 * i := nI_clamp (by omega)
      have c1 : (nI (3 * i) + (1 : Int32)).toNatClampNeg = 3 * i + 1 := by rw [nI_1, nI_clamp (by omega)]
      have c2 : (nI (3 * i) + (2 : Int32)).toNatClampNeg = 3 * i + 2 := by
        rw [show (2 : Int32) = nI 2 from rfl, nI_add, nI_clamp (by omega)]
      rw [if_neg h4, all_step h5, c0, c1, c2, show 3 * i + 3 = 3 * (i + 1) by omega]
      by_cases hy0 : y = (0 : Int32)
      · rw [if_pos hy0, ih _ (i + 1) (by omega) (by omega) nb_0]
        exact ⟨fun z => absurd rfl z.1, fun z => absurd hy0 z.1.1⟩
      · rw [if_neg hy0]
        have n1 : ¬ (1 : Int32) = (0 : Int32) := by decide
        by_cases hk : sg (3 * i) = k
        · rw [if_pos hk]
          by_cases hu : fX6_upIf d il k (nI t) (sg (3 * i + 1)) = sg (3 * i + 2)
          · rw [if_pos hu, ih _ (i + 1) (by omega) (by omega) nb_1]
            exact ⟨fun z => ⟨⟨hy0, fun _ => hu⟩, z.2⟩, fun z => ⟨n1, z.2⟩⟩
          · rw [if_neg hu, ih _ (i + 1) (by omega) (by omega) nb_0]
            exact ⟨fun z => absurd rfl z.1, fun z => absurd (z.1.2 hk) hu⟩
        · rw [if_neg hk, ih _ (i + 1) (by omega) (by omega) nb_1]
          exact ⟨fun z => ⟨⟨hy0, fun y => absurd y hk⟩, z.2⟩, fun z => ⟨n1, z.2⟩⟩
theorem of4_bi (il : Nat → Int32) (d : Int32) (sg : Nat → Int32) (k : Int32) {N : Nat} (hN : N ≤ 6) : ∀ (n : Nat) (x : Int32) (i : Nat), i ≤ 5 → 5 - i < n → ∀ t, t < 32 → (bi (fX6_kindsOf_4 d il (nI N) sg k n x i) t = true ↔ bi x t = true ∨ ∃ j, i ≤ j ∧ j < 5 ∧ (j = t ∧ ∀ q, 0 ≤ q → q < N → fits1 d il sg k j q)) := by
  intro n
  induction n with
  | zero => intro x i _ h; exact absurd h (Nat.not_lt_zero _)
  | succ n ih =>
    intro x i hi hn t ht
    rw [fX6_kindsOf_4, Int32.or_zero]
    by_cases h4 : (5 : Int32) ≤ nI i
    · have h5 : 5 ≤ i := (nI_leI (a := 5) (by decide) (by omega)).mp h4
      rw [if_pos h4, ex_end (by omega)]
    · have h5 : i < 5 := Nat.not_le.mp fun q => h4 (nI_le (a := 5) q (by omega))
      rw [if_neg h4, ex_step (by omega)]
      have key := of15 il d sg k hN h5 19 1 0 (by omega) (by omega) nb_1
      rw [Nat.mul_zero] at key
      by_cases hu : (fX6_kindsOf_15 d il (nI N) sg k i 19 (1 : Int32) 0).1 = (0 : Int32)
      · rw [if_pos hu, ih x (i + 1) (by omega) (by omega) t ht]
        have : ¬ (i = t ∧ ∀ q, 0 ≤ q → q < N → fits1 d il sg k i q) := fun z => key.mpr ⟨by decide, z.2⟩ hu
        simp only [this, or_false]
      · rw [if_neg hu, ih _ (i + 1) (by omega) (by omega) t ht, bi_or, Bool.or_eq_true, bi_one i (by omega) t ht, decide_eq_true_eq]
        have : (i = t ∧ ∀ q, 0 ≤ q → q < N → fits1 d il sg k i q) ↔ i = t := ⟨fun z => z.1, fun z => ⟨z, (key.mp hu).2⟩⟩
        rw [this]
theorem bi_extI {x y : Int32} (h : ∀ i, i < 32 → (bi x i = true ↔ bi y i = true)) : x = y := bi_ext fun i hi => by
  have := h i hi
  cases e1 : bi x i <;> cases e2 : bi y i
  · rfl
  · exact absurd (this.mpr e2) (by rw [e1]; decide)
  · exact absurd (this.mp e1) (by rw [e2]; decide)
  · rfl
theorem kindsOf_bi (il : Nat → Int32) (d : Int32) (sg : Nat → Int32) (k : Int32) {N : Nat} (hN : N ≤ 6) {t : Nat} (ht : t < 32) : bi (fX6_kindsOf d il (nI N) sg k) t = true ↔ t < 5 ∧ ∀ q, 0 ≤ q → q < N → fits1 d il sg k t q := by
  rw [fX6_kindsOf, of4_bi il d sg k hN 6 0 0 (by omega) (by omega) t ht, bi_zero]
  constructor
  · rintro (q | ⟨j, _, h, rfl, q⟩)
    · cases q
    · exact ⟨h, q⟩
  · rintro ⟨h, q⟩
    exact Or.inr ⟨t, Nat.zero_le _, h, rfl, q⟩
theorem kinds_eq (il : Nat → Int32) (d : Int32) (sl sy su sg : Nat → Int32) (k : Int32) {N : Nat} (hN : N ≤ 6) (hs : ∀ q : Nat, q < 6 → sl q = sg (3 * q) ∧ sy q = sg (3 * q + 1) ∧ su q = sg (3 * q + 2) ∧ isB (sg (3 * q + 2)) ∧ 0 ≤ (sg (3 * q + 1)).toInt ∧ (sg (3 * q + 1)).toInt ≤ 20) : fX2_kindsFitting il d (nI N) sl sy su k = fX6_kindsOf d il (nI N) sg k := by
  apply bi_extI
  intro t ht
  rw [kindsOf_bi il d sg k hN ht, fX2_kindsFitting]
  by_cases h5 : t < 5
  · rw [fit5_bi il d sl sy su sg k hN hs h5 7 31 0 (by omega) (by omega)]
    have : bi (31 : Int32) t = true := by
      have z : ∀ t, t < 5 → bi (31 : Int32) t = true := by decide
      exact z t h5
    exact ⟨fun z => ⟨h5, z.2⟩, fun z => ⟨this, z.2⟩⟩
  · have : bi (31 : Int32) t = false := by
      have z : ∀ t, t < 32 → ¬ t < 5 → bi (31 : Int32) t = false := by decide
      exact z t ht h5
    rw [fit5_top il d (nI N) sl sy su k 7 31 0 this]
    exact ⟨fun z => (by cases z), fun z => absurd z.1 h5⟩
