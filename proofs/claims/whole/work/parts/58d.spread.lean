/-! a day's spread: the class's and the model's -/
def upb (up : Int32) (j : Nat) : Prop := ¬ ((up >>> ((nI j) &&& 31)) &&& (1 : Int32)) = (0 : Int32)
theorem mvb_ld {rb p : Int64} {j t : Nat} : (mvb p j t ∧ bt rb t = false) ↔ ∃ c, c < 36 ∧ bt p c = true ∧ ld rb c j = some t := by
  constructor
  · rintro ⟨⟨c, h1, h2, h3⟩, h4⟩
    exact ⟨c, h1, h2, ld_some.mpr ⟨h3, h4⟩⟩
  · rintro ⟨c, h1, h2, h3⟩
    obtain ⟨h4, h5⟩ := ld_some.mp h3
    exact ⟨⟨c, h1, h2, h4⟩, h5⟩
theorem ex_step {i : Nat} {P : Nat → Prop} {Q : Prop} {N : Nat} (hi : i < N) : (Q ∨ ∃ j, i ≤ j ∧ j < N ∧ P j) ↔ ((Q ∨ P i) ∨ ∃ j, i + 1 ≤ j ∧ j < N ∧ P j) := by
  constructor
  · rintro (h | ⟨j, h1, h2, h3⟩)
    · exact Or.inl (Or.inl h)
    · by_cases e : j = i
      · rw [e] at h3; exact Or.inl (Or.inr h3)
      · exact Or.inr ⟨j, by omega, h2, h3⟩
  · rintro ((h | h) | ⟨j, h1, h2, h3⟩)
    · exact Or.inl h
    · exact Or.inr ⟨i, Nat.le_refl _, hi, h⟩
    · exact Or.inr ⟨j, by omega, h2, h3⟩
theorem ex_end {P : Nat → Prop} {Q : Prop} {N i : Nat} (hi : N ≤ i) : (Q ∨ ∃ j, i ≤ j ∧ j < N ∧ P j) ↔ Q := by
  constructor
  · rintro (h | ⟨j, h1, h2, h3⟩)
    · exact h
    · omega
  · exact Or.inl
theorem spread6_bt (rb p : Int64) (up : Int32) : ∀ (n : Nat) (x : Int64) (i : Nat), i ≤ 5 → 5 - i < n → ∀ t, t < 64 → (bt (fX0_spread_6 rb p up n x i) t = true ↔ bt x t = true ∨ ∃ j, i ≤ j ∧ j < 5 ∧ (upb up j ∧ mvb p j t ∧ bt rb t = false)) := by
  intro n
  induction n with
  | zero => intro x i _ h; exact absurd h (Nat.not_lt_zero _)
  | succ n ih =>
    intro x i hi hn t ht
    rw [fX0_spread_6]
    by_cases h4 : (4 : Int32) < nI i
    · have h5 : 4 < i := (nI_ltI (a := 4) (by decide) (by omega)).mp h4
      rw [if_pos h4, ex_end (by omega)]
    · have h5 : i ≤ 4 := nI_gt (k := 4) (by decide) (by omega) h4
      rw [if_neg h4, ex_step (by omega)]
      by_cases hu : ((up >>> ((nI i) &&& 31)) &&& (1 : Int32)) = (0 : Int32)
      · rw [if_pos hu, ih x (i + 1) (by omega) (by omega) t ht]
        have : ¬ (upb up i ∧ mvb p i t ∧ bt rb t = false) := fun q => q.1 hu
        simp only [this, or_false]
      · rw [if_neg hu, ih _ (i + 1) (by omega) (by omega) t ht, bt_or, Bool.or_eq_true, moved_bt rb p (by omega) ht]
        have : (upb up i ∧ mvb p i t ∧ bt rb t = false) ↔ (mvb p i t ∧ bt rb t = false) := ⟨fun q => q.2, fun q => ⟨hu, q⟩⟩
        rw [this]
theorem spread_bt (rb p : Int64) (up : Int32) {t : Nat} (ht : t < 64) : bt (fX0_spread rb p up) t = true ↔ bt p t = true ∨ ∃ j, 0 ≤ j ∧ j < 5 ∧ (upb up j ∧ mvb p j t ∧ bt rb t = false) := by
  rw [fX0_spread]
  exact spread6_bt rb p up 6 p 0 (by omega) (by omega) t ht
theorem goOn25_bt (rb f : Int64) {i : Nat} (hi5 : i < 5) : ∀ (n : Nat) (y : Int64) (j : Nat), j ≤ 36 → 36 - j < n → ∀ t, t < 64 → (bt ((fX6_goOn_25 rb f i n y j).1) t = true ↔ bt y t = true ∨ ∃ c, j ≤ c ∧ c < 36 ∧ (bt f c = true ∧ ld rb c i = some t)) := by
  intro n
  induction n with
  | zero => intro y j _ h; exact absurd h (Nat.not_lt_zero _)
  | succ n ih =>
    intro y j hj hn t ht
    rw [fX6_goOn_25]
    by_cases h36 : (36 : Int32) ≤ nI j
    · have h5 : 36 ≤ j := (nI_leI (a := 36) (by decide) (by omega)).mp h36
      rw [if_pos h36, ex_end h5]
    · have h5 : j < 36 := Nat.not_le.mp fun q => h36 (nI_le (a := 36) q (by omega))
      rw [if_neg h36, ex_step h5]
      by_cases hb : ((f >>> ((nI j).toInt64 &&& 63)) &&& (1 : Int64)) = (1 : Int64)
      · have hb2 := (bit_1 f (by omega)).mp hb
        rw [if_pos hb]
        by_cases hl : fX6_leads rb (nI j) (nI i) = (-1 : Int32)
        · have hl2 := (leads_none h5 hi5).mp hl
          rw [if_pos hl, ih _ (j + 1) (by omega) (by omega) t ht, bt_or, bt_zero, Bool.or_false]
          have : ¬ (bt f j = true ∧ ld rb j i = some t) := fun q => by rw [hl2] at q; cases q.2
          simp only [this, or_false]
        · cases hl2 : ld rb j i with
          | none => exact absurd ((leads_none h5 hi5).mpr hl2) hl
          | some g =>
            have hg := ld_lt h5 hi5 hl2
            rw [if_neg hl, ih _ (j + 1) (by omega) (by omega) t ht, bt_or, Bool.or_eq_true, leads_some h5 hi5 hl2, bt_one g (by omega) t ht, decide_eq_true_eq]
            have : (bt f j = true ∧ some g = some t) ↔ g = t := ⟨fun q => Option.some.inj q.2, fun q => ⟨hb2, by rw [q]⟩⟩
            rw [this]
      · have hb2 : ¬ bt f j = true := fun q => hb ((bit_1 f (by omega)).mpr q)
        rw [if_neg hb, if_pos rfl, ih _ (j + 1) (by omega) (by omega) t ht, bt_or, bt_zero, Bool.or_false]
        have : ¬ (bt f j = true ∧ ld rb j i = some t) := fun q => hb2 q.1
        simp only [this, or_false]
theorem goOn6_bt (rb : Int64) (h : Int32) (k il : Nat → Int32) (f : Int64) (on : Int32) : ∀ (n : Nat) (x : Int64) (i : Nat), i ≤ 5 → 5 - i < n → ∀ t, t < 64 → (bt (fX6_goOn_6 rb h k il f on n x i) t = true ↔ bt x t = true ∨ ∃ j, i ≤ j ∧ j < 5 ∧ (¬ fX6_isUp h k il (nI j) on = (0 : Int32) ∧ mvb f j t ∧ bt rb t = false)) := by
  intro n
  induction n with
  | zero => intro x i _ h; exact absurd h (Nat.not_lt_zero _)
  | succ n ih =>
    intro x i hi hn t ht
    rw [fX6_goOn_6]
    by_cases h4 : (5 : Int32) ≤ nI i
    · have h5 : 5 ≤ i := (nI_leI (a := 5) (by decide) (by omega)).mp h4
      rw [if_pos h4, ex_end (by omega)]
    · have h5 : i < 5 := Nat.not_le.mp fun q => h4 (nI_le (a := 5) q (by omega))
      rw [if_neg h4, ex_step (by omega)]
      by_cases hu : fX6_isUp h k il (nI i) on = (0 : Int32)
      · rw [if_pos hu, ih x (i + 1) (by omega) (by omega) t ht]
        have : ¬ (¬ fX6_isUp h k il (nI i) on = (0 : Int32) ∧ mvb f i t ∧ bt rb t = false) := fun q => q.1 hu
        simp only [this, or_false]
      · rw [if_neg hu, ih _ (i + 1) (by omega) (by omega) t ht, goOn25_bt rb f h5 37 x 0 (by omega) (by omega) t ht]
        have : (¬ fX6_isUp h k il (nI i) on = (0 : Int32) ∧ mvb f i t ∧ bt rb t = false) ↔ ∃ c, 0 ≤ c ∧ c < 36 ∧ (bt f c = true ∧ ld rb c i = some t) := by
          rw [mvb_ld]
          exact ⟨fun q => q.2.elim fun c q => ⟨c, Nat.zero_le _, q.1, q.2⟩, fun q => ⟨hu, q.elim fun c q => ⟨c, q.2.1, q.2.2⟩⟩⟩
        rw [this]
theorem goOn_bt (rb : Int64) (h : Int32) (k il : Nat → Int32) (f : Int64) (on : Int32) {t : Nat} (ht : t < 64) : bt (fX6_goOn rb h k il f on) t = true ↔ bt f t = true ∨ ∃ j, 0 ≤ j ∧ j < 5 ∧ (¬ fX6_isUp h k il (nI j) on = (0 : Int32) ∧ mvb f j t ∧ bt rb t = false) := by
  rw [fX6_goOn]
  exact goOn6_bt rb h k il f on 6 f 0 (by omega) (by omega) t ht
theorem bt_extI {x y : Int64} (h : ∀ i, i < 64 → (bt x i = true ↔ bt y i = true)) : x = y := bt_ext fun i hi => by
  have := h i hi
  cases e1 : bt x i <;> cases e2 : bt y i
  · rfl
  · exact absurd (this.mpr e2) (by rw [e1]; decide)
  · exact absurd (this.mp e1) (by rw [e2]; decide)
  · rfl
theorem spread_eq (rb p : Int64) (up h : Int32) (k il : Nat → Int32) (on : Int32) (hup : ∀ j, j < 5 → (upb up j ↔ ¬ fX6_isUp h k il (nI j) on = (0 : Int32))) : fX0_spread rb p up = fX6_goOn rb h k il p on := by
  apply bt_extI
  intro t ht
  rw [spread_bt rb p up ht, goOn_bt rb h k il p on ht]
  constructor
  · rintro (q | ⟨j, a, b, q, r⟩)
    · exact Or.inl q
    · exact Or.inr ⟨j, a, b, (hup j b).mp q, r⟩
  · rintro (q | ⟨j, a, b, q, r⟩)
    · exact Or.inl q
    · exact Or.inr ⟨j, a, b, (hup j b).mpr q, r⟩
theorem upb_0 : ∀ j, j < 5 → ¬ upb (0 : Int32) j := by
  have h : ∀ j, j < 5 → (((0 : Int32) >>> ((nI j) &&& 31)) &&& (1 : Int32)) = (0 : Int32) := by decide
  exact fun j hj q => q (h j hj)
theorem spread_0 (rb p : Int64) : fX0_spread rb p (0 : Int32) = p := by
  apply bt_extI
  intro t ht
  rw [spread_bt rb p 0 ht]
  exact ⟨fun q => q.elim id (fun ⟨j, a, b, c, d⟩ => absurd c (upb_0 j b)), Or.inl⟩
/-! the way back -/
theorem brought_bt (rb p : Int64) {j c : Nat} (hj : j < 5) (hc : c < 64) : bt (fX0_broughtBy rb p (nI j)) c = true ↔ c < 36 ∧ ∃ t, ld rb c j = some t ∧ bt p t = true := by
  have fin : ∀ (x : Int64) (f : Nat → Nat), (∀ t, tgt c j = some t → c < 36 → (t = f c ∧ t < 64)) → (c < 36 → (tgt c j).isSome = true → bt x c = (bt p (f c) && !bt rb (f c))) → (bt (x &&& st_leaves j) c = true ↔ c < 36 ∧ ∃ t, ld rb c j = some t ∧ bt p t = true) := by
    intro x f hf hx
    rw [bt_and, lv_bits j hj c hc, Bool.and_eq_true, Bool.and_eq_true, decide_eq_true_eq]
    constructor
    · rintro ⟨h1, h2, h3⟩
      obtain ⟨t, ht⟩ := Option.isSome_iff_exists.mp h3
      have e := (hf t ht h2).1
      rw [hx h2 h3, Bool.and_eq_true, Bool.not_eq_true', ← e] at h1
      exact ⟨h2, t, ld_some.mpr ⟨ht, h1.2⟩, h1.1⟩
    · rintro ⟨h2, t, ht, hp⟩
      obtain ⟨h4, h5⟩ := ld_some.mp ht
      have e := (hf t h4 h2).1
      have h3 : (tgt c j).isSome = true := by rw [h4]; rfl
      rw [hx h2 h3, ← e, hp, h5]
      exact ⟨rfl, h2, h3⟩
  have bn : ∀ t, t < 64 → bt (p &&& (rb ^^^ (-1 : Int64))) t = (bt p t && !bt rb t) := fun t ht => by rw [bt_and, bt_not rb ht]
  rw [fX0_broughtBy, nI_clamp (by omega)]
  rcases (show j = 0 ∨ j = 1 ∨ j = 2 ∨ j = 3 ∨ j = 4 by omega) with rfl | rfl | rfl | rfl | rfl
  · rw [if_neg (show ¬ (0 : Int32) ≤ st_steps 0 by decide)]
    refine fin _ (fun c => c - 6) (fun t h h2 => by have := tgt_0 h; omega) (fun h2 h3 => ?_)
    obtain ⟨t, ht⟩ := Option.isSome_iff_exists.mp h3
    have := tgt_0 ht
    rw [show (-(st_steps 0)) = nI 6 from rfl, bt_shl _ (by decide) hc, bn _ (by omega)]
    simp; omega
  · rw [if_pos (show (0 : Int32) ≤ st_steps 1 by decide)]
    refine fin _ (fun c => c + 1) (fun t h h2 => by have := tgt_1 h; omega) (fun h2 h3 => ?_)
    rw [show st_steps 1 = nI 1 from rfl, bt_ushr _ (by decide), bn _ (by omega)]
  · rw [if_pos (show (0 : Int32) ≤ st_steps 2 by decide)]
    refine fin _ (fun c => c + 6) (fun t h h2 => by have := tgt_2 h; omega) (fun h2 h3 => ?_)
    rw [show st_steps 2 = nI 6 from rfl, bt_ushr _ (by decide), bn _ (by omega)]
  · rw [if_neg (show ¬ (0 : Int32) ≤ st_steps 3 by decide)]
    refine fin _ (fun c => c - 1) (fun t h h2 => by have := tgt_3 h; omega) (fun h2 h3 => ?_)
    obtain ⟨t, ht⟩ := Option.isSome_iff_exists.mp h3
    have := tgt_3 ht
    rw [show (-(st_steps 3)) = nI 1 from rfl, bt_shl _ (by decide) hc, bn _ (by omega)]
    simp; omega
  · rw [if_pos (show (0 : Int32) ≤ st_steps 4 by decide)]
    refine fin _ (fun c => c + 8) (fun t h h2 => by have := tgt_4 h; omega) (fun h2 h3 => ?_)
    rw [show st_steps 4 = nI 8 from rfl, bt_ushr _ (by decide), bn _ (by omega)]
def bkb (rb p : Int64) (j c : Nat) : Prop := c < 36 ∧ ∃ t, ld rb c j = some t ∧ bt p t = true
theorem back6_bt (rb p : Int64) (up : Int32) : ∀ (n : Nat) (x : Int64) (i : Nat), i ≤ 5 → 5 - i < n → ∀ t, t < 64 → (bt (fX0_spreadBack_6 rb p up n x i) t = true ↔ bt x t = true ∨ ∃ j, i ≤ j ∧ j < 5 ∧ (upb up j ∧ bkb rb p j t)) := by
  intro n
  induction n with
  | zero => intro x i _ h; exact absurd h (Nat.not_lt_zero _)
  | succ n ih =>
    intro x i hi hn t ht
    rw [fX0_spreadBack_6]
    by_cases h4 : (4 : Int32) < nI i
    · have h5 : 4 < i := (nI_ltI (a := 4) (by decide) (by omega)).mp h4
      rw [if_pos h4, ex_end (by omega)]
    · have h5 : i ≤ 4 := nI_gt (k := 4) (by decide) (by omega) h4
      rw [if_neg h4, ex_step (by omega)]
      by_cases hu : ((up >>> ((nI i) &&& 31)) &&& (1 : Int32)) = (0 : Int32)
      · rw [if_pos hu, ih x (i + 1) (by omega) (by omega) t ht]
        have : ¬ (upb up i ∧ bkb rb p i t) := fun q => q.1 hu
        simp only [this, or_false]
      · rw [if_neg hu, ih _ (i + 1) (by omega) (by omega) t ht, bt_or, Bool.or_eq_true, brought_bt rb p (by omega) ht]
        have : (upb up i ∧ bkb rb p i t) ↔ (t < 36 ∧ ∃ g, ld rb t i = some g ∧ bt p g = true) := ⟨fun q => q.2, fun q => ⟨hu, q⟩⟩
        rw [this]
theorem goBack25_bt (rb f : Int64) {i : Nat} (hi5 : i < 5) : ∀ (n : Nat) (y : Int64) (j : Nat), j ≤ 36 → 36 - j < n → ∀ t, t < 64 → (bt ((fX6_goBack_25 rb f i n y j).1) t = true ↔ bt y t = true ∨ ∃ c, j ≤ c ∧ c < 36 ∧ (c = t ∧ ∃ g, ld rb c i = some g ∧ bt f g = true)) := by
  intro n
  induction n with
  | zero => intro y j _ h; exact absurd h (Nat.not_lt_zero _)
  | succ n ih =>
    intro y j hj hn t ht
    rw [fX6_goBack_25]
    by_cases h36 : (36 : Int32) ≤ nI j
    · have h5 : 36 ≤ j := (nI_leI (a := 36) (by decide) (by omega)).mp h36
      rw [if_pos h36, ex_end h5]
    · have h5 : j < 36 := Nat.not_le.mp fun q => h36 (nI_le (a := 36) q (by omega))
      rw [if_neg h36, ex_step h5]
      by_cases hl : fX6_leads rb (nI j) (nI i) = (-1 : Int32)
      · have hl2 := (leads_none h5 hi5).mp hl
        rw [if_pos hl, ih _ (j + 1) (by omega) (by omega) t ht, bt_or, bt_zero, Bool.or_false]
        have : ¬ (j = t ∧ ∃ g, ld rb j i = some g ∧ bt f g = true) := fun q => by rw [hl2] at q; obtain ⟨_, g, q, _⟩ := q; cases q
        simp only [this, or_false]
      · cases hl2 : ld rb j i with
        | none => exact absurd ((leads_none h5 hi5).mpr hl2) hl
        | some g =>
          have hg := ld_lt h5 hi5 hl2
          rw [if_neg hl, leads_some h5 hi5 hl2]
          by_cases hb : ((f >>> ((nI g).toInt64 &&& 63)) &&& (1 : Int64)) = (1 : Int64)
          · have hb2 := (bit_1 f (by omega)).mp hb
            rw [if_pos hb, ih _ (j + 1) (by omega) (by omega) t ht, bt_or, Bool.or_eq_true, bt_one j (by omega) t ht, decide_eq_true_eq]
            have : (j = t ∧ ∃ g2, some g = some g2 ∧ bt f g2 = true) ↔ j = t := ⟨fun q => q.1, fun q => ⟨q, g, rfl, hb2⟩⟩
            rw [this]
          · have hb2 : ¬ bt f g = true := fun q => hb ((bit_1 f (by omega)).mpr q)
            rw [if_neg hb, ih _ (j + 1) (by omega) (by omega) t ht, bt_or, bt_zero, Bool.or_false]
            have : ¬ (j = t ∧ ∃ g2, some g = some g2 ∧ bt f g2 = true) := fun q => by obtain ⟨_, g2, q1, q2⟩ := q; cases q1; exact hb2 q2
            simp only [this, or_false]
theorem goBack6_bt (rb : Int64) (h : Int32) (k il : Nat → Int32) (f : Int64) (on : Int32) : ∀ (n : Nat) (x : Int64) (i : Nat), i ≤ 5 → 5 - i < n → ∀ t, t < 64 → (bt (fX6_goBack_6 rb h k il f on n x i) t = true ↔ bt x t = true ∨ ∃ j, i ≤ j ∧ j < 5 ∧ (¬ fX6_isUp h k il (nI j) on = (0 : Int32) ∧ bkb rb f j t)) := by
  intro n
  induction n with
  | zero => intro x i _ h; exact absurd h (Nat.not_lt_zero _)
  | succ n ih =>
    intro x i hi hn t ht
    rw [fX6_goBack_6]
    by_cases h4 : (5 : Int32) ≤ nI i
    · have h5 : 5 ≤ i := (nI_leI (a := 5) (by decide) (by omega)).mp h4
      rw [if_pos h4, ex_end (by omega)]
    · have h5 : i < 5 := Nat.not_le.mp fun q => h4 (nI_le (a := 5) q (by omega))
      rw [if_neg h4, ex_step (by omega)]
      by_cases hu : fX6_isUp h k il (nI i) on = (0 : Int32)
      · rw [if_pos hu, ih x (i + 1) (by omega) (by omega) t ht]
        have : ¬ (¬ fX6_isUp h k il (nI i) on = (0 : Int32) ∧ bkb rb f i t) := fun q => q.1 hu
        simp only [this, or_false]
      · rw [if_neg hu, ih _ (i + 1) (by omega) (by omega) t ht, goBack25_bt rb f h5 37 x 0 (by omega) (by omega) t ht]
        have : (¬ fX6_isUp h k il (nI i) on = (0 : Int32) ∧ bkb rb f i t) ↔ ∃ c, 0 ≤ c ∧ c < 36 ∧ (c = t ∧ ∃ g, ld rb c i = some g ∧ bt f g = true) := by
          constructor
          · rintro ⟨_, h1, h2⟩
            exact ⟨t, Nat.zero_le _, h1, rfl, h2⟩
          · rintro ⟨c, _, h1, h2, h3⟩
            subst h2
            exact ⟨hu, h1, h3⟩
        rw [this]
theorem back_eq (rb p : Int64) (up h : Int32) (k il : Nat → Int32) (on : Int32) (hup : ∀ j, j < 5 → (upb up j ↔ ¬ fX6_isUp h k il (nI j) on = (0 : Int32))) : fX0_spreadBack rb p up = fX6_goBack rb h k il p on := by
  apply bt_extI
  intro t ht
  rw [fX0_spreadBack, fX6_goBack, back6_bt rb p up 6 p 0 (by omega) (by omega) t ht, goBack6_bt rb h k il p on 6 p 0 (by omega) (by omega) t ht]
  constructor
  · rintro (q | ⟨j, a, b, q, r⟩)
    · exact Or.inl q
    · exact Or.inr ⟨j, a, b, (hup j b).mp q, r⟩
  · rintro (q | ⟨j, a, b, q, r⟩)
    · exact Or.inl q
    · exact Or.inr ⟨j, a, b, (hup j b).mpr q, r⟩
