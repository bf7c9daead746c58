/-! where a ship can come to -/
theorem reach9_eq (rb : Int64) (k il : Nat → Int32) (sd td hi s : Int32) {L : Nat} (hL : L ≤ 40) : ∀ (n m : Nat) (x : Int64) (i : Nat), 1 ≤ i → i ≤ 41 → 41 - i < n → 41 - i < m → fX4_placesAfter_13 rb k il sd td hi s (nI L) n x i = fX6_reach_9 rb td hi k il (nI L) m x i := by
  intro n
  induction n with
  | zero => intro m x i _ _ h; exact absurd h (Nat.not_lt_zero _)
  | succ n ih =>
    intro m x i h1 h41 hn hm
    obtain ⟨m, rfl⟩ : ∃ m', m = m' + 1 := ⟨m - 1, by omega⟩
    rw [fX4_placesAfter_13, fX6_reach_9]
    by_cases h : nI L < nI i
    · rw [if_pos h, if_pos h]
    · have hi2 : i ≤ L := nI_gt (by omega) (by omega) h
      rw [if_neg h, if_neg h, spread_day rb x k il sd td hi s (nI i) (fun q => absurd q (nI_ne0 (by omega) (by omega)))]
      exact ih m _ (i + 1) (by omega) (by omega) (by omega) (by omega)
theorem places_eq (rb : Int64) (k il ce mc : Nat → Int32) (sd td hi s : Int32) (sa : Nat → Int32) (h : hsd sd s sa) (hm : mc s.toNatClampNeg = ce s.toNatClampNeg) {L : Nat} (hL : L ≤ 40) : fX4_placesAfter rb k il ce sd td hi s (nI L) = fX6_reach rb td hi k il mc sa s (nI L) := by
  rw [fX4_placesAfter, fX6_reach, fX4_placesAfter_13, if_neg (show ¬ nI L < nI 0 from nI_nlt (by omega) (by omega)), show nI 0 = (0 : Int32) from rfl, first_eq rb k il ce mc sd td hi s sa h hm]
  exact reach9_eq rb k il sd td hi s hL 41 42 _ 1 (by omega) (by omega) (by omega) (by omega)
theorem nI_succ2 (a : Int32) (j : Nat) : a + nI (j + 1) = a + nI j + (1 : Int32) := by
  rw [nI_succ, Int32.add_assoc]
theorem soon21_eq (rb : Int64) (k il : Nat → Int32) (sd td hi s : Int32) {C : Nat} (hC : C < 36) : ∀ (n m : Nat) (x : Int64) (j : Nat), j ≤ 40 → 40 - j < n → 41 - j < m → fX4_daysTo_13 rb k il sd td hi s (nI C) n x (j + 1) = fX6_soonOf_21 rb td hi k il (nI C) m x j := by
  intro n
  induction n with
  | zero => intro m x j _ h; exact absurd h (Nat.not_lt_zero _)
  | succ n ih =>
    intro m x j h40 hn hm
    obtain ⟨m, rfl⟩ : ∃ m', m = m' + 1 := ⟨m - 1, by omega⟩
    rw [fX4_daysTo_13, fX6_soonOf_21, if_neg (show ¬ (41 : Int32) ≤ nI j from nI_ge (b := 41) (by omega) (by omega))]
    by_cases h : (40 : Int32) < nI (j + 1)
    · have hj : j = 40 := by
        have := (nI_ltI (a := 40) (by omega) (by omega)).mp h
        omega
      subst hj
      rw [if_pos h]
      by_cases hb : ((x >>> ((nI C).toInt64 &&& (63 : Int64))) &&& (1 : Int64)) = (0 : Int64)
      · have hb2 := (bit_0 x (by omega)).mp hb
        obtain ⟨m, rfl⟩ : ∃ m', m = m' + 1 := ⟨m - 1, by omega⟩
        rw [if_pos hb, if_neg (fun q => by rw [(bit_1 x (by omega)).mp q] at hb2; cases hb2), fX6_soonOf_21, if_pos (show (41 : Int32) ≤ nI (40 + 1) from nI_le (a := 41) (b := 41) (by omega) (by omega))]
      · have hb2 : bt x C = true := by
          cases e : bt x C
          · exact absurd ((bit_0 x (by omega)).mpr e) hb
          · rfl
        rw [if_neg hb, if_pos ((bit_1 x (by omega)).mpr hb2)]
        rfl
    · have hj : j + 1 ≤ 40 := nI_gt (k := 40) (by omega) (by omega) h
      rw [if_neg h]
      by_cases hb : ((x >>> ((nI C).toInt64 &&& (63 : Int64))) &&& (1 : Int64)) = (0 : Int64)
      · have hb2 := (bit_0 x (by omega)).mp hb
        rw [if_pos hb, if_neg (fun q => by rw [(bit_1 x (by omega)).mp q] at hb2; cases hb2), spread_day rb x k il sd td hi s (nI (j + 1)) (fun q => absurd q (nI_ne0 (by omega) (by omega))), nI_succ2]
        exact ih m _ (j + 1) (by omega) (by omega) (by omega)
      · have hb2 : bt x C = true := by
          cases e : bt x C
          · exact absurd ((bit_0 x (by omega)).mpr e) hb
          · rfl
        rw [if_neg hb, if_pos ((bit_1 x (by omega)).mpr hb2), nI_succ]
theorem daysTo_eq (rb : Int64) (k il ce mc : Nat → Int32) (sd td hi s : Int32) (sa : Nat → Int32) (h : hsd sd s sa) (hm : mc s.toNatClampNeg = ce s.toNatClampNeg) {A C : Nat} (hA : A < 36) (ha : ce s.toNatClampNeg = nI A) (hC : C < 36) : fX4_daysTo rb k il ce sd td hi s (nI C) = fX6_soonOf rb td hi k il mc sa s (nI C) := by
  rw [fX4_daysTo, fX6_soonOf, fX4_daysTo_13, if_neg (show ¬ (40 : Int32) < nI 0 from nI_nlt (a := 40) (by omega) (by omega)), show nI 0 = (0 : Int32) from rfl, first_eq rb k il ce mc sd td hi s sa h hm, hm, ha]
  have e := bt_one A (by omega) C (by omega)
  by_cases q : A = C
  · rw [if_pos (show nI A = nI C by rw [q])]
    rw [decide_eq_true q] at e
    rw [if_neg (fun z => by rw [(bit_0 _ (by omega)).mp z] at e; cases e)]
  · rw [if_neg (fun z => q ((nI_eq (by omega) (by omega)).mp z))]
    rw [decide_eq_false q] at e
    rw [if_pos ((bit_0 _ (by omega)).mpr e)]
    exact soon21_eq rb k il sd td hi s hC 41 42 _ 0 (by omega) (by omega) (by omega)
theorem meet57_eq (rb : Int64) (k il : Nat → Int32) (sd td hi a b : Int32) : ∀ (n m : Nat) (x y : Int64) (j : Nat), j ≤ 40 → 40 - j < n → 41 - j < m → fX4_daysToMeet_23 rb k il sd td hi a b n x y (j + 1) = fX6_meet_57 rb td hi k il m x y j := by
  intro n
  induction n with
  | zero => intro m x y j _ h; exact absurd h (Nat.not_lt_zero _)
  | succ n ih =>
    intro m x y j h40 hn hm
    obtain ⟨m, rfl⟩ : ∃ m', m = m' + 1 := ⟨m - 1, by omega⟩
    rw [fX4_daysToMeet_23, fX6_meet_57, if_neg (show ¬ (41 : Int32) ≤ nI j from nI_ge (b := 41) (by omega) (by omega))]
    by_cases h : (40 : Int32) < nI (j + 1)
    · have hj : j = 40 := by
        have := (nI_ltI (a := 40) (by omega) (by omega)).mp h
        omega
      subst hj
      rw [if_pos h]
      by_cases hb : (x &&& y) = (0 : Int64)
      · obtain ⟨m, rfl⟩ : ∃ m', m = m' + 1 := ⟨m - 1, by omega⟩
        rw [if_pos hb, if_pos hb, fX6_meet_57, if_pos (show (41 : Int32) ≤ nI (40 + 1) from nI_le (a := 41) (b := 41) (by omega) (by omega))]
      · rw [if_neg hb, if_neg hb]
        rfl
    · have hj : j + 1 ≤ 40 := nI_gt (k := 40) (by omega) (by omega) h
      rw [if_neg h]
      by_cases hb : (x &&& y) = (0 : Int64)
      · rw [if_pos hb, if_pos hb, spread_day rb x k il sd td hi a (nI (j + 1)) (fun q => absurd q (nI_ne0 (by omega) (by omega))), spread_day rb y k il sd td hi b (nI (j + 1)) (fun q => absurd q (nI_ne0 (by omega) (by omega))), nI_succ2]
        exact ih m _ _ (j + 1) (by omega) (by omega) (by omega)
      · rw [if_neg hb, if_neg hb, nI_succ]
theorem and_ones {A B : Nat} (hA : A < 36) (hB : B < 36) : (((1 : Int64) <<< ((nI A).toInt64 &&& (63 : Int64))) &&& ((1 : Int64) <<< ((nI B).toInt64 &&& (63 : Int64)))) = (0 : Int64) ↔ ¬ A = B := by
  constructor
  · intro h q
    subst q
    have := congrArg (fun z => bt z A) h
    simp only [bt_and, bt_zero] at this
    rw [bt_one A (by omega) A (by omega), decide_eq_true rfl] at this
    cases this
  · intro q
    apply bt_ext
    intro i hi
    rw [bt_and, bt_zero, bt_one A (by omega) i hi, bt_one B (by omega) i hi]
    by_cases q1 : A = i
    · rw [decide_eq_false (show ¬ B = i from fun z => q (q1.trans z.symm)), Bool.and_false]
    · rw [decide_eq_false q1, Bool.false_and]
theorem daysToMeet_eq (rb : Int64) (k il ce mc : Nat → Int32) (sd td hi a b : Int32) (sa : Nat → Int32) (ha : hsd sd a sa) (hb : hsd sd b sa) (hma : mc a.toNatClampNeg = ce a.toNatClampNeg) (hmb : mc b.toNatClampNeg = ce b.toNatClampNeg) {A B : Nat} (hA : A < 36) (ea : ce a.toNatClampNeg = nI A) (hB : B < 36) (eb : ce b.toNatClampNeg = nI B) : fX4_daysToMeet rb k il ce sd td hi a b = if mc a.toNatClampNeg = mc b.toNatClampNeg then (0 : Int32) else fX6_meet_57 rb td hi k il 42 (fX6_first rb td hi k il mc sa a) (fX6_first rb td hi k il mc sa b) 0 := by
  rw [fX4_daysToMeet, fX4_daysToMeet_23, if_neg (show ¬ (40 : Int32) < nI 0 from nI_nlt (a := 40) (by omega) (by omega)), show nI 0 = (0 : Int32) from rfl, first_eq rb k il ce mc sd td hi a sa ha hma, first_eq rb k il ce mc sd td hi b sa hb hmb, hma, hmb, ea, eb]
  by_cases q : A = B
  · rw [if_neg (fun z => (and_ones hA hB).mp z q), if_pos (by rw [q])]
  · rw [if_pos ((and_ones hA hB).mpr q), if_neg (fun z => q ((nI_eq (by omega) (by omega)).mp z))]
    exact meet57_eq rb k il sd td hi a b 41 42 _ _ 0 (by omega) (by omega) (by omega)
/-! sailing -/
theorem moved_none {rb : Int64} {c j : Nat} (hc : c < 36) (hj : j < 5) : fX0_movedBy rb ((1 : Int64) <<< ((nI c).toInt64 &&& (63 : Int64))) (nI j) = (0 : Int64) ↔ ld rb c j = none := by
  have key : ∀ t, t < 64 → (bt (fX0_movedBy rb ((1 : Int64) <<< ((nI c).toInt64 &&& (63 : Int64))) (nI j)) t = true ↔ ld rb c j = some t) := by
    intro t ht
    rw [moved_bt rb _ hj ht, mvb_ld]
    constructor
    · rintro ⟨d, h1, h2, h3⟩
      rw [bt_one c (by omega) d (by omega), decide_eq_true_eq] at h2
      rw [h2]; exact h3
    · intro h
      exact ⟨c, hc, by rw [bt_one c (by omega) c (by omega), decide_eq_true rfl], h⟩
  constructor
  · intro h
    cases e : ld rb c j with
    | none => rfl
    | some t =>
      have h2 := (key t (by have := ld_lt hc hj e; omega)).mpr e
      rw [h, bt_zero] at h2
      cases h2
  · intro h
    apply bt_extI
    intro t ht
    rw [key t ht, h, bt_zero]
    exact ⟨fun q => (by cases q), fun q => (by cases q)⟩
theorem moved_goal {rb g : Int64} {c j t : Nat} (hc : c < 36) (hj : j < 5) (h : ld rb c j = some t) : (fX0_movedBy rb ((1 : Int64) <<< ((nI c).toInt64 &&& (63 : Int64))) (nI j) &&& g) = (0 : Int64) ↔ bt g t = false := by
  have ht := ld_lt hc hj h
  have key : ∀ u, u < 64 → (bt (fX0_movedBy rb ((1 : Int64) <<< ((nI c).toInt64 &&& (63 : Int64))) (nI j)) u = true ↔ t = u) := by
    intro u hu
    rw [moved_bt rb _ hj hu, mvb_ld]
    constructor
    · rintro ⟨d, h1, h2, h3⟩
      rw [bt_one c (by omega) d (by omega), decide_eq_true_eq] at h2
      rw [← h2, h] at h3; exact Option.some.inj h3
    · rintro rfl
      exact ⟨c, hc, by rw [bt_one c (by omega) c (by omega), decide_eq_true rfl], h⟩
  constructor
  · intro q
    have := congrArg (fun z => bt z t) q
    simp only [bt_and, bt_zero] at this
    rw [(key t (by omega)).mpr rfl, Bool.true_and] at this
    exact this
  · intro q
    apply bt_extI
    intro u hu
    rw [bt_and, bt_zero, Bool.and_eq_true, key u hu]
    constructor
    · rintro ⟨rfl, z⟩
      rw [q] at z; cases z
    · intro z; cases z
theorem step_tgt : ∀ c, c < 36 → ∀ j, j < 5 → (match tgt c j with | some t => decide (nI c + st_steps j = nI t) | none => true) = true := by decide +kernel
theorem landing_eq (rb : Int64) {c j : Nat} (hc : c < 36) (hj : j < 5) : fX0_landing rb (nI c) (nI j) = fX6_leads rb (nI c) (nI j) := by
  rw [fX0_landing]
  cases e : ld rb c j with
  | none => rw [if_pos ((moved_none hc hj).mpr e), (leads_none hc hj).mpr e]
  | some t =>
    rw [if_neg (fun q => by rw [(moved_none hc hj).mp q] at e; cases e), leads_some hc hj e, nI_clamp (by omega)]
    have := step_tgt c hc j hj
    rw [(ld_some.mp e).1] at this
    exact of_decide_eq_true this
theorem may_eq (rb : Int64) (k il ce mc : Nat → Int32) (sd td hi s : Int32) (sa : Nat → Int32) (h : hsd sd s sa) (hm : mc s.toNatClampNeg = ce s.toNatClampNeg) {A : Nat} (hA : A < 36) (ha : ce s.toNatClampNeg = nI A) : ∀ (n : Nat) (x : Int32) (i : Nat), i ≤ 5 → fX4_mayBits_13 rb k il ce sd td hi s n x i = fX6_maySail_4 rb td hi k il mc sa s n x i := by
  intro n
  induction n with
  | zero => intro x i _; rfl
  | succ n ih =>
    intro x i hi5
    rw [fX4_mayBits_13, fX6_maySail_4, Int32.or_zero]
    by_cases h4 : (4 : Int32) < nI i
    · have h5 : 4 < i := (nI_ltI (a := 4) (by decide) (by omega)).mp h4
      rw [if_pos h4, if_pos (show (5 : Int32) ≤ nI i from nI_le (a := 5) (by omega) (by omega))]
    · have h5 : i ≤ 4 := nI_gt (k := 4) (by decide) (by omega) h4
      rw [if_neg h4, if_neg (show ¬ (5 : Int32) ≤ nI i from nI_ge (b := 5) (by omega) (by omega)), hm, ha, landing_eq rb hA (by omega), ih _ (i + 1) (by omega), ih _ (i + 1) (by omega)]
      obtain ⟨h1, h2⟩ := h
      rcases h2 with q | q
      · rw [if_pos q]
        have u := up_bit k il sd td hi s 0 (fun _ => by rw [h1, q]) (j := i) (by omega)
        rw [Int32.add_zero] at u
        unfold upb at u
        by_cases hu : fX6_isUp hi k il (nI i) td = (0 : Int32)
        · rw [if_pos hu, if_pos (Decidable.not_not.mp fun z => u.mp z hu)]
        · rw [if_neg hu, if_neg (u.mpr hu)]
      · rw [if_neg (show ¬ sa s.toNatClampNeg = (0 : Int32) by rw [q]; decide), up_none k il sd td hi s (by rw [h1, q]; decide), if_pos (Decidable.not_not.mp (upb_0 i (by omega)))]
theorem mayBits_eq (rb : Int64) (k il ce mc : Nat → Int32) (sd td hi s : Int32) (sa : Nat → Int32) (h : hsd sd s sa) (hm : mc s.toNatClampNeg = ce s.toNatClampNeg) {A : Nat} (hA : A < 36) (ha : ce s.toNatClampNeg = nI A) : fX4_mayBits rb k il ce sd td hi s = fX6_maySail rb td hi k il mc sa s := by
  rw [fX4_mayBits, fX6_maySail]
  exact may_eq rb k il ce mc sd td hi s sa h hm hA ha 6 0 0 (by omega)
