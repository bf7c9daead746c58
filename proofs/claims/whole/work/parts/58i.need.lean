/-! aside -/
theorem goOn_36 {rb : Int64} {h : Int32} {k il : Nat → Int32} {f : Int64} {on : Int32} (hf : ∀ t, t < 64 → bt f t = true → t < 36) : ∀ t, t < 64 → bt (fX6_goOn rb h k il f on) t = true → t < 36 := by
  intro t ht hb
  rcases (goOn_bt rb h k il f on ht).mp hb with q | ⟨j, _, hj, _, ⟨c, hc, _, hg⟩, _⟩
  · exact hf t ht q
  · exact tgt_lt c hc j hj t hg
theorem reach9_36 {rb : Int64} {td h : Int32} {k il : Nat → Int32} {ah : Int32} : ∀ (n : Nat) (x : Int64) (i : Nat), (∀ t, t < 64 → bt x t = true → t < 36) → ∀ t, t < 64 → bt (fX6_reach_9 rb td h k il ah n x i) t = true → t < 36 := by
  intro n
  induction n with
  | zero => intro x i _ t ht hb; rw [fX6_reach_9, bt_zero] at hb; cases hb
  | succ n ih =>
    intro x i hx t ht hb
    rw [fX6_reach_9] at hb
    by_cases q : ah < nI i
    · rw [if_pos q] at hb; exact hx t ht hb
    · rw [if_neg q] at hb; exact ih _ _ (goOn_36 hx) t ht hb
theorem one_36 {A : Nat} (hA : A < 36) : ∀ t, t < 64 → bt ((1 : Int64) <<< ((nI A).toInt64 &&& (63 : Int64))) t = true → t < 36 := by
  intro t ht hb
  rw [bt_one A (by omega) t ht, decide_eq_true_eq] at hb
  omega
theorem reach_36 {rb : Int64} {td h : Int32} {k il mc sa : Nat → Int32} {s ah : Int32} {A : Nat} (hA : A < 36) (ha : mc s.toNatClampNeg = nI A) : ∀ t, t < 64 → bt (fX6_reach rb td h k il mc sa s ah) t = true → t < 36 := by
  rw [fX6_reach]
  apply reach9_36
  rw [fX6_first, ha]
  by_cases q : sa s.toNatClampNeg = (1 : Int32)
  · rw [if_pos q]; exact one_36 hA
  · rw [if_neg q]; exact goOn_36 (one_36 hA)
theorem bt_nat (x : Int64) (i : Nat) : bt x i = x.toBitVec.toNat.testBit i := rfl
theorem lt_36 {x : Int64} (h : ∀ t, t < 64 → bt x t = true → t < 36) : x.toBitVec.toNat < 2 ^ 36 := by
  apply Nat.lt_pow_two_of_testBit
  intro i hi
  rw [← bt_nat]
  by_cases q : i < 64
  · cases e : bt x i
    · rfl
    · have := h i q e; omega
  · exact bt_big x (by omega)
theorem lN_of (x : Int64) : x = lN x.toBitVec.toNat := Int64.toBitVec_inj.mp (by
  show x.toBitVec = BitVec.ofNat 64 x.toBitVec.toNat
  rw [BitVec.ofNat_toNat, BitVec.setWidth_eq])
theorem bit_N (X : Int64) {i : Nat} (hi : i < 64) : ((X >>> ((nI i).toInt64 &&& (63 : Int64))) &&& (1 : Int64)) = lN (X.toBitVec.toNat / 2 ^ i % 2) := by
  have e : bt X i = decide (X.toBitVec.toNat / 2 ^ i % 2 = 1) := by rw [bt_nat, Nat.testBit_eq_decide_div_mod_eq]
  rcases (show X.toBitVec.toNat / 2 ^ i % 2 = 0 ∨ X.toBitVec.toNat / 2 ^ i % 2 = 1 by omega) with q | q
  · rw [q] at e
    rw [q, (bit_0 X hi).mpr e]; rfl
  · rw [q] at e
    rw [q, (bit_1 X hi).mpr e]; rfl
theorem aside42 (rb : Int64) (td : Int32) (k il mc sa : Nat → Int32) (s ah : Int32) {X : Int64} (hX : (fX6_reach rb td (1 : Int32) k il mc sa s ah) &&& ((fX6_reach rb td (0 : Int32) k il mc sa s ah) ^^^ (-1 : Int64)) = X) : ∀ (n a i : Nat), i ≤ 36 → 36 - i < n → a ≤ i → fX6_asideOf_42 rb td k il mc sa s ah n (nI a) i = nI (a + bs (36 - i) (X.toBitVec.toNat / 2 ^ i)) := by
  intro n
  induction n with
  | zero => intro a i _ h; exact absurd h (Nat.not_lt_zero _)
  | succ n ih =>
    intro a i hi hn ha
    rw [fX6_asideOf_42, hX]
    by_cases h36 : (36 : Int32) ≤ nI i
    · have h5 : 36 ≤ i := (nI_leI (a := 36) (by decide) (by omega)).mp h36
      rw [if_pos h36, show 36 - i = 0 by omega, bs, Nat.add_zero]
    · have h5 : i < 36 := Nat.not_le.mp fun q => h36 (nI_le (a := 36) q (by omega))
      rw [if_neg h36, bit_N X (by omega), nI_l (by omega), zN_add, lN_i32, ih _ (i + 1) (by omega) (by omega) (by omega), show 36 - i = (36 - (i + 1)) + 1 by omega, bs, Nat.div_div_eq_div_mul, Nat.pow_succ, Nat.add_assoc]
theorem bs_zero : ∀ n, bs n 0 = 0 := by
  intro n
  induction n with
  | zero => rfl
  | succ n ih => rw [bs, Nat.zero_div, ih]
theorem asideOf_eq (rb : Int64) (td : Int32) (k il mc sa : Nat → Int32) (s ah : Int32) {A : Nat} (hA : A < 36) (ha : mc s.toNatClampNeg = nI A) : fJ13_bitCount_95d88 ((fX6_reach rb td (1 : Int32) k il mc sa s ah) &&& ((fX6_reach rb td (0 : Int32) k il mc sa s ah) ^^^ (-1 : Int64))) = fX6_asideOf rb td k il mc sa s ah := by
  rw [fX6_asideOf]
  have h := aside42 rb td k il mc sa s ah rfl 37 0 0 (by omega) (by omega) (by omega)
  rw [show (0 : Int32) = nI 0 from rfl, h, show nI 0 = (0 : Int32) from rfl]
  have hl : ∀ t, t < 64 → bt ((fX6_reach rb td (1 : Int32) k il mc sa s ah) &&& ((fX6_reach rb td (0 : Int32) k il mc sa s ah) ^^^ (-1 : Int64))) t = true → t < 36 := by
    intro t ht hb
    rw [bt_and, Bool.and_eq_true] at hb
    exact reach_36 hA ha t ht hb.1
  have hx := lt_36 hl
  generalize (fX6_reach rb td (1 : Int32) k il mc sa s ah) &&& ((fX6_reach rb td (0 : Int32) k il mc sa s ah) ^^^ (-1 : Int64)) = X at hx ⊢
  have e := bc_spec (x := X.toBitVec.toNat) (Nat.lt_trans hx (by decide))
  rw [← lN_of] at e
  rw [e, show (40 : Nat) = 36 + 4 from rfl, bs_add, Nat.div_eq_of_lt hx, bs_zero, Nat.add_zero, Nat.zero_add, Nat.sub_zero, Nat.pow_zero, Nat.div_one]
/-! needed and brick -/
theorem upd_same (f : Nat → Int32) (q : Nat) : upd f q (f q) = f := by
  funext j
  by_cases h : j = q
  · rw [h, pk_us]
  · rw [pk_un h]
theorem goOn_il {rb : Int64} {hi : Int32} {k il il2 : Nat → Int32} {f : Int64} {on : Int32} (h : ∀ j, j < 4 → (il j ≤ on ↔ il2 j ≤ on)) : fX6_goOn rb hi k il f on = fX6_goOn rb hi k il2 f on := by
  have up : ∀ j, j < 5 → fX6_isUp hi k il (nI j) on = fX6_isUp hi k il2 (nI j) on := by
    intro j hj
    rw [fX6_isUp, fX6_isUp]
    by_cases q : nI j = (4 : Int32)
    · rw [if_pos q, if_pos q]
    · have h4 : j < 4 := by
        rcases (show j < 4 ∨ j = 4 by omega) with z | z
        · exact z
        · rw [z] at q; exact absurd rfl q
      rw [if_neg q, if_neg q, nI_clamp (by omega)]
      have := h j h4
      by_cases z : il j ≤ on
      · rw [if_pos z, if_pos (this.mp z)]
      · rw [if_neg z, if_neg (mt this.mpr z)]
  apply bt_extI
  intro t ht
  rw [goOn_bt rb hi k il f on ht, goOn_bt rb hi k il2 f on ht]
  constructor
  · rintro (q | ⟨j, a, b, c, d⟩)
    · exact Or.inl q
    · exact Or.inr ⟨j, a, b, by rw [← up j b]; exact c, d⟩
  · rintro (q | ⟨j, a, b, c, d⟩)
    · exact Or.inl q
    · exact Or.inr ⟨j, a, b, by rw [up j b]; exact c, d⟩
theorem soon21_il {rb : Int64} {td hi : Int32} {k il il2 : Nat → Int32} {c : Int32} (h : ∀ i, i ≤ 40 → ∀ j, j < 4 → (il j ≤ td + nI i + (1 : Int32) ↔ il2 j ≤ td + nI i + (1 : Int32))) : ∀ (n : Nat) (x : Int64) (i : Nat), i ≤ 41 → fX6_soonOf_21 rb td hi k il c n x i = fX6_soonOf_21 rb td hi k il2 c n x i := by
  intro n
  induction n with
  | zero => intro x i _; rfl
  | succ n ih =>
    intro x i hi41
    rw [fX6_soonOf_21, fX6_soonOf_21]
    by_cases q : (41 : Int32) ≤ nI i
    · rw [if_pos q, if_pos q]
    · have h5 : i < 41 := Nat.not_le.mp fun z => q (nI_le (a := 41) z (by omega))
      rw [if_neg q, if_neg q, goOn_il (h i (by omega)), ih _ (i + 1) (by omega)]
theorem soonOf_il {rb : Int64} {td hi : Int32} {k il il2 mc sa : Nat → Int32} {s c : Int32} (h0 : ∀ j, j < 4 → (il j ≤ td ↔ il2 j ≤ td)) (h : ∀ i, i ≤ 40 → ∀ j, j < 4 → (il j ≤ td + nI i + (1 : Int32) ↔ il2 j ≤ td + nI i + (1 : Int32))) : fX6_soonOf rb td hi k il mc sa s c = fX6_soonOf rb td hi k il2 mc sa s c := by
  have e : fX6_first rb td hi k il mc sa s = fX6_first rb td hi k il2 mc sa s := by rw [fX6_first, fX6_first, goOn_il h0]
  rw [fX6_soonOf, fX6_soonOf, e, soon21_il h 42 _ 0 (by omega)]
theorem day_far {td : Int32} (h0 : 0 ≤ td.toInt) (h9 : td.toInt ≤ 999) {i : Nat} (hi : i ≤ 40) : (td + nI i + (1 : Int32)).toInt = td.toInt + i + 1 := by
  have e1 : (nI i).toInt = (i : Int) := nI_toInt (by omega)
  have e2 : (td + nI i).toInt = td.toInt + i := by rw [i_add (by rw [e1]; omega) (by rw [e1]; omega), e1]
  rw [add1_toInt (by rw [e2]; omega), e2]
/-- ill until today, or never: the same -/
theorem soonOf_well {rb : Int64} {td hi : Int32} {k il mc sa : Nat → Int32} {s c : Int32} {q : Nat} (h0 : 0 ≤ td.toInt) (h9 : td.toInt ≤ 999) : fX6_soonOf rb td hi k (upd il q td) mc sa s c = fX6_soonOf rb td hi k (upd il q (0 : Int32)) mc sa s c := by
  have z0 : (0 : Int32).toInt = 0 := by decide
  apply soonOf_il
  · intro j hj
    by_cases e : j = q
    · subst e
      rw [pk_us, pk_us, Int32.le_iff_toInt_le, Int32.le_iff_toInt_le, z0]
      omega
    · rw [pk_un e, pk_un e]
  · intro i hi j hj
    by_cases e : j = q
    · subst e
      rw [pk_us, pk_us, Int32.le_iff_toInt_le, Int32.le_iff_toInt_le, z0, day_far h0 h9 hi]
      omega
    · rw [pk_un e, pk_un e]
/-- how the two count what is never come to -/
def rl (x y : Int32) : Prop := (x = (2147483647 : Int32) ∧ y = (99 : Int32)) ∨ (x = y ∧ 0 ≤ y.toInt ∧ y.toInt ≤ 41)
theorem rl_le {a b c d : Int32} (h : rl a b) (h2 : rl c d) : a ≤ c ↔ b ≤ d := by
  have z1 : (2147483647 : Int32).toInt = 2147483647 := by decide
  have z2 : (99 : Int32).toInt = 99 := by decide
  rw [Int32.le_iff_toInt_le, Int32.le_iff_toInt_le]
  rcases h with ⟨e1, e2⟩ | ⟨e1, e2, e3⟩ <;> rcases h2 with ⟨f1, f2⟩ | ⟨f1, f2, f3⟩
  · rw [e1, e2, f1, f2, z1, z2]; omega
  · rw [e1, e2, f1, z1, z2]; omega
  · rw [e1, f1, f2, z1, z2]; omega
  · rw [e1, f1]
theorem rl_of {v : Int32} (h1 : -1 ≤ v.toInt) (h2 : v.toInt ≤ 41) : rl (fX5_endlessIfNone v) (if v = (-1 : Int32) then (99 : Int32) else v) := by
  rw [fX5_endlessIfNone]
  by_cases q : v = (-1 : Int32)
  · rw [if_pos q, if_pos q]; exact Or.inl ⟨rfl, rfl⟩
  · rw [if_neg q, if_neg q]
    have : ¬ v.toInt = -1 := fun z => q (Int32.toInt_inj.mp z)
    exact Or.inr ⟨rfl, by omega, h2⟩
theorem rl_nn {x y : Int32} (h : rl x y) : ¬ x ≤ (-1 : Int32) ∧ ¬ y ≤ (-1 : Int32) := by
  have z : (-1 : Int32).toInt = -1 := by decide
  rcases h with ⟨e1, e2⟩ | ⟨e1, e2, e3⟩
  · rw [e1, e2]; decide
  · rw [e1, Int32.le_iff_toInt_le, z]; omega
/-- the ground of the calls about one ship and one cell -/
def grd (ce mc : Nat → Int32) (sd s : Int32) (sa : Nat → Int32) (A : Nat) : Prop := hsd sd s sa ∧ mc s.toNatClampNeg = ce s.toNatClampNeg ∧ A < 36 ∧ ce s.toNatClampNeg = nI A
theorem rl_days (rb : Int64) (k il ce mc : Nat → Int32) (sd td hi s : Int32) (sa : Nat → Int32) {A C : Nat} (g : grd ce mc sd s sa A) (hC : C < 36) (b t : Int32) : rl (fX5_endlessIfNone (fX5_daysIfIllUntil rb k il ce sd td hi b t s (nI C))) (fX6_soonIf rb td hi k il mc sa b t s (nI C)) := by
  obtain ⟨h, hm, hA, ha⟩ := g
  rw [fX5_daysIfIllUntil, fX6_soonIf, daysTo_eq rb k _ ce mc sd td hi s sa h hm hA ha hC]
  have := soonOf_le rb td hi k (upd il b.toNatClampNeg t) mc sa s (nI C)
  exact rl_of this.1 this.2
theorem needed_eq (rb : Int64) (k il ce mc : Nat → Int32) (sd td hi s : Int32) (sa : Nat → Int32) {A C : Nat} (g : grd ce mc sd s sa A) (hC : C < 36) : ∀ (n : Nat) (x3 x4 y3 y4 : Int32) (i : Nat), i ≤ 4 → ((i = 0 ∧ x4 = (-1 : Int32) ∧ y4 = (-1 : Int32)) ∨ (x3 = y3 ∧ rl x4 y4)) → fX5_needed_27 rb k il ce sd td hi s (nI C) n x3 x4 i = fX6_neededOf_8 rb td hi k il mc sa s (nI C) n y3 y4 i := by
  intro n
  induction n with
  | zero => intro x3 x4 y3 y4 i _ _; rfl
  | succ n ih =>
    intro x3 x4 y3 y4 i hi4 hx
    rw [fX5_needed_27, fX6_neededOf_8]
    by_cases h4 : (4 : Int32) ≤ nI i
    · have h5 : 4 ≤ i := (nI_leI (a := 4) (by decide) (by omega)).mp h4
      rw [if_pos h4, if_pos h4]
      rcases hx with ⟨q, _⟩ | ⟨q, _⟩
      · omega
      · exact q
    · have h5 : i < 4 := Nat.not_le.mp fun q => h4 (nI_le (a := 4) q (by omega))
      rw [if_neg h4, if_neg h4]
      have core : ∀ t : Int32, (if fX5_endlessIfNone (fX5_daysIfIllUntil rb k il ce sd td hi (nI i) t s (nI C)) ≤ x4 then fX5_needed_27 rb k il ce sd td hi s (nI C) n x3 x4 (i + 1) else fX5_needed_27 rb k il ce sd td hi s (nI C) n (nI i) (fX5_endlessIfNone (fX5_daysIfIllUntil rb k il ce sd td hi (nI i) t s (nI C))) (i + 1)) = (if fX6_soonIf rb td hi k il mc sa (nI i) t s (nI C) ≤ y4 then (if fX6_soonIf rb td hi k il mc sa (nI i) t s (nI C) ≤ y4 then fX6_neededOf_8 rb td hi k il mc sa s (nI C) n y3 y4 (i + 1) else fX6_neededOf_8 rb td hi k il mc sa s (nI C) n y3 (fX6_soonIf rb td hi k il mc sa (nI i) t s (nI C)) (i + 1)) else (if fX6_soonIf rb td hi k il mc sa (nI i) t s (nI C) ≤ y4 then fX6_neededOf_8 rb td hi k il mc sa s (nI C) n (nI i) y4 (i + 1) else fX6_neededOf_8 rb td hi k il mc sa s (nI C) n (nI i) (fX6_soonIf rb td hi k il mc sa (nI i) t s (nI C)) (i + 1))) := by
        intro t
        have hr := rl_days rb k il ce mc sd td hi s sa g hC (nI i) t
        rcases hx with ⟨q, q1, q2⟩ | ⟨q, q1⟩
        · rw [q1, q2, if_neg (rl_nn hr).1, if_neg (rl_nn hr).2, if_neg (rl_nn hr).2]
          exact ih _ _ _ _ (i + 1) (by omega) (Or.inr ⟨rfl, hr⟩)
        · have := rl_le hr q1
          by_cases z : fX6_soonIf rb td hi k il mc sa (nI i) t s (nI C) ≤ y4
          · rw [if_pos z, if_pos z, if_pos (this.mpr z)]
            exact ih _ _ _ _ (i + 1) (by omega) (Or.inr ⟨q, q1⟩)
          · rw [if_neg z, if_neg z, if_neg (mt this.mp z)]
            exact ih _ _ _ _ (i + 1) (by omega) (Or.inr ⟨rfl, hr⟩)
      by_cases q : il (nI i).toNatClampNeg ≤ td + (7 : Int32)
      · rw [if_pos q]
        by_cases q2 : il (nI i).toNatClampNeg < td + (7 : Int32)
        · rw [if_pos q2]; exact core _
        · have e : il (nI i).toNatClampNeg = td + (7 : Int32) := by
            have a := Int32.le_iff_toInt_le.mp q
            have b := mt Int32.lt_iff_toInt_lt.mpr q2
            exact Int32.toInt_inj.mp (by omega)
          rw [if_neg q2, e]; exact core _
      · rw [if_neg q]
        have q2 : ¬ il (nI i).toNatClampNeg < td + (7 : Int32) := fun z => q (Int32.le_of_lt z)
        rw [if_neg q2]; exact core _
theorem neededOf_eq (rb : Int64) (k il ce mc : Nat → Int32) (sd td hi s : Int32) (sa : Nat → Int32) {A C : Nat} (g : grd ce mc sd s sa A) (hC : C < 36) : fX5_needed_27 rb k il ce sd td hi s (nI C) 5 (0 : Int32) (-1 : Int32) 0 = fX6_neededOf rb td hi k il mc sa s (nI C) := by
  rw [fX6_neededOf]
  exact needed_eq rb k il ce mc sd td hi s sa g hC 5 _ _ _ _ 0 (by omega) (Or.inl ⟨rfl, rfl, rfl⟩)
theorem brick_eq (rb : Int64) (k il ce mc : Nat → Int32) (sd td hi s : Int32) (sa : Nat → Int32) (h0 : 0 ≤ td.toInt) (h9 : td.toInt ≤ 999) {A C : Nat} (g : grd ce mc sd s sa A) (hC : C < 36) : ∀ (n : Nat) (x3 x4 y4 : Int32) (i : Nat), i ≤ 4 → rl x4 y4 → fX5_brick_42 rb k il ce sd td hi s (nI C) n x3 x4 i = fX6_brickOf_20 rb td hi k il mc sa s (nI C) n x3 y4 i := by
  intro n
  induction n with
  | zero => intro x3 x4 y4 i _ _; rfl
  | succ n ih =>
    intro x3 x4 y4 i hi4 hx
    rw [fX5_brick_42, fX6_brickOf_20]
    by_cases h4 : (4 : Int32) ≤ nI i
    · rw [if_pos h4, if_pos h4]
    · have h5 : i < 4 := Nat.not_le.mp fun q => h4 (nI_le (a := 4) q (by omega))
      rw [if_neg h4, if_neg h4]
      have hr := rl_days rb k il ce mc sd td hi s sa g hC (nI i) td
      have e : fX6_soonIf rb td hi k il mc sa (nI i) td s (nI C) = fX6_soonIf rb td hi k il mc sa (nI i) (0 : Int32) s (nI C) := by rw [fX6_soonIf, fX6_soonIf, soonOf_well h0 h9]
      rw [e] at hr
      have := rl_le hx hr
      by_cases z : y4 ≤ fX6_soonIf rb td hi k il mc sa (nI i) (0 : Int32) s (nI C)
      · rw [if_pos z, if_pos z, if_pos (this.mpr z)]
        exact ih _ _ _ (i + 1) (by omega) hx
      · rw [if_neg z, if_neg z, if_neg (mt this.mp z)]
        exact ih _ _ _ (i + 1) (by omega) hr
theorem brickOf_eq (rb : Int64) (k il ce mc : Nat → Int32) (sd td hi s : Int32) (sa : Nat → Int32) (h0 : 0 ≤ td.toInt) (h9 : td.toInt ≤ 999) {A C : Nat} (g : grd ce mc sd s sa A) (hC : C < 36) : fX5_brick_42 rb k il ce sd td hi s (nI C) 5 (-1 : Int32) (fX5_endlessIfNone (fX4_daysTo rb k il ce sd td hi s (nI C))) 0 = fX6_brickOf rb td hi k il mc sa s (nI C) := by
  rw [fX6_brickOf]
  have hr := rl_days rb k il ce mc sd td hi s sa g hC (0 : Int32) (il (0 : Int32).toNatClampNeg)
  rw [fX5_daysIfIllUntil, upd_same] at hr
  exact brick_eq rb k il ce mc sd td hi s sa h0 h9 g hC 5 _ _ _ 0 (by omega) hr
