/-! when to look -/
def L1 (f u : Nat) : Int32 := ((((((0 : Int32) + (((nI f >>> (nI 0 &&& 31)) &&& (1 : Int32)) * nI (u / 2 ^ 0 % 2))) + (((nI f >>> (nI 1 &&& 31)) &&& (1 : Int32)) * nI (u / 2 ^ 1 % 2))) + (((nI f >>> (nI 2 &&& 31)) &&& (1 : Int32)) * nI (u / 2 ^ 2 % 2))) + (((nI f >>> (nI 3 &&& 31)) &&& (1 : Int32)) * nI (u / 2 ^ 3 % 2))) + (((nI f >>> (nI 4 &&& 31)) &&& (1 : Int32)) * nI (u / 2 ^ 4 % 2)))
def L2 (f u : Nat) : Int32 := ((((((0 : Int32) + (((nI f >>> (nI 0 &&& 31)) &&& (1 : Int32)) * ((1 : Int32) - nI (u / 2 ^ 0 % 2)))) + (((nI f >>> (nI 1 &&& 31)) &&& (1 : Int32)) * ((1 : Int32) - nI (u / 2 ^ 1 % 2)))) + (((nI f >>> (nI 2 &&& 31)) &&& (1 : Int32)) * ((1 : Int32) - nI (u / 2 ^ 2 % 2)))) + (((nI f >>> (nI 3 &&& 31)) &&& (1 : Int32)) * ((1 : Int32) - nI (u / 2 ^ 3 % 2)))) + (((nI f >>> (nI 4 &&& 31)) &&& (1 : Int32)) * ((1 : Int32) - nI (u / 2 ^ 4 % 2))))
theorem bc_two : ∀ f, f < 32 → ∀ u, u < 32 → fJ6_bitCount_0f7a4 (nI f &&& nI u) = L1 f u ∧ fJ6_bitCount_0f7a4 (nI f &&& (nI u ^^^ (-1 : Int32))) = L2 f u := by decide +kernel
theorem nI_bv (x : Int32) : x = nI x.toBitVec.toNat := Int32.toBitVec_inj.mp (by
  show x.toBitVec = BitVec.ofNat 32 x.toBitVec.toNat
  rw [BitVec.ofNat_toNat, BitVec.setWidth_eq])
theorem bi_nat (x : Int32) (i : Nat) : bi x i = x.toBitVec.toNat.testBit i := rfl
theorem five_bits {x : Int32} (h : ∀ t, t < 32 → bi x t = true → t < 5) : ∃ u, u < 32 ∧ x = nI u ∧ ∀ j, (bi x j = true ↔ u / 2 ^ j % 2 = 1) := by
  refine ⟨x.toBitVec.toNat, ?_, nI_bv x, fun j => ?_⟩
  · show x.toBitVec.toNat < 2 ^ 5
    apply Nat.lt_pow_two_of_testBit
    intro i hi
    rw [← bi_nat]
    by_cases q : i < 32
    · cases e : bi x i
      · rfl
      · have := h i q e; omega
    · exact BitVec.getLsbD_of_ge _ _ (by omega)
  · rw [bi_nat, Nat.testBit_eq_decide_div_mod_eq, decide_eq_true_eq]
theorem kup_N (il : Nat → Int32) (d k f : Int32) : ∃ u, u < 32 ∧ fX2_kindsUp il d k f = nI u ∧ ∀ j, j < 5 → fX6_upIf d il k (nI j) f = nI (u / 2 ^ j % 2) := by
  obtain ⟨u, h1, h2, h3⟩ := five_bits (x := fX2_kindsUp il d k f) (fun t ht h => ((kup_bi il d k f ht).mp h).1)
  refine ⟨u, h1, h2, fun j hj => ?_⟩
  have hb := (h3 j).symm.trans (kup_bi il d k f (t := j) (by omega))
  rcases upIf_isB d il k (nI j) f with z | z
  · have : ¬ u / 2 ^ j % 2 = 1 := fun q => by
      have := (hb.mp q).2
      rw [z] at this
      exact absurd this (by decide)
    rw [z, show u / 2 ^ j % 2 = 0 by omega]; rfl
  · rw [z, hb.mpr ⟨hj, z⟩]; rfl
theorem look35 (il : Nat → Int32) (d : Int32) (N : Int32) (sg : Nat → Int32) (k : Int32) (i f u : Nat) (hf : fX6_kindsOf d il N sg k = nI f) (hu : ∀ j, j < 5 → fX6_upIf d il k (nI j) (nI i) = nI (u / 2 ^ j % 2)) : fX6_lookOf_35 d il N sg k i 6 (0 : Int32) (0 : Int32) 0 = (L1 f u, L2 f u, 5) := by
  rw [fX6_lookOf_35, if_neg (show ¬ (5 : Int32) ≤ nI 0 by decide), fX6_lookOf_35, if_neg (show ¬ (5 : Int32) ≤ nI (0 + 1) by decide), fX6_lookOf_35, if_neg (show ¬ (5 : Int32) ≤ nI (0 + 1 + 1) by decide), fX6_lookOf_35, if_neg (show ¬ (5 : Int32) ≤ nI (0 + 1 + 1 + 1) by decide), fX6_lookOf_35, if_neg (show ¬ (5 : Int32) ≤ nI (0 + 1 + 1 + 1 + 1) by decide), fX6_lookOf_35, if_pos (show (5 : Int32) ≤ nI (0 + 1 + 1 + 1 + 1 + 1) by decide), hf, hu 0 (by omega), hu (0 + 1) (by omega), hu (0 + 1 + 1) (by omega), hu (0 + 1 + 1 + 1) (by omega), hu (0 + 1 + 1 + 1 + 1) (by omega)]
  rfl
theorem look_eq (il : Nat → Int32) (d : Int32) (sl sy su sg : Nat → Int32) (k : Int32) {N : Nat} (hN : N ≤ 6) (hs : ∀ q : Nat, q < 6 → sl q = sg (3 * q) ∧ sy q = sg (3 * q + 1) ∧ su q = sg (3 * q + 2) ∧ isB (sg (3 * q + 2)) ∧ 0 ≤ (sg (3 * q + 1)).toInt ∧ (sg (3 * q + 1)).toInt ≤ 20) {f : Nat} (hf32 : f < 32) (hf : fX6_kindsOf d il (nI N) sg k = nI f) (hf0 : ¬ fX6_kindsOf d il (nI N) sg k = (0 : Int32)) : ∀ (n : Nat) (x3 x4 : Int32) (i : Nat), i ≤ 21 → fX2_whenToLook_21 il d (nI N) sl sy su k n x3 x4 i = fX6_lookOf_15 d il (nI N) sg k n x3 x4 i := by
  intro n
  induction n with
  | zero => intro x3 x4 i _; rfl
  | succ n ih =>
    intro x3 x4 i hi
    rw [fX2_whenToLook_21, fX6_lookOf_15]
    by_cases h4 : (20 : Int32) < nI i
    · have h5 : 20 < i := (nI_ltI (a := 20) (by decide) (by omega)).mp h4
      rw [if_pos h4, if_pos (show (21 : Int32) ≤ nI i from nI_le (a := 21) (by omega) (by omega))]
    · have h5 : i ≤ 20 := nI_gt (k := 20) (by decide) (by omega) h4
      obtain ⟨u, hu, eu, hj⟩ := kup_N il d k (nI i)
      rw [if_neg h4, if_neg (show ¬ (21 : Int32) ≤ nI i from nI_ge (b := 21) (by omega) (by omega)), if_neg hf0, look35 il d (nI N) sg k i f u hf hj, kinds_eq il d sl sy su sg k hN hs, hf, eu, (bc_two f hf32 u hu).1, (bc_two f hf32 u hu).2]
      show _ = (if L1 f u ≤ L2 f u then (if x4 ≤ L2 f u then (if x4 ≤ L2 f u then (fX6_lookOf_15 d il (nI N) sg k n x3 x4 ((i + 1))) else (fX6_lookOf_15 d il (nI N) sg k n x3 (L2 f u) ((i + 1)))) else (if x4 ≤ L2 f u then (fX6_lookOf_15 d il (nI N) sg k n (nI i) x4 ((i + 1))) else (fX6_lookOf_15 d il (nI N) sg k n (nI i) (L2 f u) ((i + 1))))) else (if x4 ≤ L1 f u then (if x4 ≤ L1 f u then (fX6_lookOf_15 d il (nI N) sg k n x3 x4 ((i + 1))) else (fX6_lookOf_15 d il (nI N) sg k n x3 (L1 f u) ((i + 1)))) else (if x4 ≤ L1 f u then (fX6_lookOf_15 d il (nI N) sg k n (nI i) x4 ((i + 1))) else (fX6_lookOf_15 d il (nI N) sg k n (nI i) (L1 f u) ((i + 1))))))
      generalize L1 f u = A
      generalize L2 f u = B
      rw [ih _ _ (i + 1) (by omega), ih _ _ (i + 1) (by omega)]
      by_cases hAB : A ≤ B
      · have m : (if A < B then B else A) = B := by
          by_cases q : A < B
          · rw [if_pos q]
          · rw [if_neg q]
            have a := Int32.le_iff_toInt_le.mp hAB
            have b := mt Int32.lt_iff_toInt_lt.mpr q
            exact Int32.toInt_inj.mp (by omega)
        rw [m, if_pos hAB]
        by_cases q : x4 ≤ B
        · rw [if_pos q, if_pos q, if_pos q]
        · rw [if_neg q, if_neg q, if_neg q]
      · have m : (if A < B then B else A) = A := if_neg (fun q => hAB (Int32.le_of_lt q))
        rw [m, if_neg hAB]
        by_cases q : x4 ≤ A
        · rw [if_pos q, if_pos q, if_pos q]
        · rw [if_neg q, if_neg q, if_neg q]
theorem lookOf_eq (il : Nat → Int32) (d : Int32) (sl sy su sg : Nat → Int32) (k : Int32) {N : Nat} (hN : N ≤ 6) (hs : ∀ q : Nat, q < 6 → sl q = sg (3 * q) ∧ sy q = sg (3 * q + 1) ∧ su q = sg (3 * q + 2) ∧ isB (sg (3 * q + 2)) ∧ 0 ≤ (sg (3 * q + 1)).toInt ∧ (sg (3 * q + 1)).toInt ≤ 20) : fX2_whenToLook il d (nI N) sl sy su k = fX6_lookOf d il (nI N) sg k := by
  rw [fX2_whenToLook, kinds_eq il d sl sy su sg k hN hs, fX6_lookOf]
  by_cases h0 : fX6_kindsOf d il (nI N) sg k = (0 : Int32)
  · rw [if_pos h0, fX6_lookOf_15, if_neg (show ¬ (21 : Int32) ≤ nI 0 by decide), if_pos h0]
  · obtain ⟨f, h1, h2, _⟩ := five_bits (x := fX6_kindsOf d il (nI N) sg k) (fun t ht h => ((kindsOf_bi il d sg k hN ht).mp h).1)
    rw [if_neg h0]
    exact look_eq il d sl sy su sg k hN hs h1 h2 h0 22 _ _ 0 (by omega)
theorem daysUp_eq (k il : Nat → Int32) (td hi : Int32) {b : Int32} (hb : ¬ b = (4 : Int32)) : ∀ (n : Nat) (x : Int32) (i : Nat), fX2_daysUp_5 k il td b (28 : Int32) n x i = fX6_upDays_4 td hi k il b n x i := by
  intro n
  induction n with
  | zero => intro x i; rfl
  | succ n ih =>
    intro x i
    rw [fX2_daysUp_5, fX6_upDays_4, Int32.add_zero, isUp_eq hi k il hb, ih, ih]
/-! the counts -/
theorem kib (k i d : Int32) : isB (fX2_kindIsUp k i d) := by
  rw [fX2_kindIsUp]
  repeat' split
  all_goals first | exact nb_0 | exact nb_1
theorem asBit_B {x : Int32} (h : isB x) : fX5_asBit x = x := by
  rcases h with rfl | rfl <;> decide
theorem upT_eq (k il : Nat → Int32) (td hi ns : Int32) (h0 : ¬ ns = (0 : Int32)) : ∀ (n : Nat) (x : Int32) (i : Nat), i ≤ 4 → fX5_lodgersUp_4 (1 : Int32) k il td n x i = fX6_upToday_4 ns td hi k il n x i := by
  intro n
  induction n with
  | zero => intro x i _; rfl
  | succ n ih =>
    intro x i hi4
    rw [fX5_lodgersUp_4, fX6_upToday_4, if_neg (show ¬ (1 : Int32) = (0 : Int32) by decide), if_pos ((lk6 ns).mpr h0)]
    by_cases h4 : (4 : Int32) ≤ nI i
    · rw [if_pos h4, if_pos h4]
    · have h5 : i < 4 := Nat.not_le.mp fun q => h4 (nI_le (a := 4) q (by omega))
      rw [if_neg h4, if_neg h4, isUp_eq hi k il (nI_ne4 h5), fX5_asBit]
      by_cases q : fX2_isUp k il (nI i) td = (0 : Int32)
      · rw [if_pos q, if_pos q]; exact ih _ _ (by omega)
      · rw [if_neg q, if_neg q]; exact ih _ _ (by omega)
theorem upToday_eq (k il : Nat → Int32) (td hi ns : Int32) : fX5_lodgersUp (if ns = (0 : Int32) then (0 : Int32) else (1 : Int32)) k il td = fX6_upToday ns td hi k il := by
  rw [fX5_lodgersUp, fX6_upToday]
  by_cases h0 : ns = (0 : Int32)
  · rw [if_pos h0, fX5_lodgersUp_4, if_pos rfl, fX6_upToday_4, if_neg (show ¬ (4 : Int32) ≤ nI 0 by decide), if_neg (mt (lk6 ns).mp (fun q => q h0))]
  · rw [if_neg h0]; exact upT_eq k il td hi ns h0 5 _ 0 (by omega)
theorem illT_eq (il : Nat → Int32) (td ns : Int32) (h0 : ¬ ns = (0 : Int32)) (hi : ∀ q : Nat, q < 4 → 0 ≤ (il q).toInt ∧ (il q).toInt ≤ 1100) (hd : 0 ≤ td.toInt ∧ td.toInt ≤ 999) : ∀ (n : Nat) (x : Int32) (i : Nat), i ≤ 4 → fX5_lodgersIll_4 il td n x i = fX6_illToday_4 ns td il n x i := by
  intro n
  induction n with
  | zero => intro x i _; rfl
  | succ n ih =>
    intro x i hi4
    rw [fX5_lodgersIll_4, fX6_illToday_4, if_pos ((lk6 ns).mpr h0)]
    by_cases h4 : (4 : Int32) ≤ nI i
    · rw [if_pos h4, if_pos h4]
    · have h5 : i < 4 := Nat.not_le.mp fun q => h4 (nI_le (a := 4) q (by omega))
      have hq := hi i h5
      rw [if_neg h4, if_neg h4, fX6_illFor, fX2_isIll, nI_clamp (by omega)]
      generalize il i = v at hq ⊢
      by_cases q : v ≤ td
      · rw [if_pos q, if_pos q, if_pos (show (0 : Int32) ≤ (0 : Int32) by decide), show fX5_asBit (0 : Int32) = (0 : Int32) by decide]
        exact ih _ _ (by omega)
      · have a := mt Int32.le_iff_toInt_le.mpr q
        have z0 : (0 : Int32).toInt = 0 := by decide
        have e : (v - td).toInt = v.toInt - td.toInt := i_sub (by omega) (by omega)
        rw [if_neg q, if_neg q, if_neg (show ¬ v - td ≤ (0 : Int32) from fun z => by
          have := Int32.le_iff_toInt_le.mp z
          rw [e, z0] at this
          omega), show fX5_asBit (1 : Int32) = (1 : Int32) by decide]
        exact ih _ _ (by omega)
theorem ill0 (il : Nat → Int32) (td : Int32) (hi : ∀ q : Nat, il q = 0) (hd : 0 ≤ td.toInt) : ∀ (n : Nat) (i : Nat), i ≤ 4 → fX5_lodgersIll_4 il td n (0 : Int32) i = (0 : Int32) := by
  have z0 : (0 : Int32).toInt = 0 := by decide
  have hz : (0 : Int32) ≤ td := Int32.le_iff_toInt_le.mpr (by rw [z0]; exact hd)
  intro n
  induction n with
  | zero => intro i _; rfl
  | succ n ih =>
    intro i hi4
    rw [fX5_lodgersIll_4, fX2_isIll, hi, if_pos hz, show (0 : Int32) + fX5_asBit (0 : Int32) = (0 : Int32) by decide]
    by_cases h4 : (4 : Int32) ≤ nI i
    · rw [if_pos h4]
    · have h5 : i < 4 := Nat.not_le.mp fun q => h4 (nI_le (a := 4) q (by omega))
      rw [if_neg h4]; exact ih _ (by omega)
theorem illToday_eq (il : Nat → Int32) (td ns : Int32) (hi : ∀ q : Nat, q < 4 → 0 ≤ (il q).toInt ∧ (il q).toInt ≤ 1100) (hd : 0 ≤ td.toInt ∧ td.toInt ≤ 999) (hz : ns = (0 : Int32) → ∀ q : Nat, il q = 0) : fX5_lodgersIll il td = fX6_illToday ns td il := by
  rw [fX5_lodgersIll, fX6_illToday]
  by_cases h0 : ns = (0 : Int32)
  · rw [ill0 il td (hz h0) hd.1 5 0 (by omega), fX6_illToday_4, if_neg (show ¬ (4 : Int32) ≤ nI 0 by decide), if_neg (mt (lk6 ns).mp (fun q => q h0))]
  · exact illT_eq il td ns h0 hi hd 5 _ 0 (by omega)
theorem sum_enc {sd : Int32} {sa : Nat → Int32} (hb : isB (sa 0) ∧ isB (sa 1) ∧ isB (sa 2)) (e : sd = sa 0 + (2 : Int32) * sa 1 + (4 : Int32) * sa 2) : fJ6_bitCount_0f7a4 sd = ((sa (0 : Int32).toNatClampNeg) + (sa (1 : Int32).toNatClampNeg)) + (sa (2 : Int32).toNatClampNeg) := by
  obtain ⟨b0, b1, b2⟩ := hb
  show fJ6_bitCount_0f7a4 sd = sa 0 + sa 1 + sa 2
  rw [e]
  rcases b0 with q0 | q0 <;> rcases b1 with q1 | q1 <;> rcases b2 with q2 | q2 <;> rw [q0, q1, q2] <;> decide +kernel
theorem ships_eq {ce mc : Nat → Int32} {N : Nat} (hN : N ≤ 3) (c : Int32) (h : ∀ q : Nat, q < N → ce q = mc q) : ∀ (n : Nat) (x : Int32) (i : Nat), i ≤ 3 → fX5_shipsIn_4 (nI N) ce c n x i = fX6_shipsAt_4 (nI N) mc c n x i := by
  intro n
  induction n with
  | zero => intro x i _; rfl
  | succ n ih =>
    intro x i hi
    rw [fX5_shipsIn_4, fX6_shipsAt_4, Int32.or_zero]
    by_cases h4 : nI N ≤ nI i
    · rw [if_pos h4, if_pos h4]
    · have h5 : i < N := Nat.not_le.mp fun q => h4 (nI_le q (by omega))
      rw [if_neg h4, if_neg h4, nI_clamp (by omega), h i h5, ih _ _ (by omega), ih _ _ (by omega)]
