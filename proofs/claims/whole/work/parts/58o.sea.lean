/-! reading: the whole page; the sea that is read -/
theorem read_eq {P : Nat → Nat} {pg : Nat → Int32} (hP : ∀ j, P j < 127) (hpg : ∀ j, pg j = nI (P j)) {Z : Nat} (hZ : Z ≤ 40) : ∀ (n i : Nat) (kd il sh : Nat → Int32) (S : Nat) (ro : Int64) (R : Nat) (am row wh : Int32) (E : Nat), i ≤ Z → Z - i < n → Jn P i kd il sh S ro R am row wh E → ∃ (v : Int32) (kd2 il2 sh2 : Nat → Int32) (S2 : Nat) (ro2 : Int64) (R2 : Nat) (am2 row2 wh2 : Int32) (E2 : Nat), fX1_read_6 pg (nI Z) n i kd il sh (nI S) ro (nI R) am row wh = (v, kd2, il2, sh2, nI S2, ro2, nI R2, am2, row2, wh2) ∧ fX6_faultOf_7 pg (nI Z) n i (nI E) = (v, nI E2) ∧ zOK kd2 il2 ∧ ((v = nI Z ∧ Jn P Z kd2 il2 sh2 S2 ro2 R2 am2 row2 wh2 E2) ∨ ∃ a, a < Z ∧ v = nI a) := by
  intro n
  induction n with
  | zero => intro i kd il sh S ro R am row wh E _ h; exact absurd h (Nat.not_lt_zero _)
  | succ n ih =>
    intro i kd il sh S ro R am row wh E hi hn h
    rw [fX1_read_6, fX6_faultOf_7]
    by_cases h4 : nI Z ≤ nI i
    · have h5 : Z ≤ i := (nI_leI (by omega) (by omega)).mp h4
      have e : i = Z := by omega
      subst e
      rw [if_pos h4, if_pos h4]
      exact ⟨_, kd, il, sh, S, ro, R, am, row, wh, E, rfl, rfl, h.1.1, Or.inl ⟨rfl, h⟩⟩
    · have h5 : i < Z := Nat.not_le.mp fun q => h4 (nI_le q (by omega))
      obtain ⟨t, g, kd2, il2, sh2, S2, ro2, R2, am2, row2, wh2, E2, hT, hG, htg, hz, hJ⟩ := stp_all hP hpg h
      rw [if_neg h4, if_neg h4, nI_clamp (show i < 2 ^ 31 by omega), hpg i, hT, hG]
      dsimp only
      by_cases q : t = (0 : Int32)
      · rw [if_pos q, if_pos (htg.mp q)]
        exact ⟨_, kd2, il2, sh2, S2, ro2, R2, am2, row2, wh2, E2, rfl, rfl, hz, Or.inr ⟨i, h5, rfl⟩⟩
      · rw [if_neg q, if_neg (mt htg.mpr q)]
        exact ih (i + 1) kd2 il2 sh2 S2 ro2 R2 am2 row2 wh2 E2 (by omega) (by omega) (hJ q)
theorem read_all {P : Nat → Nat} {pg : Nat → Int32} (hP : ∀ j, P j < 127) (hpg : ∀ j, pg j = nI (P j)) {Z : Nat} (hZ : Z ≤ 40) (kd il sh : Nat → Int32) (hz : zOK kd il) : ∃ (v : Int32) (kd2 il2 sh2 : Nat → Int32) (S2 : Nat) (ro2 : Int64) (R2 : Nat) (am2 row2 wh2 : Int32) (E2 : Nat), fX1_read kd il sh pg (nI Z) = (v, kd2, il2, sh2, nI S2, ro2, nI R2, am2, row2, wh2) ∧ fX6_faultOf pg (nI Z) = (v, nI E2) ∧ zOK kd2 il2 ∧ ((v = nI Z ∧ Jn P Z kd2 il2 sh2 S2 ro2 R2 am2 row2 wh2 E2) ∨ ∃ a, a < Z ∧ v = nI a) := by
  rw [fX1_read, fX6_faultOf]
  exact read_eq hP hpg hZ 41 0 kd il sh 0 0 0 0 0 0 0 (by omega) (by omega) ⟨⟨hz, fun q _ h => by omega, fun q _ h => by omega⟩, Or.inl ⟨by omega, rfl, rfl, rfl, rfl, rfl, rfl⟩⟩
abbrev Sup := Int32 × Int32 × Int32 × Int32 × Int32 × Int64 × Int32 × Int32 × Int32 × Int32 × (Nat → Int32) × (Nat → Int32) × (Nat → Int32) × (Nat → Int32) × Int32
theorem sea167 {P : Nat → Nat} {pg : Nat → Int32} (hpg : ∀ j, pg j = nI (P j)) {Z E R S : Nat} (hZ : Z ≤ 40) (hE : 11 ≤ E) (hE2 : E ≤ 17) (hEZ : E < Z) (eR : R = (Z - E) / 3) (hR : R ≤ 6) (eS : S = (E - 8) / 3) (hD : ∀ q, q < R → cD P (E + 1 + 3 * q)) {v : Int32} (hf : fX6_faultOf pg (nI Z) = (v, nI E)) (sr : Int32) (kk ii cc ss : Nat → Int32) : ∀ (n i : Nat) (x : Int64), i ≤ R → R - i < n → ∃ rb : Int64, fX6_sea_167 pg (nI Z) sr kk ii cc ss n i x = (nI S, nI E, (0 : Int32), nI S, nI R, rb, (0 : Int32), (0 : Int32), (0 : Int32), sr + (1 : Int32), kk, ii, cc, ss, (0 : Int32)) ∧ ∀ t, t < 64 → (bt rb t = true ↔ bt x t = true ∨ ∃ q, i ≤ q ∧ q < R ∧ cN P (E + 1 + 3 * q) = t) := by
  have d1 : (nI Z - nI E) / (3 : Int32) = nI R := by
    rw [pk_sub (by omega)]
    show nI (Z - E) / nI 3 = nI R
    rw [pk_div (by omega) (by decide) (by decide), eR]
  have d2 : (nI E - (8 : Int32)) / (3 : Int32) = nI S := by
    show (nI E - nI 8) / nI 3 = nI S
    rw [pk_sub (by omega), pk_div (by omega) (by decide) (by decide), eS]
  intro n
  induction n with
  | zero => intro i x _ h; exact absurd h (Nat.not_lt_zero _)
  | succ n ih =>
    intro i x hi hn
    rw [fX6_sea_167, hf]
    dsimp only
    rw [d1, d2]
    by_cases h4 : nI R ≤ nI i
    · have h5 : R ≤ i := (nI_leI (by omega) (by omega)).mp h4
      rw [if_pos h4]
      exact ⟨x, rfl, fun t _ => (ex_end h5).symm⟩
    · have h5 : i < R := Nat.not_le.mp fun q => h4 (nI_le q (by omega))
      rw [if_neg h4]
      have ea : nI E + (1 : Int32) + (3 : Int32) * nI i = nI (E + 1 + 3 * i) := by
        show nI E + nI 1 + nI 3 * nI i = _
        rw [pk_mul, nI_add, nI_add]
      obtain ⟨rb, e1, e2⟩ := ih (i + 1) (x ||| ((1 : Int64) <<< ((nI (cN P (E + 1 + 3 * i))).toInt64 &&& 63))) (by omega) (by omega)
      have hlt := cN_lt (hD i h5)
      rw [ea, cAt hpg (by omega) (hD i h5)]
      refine ⟨rb, e1, fun t ht => ?_⟩
      rw [e2 t ht, ex_step h5, bt_or, Bool.or_eq_true, bt_one _ (by omega) t ht, decide_eq_true_eq]
theorem sea114 {P : Nat → Nat} {pg : Nat → Int32} (hpg : ∀ j, pg j = nI (P j)) {Z E S : Nat} (hE : 11 ≤ E) (hE2 : E ≤ 17) (eS : S = (E - 8) / 3) (hD : ∀ q, q < S → cD P (9 + 3 * q)) {v : Int32} (hf : fX6_faultOf pg (nI Z) = (v, nI E)) (sr : Int32) (kk ii : Nat → Int32) : ∀ (n i : Nat) (cc ss : Nat → Int32), i ≤ 3 → 3 - i < n → ∃ cc2 ss2 : Nat → Int32, fX6_sea_114 pg (nI Z) sr kk ii n i cc ss = fX6_sea_167 pg (nI Z) sr kk ii cc2 ss2 15 0 (0 : Int64) ∧ (∀ q, i ≤ q → q < S → cc2 q = nI (cN P (9 + 3 * q))) ∧ (∀ q, q < i → cc2 q = cc q) ∧ (∀ q, i ≤ q → q < 3 → ss2 q = 0) ∧ (∀ q, q < i → ss2 q = ss q) := by
  have d2 : (nI E - (8 : Int32)) / (3 : Int32) = nI S := by
    show (nI E - nI 8) / nI 3 = nI S
    rw [pk_sub (by omega), pk_div (by omega) (by decide) (by decide), eS]
  intro n
  induction n with
  | zero => intro i cc ss _ h; exact absurd h (Nat.not_lt_zero _)
  | succ n ih =>
    intro i cc ss hi hn
    rw [fX6_sea_114, hf]
    dsimp only
    rw [d2]
    by_cases h4 : (3 : Int32) ≤ nI i
    · have h5 : 3 ≤ i := (nI_leI (a := 3) (by omega) (by omega)).mp h4
      rw [if_pos h4]
      exact ⟨cc, ss, rfl, fun q a b => by omega, fun _ _ => rfl, fun q a b => by omega, fun _ _ => rfl⟩
    · have h5 : i < 3 := Nat.not_le.mp fun q => h4 (nI_le (a := 3) q (by omega))
      rw [if_neg h4, nI_clamp (show i < 2 ^ 31 by omega)]
      by_cases h6 : nI S ≤ nI i
      · have h7 : S ≤ i := (nI_leI (by omega) (by omega)).mp h6
        rw [if_pos h6]
        obtain ⟨c2, s2, e1, e2, e3, e4, e5⟩ := ih (i + 1) (upd cc i 0) (upd ss i 0) (by omega) (by omega)
        refine ⟨c2, s2, e1, fun q a b => by omega, fun q a => by rw [e3 q (by omega), pk_un (by omega)], fun q a b => ?_, fun q a => by rw [e5 q (by omega), pk_un (by omega)]⟩
        by_cases e : q = i
        · rw [e5 q (by omega), e, pk_us]
        · exact e4 q (by omega) b
      · have h7 : i < S := Nat.not_le.mp fun q => h6 (nI_le q (by omega))
        have ea : (9 : Int32) + (3 : Int32) * nI i = nI (9 + 3 * i) := by
          show nI 9 + nI 3 * nI i = _
          rw [pk_mul, nI_add]
        rw [if_neg h6, ea, cAt hpg (by omega) (hD i h7)]
        obtain ⟨c2, s2, e1, e2, e3, e4, e5⟩ := ih (i + 1) (upd cc i (nI (cN P (9 + 3 * i)))) (upd ss i 0) (by omega) (by omega)
        refine ⟨c2, s2, e1, fun q a b => ?_, fun q a => by rw [e3 q (by omega), pk_un (by omega)], fun q a b => ?_, fun q a => by rw [e5 q (by omega), pk_un (by omega)]⟩
        · by_cases e : q = i
          · rw [e3 q (by omega), e, pk_us]
          · exact e2 q (by omega) b
        · by_cases e : q = i
          · rw [e5 q (by omega), e, pk_us]
          · exact e4 q (by omega) b
theorem sea65 {P : Nat → Nat} {pg : Nat → Int32} (hpg : ∀ j, pg j = nI (P j)) {Z : Nat} (sr : Int32) (cc ss : Nat → Int32) (hD : ∀ q, q < 4 → 48 ≤ P (2 * q + 1)) : ∀ (n i : Nat) (kk ii : Nat → Int32), i ≤ 4 → 4 - i < n → ∃ k2 i2 : Nat → Int32, fX6_sea_65 pg (nI Z) sr cc ss n i kk ii = fX6_sea_114 pg (nI Z) sr k2 i2 4 0 cc ss ∧ (∀ q, i ≤ q → q < 4 → k2 q = fX6_kindBy (nI (P (2 * q))) ∧ i2 q = nI (P (2 * q + 1) - 48)) ∧ (∀ q, q < i ∨ 4 ≤ q → k2 q = kk q ∧ i2 q = ii q) := by
  intro n
  induction n with
  | zero => intro i kk ii _ h; exact absurd h (Nat.not_lt_zero _)
  | succ n ih =>
    intro i kk ii hi hn
    rw [fX6_sea_65]
    by_cases h4 : (4 : Int32) ≤ nI i
    · have h5 : 4 ≤ i := (nI_leI (a := 4) (by omega) (by omega)).mp h4
      rw [if_pos h4]
      exact ⟨kk, ii, rfl, fun q a b => by omega, fun _ _ => ⟨rfl, rfl⟩⟩
    · have h5 : i < 4 := Nat.not_le.mp fun q => h4 (nI_le (a := 4) q (by omega))
      have c0 : ((2 : Int32) * nI i).toNatClampNeg = 2 * i := by
        show (nI 2 * nI i).toNatClampNeg = _
        rw [pk_mul, nI_clamp (by omega)]
      have c1 : ((2 : Int32) * nI i + (1 : Int32)).toNatClampNeg = 2 * i + 1 := by
        show (nI 2 * nI i + nI 1).toNatClampNeg = _
        rw [pk_mul, nI_add, nI_clamp (by omega)]
      have c2 : nI (P (2 * i + 1)) - (48 : Int32) = nI (P (2 * i + 1) - 48) := pk_sub (b := 48) (hD i h5)
      rw [if_neg h4, c0, c1, hpg (2 * i), hpg (2 * i + 1), c2, nI_clamp (show i < 2 ^ 31 by omega)]
      obtain ⟨k2, i2, e1, e2, e3⟩ := ih (i + 1) (upd kk i (fX6_kindBy (nI (P (2 * i))))) (upd ii i (nI (P (2 * i + 1) - 48))) (by omega) (by omega)
      refine ⟨k2, i2, e1, fun q a b => ?_, fun q a => ?_⟩
      · by_cases e : q = i
        · have := e3 q (by omega)
          rw [this.1, this.2, e, pk_us, pk_us]
          exact ⟨rfl, rfl⟩
        · exact e2 q (by omega) b
      · have := e3 q (by omega)
        rw [this.1, this.2, pk_un (by omega), pk_un (by omega)]
        exact ⟨rfl, rfl⟩
/-- the sea that was read, by the class's draft and by the model -/
theorem sea_read {P : Nat → Nat} {pg : Nat → Int32} (hpg : ∀ j, pg j = nI (P j)) {Z : Nat} (hZ : Z ≤ 40) {kd il sh : Nat → Int32} {S : Nat} {ro : Int64} {R : Nat} {am row wh : Int32} {E : Nat} (hl : ldOK P Z kd il) (h : J3 P Z sh S ro R am row wh E) {v : Int32} (hf : fX6_faultOf pg (nI Z) = (v, nI E)) (sr : Int32) (mk mi mc ms : Nat → Int32) (hz : ∀ q : Nat, 4 ≤ q → mk q = 0 ∧ mi q = 0) : ∃ c2 s2 : Nat → Int32, fX6_sea_65 pg (nI Z) sr mc ms 5 0 mk mi = (nI S, nI E, (0 : Int32), nI S, nI R, ro, (0 : Int32), (0 : Int32), (0 : Int32), sr + (1 : Int32), kd, il, c2, s2, (0 : Int32)) ∧ (∀ q : Nat, q < S → sh q = c2 q ∧ 0 ≤ (c2 q).toInt ∧ (c2 q).toInt < 36) ∧ (s2 0 = 0 ∧ s2 1 = 0 ∧ s2 2 = 0) ∧ (1 ≤ S ∧ S ≤ 3) ∧ ro.toBitVec.toNat < 2 ^ 36 ∧ (∀ q : Nat, q < 4 → 0 ≤ (il q).toInt ∧ (il q).toInt ≤ 1100) := by
  obtain ⟨h11, h17, h3, hlt, h18, eam, eS, hsh, eR, hro, ewh, hrow⟩ := h
  obtain ⟨hz2, k1, k2⟩ := hl
  obtain ⟨kk, ii, a1, a2, a3⟩ := sea65 hpg (Z := Z) sr mc ms (fun q hq => (k2 q hq (by omega)).1.1) 5 0 mk mi (by omega) (by omega)
  have ek : kk = kd := by
    funext q
    by_cases hq : q < 4
    · rw [(a2 q (Nat.zero_le _) hq).1, k1 q hq (by omega)]
    · rw [(a3 q (Or.inr (by omega))).1, (hz q (by omega)).1, (hz2 q (by omega)).1]
  have ei : ii = il := by
    funext q
    by_cases hq : q < 4
    · rw [(a2 q (Nat.zero_le _) hq).2, (k2 q hq (by omega)).2]
    · rw [(a3 q (Or.inr (by omega))).2, (hz q (by omega)).2, (hz2 q (by omega)).2]
  subst ek
  subst ei
  obtain ⟨c2, s2, b1, b2, _, b4, _⟩ := sea114 hpg (Z := Z) h11 h17 eS (fun q hq => (hsh q hq).1) hf sr kk ii 4 0 mc ms (by omega) (by omega)
  obtain ⟨rb, d1, d2⟩ := sea167 hpg hZ h11 h17 hlt eR (by omega) eS hro.1 hf sr kk ii c2 s2 15 0 0 (by omega) (by omega)
  have er : rb = ro := by
    apply bt_extI
    intro t ht
    rw [d2 t ht, hro.2 t ht, bt_zero]
    constructor
    · rintro (z | ⟨q, _, a, b⟩)
      · cases z
      · exact ⟨q, a, b⟩
    · rintro ⟨q, a, b⟩
      exact Or.inr ⟨q, Nat.zero_le _, a, b⟩
  subst er
  refine ⟨c2, s2, by rw [a1, b1, d1], fun q hq => ?_, ⟨b4 0 (by omega) (by omega), b4 1 (by omega) (by omega), b4 2 (by omega) (by omega)⟩, ⟨by omega, by omega⟩, lt_36 fun t ht hb => ?_, fun q hq => ?_⟩
  · have hlt2 := cN_lt (hsh q hq).1
    rw [(hsh q hq).2, b2 q (Nat.zero_le _) hq, nI_toInt (by omega)]
    exact ⟨rfl, by omega, by omega⟩
  · obtain ⟨q, a, b⟩ := (hro.2 t ht).mp hb
    have := cN_lt (hro.1 q a)
    omega
  · have := k2 q hq (by omega)
    rw [this.2, nI_toInt (by omega)]
    omega
theorem pg_nat {pg : Nat → Int32} (h : ∀ j : Nat, 0 ≤ (pg j).toInt ∧ (pg j).toInt ≤ 126) : ∃ P : Nat → Nat, (∀ j, P j < 127) ∧ ∀ j, pg j = nI (P j) :=
  ⟨fun j => (pg j).toInt.toNat, fun j => by have := h j; show (pg j).toInt.toNat < 127; omega, fun j => nI_of_ge (h j).1⟩
