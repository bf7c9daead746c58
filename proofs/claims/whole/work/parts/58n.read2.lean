/-! reading: the ships and the rocks -/
theorem has2 (sh : Nat → Int32) {S : Nat} (hS : S ≤ 3) (c : Int32) : ∀ (n i : Nat), i ≤ 3 → 3 - i < n → (fX1_hasShip_2 sh (nI S) c n i = (0 : Int32) ↔ ∀ q, i ≤ q → q < S → ¬ sh q = c) := by
  intro n
  induction n with
  | zero => intro i _ h; exact absurd h (Nat.not_lt_zero _)
  | succ n ih =>
    intro i hi hn
    rw [fX1_hasShip_2]
    by_cases h4 : nI S ≤ nI i
    · have h5 : S ≤ i := (nI_leI (by omega) (by omega)).mp h4
      rw [if_pos h4]
      exact ⟨fun _ q a b => by omega, fun _ => rfl⟩
    · have h5 : i < S := Nat.not_le.mp fun q => h4 (nI_le q (by omega))
      rw [if_neg h4, nI_clamp (by omega)]
      by_cases e : sh i = c
      · rw [if_pos e]
        exact ⟨fun z => absurd z (by decide), fun z => absurd e (z i (Nat.le_refl _) h5)⟩
      · rw [if_neg e, ih (i + 1) (by omega) (by omega)]
        constructor
        · intro z q a b
          by_cases e2 : q = i
          · rw [e2]; exact e
          · exact z q (by omega) b
        · intro z q a b
          exact z q (by omega) b
theorem free51 {P : Nat → Nat} {pg : Nat → Int32} (hpg : ∀ j, pg j = nI (P j)) {E R i c : Nat} (hi : i = E + 2 + 3 * R) (hi40 : i < 60) (hc : fX6_cellAt pg (nI (i - 1)) = nI c) (hc36 : c < 36) (hD : ∀ q, q < R → cD P (E + 1 + 3 * q)) : ∀ (n q : Nat) (x : Int32), q ≤ R → R - q < n → isB x → (¬ fX6_isFree_51 pg (nI i) n x (nI (E + 1 + 3 * q)) = (0 : Int32) ↔ ¬ x = (0 : Int32) ∧ ∀ r, q ≤ r → r < R → ¬ cN P (E + 1 + 3 * r) = c) := by
  have e1 : nI i - (1 : Int32) = nI (i - 1) := pk_sub (b := 1) (by omega)
  intro n
  induction n with
  | zero => intro q x _ h; exact absurd h (Nat.not_lt_zero _)
  | succ n ih =>
    intro q x hq hn hx
    rw [fX6_isFree_51, e1, hc]
    by_cases h4 : nI (i - 1) ≤ nI (E + 1 + 3 * q)
    · have h5 : R ≤ q := by
        have := (nI_leI (by omega) (by omega)).mp h4
        omega
      rw [if_pos h4, all_end h5]
    · have h5 : q < R := Nat.not_le.mp fun z => h4 (nI_le (by omega) (by omega))
      have en : nI (E + 1 + 3 * q) + (3 : Int32) = nI (E + 1 + 3 * (q + 1)) := by
        show nI (E + 1 + 3 * q) + nI 3 = _
        rw [nI_add]; congr 1
      have n1 : ¬ (1 : Int32) = (0 : Int32) := by decide
      rw [if_neg h4, all_step h5, en, cAt hpg (by omega) (hD q h5)]
      by_cases hx0 : x = (0 : Int32)
      · rw [if_pos hx0, ih (q + 1) _ (by omega) (by omega) nb_0]
        exact ⟨fun z => absurd rfl z.1, fun z => absurd hx0 z.1.1⟩
      · rw [if_neg hx0]
        have hlt := cN_lt (hD q h5)
        by_cases e : cN P (E + 1 + 3 * q) = c
        · rw [if_pos (show nI (cN P (E + 1 + 3 * q)) = nI c by rw [e]), ih (q + 1) _ (by omega) (by omega) nb_0]
          exact ⟨fun z => absurd rfl z.1, fun z => absurd e z.1.2⟩
        · rw [if_neg (show ¬ nI (cN P (E + 1 + 3 * q)) = nI c from fun z => e ((nI_eq (by omega) (by omega)).mp z)), ih (q + 1) _ (by omega) (by omega) nb_1]
          exact ⟨fun z => ⟨⟨hx0, e⟩, z.2⟩, fun z => ⟨n1, z.2⟩⟩
theorem free5 {P : Nat → Nat} {pg : Nat → Int32} (hpg : ∀ j, pg j = nI (P j)) {E R S i c : Nat} (hi : i = E + 2 + 3 * R) (hi40 : i < 60) (hR : R ≤ 20) (hE : E = 8 + 3 * S) (hS : S ≤ 3) (hc : fX6_cellAt pg (nI (i - 1)) = nI c) (hc36 : c < 36) (hD : ∀ q, q < R → cD P (E + 1 + 3 * q)) (hD2 : ∀ q, q < S → cD P (9 + 3 * q)) : ∀ (n q : Nat) (x : Int32), q ≤ S → S - q < n → isB x → (¬ fX6_isFree_5 pg (nI E) (nI i) n x (9 + 3 * q) = (0 : Int32) ↔ (¬ x = (0 : Int32) ∧ ∀ r, 0 ≤ r → r < R → ¬ cN P (E + 1 + 3 * r) = c) ∧ ∀ r, q ≤ r → r < S → ¬ cN P (9 + 3 * r) = c) := by
  have e1 : nI i - (1 : Int32) = nI (i - 1) := pk_sub (b := 1) (by omega)
  have e2 : nI E + (1 : Int32) = nI (E + 1 + 3 * 0) := nI_1 E
  intro n
  induction n with
  | zero => intro q x _ h; exact absurd h (Nat.not_lt_zero _)
  | succ n ih =>
    intro q x hq hn hx
    rw [fX6_isFree_5, e1, hc]
    by_cases h4 : nI E ≤ nI (9 + 3 * q)
    · have h5 : S ≤ q := by
        have := (nI_leI (by omega) (by omega)).mp h4
        omega
      rw [if_pos h4, all_end h5, e2]
      exact free51 hpg hi hi40 hc hc36 hD 42 0 x (by omega) (by omega) hx
    · have h5 : q < S := Nat.not_le.mp fun z => h4 (nI_le (by omega) (by omega))
      have n1 : ¬ (1 : Int32) = (0 : Int32) := by decide
      rw [if_neg h4, all_step h5, show 9 + 3 * q + 3 = 9 + 3 * (q + 1) by omega, cAt hpg (by omega) (hD2 q h5)]
      by_cases hx0 : x = (0 : Int32)
      · rw [if_pos hx0, ih (q + 1) _ (by omega) (by omega) nb_0]
        exact ⟨fun z => absurd rfl z.1.1, fun z => absurd hx0 z.1.1.1⟩
      · rw [if_neg hx0]
        have hlt := cN_lt (hD2 q h5)
        by_cases e : cN P (9 + 3 * q) = c
        · rw [if_pos (show nI (cN P (9 + 3 * q)) = nI c by rw [e]), ih (q + 1) _ (by omega) (by omega) nb_0]
          exact ⟨fun z => absurd rfl z.1.1, fun z => absurd e z.1.2⟩
        · rw [if_neg (show ¬ nI (cN P (9 + 3 * q)) = nI c from fun z => e ((nI_eq (by omega) (by omega)).mp z)), ih (q + 1) _ (by omega) (by omega) nb_1]
          exact ⟨fun z => ⟨⟨⟨hx0, z.1.2⟩, e⟩, z.2⟩, fun z => ⟨⟨n1, z.1.1.2⟩, z.2⟩⟩
theorem ld_more {P : Nat → Nat} {i : Nat} {kd il : Nat → Int32} (h : ldOK P i kd il) (hi : 8 ≤ i) : ldOK P (i + 1) kd il :=
  ⟨h.1, fun q hq _ => h.2.1 q hq (by omega), fun q hq _ => h.2.2 q hq (by omega)⟩
theorem row_cell {P : Nat → Nat} {i : Nat} {row : Int32} (hi : 9 ≤ i) (h : rwOK P i row) (hs : 48 ≤ P i ∧ P i ≤ 53) : cD P (i - 1) ∧ ((6 : Int32) * row + nI (P i)) - (48 : Int32) = nI (cN P (i - 1)) := by
  have e : i - 1 + 1 = i := by omega
  obtain ⟨h1, h2⟩ := h
  refine ⟨⟨h1, by rw [e]; exact hs⟩, ?_⟩
  rw [h2]
  show nI 6 * nI (P (i - 1) - 48) + nI (P i) - nI 48 = _
  rw [pk_mul, nI_add, pk_sub (by omega)]
  unfold cN
  rw [e]
  congr 1
  omega
theorem j12 {P : Nat → Nat} {i : Nat} {kd il sh : Nat → Int32} {S : Nat} {ro : Int64} {R : Nat} {am row wh : Int32} {E : Nat} (h : Jn P i kd il sh S ro R am row wh E) (hi : 9 ≤ i) : J2 P i sh S ro R am row wh E ∨ J3 P i sh S ro R am row wh E := by
  rcases h.2 with q | q | q
  · obtain ⟨a, b, c, d, e, f, g⟩ := q
    refine Or.inl ⟨hi, by omega, b, f, by omega, d, e, g, fun q hq => by omega, fun q => by omega⟩
  · exact Or.inl q
  · exact Or.inr q
theorem stp_ship {P : Nat → Nat} {pg : Nat → Int32} (hP : ∀ j, P j < 127) (hpg : ∀ j, pg j = nI (P j)) {i : Nat} {kd il sh : Nat → Int32} {S : Nat} {ro : Int64} {R : Nat} {am row wh : Int32} {E : Nat} (hl : ldOK P i kd il) (h : J2 P i sh S ro R am row wh E) : stp P i (fX1_takes kd il sh (nI S) ro (nI R) am row wh (nI i) (nI (P i))) (fX6_isGood pg (nI E) (nI i)) := by
  obtain ⟨h9, h17, rfl, rfl, eS, rfl, rfl, rfl, hsh, hrow⟩ := h
  have hp := hP i
  have r9 : nI i - (9 : Int32) = nI (i - 9) := pk_sub (b := 9) (by omega)
  have r : nI (i - 9) - nI (i - 9) / (3 : Int32) * (3 : Int32) = nI ((i - 9) % 3) := rem_nI (d := 3) (by omega) (by decide) (by decide)
  have hin := in53 (hP i)
  have hsd := side_iff (hP i)
  have hl1 := ld_more hl (by omega)
  rw [tk_rest _ _ _ _ _ _ _ _ _ _ h9 (by omega), fX6_isGood, if_pos (show (9 : Int32) ≤ nI i from nI_le (a := 9) (by omega) (by omega)), if_pos (show nI 0 = (0 : Int32) from rfl), fX6_isShipLetter, r9, r, nI_clamp (show i < 2 ^ 31 by omega), hpg]
  rcases (show (i - 9) % 3 = 0 ∨ (i - 9) % 3 = 1 ∨ (i - 9) % 3 = 2 by omega) with q | q | q
  · rw [if_pos q, q, if_neg (show ¬ (2 : Int32) ≤ nI 0 by decide), fX1_takesRow]
    by_cases c : 48 ≤ P i ∧ P i ≤ 53
    · rw [if_neg (fun z => hsd.mp z c), show nI (P i) - (48 : Int32) = nI (P i - 48) from pk_sub (b := 48) c.1]
      exact ⟨1, fX6_in (nI (P i)).toInt64 48 53, kd, il, sh, S, 0, 0, 0, nI (P i - 48), 0, 0, rfl, rfl, ⟨fun z => absurd z (by decide), fun z => absurd c (hin.mp z)⟩, hl.1, fun _ => ⟨hl1, Or.inr (Or.inl ⟨by omega, by omega, rfl, rfl, by omega, rfl, rfl, rfl, hsh, fun _ => ⟨c, rfl⟩⟩)⟩⟩
    · rw [if_pos (hsd.mpr c)]
      exact ⟨0, fX6_in (nI (P i)).toInt64 48 53, kd, il, sh, S, 0, 0, 0, row, 0, 0, rfl, rfl, ⟨fun _ => hin.mpr c, fun _ => rfl⟩, hl.1, fun z => absurd rfl z⟩
  · rw [if_neg (by omega), if_pos q, q, if_neg (show ¬ (2 : Int32) ≤ nI 1 by decide), fX1_takesColumn]
    by_cases c : 48 ≤ P i ∧ P i ≤ 53
    · obtain ⟨hD, hcell⟩ := row_cell h9 (hrow (by omega)) c
      rw [if_neg (fun z => hsd.mp z c), if_pos rfl, hcell, fX1_takesShip, if_pos (show nI S < (3 : Int32) from nI_lt (b := 3) (by omega) (by omega)), nI_clamp (by omega), nI_1]
      have e9 : i - 1 = 9 + 3 * S := by omega
      refine ⟨1, fX6_in (nI (P i)).toInt64 48 53, kd, il, upd sh S (nI (cN P (i - 1))), S + 1, 0, 0, 0, row, 0, 0, rfl, rfl, ⟨fun z => absurd z (by decide), fun z => absurd c (hin.mp z)⟩, hl.1, fun _ => ⟨hl1, Or.inr (Or.inl ⟨by omega, by omega, rfl, rfl, by omega, rfl, rfl, rfl, fun q2 hq => ?_, fun z => by omega⟩)⟩⟩
      by_cases e : q2 = S
      · rw [e, pk_us, ← e9]; exact ⟨hD, rfl⟩
      · rw [pk_un e]; exact hsh q2 (by omega)
    · rw [if_pos (hsd.mpr c)]
      exact ⟨0, fX6_in (nI (P i)).toInt64 48 53, kd, il, sh, S, 0, 0, 0, row, 0, 0, rfl, rfl, ⟨fun _ => hin.mpr c, fun _ => rfl⟩, hl.1, fun z => absurd rfl z⟩
  · rw [if_neg (by omega), if_neg (by omega), q, if_pos (show (2 : Int32) ≤ nI 2 by decide), fX1_takesMark, if_pos (show (0 : Int32) = (0 : Int32) from rfl), if_pos (show (0 : Int32) = (0 : Int32) from rfl)]
    by_cases c : nI (P i) = (59 : Int32)
    · rw [if_neg (show ¬ nI (P i) = (44 : Int32) by rw [c]; decide), if_pos c, if_pos c, if_pos c]
      refine ⟨1, 1, kd, il, sh, S, 0, 0, 1, row, 0, i, rfl, rfl, Iff.rfl, hl.1, fun _ => ⟨hl1, Or.inr (Or.inr ⟨by omega, h17, by omega, by omega, by omega, rfl, eS, hsh, by omega, ⟨fun q hq => by omega, fun t ht => ?_⟩, ?_, fun z => by omega⟩)⟩⟩
      · rw [bt_zero]
        exact ⟨fun z => (by cases z), fun z => by obtain ⟨q, hq, _⟩ := z; omega⟩
      · rw [if_neg (by omega)]
    · rw [if_neg c, if_neg c, if_neg c]
      by_cases c2 : nI (P i) = (44 : Int32)
      · rw [if_pos c2, if_pos c2]
        by_cases c3 : i = 17
        · rw [if_pos (show (3 : Int32) ≤ nI S from nI_le (a := 3) (by omega) (by omega)), if_pos (show (8 : Int32) ≤ nI (i - 9) from nI_le (a := 8) (by omega) (by omega))]
          exact ⟨0, 0, kd, il, sh, S, 0, 0, 0, row, 0, 0, rfl, rfl, Iff.rfl, hl.1, fun z => absurd rfl z⟩
        · rw [if_neg (show ¬ (3 : Int32) ≤ nI S from nI_ge (b := 3) (by omega) (by omega)), if_neg (show ¬ (8 : Int32) ≤ nI (i - 9) from nI_ge (b := 8) (by omega) (by omega))]
          exact ⟨1, 1, kd, il, sh, S, 0, 0, 0, row, 0, 0, rfl, rfl, Iff.rfl, hl.1, fun _ => ⟨hl1, Or.inr (Or.inl ⟨by omega, by omega, rfl, rfl, by omega, rfl, rfl, rfl, hsh, fun z => by omega⟩)⟩⟩
      · rw [if_neg c2, if_neg c2]
        exact ⟨0, 0, kd, il, sh, S, 0, 0, 0, row, 0, 0, rfl, rfl, Iff.rfl, hl.1, fun z => absurd rfl z⟩
theorem stp_rock {P : Nat → Nat} {pg : Nat → Int32} (hP : ∀ j, P j < 127) (hpg : ∀ j, pg j = nI (P j)) {i : Nat} {kd il sh : Nat → Int32} {S : Nat} {ro : Int64} {R : Nat} {am row wh : Int32} {E : Nat} (hl : ldOK P i kd il) (h : J3 P i sh S ro R am row wh E) : stp P i (fX1_takes kd il sh (nI S) ro (nI R) am row wh (nI i) (nI (P i))) (fX6_isGood pg (nI E) (nI i)) := by
  obtain ⟨h11, h17, h3, hlt, h18, rfl, eS, hsh, eR, hro, ewh, hrow⟩ := h
  have hp := hP i
  have rE : nI i - nI E - (1 : Int32) = nI (i - E - 1) := by
    show nI i - nI E - nI 1 = _
    rw [pk_sub (by omega), pk_sub (by omega)]
  have r : nI (i - E - 1) - nI (i - E - 1) / (3 : Int32) * (3 : Int32) = nI ((i - E - 1) % 3) := rem_nI (d := 3) (by omega) (by decide) (by decide)
  have hin := in53 (hP i)
  have hsd := side_iff (hP i)
  have hl1 := ld_more hl (by omega)
  have n1 : ¬ (1 : Int32) = (0 : Int32) := by decide
  rw [tk_rest _ _ _ _ _ _ _ _ _ _ (by omega) (by omega), fX6_isGood, if_pos (show (9 : Int32) ≤ nI i from nI_le (a := 9) (by omega) (by omega)), if_neg (show ¬ nI E = (0 : Int32) from nI_ne0 (by omega) (by omega)), fX6_isRockLetter, rE, r, nI_clamp (show i < 2 ^ 31 by omega), hpg]
  have em : (i - 9) % 3 = (i - E - 1) % 3 := by omega
  rw [em]
  rcases (show (i - E - 1) % 3 = 0 ∨ (i - E - 1) % 3 = 1 ∨ (i - E - 1) % 3 = 2 by omega) with q | q | q
  · rw [if_pos q, q, if_pos (show nI 0 = (0 : Int32) from rfl), fX1_takesRow]
    by_cases c : 48 ≤ P i ∧ P i ≤ 53
    · rw [if_neg (fun z => hsd.mp z c), show nI (P i) - (48 : Int32) = nI (P i - 48) from pk_sub (b := 48) c.1]
      refine ⟨1, fX6_in (nI (P i)).toInt64 48 53, kd, il, sh, S, ro, R, 1, nI (P i - 48), wh, E, rfl, rfl, ⟨fun z => absurd z (by decide), fun z => absurd c (hin.mp z)⟩, hl.1, fun _ => ⟨hl1, Or.inr (Or.inr ⟨h11, h17, h3, by omega, by omega, rfl, eS, hsh, by omega, hro, ?_, fun _ => ⟨c, rfl⟩⟩)⟩⟩
      rw [ewh, if_neg (by omega), if_neg (by omega)]
    · rw [if_pos (hsd.mpr c)]
      exact ⟨0, fX6_in (nI (P i)).toInt64 48 53, kd, il, sh, S, ro, R, 1, row, wh, E, rfl, rfl, ⟨fun _ => hin.mpr c, fun _ => rfl⟩, hl.1, fun z => absurd rfl z⟩
  · rw [if_neg (by omega), if_pos q, q, if_neg (show ¬ nI 1 = (0 : Int32) by decide), if_pos (show nI 1 = (1 : Int32) from rfl), fX1_takesColumn]
    by_cases c : 48 ≤ P i ∧ P i ≤ 53
    · obtain ⟨hD, hcell⟩ := row_cell (by omega) (hrow (by omega)) c
      have hc36 := cN_lt hD
      have ei : i - 1 = E + 1 + 3 * R := by omega
      have hfree := free5 hpg (E := E) (R := R) (S := S) (i := i) (c := cN P (i - 1)) (by omega) (by omega) (by omega) (by omega) (by omega) (cAt hpg (by omega) hD) hc36 hro.1 (fun q hq => (hsh q hq).1) 42 0 1 (by omega) (by omega) nb_1
      rw [if_neg (fun z => hsd.mp z c), if_neg n1, hcell, fX1_takesRock, if_neg (show ¬ (6 : Int32) ≤ nI R from nI_ge (b := 6) (by omega) (by omega)), if_neg (fun z => hin.mp z c), fX6_isFree]
      have hbit := bit_0 ro (i := cN P (i - 1)) (by omega)
      have hhas := has2 sh (S := S) (by omega) (nI (cN P (i - 1))) 4 0 (by omega) (by omega)
      have key : (bt ro (cN P (i - 1)) = false ∧ fX1_hasShip_2 sh (nI S) (nI (cN P (i - 1))) 4 0 = (0 : Int32)) ↔ ¬ fX6_isFree_5 pg (nI E) (nI i) 42 (1 : Int32) 9 = (0 : Int32) := by
        rw [hfree, hhas]
        have hb : bt ro (cN P (i - 1)) = false ↔ ∀ r, 0 ≤ r → r < R → ¬ cN P (E + 1 + 3 * r) = cN P (i - 1) := by
          have := hro.2 (cN P (i - 1)) (by omega)
          constructor
          · intro z r _ hr e
            rw [this.mpr ⟨r, hr, e⟩] at z; cases z
          · intro z
            cases e : bt ro (cN P (i - 1))
            · rfl
            · obtain ⟨r, hr, e2⟩ := this.mp e
              exact absurd e2 (z r (Nat.zero_le _) hr)
        rw [hb]
        have hs2 : (∀ q, 0 ≤ q → q < S → ¬ sh q = nI (cN P (i - 1))) ↔ ∀ r, 0 ≤ r → r < S → ¬ cN P (9 + 3 * r) = cN P (i - 1) := by
          constructor
          · intro z q a b e
            exact z q a b (by rw [(hsh q b).2, e])
          · intro z q a b e
            rw [(hsh q b).2] at e
            have := cN_lt (hsh q b).1
            exact z q a b ((nI_eq (by omega) (by omega)).mp e)
        rw [hs2]
        exact ⟨fun z => ⟨⟨n1, z.1⟩, z.2⟩, fun z => ⟨z.1.2, z.2⟩⟩
      by_cases b1 : bt ro (cN P (i - 1)) = false
      · rw [if_pos (hbit.mpr b1), fX1_hasShip]
        by_cases b2 : fX1_hasShip_2 sh (nI S) (nI (cN P (i - 1))) 4 0 = (0 : Int32)
        · rw [if_pos b2, if_neg (key.mp ⟨b1, b2⟩), nI_1]
          refine ⟨1, 1, kd, il, sh, S, ro ||| ((1 : Int64) <<< ((nI (cN P (i - 1))).toInt64 &&& 63)), R + 1, 1, row, 1, E, rfl, rfl, Iff.rfl, hl.1, fun _ => ⟨hl1, Or.inr (Or.inr ⟨h11, h17, h3, by omega, by omega, rfl, eS, hsh, by omega, ⟨fun q2 hq => ?_, fun t ht => ?_⟩, by rw [if_pos (by omega)], fun z => by omega⟩)⟩⟩
          · by_cases e : q2 = R
            · rw [e, ← ei]; exact hD
            · exact hro.1 q2 (by omega)
          · rw [bt_or, Bool.or_eq_true, hro.2 t ht, bt_one _ (by omega) t ht, decide_eq_true_eq]
            constructor
            · rintro (⟨q2, a, b⟩ | a)
              · exact ⟨q2, by omega, b⟩
              · exact ⟨R, by omega, by rw [← ei]; exact a⟩
            · rintro ⟨q2, a, b⟩
              by_cases e : q2 = R
              · rw [e, ← ei] at b; exact Or.inr b
              · exact Or.inl ⟨q2, by omega, b⟩
        · rw [if_neg b2, if_pos (Decidable.not_not.mp fun z => b2 (key.mpr z).2)]
          exact ⟨0, 0, kd, il, sh, S, ro, R, 1, row, wh, E, rfl, rfl, Iff.rfl, hl.1, fun z => absurd rfl z⟩
      · rw [if_neg (fun z => b1 (hbit.mp z)), if_pos (Decidable.not_not.mp fun z => b1 (key.mpr z).1)]
        exact ⟨0, 0, kd, il, sh, S, ro, R, 1, row, wh, E, rfl, rfl, Iff.rfl, hl.1, fun z => absurd rfl z⟩
    · rw [if_pos (hsd.mpr c), if_pos (hin.mpr c)]
      exact ⟨0, 0, kd, il, sh, S, ro, R, 1, row, wh, E, rfl, rfl, Iff.rfl, hl.1, fun z => absurd rfl z⟩
  · rw [if_neg (by omega), if_neg (by omega), q, if_neg (show ¬ nI 2 = (0 : Int32) by decide), if_neg (show ¬ nI 2 = (1 : Int32) by decide), fX1_takesMark, if_neg n1, if_neg n1]
    by_cases c2 : nI (P i) = (44 : Int32)
    · rw [if_pos c2, if_pos c2]
      by_cases c3 : i = E + 18
      · rw [if_pos (show (6 : Int32) ≤ nI R from nI_le (a := 6) (by omega) (by omega)), if_pos (show (17 : Int32) ≤ nI (i - E - 1) from nI_le (a := 17) (by omega) (by omega))]
        exact ⟨0, 0, kd, il, sh, S, ro, R, 1, row, 0, E, rfl, rfl, Iff.rfl, hl.1, fun z => absurd rfl z⟩
      · rw [if_neg (show ¬ (6 : Int32) ≤ nI R from nI_ge (b := 6) (by omega) (by omega)), if_neg (show ¬ (17 : Int32) ≤ nI (i - E - 1) from nI_ge (b := 17) (by omega) (by omega))]
        exact ⟨1, 1, kd, il, sh, S, ro, R, 1, row, 0, E, rfl, rfl, Iff.rfl, hl.1, fun _ => ⟨hl1, Or.inr (Or.inr ⟨h11, h17, h3, by omega, by omega, rfl, eS, hsh, by omega, hro, by rw [if_neg (by omega)], fun z => by omega⟩)⟩⟩
    · rw [if_neg c2, if_neg c2]
      by_cases c : nI (P i) = (59 : Int32)
      · rw [if_pos c]
        exact ⟨0, 0, kd, il, sh, S, ro, R, 1, row, 0, E, rfl, rfl, Iff.rfl, hl.1, fun z => absurd rfl z⟩
      · rw [if_neg c]
        exact ⟨0, 0, kd, il, sh, S, ro, R, 1, row, 0, E, rfl, rfl, Iff.rfl, hl.1, fun z => absurd rfl z⟩
theorem stp_all {P : Nat → Nat} {pg : Nat → Int32} (hP : ∀ j, P j < 127) (hpg : ∀ j, pg j = nI (P j)) {i : Nat} {kd il sh : Nat → Int32} {S : Nat} {ro : Int64} {R : Nat} {am row wh : Int32} {E : Nat} (h : Jn P i kd il sh S ro R am row wh E) : stp P i (fX1_takes kd il sh (nI S) ro (nI R) am row wh (nI i) (nI (P i))) (fX6_isGood pg (nI E) (nI i)) := by
  rcases (show (i < 8 ∧ i % 2 = 0) ∨ (i < 8 ∧ i % 2 = 1) ∨ i = 8 ∨ 9 ≤ i by omega) with ⟨a, b⟩ | ⟨a, b⟩ | a | a
  · exact stp_kind hP hpg h a b
  · exact stp_ill hP hpg h a b
  · subst a; exact stp_semi hP hpg h
  · rcases j12 h a with q | q
    · exact stp_ship hP hpg h.1 q
    · exact stp_rock hP hpg h.1 q
