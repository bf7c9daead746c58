/-! drifts -/
theorem may4_bi (rb : Int64) (td hi : Int32) (k il mc sa : Nat → Int32) (s : Int32) : ∀ (n : Nat) (x : Int32) (i : Nat), i ≤ 5 → 5 - i < n → ∀ t, t < 32 → (bi (fX6_maySail_4 rb td hi k il mc sa s n x i) t = true ↔ bi x t = true ∨ ∃ j, i ≤ j ∧ j < 5 ∧ (j = t ∧ sa s.toNatClampNeg = (0 : Int32) ∧ ¬ fX6_isUp hi k il (nI j) td = (0 : Int32) ∧ ¬ fX6_leads rb (mc s.toNatClampNeg) (nI j) = (-1 : Int32))) := by
  intro n
  induction n with
  | zero => intro x i _ h; exact absurd h (Nat.not_lt_zero _)
  | succ n ih =>
    intro x i hi5 hn t ht
    rw [fX6_maySail_4, Int32.or_zero]
    by_cases h4 : (5 : Int32) ≤ nI i
    · have h5 : 5 ≤ i := (nI_leI (a := 5) (by decide) (by omega)).mp h4
      rw [if_pos h4, ex_end (by omega)]
    · have h5 : i < 5 := Nat.not_le.mp fun q => h4 (nI_le (a := 5) q (by omega))
      have skip : ¬ (i = t ∧ sa s.toNatClampNeg = (0 : Int32) ∧ ¬ fX6_isUp hi k il (nI i) td = (0 : Int32) ∧ ¬ fX6_leads rb (mc s.toNatClampNeg) (nI i) = (-1 : Int32)) → (bi (fX6_maySail_4 rb td hi k il mc sa s n x (i + 1)) t = true ↔ ((bi x t = true ∨ (i = t ∧ sa s.toNatClampNeg = (0 : Int32) ∧ ¬ fX6_isUp hi k il (nI i) td = (0 : Int32) ∧ ¬ fX6_leads rb (mc s.toNatClampNeg) (nI i) = (-1 : Int32))) ∨ ∃ j, i + 1 ≤ j ∧ j < 5 ∧ (j = t ∧ sa s.toNatClampNeg = (0 : Int32) ∧ ¬ fX6_isUp hi k il (nI j) td = (0 : Int32) ∧ ¬ fX6_leads rb (mc s.toNatClampNeg) (nI j) = (-1 : Int32)))) := by
        intro no
        rw [ih x (i + 1) (by omega) (by omega) t ht]
        simp only [no, or_false]
      rw [if_neg h4, ex_step (by omega)]
      by_cases hs : sa s.toNatClampNeg = (0 : Int32)
      · rw [if_pos hs]
        by_cases hu : fX6_isUp hi k il (nI i) td = (0 : Int32)
        · rw [if_pos hu]; exact skip (fun z => z.2.2.1 hu)
        · rw [if_neg hu]
          by_cases hl : fX6_leads rb (mc s.toNatClampNeg) (nI i) = (-1 : Int32)
          · rw [if_pos hl]; exact skip (fun z => z.2.2.2 hl)
          · rw [if_neg hl, ih _ (i + 1) (by omega) (by omega) t ht, bi_or, Bool.or_eq_true, bi_one i (by omega) t ht, decide_eq_true_eq]
            have : (i = t ∧ sa s.toNatClampNeg = (0 : Int32) ∧ ¬ fX6_isUp hi k il (nI i) td = (0 : Int32) ∧ ¬ fX6_leads rb (mc s.toNatClampNeg) (nI i) = (-1 : Int32)) ↔ i = t := ⟨fun z => z.1, fun z => ⟨z, hs, hu, hl⟩⟩
            rw [this]
      · rw [if_neg hs]; exact skip (fun z => hs z.2.1)
theorem may_bit (rb : Int64) (td hi : Int32) (k il mc sa : Nat → Int32) (s : Int32) {b : Nat} (hb : b < 5) : ((fX6_maySail rb td hi k il mc sa s >>> (nI b &&& (31 : Int32))) &&& (1 : Int32)) = (0 : Int32) ↔ ¬ (sa s.toNatClampNeg = (0 : Int32) ∧ ¬ fX6_isUp hi k il (nI b) td = (0 : Int32) ∧ ¬ fX6_leads rb (mc s.toNatClampNeg) (nI b) = (-1 : Int32)) := by
  rw [bit32_0 _ (by omega), fX6_maySail]
  have h := may4_bi rb td hi k il mc sa s 6 0 0 (by omega) (by omega) b (by omega)
  have h2 : bi (fX6_maySail_4 rb td hi k il mc sa s 6 (0 : Int32) 0) b = true ↔ (sa s.toNatClampNeg = (0 : Int32) ∧ ¬ fX6_isUp hi k il (nI b) td = (0 : Int32) ∧ ¬ fX6_leads rb (mc s.toNatClampNeg) (nI b) = (-1 : Int32)) := by
    rw [h, bi_zero]
    constructor
    · rintro (q | ⟨j, _, _, rfl, q⟩)
      · cases q
      · exact q
    · intro q
      exact Or.inr ⟨b, Nat.zero_le _, hb, rfl, q⟩
  rw [← h2]
  cases bi (fX6_maySail_4 rb td hi k il mc sa s 6 (0 : Int32) 0) b <;> decide
/-- the cells of the ships: the same, on the sea -/
def cok (N : Nat) (ce mc : Nat → Int32) : Prop := ∀ q : Nat, q < N → ce q = mc q ∧ ∃ A, A < 36 ∧ mc q = nI A
theorem drift5 (rb : Int64) {N : Nat} (hN : N ≤ 3) (k il : Nat → Int32) (d hi : Int32) (I : Nat) : ∀ (n : Nat) (x y : Int32) (i : Nat) (ce mc : Nat → Int32) (sd : Int32), i ≤ 3 → 3 - i < n → cok N ce mc → (∀ q, i ≤ q → q < 32 → bi sd q = false) → (fX4_driftForADay_5 rb (nI N) k il (d + nI I) hi n x i ce sd y).1 = (fX6_drifts_72 (nI N) rb d hi k il I n y i x mc).2.2.1 ∧ (fX4_driftForADay_5 rb (nI N) k il (d + nI I) hi n x i ce sd y).2.2.2 = (fX6_drifts_72 (nI N) rb d hi k il I n y i x mc).1 ∧ cok N ((fX4_driftForADay_5 rb (nI N) k il (d + nI I) hi n x i ce sd y).2.1) ((fX6_drifts_72 (nI N) rb d hi k il I n y i x mc).2.2.2) := by
  intro n
  induction n with
  | zero => intro x y i ce mc sd _ h; exact absurd h (Nat.not_lt_zero _)
  | succ n ih =>
    intro x y i ce mc sd hi3 hn hc hs
    rw [fX4_driftForADay_5, fX6_drifts_72]
    by_cases h4 : nI N ≤ nI i
    · rw [if_pos h4, if_pos h4]
      exact ⟨rfl, rfl, hc⟩
    · have h5 : i < N := Nat.not_le.mp fun q => h4 (nI_le q (by omega))
      have hin := draw_in x
      rw [if_neg h4, if_neg h4, nI_clamp (by omega)]
      rw [draw_eq] at hin ⊢
      show (if ((fX4_mayBits rb k il ce sd (d + nI I) hi (nI i) >>> (((fX4_nextSeed x / (65536 : Int32)) - (fX4_nextSeed x / (65536 : Int32)) / (5 : Int32) * (5 : Int32)) &&& 31)) &&& (1 : Int32)) = (0 : Int32) then _ else _ : Int32 × (Nat → Int32) × Int32 × Int32).1 = _ ∧ _
      have hin2 : vp_in ((fX4_nextSeed x / (65536 : Int32)) - (fX4_nextSeed x / (65536 : Int32)) / (5 : Int32) * (5 : Int32)) 5 := hin
      generalize ((fX4_nextSeed x / (65536 : Int32)) - (fX4_nextSeed x / (65536 : Int32)) / (5 : Int32) * (5 : Int32)) = B at hin2 ⊢
      obtain ⟨b, hb, rfl⟩ : ∃ b, b < 5 ∧ B = nI b := by
        rcases pk_ix B (n := 5) (by decide) with z | z | z
        · exact absurd (Or.inl z) hin2
        · refine absurd (Or.inr ?_) hin2
          have := Int32.le_iff_toInt_le.mp z
          rw [nI_toInt (by decide)] at this
          show 5 ≤ B.toInt.toNat
          omega
        · exact z
      obtain ⟨e1, A, hA, e2⟩ := hc i h5
      have hhs : fX2_hasSailed sd (nI i) = (0 : Int32) := by
        rw [fX2_hasSailed, if_pos ((bit32_0 sd (by omega)).mpr (hs i (Nat.le_refl _) (by omega)))]
      have ci : (nI i).toNatClampNeg = i := nI_clamp (by omega)
      rw [mayBits_eq rb k il ce mc sd (d + nI I) hi (nI i) (fun _ => 0) ⟨hhs, nb_0⟩ (by rw [ci, e1]) hA (by rw [ci, e1, e2]), e1, e2, landing_eq rb hA hb]
      have hm := may_bit rb (d + nI I) hi k il mc (fun _ => 0) (nI i) hb
      rw [ci, e2] at hm
      have skip := ih (fX4_nextSeed x) y (i + 1) ce mc sd (by omega) (by omega) hc (fun q h => hs q (by omega))
      by_cases hu : fX6_isUp hi k il (nI b) (d + nI I) = (0 : Int32)
      · rw [if_pos (hm.mpr (fun z => z.2.1 hu)), if_pos hu, if_pos rfl]
        exact skip
      · rw [if_neg hu]
        by_cases hl : fX6_leads rb (nI A) (nI b) = (-1 : Int32)
        · rw [if_pos (hm.mpr (fun z => z.2.2 hl)), if_pos hl]
          exact skip
        · rw [if_neg (fun z => hm.mp z ⟨rfl, hu, hl⟩), if_neg hl]
          refine ih _ _ (i + 1) _ _ _ (by omega) (by omega) ?_ ?_
          · intro q hq
            by_cases e : q = i
            · subst e
              rw [pk_us, pk_us]
              cases e3 : ld rb A b with
              | none => exact absurd ((leads_none hA hb).mpr e3) hl
              | some t => exact ⟨rfl, t, ld_lt hA hb e3, leads_some hA hb e3⟩
            · rw [pk_un e, pk_un e]; exact hc q hq
          · intro q h1 h2
            rw [bi_or, hs q (by omega) h2, bi_one i (by omega) q h2, decide_eq_false (by omega)]; rfl
theorem drift63 (rb : Int64) {N : Nat} (hN : N ≤ 3) (h1 : 1 ≤ N) (k il : Nat → Int32) (d hi days what : Int32) : ∀ (n : Nat) (x y : Int32) (i : Nat) (ce mc : Nat → Int32), cok N ce mc → fX5_drifts_73 rb (nI N) k il hi days what n x i ce (0 : Int32) (d + nI i) y = fX6_drifts_63 (nI N) rb d hi k il days what n y i x mc := by
  intro n
  induction n with
  | zero => intro x y i ce mc _; rfl
  | succ n ih =>
    intro x y i ce mc hc
    rw [fX5_drifts_73, fX6_drifts_63]
    by_cases h4 : days ≤ nI i
    · rw [if_pos h4, if_pos h4, show (0 : Int32).toNatClampNeg = 0 from rfl, (hc 0 (by omega)).1]
    · obtain ⟨e1, e2, e3⟩ := drift5 rb hN k il d hi i 4 x y 0 ce mc 0 (by omega) (by omega) hc (fun q _ _ => bi_zero q)
      rw [if_neg h4, if_neg h4, fX4_driftForADay, e1, e2, ← nI_succ2]
      exact ih _ _ (i + 1) _ _ e3
theorem drifts_eq (rb : Int64) {N : Nat} (hN : N ≤ 3) (k il ce mc : Nat → Int32) (d hi days seed what : Int32) (hc : cok N ce mc) : fX5_drifts (if nI N = (0 : Int32) then (0 : Int32) else (1 : Int32)) rb (nI N) k il ce d hi days seed what = fX6_drifts (nI N) rb d hi k il mc days seed what := by
  rw [fX5_drifts, fX6_drifts]
  have core : (if seed < (0 : Int32) then (-102 : Int32) else (if what < (0 : Int32) then (-102 : Int32) else (if what ≤ (2 : Int32) then (if (if nI N = (0 : Int32) then (0 : Int32) else (1 : Int32)) = (0 : Int32) then (-103 : Int32) else (fX5_drifts_73 rb (nI N) k il hi days what 61 seed (0) ce (0 : Int32) d (0 : Int32))) else (-102 : Int32)))) = (if seed < (0 : Int32) then (-102 : Int32) else (if (fX6_in what.toInt64 (0 : Int64) (2 : Int64)) = (0 : Int32) then (-102 : Int32) else (if (fX6_lacks (nI N)) = (0 : Int32) then (fX6_drifts_63 (nI N) rb d hi k il days what 61 (0 : Int32) (0) seed mc) else (-103 : Int32)))) := by
    by_cases h2 : seed < (0 : Int32)
    · rw [if_pos h2, if_pos h2]
    · rw [if_neg h2, if_neg h2, two_if what (a := 0) (b := 2) (by decide) (by decide)]
      by_cases h3 : 0 ≤ what.toInt ∧ what.toInt ≤ 2
      · rw [if_pos h3, if_neg (mt (in6 what (a := 0) (b := 2) (by decide) (by decide)).mp (fun q => q h3))]
        by_cases h0 : nI N = (0 : Int32)
        · rw [if_pos ((dn_0 _).mpr h0), if_neg (mt (lk6 _).mp (fun q => q h0))]
        · rw [if_neg (mt (dn_0 _).mp h0), if_pos ((lk6 _).mpr h0)]
          have h1 : 1 ≤ N := by
            rcases (show N = 0 ∨ 1 ≤ N by omega) with z | z
            · rw [z] at h0; exact absurd rfl h0
            · exact z
          have := drift63 rb hN h1 k il d hi days what 61 seed 0 0 ce mc hc
          rw [show d + nI 0 = d from Int32.add_zero d] at this
          exact this
      · rw [if_neg h3, if_pos ((in6 what (a := 0) (b := 2) (by decide) (by decide)).mpr h3)]
  have e60 : (60 : Int32).toInt = 60 := by decide
  have e1 : (1 : Int32).toInt = 1 := by decide
  by_cases h1 : 1 ≤ days.toInt ∧ days.toInt ≤ 60
  · rw [if_neg (show ¬ days < (1 : Int32) from fun z => by have := Int32.lt_iff_toInt_lt.mp z; omega), if_neg (show ¬ (60 : Int32) < days from fun z => by have := Int32.lt_iff_toInt_lt.mp z; omega), if_neg (mt (in6 days (a := 1) (b := 60) (by decide) (by decide)).mp (fun q => q h1))]
    exact core
  · rw [if_pos ((in6 days (a := 1) (b := 60) (by decide) (by decide)).mpr h1)]
    by_cases h2 : days < (1 : Int32)
    · rw [if_pos h2]
    · have a := mt Int32.lt_iff_toInt_lt.mpr h2
      rw [if_neg h2, if_pos (show (60 : Int32) < days from Int32.lt_iff_toInt_lt.mpr (by omega))]
