/-! sailing and seeing -/
theorem enc_upd {ms : Nat → Int32} {sd s : Int32} (c2 : isB (ms 0) ∧ isB (ms 1) ∧ isB (ms 2)) (c3 : sd = ms 0 + (2 : Int32) * ms 1 + (4 : Int32) * ms 2) (h0 : 0 ≤ s.toInt) (h3 : s.toInt < 3) (hz : ms s.toNatClampNeg = (0 : Int32)) : (isB (upd ms s.toNatClampNeg (1 : Int32) 0) ∧ isB (upd ms s.toNatClampNeg (1 : Int32) 1) ∧ isB (upd ms s.toNatClampNeg (1 : Int32) 2)) ∧ (sd ||| ((1 : Int32) <<< (s &&& 31))) = upd ms s.toNatClampNeg (1 : Int32) 0 + (2 : Int32) * upd ms s.toNatClampNeg (1 : Int32) 1 + (4 : Int32) * upd ms s.toNatClampNeg (1 : Int32) 2 := by
  have hs : s = 0 ∨ s = 1 ∨ s = 2 := by
    rcases (show s.toInt = 0 ∨ s.toInt = 1 ∨ s.toInt = 2 by omega) with h | h | h
    · exact Or.inl (Int32.toInt_inj.mp h)
    · exact Or.inr (Or.inl (Int32.toInt_inj.mp h))
    · exact Or.inr (Or.inr (Int32.toInt_inj.mp h))
  obtain ⟨b0, b1, b2⟩ := c2
  rcases hs with rfl | rfl | rfl
  · rw [show (0 : Int32).toNatClampNeg = 0 from rfl] at hz ⊢
    rw [pk_us, pk_un (by decide), pk_un (by decide), c3, hz]
    refine ⟨⟨nb_1, b1, b2⟩, ?_⟩
    rcases b1 with q1 | q1 <;> rcases b2 with q2 | q2 <;> rw [q1, q2] <;> decide
  · rw [show (1 : Int32).toNatClampNeg = 1 from rfl] at hz ⊢
    rw [pk_us, pk_un (by decide), pk_un (by decide), c3, hz]
    refine ⟨⟨b0, nb_1, b2⟩, ?_⟩
    rcases b0 with q1 | q1 <;> rcases b2 with q2 | q2 <;> rw [q1, q2] <;> decide
  · rw [show (2 : Int32).toNatClampNeg = 2 from rfl] at hz ⊢
    rw [pk_us, pk_un (by decide), pk_un (by decide), c3, hz]
    refine ⟨⟨b0, b1, nb_1⟩, ?_⟩
    rcases b0 with q1 | q1 <;> rcases b1 with q2 | q2 <;> rw [q1, q2] <;> decide
def sailOK (ns : Int32) (X : Int32 × (Nat → Int32) × Int32 × Int32) (Y : Int32 × (Nat → Int32) × (Nat → Int32) × Int32) : Prop := X.1 = Y.1 ∧ (∀ q : Nat, (q : Int) < ns.toInt → X.2.1 q = Y.2.1 q ∧ 0 ≤ (Y.2.1 q).toInt ∧ (Y.2.1 q).toInt < 36) ∧ (isB (Y.2.2.1 0) ∧ isB (Y.2.2.1 1) ∧ isB (Y.2.2.1 2)) ∧ X.2.2.1 = Y.2.2.1 0 + (2 : Int32) * Y.2.2.1 1 + (4 : Int32) * Y.2.2.1 2 ∧ X.2.2.2 = Y.2.2.2 ∧ (0 ≤ (Y.2.2.2).toInt ∧ (Y.2.2.2).toInt ≤ 999)
theorem sail_eq (rb : Int64) (k il ce mc ms : Nat → Int32) (ns sd td hi ts x1 x2 : Int32) (h0 : 0 ≤ ns.toInt) (h3 : ns.toInt ≤ 3) (c1 : ∀ q : Nat, (q : Int) < ns.toInt → ce q = mc q ∧ 0 ≤ (mc q).toInt ∧ (mc q).toInt < 36) (c2 : isB (ms 0) ∧ isB (ms 1) ∧ isB (ms 2)) (c3 : sd = ms 0 + (2 : Int32) * ms 1 + (4 : Int32) * ms 2) (c6 : 0 ≤ ts.toInt ∧ ts.toInt ≤ 999) : sailOK ns (fX5_sail (if ns = (0 : Int32) then (0 : Int32) else (1 : Int32)) rb ns k il ce sd td hi ts x1 x2) (fX6_sail ns rb td hi ts k il mc ms x1 x2) := by
  rw [fX5_sail, fX6_sail]
  by_cases h : okS ns x1
  · rw [if_neg (mt (ns5 ns x1).mp (fun q => q h)), if_neg (mt (ns6 ns x1 h0).mp (fun q => q h)), two_if x2 (a := 0) (b := 4) (by decide) (by decide)]
    by_cases hb : 0 ≤ x2.toInt ∧ x2.toInt ≤ 4
    · obtain ⟨A, g1, g2, g3, g4⟩ := ground h h3 c1 c2 c3
      obtain ⟨b, _, eb, eb2⟩ := ge_nI hb.1
      have hb5 : b < 5 := by omega
      rw [if_pos hb, if_neg (mt (in6 x2 (a := 0) (b := 4) (by decide) (by decide)).mp (fun q => q hb)), mayBits_eq rb k il ce mc sd td hi x1 ms g1 g2 g3 g4]
      subst eb
      have hm := may_bit rb td hi k il mc ms x1 hb5
      by_cases q : ((fX6_maySail rb td hi k il mc ms x1 >>> (nI b &&& (31 : Int32))) &&& (1 : Int32)) = (0 : Int32)
      · rw [if_pos q, if_pos q]
        exact ⟨rfl, c1, c2, c3, rfl, c6⟩
      · rw [if_neg q, if_neg q]
        obtain ⟨m1, m2, m3⟩ := Decidable.not_not.mp (mt hm.mpr q)
        have z : (999 : Int32).toInt = 999 := by decide
        by_cases ht : ts = (999 : Int32)
        · rw [if_neg (show ¬ ts < (999 : Int32) from fun w => by rw [ht] at w; exact absurd w (by decide)), if_pos ht]
          exact ⟨rfl, c1, c2, c3, rfl, c6⟩
        · have ht2 := mt Int32.toInt_inj.mp ht
          rw [if_pos (show ts < (999 : Int32) from Int32.lt_iff_toInt_lt.mpr (by omega)), if_neg ht]
          obtain ⟨u1, u2⟩ := enc_upd c2 c3 h.1 (by have := h.2; omega) m1
          have e : fX0_landing rb (ce x1.toNatClampNeg) (nI b) = fX6_leads rb (mc x1.toNatClampNeg) (nI b) := by rw [g2, g4, landing_eq rb g3 hb5]
          rw [e]
          have hl : 0 ≤ (fX6_leads rb (mc x1.toNatClampNeg) (nI b)).toInt ∧ (fX6_leads rb (mc x1.toNatClampNeg) (nI b)).toInt < 36 := by
            rw [g2, g4] at m3 ⊢
            cases e3 : ld rb A b with
            | none => exact absurd ((leads_none g3 hb5).mpr e3) m3
            | some t =>
              have := ld_lt g3 hb5 e3
              rw [leads_some g3 hb5 e3, nI_toInt (by omega)]
              omega
          generalize fX6_leads rb (mc x1.toNatClampNeg) (nI b) = v at hl ⊢
          refine ⟨?_, fun p hp => ?_, u1, u2, rfl, ?_⟩
          · show upd ce x1.toNatClampNeg v x1.toNatClampNeg = upd mc x1.toNatClampNeg v x1.toNatClampNeg
            rw [pk_us, pk_us]
          · show upd ce x1.toNatClampNeg v p = upd mc x1.toNatClampNeg v p ∧ 0 ≤ (upd mc x1.toNatClampNeg v p).toInt ∧ (upd mc x1.toNatClampNeg v p).toInt < 36
            by_cases e2 : p = x1.toNatClampNeg
            · rw [e2, pk_us, pk_us]; exact ⟨rfl, hl⟩
            · rw [pk_un e2, pk_un e2]; exact c1 p hp
          · show 0 ≤ (ts + (1 : Int32)).toInt ∧ (ts + (1 : Int32)).toInt ≤ 999
            rw [add1_toInt (by omega)]; omega
    · rw [if_neg hb, if_pos ((in6 x2 (a := 0) (b := 4) (by decide) (by decide)).mpr hb)]
      exact ⟨rfl, c1, c2, c3, rfl, c6⟩
  · rw [if_pos ((ns5 ns x1).mpr h), if_pos ((ns6 ns x1 h0).mpr h)]
    exact ⟨rfl, c1, c2, c3, rfl, c6⟩
def seeOK (X : Int32 × Int32 × (Nat → Int32) × (Nat → Int32) × (Nat → Int32)) (Y : Int32 × Int32 × (Nat → Int32)) : Prop := X.1 = Y.1 ∧ X.2.1 = Y.2.1 ∧ (0 ≤ (Y.2.1).toInt ∧ (Y.2.1).toInt ≤ 6) ∧ sgOK X.2.2.1 X.2.2.2.1 X.2.2.2.2 Y.2.2
theorem see_upd {sl sy su sg : Nat → Int32} (hs : sgOK sl sy su sg) {N : Nat} (hN : N < 6) {a d u : Int32} (hu : isB u) (hd : 0 ≤ d.toInt ∧ d.toInt ≤ 20) : sgOK (upd sl N a) (upd sy N d) (upd su N u) (upd (upd (upd sg (3 * N) a) (3 * N + 1) d) (3 * N + 2) u) := by
  intro q hq
  by_cases e : q = N
  · subst e
    rw [pk_us, pk_us, pk_us, pk_us, pk_un (show 3 * q ≠ 3 * q + 2 by omega), pk_un (show 3 * q ≠ 3 * q + 1 by omega), pk_us, pk_un (show 3 * q + 1 ≠ 3 * q + 2 by omega), pk_us]
    exact ⟨rfl, rfl, rfl, hu, hd.1, hd.2⟩
  · rw [pk_un e, pk_un e, pk_un e, pk_un (show 3 * q ≠ 3 * N + 2 by omega), pk_un (show 3 * q ≠ 3 * N + 1 by omega), pk_un (show 3 * q ≠ 3 * N by omega), pk_un (show 3 * q + 1 ≠ 3 * N + 2 by omega), pk_un (show 3 * q + 1 ≠ 3 * N + 1 by omega), pk_un (show 3 * q + 1 ≠ 3 * N by omega), pk_un (show 3 * q + 2 ≠ 3 * N + 2 by omega), pk_un (show 3 * q + 2 ≠ 3 * N + 1 by omega), pk_un (show 3 * q + 2 ≠ 3 * N by omega)]
    exact hs q hq
theorem see_eq (sl sy su sg : Nat → Int32) (ns seen x1 x2 x3 : Int32) (hx3 : isB x3) (h6 : 0 ≤ seen.toInt ∧ seen.toInt ≤ 6) (hs : sgOK sl sy su sg) : seeOK (fX5_see (if ns = (0 : Int32) then (0 : Int32) else (1 : Int32)) seen sl sy su x1 x2 x3) (fX6_see ns seen sg x1 x2 x3) := by
  rw [fX5_see, fX6_see]
  by_cases h : okL ns x1
  · rw [if_neg (mt (nl5 ns x1).mp (fun q => q h)), if_neg (mt (nl6 ns x1).mp (fun q => q h)), two_if x2 (a := 0) (b := 20) (by decide) (by decide)]
    by_cases hd : 0 ≤ x2.toInt ∧ x2.toInt ≤ 20
    · rw [if_pos hd, if_neg (mt (in6 x2 (a := 0) (b := 20) (by decide) (by decide)).mp (fun q => q hd)), fX2_keepSeen]
      have z : (6 : Int32).toInt = 6 := by decide
      by_cases ht : seen = (6 : Int32)
      · rw [if_neg (show ¬ seen < (6 : Int32) from fun w => by rw [ht] at w; exact absurd w (by decide)), if_pos rfl, if_pos ht]
        exact ⟨rfl, rfl, h6, hs⟩
      · have ht2 := mt Int32.toInt_inj.mp ht
        obtain ⟨N, _, eN, eN2⟩ := ge_nI h6.1
        have hN : N < 6 := by omega
        have m0 : ((3 : Int32) * nI N).toNatClampNeg = 3 * N := by
          show (nI 3 * nI N).toNatClampNeg = _
          rw [pk_mul, nI_clamp (by omega)]
        have m1 : ((3 : Int32) * nI N + (1 : Int32)).toNatClampNeg = 3 * N + 1 := by
          show (nI 3 * nI N + nI 1).toNatClampNeg = _
          rw [pk_mul, nI_add, nI_clamp (by omega)]
        have m2 : ((3 : Int32) * nI N + (2 : Int32)).toNatClampNeg = 3 * N + 2 := by
          show (nI 3 * nI N + nI 2).toNatClampNeg = _
          rw [pk_mul, nI_add, nI_clamp (by omega)]
        have m3 : (nI N).toNatClampNeg = N := nI_clamp (by omega)
        rw [if_pos (show seen < (6 : Int32) from Int32.lt_iff_toInt_lt.mpr (by omega)), if_neg (show ¬ (1 : Int32) = (0 : Int32) by decide), if_neg ht]
        subst eN
        rw [m0, m1, m2, asBit_B hx3, m3]
        have hb : 0 ≤ (nI N + (1 : Int32)).toInt ∧ (nI N + (1 : Int32)).toInt ≤ 6 := by
          rw [add1_toInt (by omega)]; omega
        have fin := see_upd hs hN (a := x1) hx3 hd
        rcases hx3 with q | q
        · rw [if_pos q]
          rw [q] at fin ⊢
          exact ⟨rfl, rfl, hb, fin⟩
        · rw [if_neg (show ¬ x3 = (0 : Int32) by rw [q]; decide)]
          rw [q] at fin ⊢
          exact ⟨rfl, rfl, hb, fin⟩
    · rw [if_neg hd, if_pos ((in6 x2 (a := 0) (b := 20) (by decide) (by decide)).mpr hd)]
      exact ⟨rfl, rfl, h6, hs⟩
  · rw [if_pos ((nl5 ns x1).mpr h), if_pos ((nl6 ns x1).mpr h)]
    exact ⟨rfl, rfl, h6, hs⟩
