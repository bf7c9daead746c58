/-! the calls that only tell -/
theorem ground {ns s sd : Int32} {ce mc ms : Nat → Int32} (hs : okS ns s) (h3 : ns.toInt ≤ 3) (c1 : ∀ q : Nat, (q : Int) < ns.toInt → ce q = mc q ∧ 0 ≤ (mc q).toInt ∧ (mc q).toInt < 36) (c2 : isB (ms 0) ∧ isB (ms 1) ∧ isB (ms 2)) (c3 : sd = ms 0 + (2 : Int32) * ms 1 + (4 : Int32) * ms 2) : ∃ A, grd ce mc sd s ms A := by
  unfold okS at hs
  obtain ⟨e1, e2, e3⟩ := c1 s.toNatClampNeg (by rw [clampN]; omega)
  refine ⟨(mc s.toNatClampNeg).toInt.toNat, hs_enc c2 c3 hs.1 (by omega), e1.symm, by omega, ?_⟩
  rw [e1]; exact nI_of_ge e2
theorem okC_n {ns c : Int32} (h : okC ns c) : ∃ C, C < 36 ∧ c = nI C := by
  unfold okC at h
  exact ⟨c.toInt.toNat, by omega, nI_of_ge h.2.1⟩
theorem okL_4 {ns k : Int32} (h : okL ns k) : ¬ k = (4 : Int32) := by
  intro z
  have h2 := h.2
  rw [z, show (4 : Int32).toInt = 4 by decide] at h2
  omega
def sgOK (sl sy su sg : Nat → Int32) : Prop := ∀ q : Nat, q < 6 → sl q = sg (3 * q) ∧ sy q = sg (3 * q + 1) ∧ su q = sg (3 * q + 2) ∧ isB (sg (3 * q + 2)) ∧ 0 ≤ (sg (3 * q + 1)).toInt ∧ (sg (3 * q + 1)).toInt ≤ 20
theorem lodger_tell (k il sl sy su sg : Nat → Int32) (ns td hi seen x1 x2 : Int32) (hil : ∀ q : Nat, q < 4 → 0 ≤ (il q).toInt ∧ (il q).toInt ≤ 1100) (hd : 0 ≤ td.toInt ∧ td.toInt ≤ 999) (h6 : 0 ≤ seen.toInt ∧ seen.toInt ≤ 6) (hs : sgOK sl sy su sg) (h : okL ns x1) : fX5_lodger (if ns = (0 : Int32) then (0 : Int32) else (1 : Int32)) k il td seen sl sy su x1 x2 = fX6_tellLodger td hi k il seen sg x1 x2 := by
  obtain ⟨N, _, eN, eN2⟩ := ge_nI h6.1
  have hN : N ≤ 6 := by omega
  subst eN
  rw [fX5_lodger, if_neg (mt (nl5 ns x1).mp (fun q => q h)), fX6_tellLodger, illFor_eq il td x1 (hil _ (okL_lt h)) hd, isUp_eq hi k il (okL_4 h), kinds_eq il td sl sy su sg x1 hN hs, lookOf_eq il td sl sy su sg x1 hN hs, fX2_daysUp, fX6_upDays, daysUp_eq k il td hi (okL_4 h), fX5_asBit]
theorem lodger_eq (k il sl sy su sg : Nat → Int32) (ns td hi seen x1 x2 : Int32) (hil : ∀ q : Nat, q < 4 → 0 ≤ (il q).toInt ∧ (il q).toInt ≤ 1100) (hd : 0 ≤ td.toInt ∧ td.toInt ≤ 999) (h6 : 0 ≤ seen.toInt ∧ seen.toInt ≤ 6) (hs : sgOK sl sy su sg) : fX5_lodger (if ns = (0 : Int32) then (0 : Int32) else (1 : Int32)) k il td seen sl sy su x1 x2 = fX6_lodger ns td hi k il seen sg x1 x2 := by
  by_cases h : okL ns x1
  · rw [lodger_tell k il sl sy su sg ns td hi seen x1 x2 hil hd h6 hs h, fX6_lodger, if_neg (mt (nl6 ns x1).mp (fun q => q h))]
  · rw [fX5_lodger, if_pos ((nl5 ns x1).mpr h), fX6_lodger, if_pos ((nl6 ns x1).mpr h)]
theorem ship_tell (rb : Int64) (k il ce mc ms : Nat → Int32) (ns sd td hi x1 x2 : Int32) {A : Nat} (g : grd ce mc sd x1 ms A) (h : okS ns x1) : fX5_ship (if ns = (0 : Int32) then (0 : Int32) else (1 : Int32)) rb ns k il ce sd td hi x1 x2 = fX6_tellShip rb td hi k il mc ms x1 x2 := by
  obtain ⟨g1, g2, g3, g4⟩ := g
  rw [fX5_ship, if_neg (mt (ns5 ns x1).mp (fun q => q h)), fX6_tellShip, g2, mayBits_eq rb k il ce mc sd td hi x1 ms g1 g2 g3 g4, g1.1, asBit_B g1.2]
theorem ship_eq (rb : Int64) (k il ce mc ms : Nat → Int32) (ns sd td hi x1 x2 : Int32) (h0 : 0 ≤ ns.toInt) (h3 : ns.toInt ≤ 3) (c1 : ∀ q : Nat, (q : Int) < ns.toInt → ce q = mc q ∧ 0 ≤ (mc q).toInt ∧ (mc q).toInt < 36) (c2 : isB (ms 0) ∧ isB (ms 1) ∧ isB (ms 2)) (c3 : sd = ms 0 + (2 : Int32) * ms 1 + (4 : Int32) * ms 2) : fX5_ship (if ns = (0 : Int32) then (0 : Int32) else (1 : Int32)) rb ns k il ce sd td hi x1 x2 = fX6_ship ns rb td hi k il mc ms x1 x2 := by
  by_cases h : okS ns x1
  · obtain ⟨A, g⟩ := ground h h3 c1 c2 c3
    rw [ship_tell rb k il ce mc ms ns sd td hi x1 x2 g h, fX6_ship, if_neg (mt (ns6 ns x1 h0).mp (fun q => q h))]
  · rw [fX5_ship, if_pos ((ns5 ns x1).mpr h), fX6_ship, if_pos ((ns6 ns x1 h0).mpr h)]
theorem rock_bit (rb : Int64) {C : Nat} (hC : C < 64) : fX5_asBit (fX0_hasRock rb (nI C)) = ((rb >>> ((nI C).toInt64 &&& 63)) &&& (1 : Int64)).toInt32 ∧ (fX5_asBit (fX0_hasRock rb (nI C))).toInt64 = ((rb >>> ((nI C).toInt64 &&& 63)) &&& (1 : Int64)) := by
  rw [fX0_hasRock]
  by_cases q : ((rb >>> ((nI C).toInt64 &&& 63)) &&& (1 : Int64)) = (0 : Int64)
  · rw [if_pos q, q]; decide
  · have b : bt rb C = true := by
      cases e : bt rb C
      · exact absurd ((bit_0 rb hC).mpr e) q
      · rfl
    rw [if_neg q, (bit_1 rb hC).mpr b]; decide
theorem cell_eq (rb : Int64) (ce mc : Nat → Int32) (ns x1 x2 : Int32) (h0 : 0 ≤ ns.toInt) (h3 : ns.toInt ≤ 3) (c1 : ∀ q : Nat, (q : Int) < ns.toInt → ce q = mc q ∧ 0 ≤ (mc q).toInt ∧ (mc q).toInt < 36) : fX5_cell (if ns = (0 : Int32) then (0 : Int32) else (1 : Int32)) rb ns ce x1 x2 = fX6_cell ns rb mc x1 x2 := by
  rw [fX5_cell, fX6_cell]
  by_cases h : okC ns x1
  · obtain ⟨C, hC, eC⟩ := okC_n h
    rw [if_neg (mt (nc5 ns x1).mp (fun q => q h)), if_neg (mt (nc6 ns x1).mp (fun q => q h))]
    have z0 : (0 : Int32).toInt = 0 := by decide
    have z1 : (1 : Int32).toInt = 1 := by decide
    by_cases a0 : x2 = (0 : Int32)
    · rw [if_pos a0, if_neg (mt (in6 x2 (a := 0) (b := 1) (by decide) (by decide)).mp (fun q => q (by rw [a0, z0]; decide))), if_pos a0, eC, (rock_bit rb (by omega)).1]
    · rw [if_neg a0, if_neg a0]
      by_cases a1 : x2 = (1 : Int32)
      · rw [if_pos a1, if_neg (mt (in6 x2 (a := 0) (b := 1) (by decide) (by decide)).mp (fun q => q (by rw [a1, z1]; decide))), fX5_shipsIn, fX6_shipsAt]
        obtain ⟨N, _, eN, eN2⟩ := ge_nI h0
        have hN : N ≤ 3 := by omega
        rw [eN2] at c1
        rw [eN]
        exact ships_eq hN x1 (fun q hq => (c1 q (by omega)).1) 4 0 0 (by omega)
      · have n0 := mt Int32.toInt_inj.mp a0
        have n1 := mt Int32.toInt_inj.mp a1
        rw [if_neg a1, if_pos ((in6 x2 (a := 0) (b := 1) (by decide) (by decide)).mpr (fun q => by omega))]
  · rw [if_pos ((nc5 ns x1).mpr h), if_pos ((nc6 ns x1).mpr h)]
theorem can_eq (rb : Int64) (k il ce mc ms : Nat → Int32) (ns sd td hi x1 x2 x3 : Int32) (h0 : 0 ≤ ns.toInt) (h3 : ns.toInt ≤ 3) (c1 : ∀ q : Nat, (q : Int) < ns.toInt → ce q = mc q ∧ 0 ≤ (mc q).toInt ∧ (mc q).toInt < 36) (c2 : isB (ms 0) ∧ isB (ms 1) ∧ isB (ms 2)) (c3 : sd = ms 0 + (2 : Int32) * ms 1 + (4 : Int32) * ms 2) : fX5_can (if ns = (0 : Int32) then (0 : Int32) else (1 : Int32)) rb ns k il ce sd td hi x1 x2 x3 = fX6_can ns rb td hi k il mc ms x1 x2 x3 := by
  rw [fX5_can, fX6_can]
  by_cases h : okS ns x1
  · rw [if_neg (mt (ns5 ns x1).mp (fun q => q h)), if_neg (mt (ns6 ns x1 h0).mp (fun q => q h))]
    by_cases hc : okC ns x2
    · obtain ⟨C, hC, eC⟩ := okC_n hc
      rw [if_neg (mt (nc5 ns x2).mp (fun q => q hc)), if_neg (mt (nc6 ns x2).mp (fun q => q hc)), two_if x3 (a := 0) (b := 40) (by decide) (by decide)]
      by_cases hd : 0 ≤ x3.toInt ∧ x3.toInt ≤ 40
      · obtain ⟨A, g1, g2, g3, g4⟩ := ground h h3 c1 c2 c3
        rw [if_pos hd, if_neg (mt (in6 x3 (a := 0) (b := 40) (by decide) (by decide)).mp (fun q => q hd)), eC]
        obtain ⟨L, _, eL, eL2⟩ := ge_nI hd.1
        rw [eL, places_eq rb k il ce mc sd td hi x1 ms g1 g2 (by omega)]
        have := (rock_bit (fX6_reach rb td hi k il mc ms x1 (nI L)) (C := C) (by omega)).1
        rw [fX0_hasRock] at this
        rw [← this]
        by_cases q : ((fX6_reach rb td hi k il mc ms x1 (nI L) >>> ((nI C).toInt64 &&& 63)) &&& (1 : Int64)) = (0 : Int64)
        · rw [if_pos q, if_pos q]
        · rw [if_neg q, if_neg q]
      · rw [if_neg hd, if_pos ((in6 x3 (a := 0) (b := 40) (by decide) (by decide)).mpr hd)]
    · rw [if_pos ((nc5 ns x2).mpr hc), if_pos ((nc6 ns x2).mpr hc)]
  · rw [if_pos ((ns5 ns x1).mpr h), if_pos ((ns6 ns x1 h0).mpr h)]
theorem soon_tell (rb : Int64) (k il ce mc ms : Nat → Int32) (ns sd td hi x1 x3 : Int32) {A C : Nat} (g : grd ce mc sd x1 ms A) (hC : C < 36) (h : okS ns x1) (hc : okC ns (nI C)) (h17 : x3 = (0 : Int32) ∨ (10 ≤ x3.toInt ∧ x3.toInt ≤ 17)) : fX5_soon (if ns = (0 : Int32) then (0 : Int32) else (1 : Int32)) rb ns k il ce sd td hi x1 (nI C) x3 = fX6_tellSoon rb td hi k il mc ms x1 (nI C) x3 := by
  obtain ⟨g1, g2, g3, g4⟩ := g
  rw [fX5_soon, fX6_tellSoon, if_neg (mt (ns5 ns x1).mp (fun q => q h)), if_neg (mt (nc5 ns (nI C)).mp (fun q => q hc))]
  by_cases a0 : x3 = (0 : Int32)
  · rw [if_pos a0, if_pos a0]
    exact daysTo_eq rb k il ce mc sd td hi x1 ms g1 g2 g3 g4 hC
  · have h2 : 10 ≤ x3.toInt ∧ x3.toInt ≤ 17 := h17.elim (fun z => absurd z a0) id
    rw [if_neg a0, if_neg a0, two_if x3 (a := 10) (b := 17) (by decide) (by decide), if_pos h2]
    obtain ⟨T, _, eT, eT2⟩ := ge_nI (x := x3) (by omega)
    have e : x3 - (10 : Int32) = nI (T - 10) := by rw [eT]; exact pk_sub (b := 10) (by omega)
    rw [e]
    exact helm_eq rb k il ce mc sd td hi x1 ms g1 g2 g3 g4 hC (by omega)
theorem soon_eq (rb : Int64) (k il ce mc ms : Nat → Int32) (ns sd td hi x1 x2 x3 : Int32) (h0 : 0 ≤ ns.toInt) (h3 : ns.toInt ≤ 3) (c1 : ∀ q : Nat, (q : Int) < ns.toInt → ce q = mc q ∧ 0 ≤ (mc q).toInt ∧ (mc q).toInt < 36) (c2 : isB (ms 0) ∧ isB (ms 1) ∧ isB (ms 2)) (c3 : sd = ms 0 + (2 : Int32) * ms 1 + (4 : Int32) * ms 2) : fX5_soon (if ns = (0 : Int32) then (0 : Int32) else (1 : Int32)) rb ns k il ce sd td hi x1 x2 x3 = fX6_soon ns rb td hi k il mc ms x1 x2 x3 := by
  by_cases h : okS ns x1
  · by_cases hc : okC ns x2
    · obtain ⟨A, g⟩ := ground h h3 c1 c2 c3
      obtain ⟨C, hC, eC⟩ := okC_n hc
      rw [fX6_soon, if_neg (mt (ns6 ns x1 h0).mp (fun q => q h)), if_neg (mt (nc6 ns x2).mp (fun q => q hc))]
      subst eC
      by_cases a0 : x3 = (0 : Int32)
      · rw [if_pos a0]
        exact soon_tell rb k il ce mc ms ns sd td hi x1 x3 g hC h hc (Or.inl a0)
      · rw [if_neg a0]
        by_cases h2 : 10 ≤ x3.toInt ∧ x3.toInt ≤ 17
        · rw [if_neg (mt (in6 x3 (a := 10) (b := 17) (by decide) (by decide)).mp (fun q => q h2))]
          exact soon_tell rb k il ce mc ms ns sd td hi x1 x3 g hC h hc (Or.inr h2)
        · rw [if_pos ((in6 x3 (a := 10) (b := 17) (by decide) (by decide)).mpr h2), fX5_soon, if_neg (mt (ns5 ns x1).mp (fun q => q h)), if_neg (mt (nc5 ns (nI C)).mp (fun q => q hc)), if_neg a0, two_if x3 (a := 10) (b := 17) (by decide) (by decide), if_neg h2]
    · rw [fX5_soon, fX6_soon, if_neg (mt (ns5 ns x1).mp (fun q => q h)), if_neg (mt (ns6 ns x1 h0).mp (fun q => q h)), if_pos ((nc5 ns x2).mpr hc), if_pos ((nc6 ns x2).mpr hc)]
  · rw [fX5_soon, fX6_soon, if_pos ((ns5 ns x1).mpr h), if_pos ((ns6 ns x1 h0).mpr h)]
theorem meet_eq (rb : Int64) (k il ce mc ms : Nat → Int32) (ns sd td hi x1 x2 : Int32) (h0 : 0 ≤ ns.toInt) (h3 : ns.toInt ≤ 3) (c1 : ∀ q : Nat, (q : Int) < ns.toInt → ce q = mc q ∧ 0 ≤ (mc q).toInt ∧ (mc q).toInt < 36) (c2 : isB (ms 0) ∧ isB (ms 1) ∧ isB (ms 2)) (c3 : sd = ms 0 + (2 : Int32) * ms 1 + (4 : Int32) * ms 2) : fX5_meet (if ns = (0 : Int32) then (0 : Int32) else (1 : Int32)) rb ns k il ce sd td hi x1 x2 = fX6_meet ns rb td hi k il mc ms x1 x2 := by
  rw [fX5_meet, fX6_meet]
  by_cases h : okS ns x1
  · rw [if_neg (mt (ns5 ns x1).mp (fun q => q h)), if_neg (mt (ns6 ns x1 h0).mp (fun q => q h))]
    by_cases h2 : okS ns x2
    · rw [if_neg (mt (ns5 ns x2).mp (fun q => q h2)), if_neg (mt (ns6 ns x2 h0).mp (fun q => q h2))]
      by_cases e : x1 = x2
      · rw [if_pos e, if_pos e]
      · obtain ⟨A, g1, g2, g3, g4⟩ := ground h h3 c1 c2 c3
        obtain ⟨B, f1, f2, f3, f4⟩ := ground h2 h3 c1 c2 c3
        rw [if_neg e, if_neg e]
        exact daysToMeet_eq rb k il ce mc sd td hi x1 x2 ms g1 f1 g2 f2 g3 g4 f3 f4
    · rw [if_pos ((ns5 ns x2).mpr h2), if_pos ((ns6 ns x2 h0).mpr h2)]
  · rw [if_pos ((ns5 ns x1).mpr h), if_pos ((ns6 ns x1 h0).mpr h)]
theorem need_tell (rb : Int64) (k il ce mc ms : Nat → Int32) (ns sd td hi x1 : Int32) {A C : Nat} (g : grd ce mc sd x1 ms A) (hC : C < 36) (h : okS ns x1) (hc : okC ns (nI C)) : fX5_needed (if ns = (0 : Int32) then (0 : Int32) else (1 : Int32)) rb ns k il ce sd td hi x1 (nI C) = fX6_neededOf rb td hi k il mc ms x1 (nI C) := by
  rw [fX5_needed, if_neg (mt (ns5 ns x1).mp (fun q => q h)), if_neg (mt (nc5 ns (nI C)).mp (fun q => q hc))]
  exact neededOf_eq rb k il ce mc sd td hi x1 ms g hC
theorem need_eq (rb : Int64) (k il ce mc ms : Nat → Int32) (ns sd td hi x1 x2 : Int32) (h0 : 0 ≤ ns.toInt) (h3 : ns.toInt ≤ 3) (c1 : ∀ q : Nat, (q : Int) < ns.toInt → ce q = mc q ∧ 0 ≤ (mc q).toInt ∧ (mc q).toInt < 36) (c2 : isB (ms 0) ∧ isB (ms 1) ∧ isB (ms 2)) (c3 : sd = ms 0 + (2 : Int32) * ms 1 + (4 : Int32) * ms 2) : fX5_needed (if ns = (0 : Int32) then (0 : Int32) else (1 : Int32)) rb ns k il ce sd td hi x1 x2 = fX6_needed ns rb td hi k il mc ms x1 x2 := by
  by_cases h : okS ns x1
  · by_cases hc : okC ns x2
    · obtain ⟨A, g⟩ := ground h h3 c1 c2 c3
      obtain ⟨C, hC, eC⟩ := okC_n hc
      rw [fX6_needed, if_neg (mt (ns6 ns x1 h0).mp (fun q => q h)), if_neg (mt (nc6 ns x2).mp (fun q => q hc))]
      subst eC
      exact need_tell rb k il ce mc ms ns sd td hi x1 g hC h hc
    · rw [fX5_needed, fX6_needed, if_neg (mt (ns5 ns x1).mp (fun q => q h)), if_neg (mt (ns6 ns x1 h0).mp (fun q => q h)), if_pos ((nc5 ns x2).mpr hc), if_pos ((nc6 ns x2).mpr hc)]
  · rw [fX5_needed, fX6_needed, if_pos ((ns5 ns x1).mpr h), if_pos ((ns6 ns x1 h0).mpr h)]
theorem brick_tell (rb : Int64) (k il ce mc ms : Nat → Int32) (ns sd td hi x1 : Int32) (hd : 0 ≤ td.toInt ∧ td.toInt ≤ 999) {A C : Nat} (g : grd ce mc sd x1 ms A) (hC : C < 36) (h : okS ns x1) (hc : okC ns (nI C)) : fX5_brick (if ns = (0 : Int32) then (0 : Int32) else (1 : Int32)) rb ns k il ce sd td hi x1 (nI C) = fX6_brickOf rb td hi k il mc ms x1 (nI C) := by
  rw [fX5_brick, if_neg (mt (ns5 ns x1).mp (fun q => q h)), if_neg (mt (nc5 ns (nI C)).mp (fun q => q hc))]
  exact brickOf_eq rb k il ce mc sd td hi x1 ms hd.1 hd.2 g hC
theorem bri_eq (rb : Int64) (k il ce mc ms : Nat → Int32) (ns sd td hi x1 x2 : Int32) (hd : 0 ≤ td.toInt ∧ td.toInt ≤ 999) (h0 : 0 ≤ ns.toInt) (h3 : ns.toInt ≤ 3) (c1 : ∀ q : Nat, (q : Int) < ns.toInt → ce q = mc q ∧ 0 ≤ (mc q).toInt ∧ (mc q).toInt < 36) (c2 : isB (ms 0) ∧ isB (ms 1) ∧ isB (ms 2)) (c3 : sd = ms 0 + (2 : Int32) * ms 1 + (4 : Int32) * ms 2) : fX5_brick (if ns = (0 : Int32) then (0 : Int32) else (1 : Int32)) rb ns k il ce sd td hi x1 x2 = fX6_brick ns rb td hi k il mc ms x1 x2 := by
  by_cases h : okS ns x1
  · by_cases hc : okC ns x2
    · obtain ⟨A, g⟩ := ground h h3 c1 c2 c3
      obtain ⟨C, hC, eC⟩ := okC_n hc
      rw [fX6_brick, if_neg (mt (ns6 ns x1 h0).mp (fun q => q h)), if_neg (mt (nc6 ns x2).mp (fun q => q hc))]
      subst eC
      exact brick_tell rb k il ce mc ms ns sd td hi x1 hd g hC h hc
    · rw [fX5_brick, fX6_brick, if_neg (mt (ns5 ns x1).mp (fun q => q h)), if_neg (mt (ns6 ns x1 h0).mp (fun q => q h)), if_pos ((nc5 ns x2).mpr hc), if_pos ((nc6 ns x2).mpr hc)]
  · rw [fX5_brick, fX6_brick, if_pos ((ns5 ns x1).mpr h), if_pos ((ns6 ns x1 h0).mpr h)]
theorem aside_tell (rb : Int64) (k il ce mc ms : Nat → Int32) (ns sd td x1 x2 : Int32) {A : Nat} (g : grd ce mc sd x1 ms A) (h : okS ns x1) (h2 : 0 ≤ x2.toInt ∧ x2.toInt ≤ 20) : fX5_aside (if ns = (0 : Int32) then (0 : Int32) else (1 : Int32)) rb ns k il ce sd td x1 x2 = fX6_asideOf rb td k il mc ms x1 x2 := by
  obtain ⟨g1, g2, g3, g4⟩ := g
  obtain ⟨L, _, eL, eL2⟩ := ge_nI h2.1
  rw [fX5_aside, if_neg (mt (ns5 ns x1).mp (fun q => q h)), two_if x2 (a := 0) (b := 20) (by decide) (by decide), if_pos h2, fX5_placesIfHired, fX5_placesIfHired, eL, places_eq rb k il ce mc sd td 1 x1 ms g1 g2 (by omega), places_eq rb k il ce mc sd td 0 x1 ms g1 g2 (by omega)]
  exact asideOf_eq rb td k il mc ms x1 (nI L) g3 (by rw [g2, g4])
theorem asi_eq (rb : Int64) (k il ce mc ms : Nat → Int32) (ns sd td x1 x2 : Int32) (h0 : 0 ≤ ns.toInt) (h3 : ns.toInt ≤ 3) (c1 : ∀ q : Nat, (q : Int) < ns.toInt → ce q = mc q ∧ 0 ≤ (mc q).toInt ∧ (mc q).toInt < 36) (c2 : isB (ms 0) ∧ isB (ms 1) ∧ isB (ms 2)) (c3 : sd = ms 0 + (2 : Int32) * ms 1 + (4 : Int32) * ms 2) : fX5_aside (if ns = (0 : Int32) then (0 : Int32) else (1 : Int32)) rb ns k il ce sd td x1 x2 = fX6_aside ns rb td k il mc ms x1 x2 := by
  by_cases h : okS ns x1
  · by_cases h2 : 0 ≤ x2.toInt ∧ x2.toInt ≤ 20
    · obtain ⟨A, g⟩ := ground h h3 c1 c2 c3
      rw [fX6_aside, if_neg (mt (ns6 ns x1 h0).mp (fun q => q h)), if_neg (mt (in6 x2 (a := 0) (b := 20) (by decide) (by decide)).mp (fun q => q h2))]
      exact aside_tell rb k il ce mc ms ns sd td x1 x2 g h h2
    · rw [fX5_aside, fX6_aside, if_neg (mt (ns5 ns x1).mp (fun q => q h)), if_neg (mt (ns6 ns x1 h0).mp (fun q => q h)), two_if x2 (a := 0) (b := 20) (by decide) (by decide), if_neg h2, if_pos ((in6 x2 (a := 0) (b := 20) (by decide) (by decide)).mpr h2)]
  · rw [fX5_aside, fX6_aside, if_pos ((ns5 ns x1).mpr h), if_pos ((ns6 ns x1 h0).mpr h)]
theorem count_eq (k il ms : Nat → Int32) (sr pm nr ns sd td hi sails seen x1 : Int32) (hil : ∀ q : Nat, q < 4 → 0 ≤ (il q).toInt ∧ (il q).toInt ≤ 1100) (hd : 0 ≤ td.toInt ∧ td.toInt ≤ 999) (hz : ns = (0 : Int32) → ∀ q : Nat, il q = 0) (c2 : isB (ms 0) ∧ isB (ms 1) ∧ isB (ms 2)) (c3 : sd = ms 0 + (2 : Int32) * ms 1 + (4 : Int32) * ms 2) : fX5_count sr pm (if ns = (0 : Int32) then (0 : Int32) else (1 : Int32)) nr ns k il sd td hi sails seen x1 = fX6_countOf pm ns nr td hi sails sr k il ms seen x1 := by
  rw [fX5_count, fX6_countOf, upToday_eq k il td hi ns, illToday_eq il td ns hil hd hz, sum_enc c2 c3, fX5_asBit]
