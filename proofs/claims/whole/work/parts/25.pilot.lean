def fX4_mayBits_13 (ch_rocks : Int64) (mo_kinds : Nat → Int32) (mo_illUntil : Nat → Int32) (mo_cells : Nat → Int32) (mo_sailedToday : Int32) (mo_today : Int32) (mo_hired : Int32) (ship : Int32) : Nat → Int32 → Nat → Int32
  | 0, _, _ => 0
  | n_ + 1, x4, i => (if (4 : Int32) < (nI i) then x4 else (if (((fX2_upFor mo_kinds mo_illUntil mo_sailedToday mo_today mo_hired ship (0 : Int32)) >>> ((nI i) &&& 31)) &&& (1 : Int32)) = (0 : Int32) then (fX4_mayBits_13 ch_rocks mo_kinds mo_illUntil mo_cells mo_sailedToday mo_today mo_hired ship n_ x4 ((i + 1))) else (if (fX0_landing ch_rocks (mo_cells ship.toNatClampNeg) (nI i)) = (-1 : Int32) then (fX4_mayBits_13 ch_rocks mo_kinds mo_illUntil mo_cells mo_sailedToday mo_today mo_hired ship n_ x4 ((i + 1))) else (fX4_mayBits_13 ch_rocks mo_kinds mo_illUntil mo_cells mo_sailedToday mo_today mo_hired ship n_ (x4 ||| ((1 : Int32) <<< ((nI i) &&& 31))) ((i + 1))))))
def fX4_mayBits (ch_rocks : Int64) (mo_kinds : Nat → Int32) (mo_illUntil : Nat → Int32) (mo_cells : Nat → Int32) (mo_sailedToday : Int32) (mo_today : Int32) (mo_hired : Int32) (ship : Int32) : Int32 := (fX4_mayBits_13 ch_rocks mo_kinds mo_illUntil mo_cells mo_sailedToday mo_today mo_hired ship 6 (0 : Int32) (0))
set_option maxHeartbeats 4000000 in
set_option maxRecDepth 100000 in
theorem kX4_mayBits (l : Launch) (dC : Nat → ClassId) (dI : Nat → Nat → Nat) (cI cJ : ClassId) (pi : Nat → Nat) (ch : Nat → Nat) (mo : Nat → Nat) (pi_origins : Nat → Int64) (ch_drawn : Int32) (ch_rocks : Int64) (ch_rockCount : Int32) (ch_shipCount : Int32) (mo_kinds : Nat → Int32) (mo_illUntil : Nat → Int32) (mo_cells : Nat → Int32) (mo_sailedToday : Int32) (mo_today : Int32) (mo_hired : Int32) (mo_timesSailed : Int32) (mo_seenCount : Int32) (mo_seenLodger : Nat → Int32) (mo_seenDay : Nat → Int32) (mo_seenUp : Nat → Int32) (ship : Int32) (p_1 : vp_in ship 3) : Met l yX4_mayBits wsX4_mayBits ({ frames := 2, cells := 0, slots := 0, locals := 48 } : Room) (gR (dC, dI) cI cJ ((kPi cJ pi (ch 0) pi_origins) ++ ((kCh ch ch_drawn ch_rocks ch_rockCount ch_shipCount) ++ (kMo cI mo mo_kinds mo_illUntil mo_cells mo_sailedToday mo_today mo_hired mo_timesSailed mo_seenCount mo_seenLodger mo_seenDay mo_seenUp))) ([.ref (pi 0), .ref (mo 0), .int ship] : List Value)) (vp_Si (fun r => r = (fX4_mayBits ch_rocks mo_kinds mo_illUntil mo_cells mo_sailedToday mo_today mo_hired ship))) 0 0 (fun _ => False) := by
  refine Met.ofW (cc := cX4_mayBits) (maxL := 6) (ret := (some .int)) (by decide) rfl ?_
  intro p e s m args below meth c s₁ B hml hv
  obtain ⟨rfl, hP, hK, hst⟩ := hv
  have hx := B.exec
  have hb := B.bytes
  have hr := B.returns
  have hts := atoms_spec (ws := wsX4_mayBits) B.pre
  have hown : s.vm.findClass RX4 = some m.cls := findClass_of_methodNamed B.named
  have hlocks := B.notSynchronized
  have hS : va_S (fun _ => False) s.heap s.heap [] := va_S.rf
  generalize hE : (fX4_mayBits ch_rocks mo_kinds mo_illUntil mo_cells mo_sailedToday mo_today mo_hired ship) = RES
  generalize hQ : MQ below (vp_Si (fun r => r = RES)) ([.ref (pi 0), .ref (mo 0), .int ship] : List Value).toArray s 0 0 (fun _ => False) = Q
  have hl := lv_entry ([.ref (pi 0), .ref (mo 0), .int ship] : List Value) (n := 6) (Nat.le_of_ble_eq_true rfl)
  rw [lg_entry_eq]
  generalize (lg_sl ([.ref (pi 0), .ref (mo 0), .int ship] : List Value) ++ List.replicate (6 - (lg_sl ([.ref (pi 0), .ref (mo 0), .int ship] : List Value)).length) Slot.unset).toArray = ls at hl ⊢
  have hl : lv_has ls 6 [(0, .ref (pi 0)), (1, .ref (mo 0)), (2, .int ship)] := hl
  have in_X2 : ∀ w ∈ u_ws RX2 TX2 11, w ∈ wsX4_mayBits := fun _ h => List.mem_cons_of_mem _ (List.mem_append_left _ (List.mem_append_right _ h))
  have in_X4 : ∀ w ∈ u_ws RX4 TX4 2, w ∈ wsX4_mayBits := fun _ h => List.mem_cons_of_mem _ (List.mem_append_left _ (List.mem_append_left _ (List.mem_append_right _ h)))
  have t_fieldLink_RX4_12_FourLodgers_Pilot_chart_LFourLodgers_Chart := hts (.fieldLink RX4 12 "FourLodgers$Pilot" "chart" "LFourLodgers$Chart;") (List.mem_of_getElem? (i := 1) rfl)
  have t_fieldLink_RX4_28_FourLodgers_Moment_cells_I := hts (.fieldLink RX4 28 "FourLodgers$Moment" "cells" "[I") (List.mem_of_getElem? (i := 2) rfl)
  have i_m1 : (-1 : Int32).toInt = -1 := by decide
  have i_0 : (0 : Int32).toInt = 0 := by decide
  have i_1 : (1 : Int32).toInt = 1 := by decide
  have i_4 : (4 : Int32).toInt = 4 := by decide
  have p_1' := vp_in_iff.mp p_1
  rw [fX4_mayBits] at hE
  refine lv_aload_n hx hb dX4_mayBits_0 rfl (lv_at hl 1 rfl) ?_
  refine lv_iload_n hx hb dX4_mayBits_1 rfl (lv_at hl 2 rfl) ?_
  refine lv_iconst (v := (0 : Int32)) hx hb dX4_mayBits_2 (by decide) ?_
  refine rcVi (As := [.int ship, .int (0 : Int32)]) (rest := []) ⟨hx, hb, hml, hown, hts⟩ (kX2_upFor l dC dI cI cJ mo mo_kinds mo_illUntil mo_cells mo_sailedToday mo_today mo_hired mo_timesSailed mo_seenCount mo_seenLodger mo_seenDay mo_seenUp ship (0 : Int32)) (cwV 2 hts gX4_mayBits_X2_upFor rfl rfl rfl (by decide +kernel) ⟨Nat.le_of_ble_eq_true rfl, Nat.le_of_ble_eq_true rfl⟩) hK hP hst hS [3, 4, 5, 6, 7, 8, 9] rfl 3 rfl rfl rfl hl.1 rfl (Nat.le_of_ble_eq_true rfl) dX4_mayBits_3 ⟨Nat.zero_le _, Nat.zero_le _⟩ (fun r w_1 => ?_)
  subst w_1
  refine lv_istore_n (lv' := [(3, .int (fX2_upFor mo_kinds mo_illUntil mo_sailedToday mo_today mo_hired ship (0 : Int32))), (0, .ref (pi 0)), (1, .ref (mo 0)), (2, .int ship)]) hx hb dX4_mayBits_6 rfl hl (by decide) rfl (fun ls hl => ?_)
  refine lv_iconst (v := (0 : Int32)) hx hb dX4_mayBits_7 (by decide) ?_
  refine lv_istore (lv' := [(4, .int (0 : Int32)), (3, .int (fX2_upFor mo_kinds mo_illUntil mo_sailedToday mo_today mo_hired ship (0 : Int32))), (0, .ref (pi 0)), (1, .ref (mo 0)), (2, .int ship)]) hx hb dX4_mayBits_8 hl (by decide) rfl (fun ls hl => ?_)
  refine lv_iconst (v := (0 : Int32)) hx hb dX4_mayBits_10 (by decide) ?_
  refine lv_istore (lv' := [(5, .int (0 : Int32)), (4, .int (0 : Int32)), (3, .int (fX2_upFor mo_kinds mo_illUntil mo_sailedToday mo_today mo_hired ship (0 : Int32))), (0, .ref (pi 0)), (1, .ref (mo 0)), (2, .int ship)]) hx hb dX4_mayBits_11 hl (by decide) rfl (fun ls hl => ?_)
  have L13 : ∀ (n_ : Nat) (x4 : Int32) (i : Nat) , (i ≤ 5) → 5 - i < n_ → (fX4_mayBits_13 ch_rocks mo_kinds mo_illUntil mo_cells mo_sailedToday mo_today mo_hired ship n_ x4 i) = RES → ∀ ls : Array Slot, lv_has ls 6 [(0, .ref (pi 0)), (1, .ref (mo 0)), (2, .int ship), (3, .int (fX2_upFor mo_kinds mo_illUntil mo_sailedToday mo_today mo_hired ship (0 : Int32))), (4, .int x4), (5, .int (nI i))] → W p l e (headSpec wsX4_mayBits ({ frames := 2, cells := 0, slots := 0, locals := 48 } : Room)).room s m ([.ref (pi 0), .ref (mo 0), .int ship] : List Value).toArray below meth c s.heap [] 0 0 Q (F0 m 13 ls []) := by
    intro n_
    induction n_ with
    | zero => intro x4 i  hi hn; exact absurd hn (Nat.not_lt_zero _)
    | succ n_ ih =>
      intro x4 i  hi hn hE ls hl
      rw [fX4_mayBits_13] at hE
      have tn_i : (nI i).toInt = (i : Int) := nI_toInt (by omega)
      refine lv_iload hx hb dX4_mayBits_13 (lv_at hl 5 rfl) ?_
      refine lv_iconst (v := (4 : Int32)) hx hb dX4_mayBits_15 (by decide) ?_
      refine lv_icmp_gt (tgt := 62) hx hb dX4_mayBits_16 (by decide) (fun c_16 => ?_) (fun c_16 => ?_)
      · have e_16 := Int32.lt_iff_toInt_lt.mp c_16
        rw [if_pos c_16] at hE
        refine lv_iload hx hb dX4_mayBits_62 (lv_at hl 4 rfl) ?_
        subst hE
        rw [← hQ]
        exact W.iret hx hb hr (fun t ht hW => ⟨_, rfl, rfl, ht⟩) (fun q h => absurd h List.not_mem_nil) dX4_mayBits_64
      · have e_16 := mt Int32.lt_iff_toInt_lt.mpr c_16
        rw [if_neg c_16] at hE
        refine lv_iload_n hx hb dX4_mayBits_19 rfl (lv_at hl 3 rfl) ?_
        refine lv_iload hx hb dX4_mayBits_20 (lv_at hl 5 rfl) ?_
        refine lv_ishr hx hb dX4_mayBits_22 ?_
        refine lv_iconst (v := (1 : Int32)) hx hb dX4_mayBits_23 (by decide) ?_
        refine lv_iand hx hb dX4_mayBits_24 ?_
        refine lv_if_eq (tgt := 56) hx hb dX4_mayBits_25 (by decide) (fun c_25 => ?_) (fun c_25 => ?_)
        · rw [if_pos c_25] at hE
          refine lv_iinc (v := (nI (i + 1))) (lv' := [(5, .int (nI (i + 1))), (0, .ref (pi 0)), (1, .ref (mo 0)), (2, .int ship), (3, .int (fX2_upFor mo_kinds mo_illUntil mo_sailedToday mo_today mo_hired ship (0 : Int32))), (4, .int x4)]) hx hb dX4_mayBits_56 hl (k := 5) rfl (by rw [show Int32.ofInt 1 = nI 1 from rfl, nI_add]) (by decide) rfl (fun ls hl => ?_)
          refine lv_goto (tgt := 13) hx hb dX4_mayBits_59 (by decide) ?_
          exact ih x4 ((i + 1))  (by omega) (by omega) hE ls (lv_sub hl [1, 2, 3, 4, 5, 0] rfl)
        · rw [if_neg c_25] at hE
          refine lv_aload_n hx hb dX4_mayBits_28 rfl (lv_at hl 0 rfl) ?_
          refine va_get (D := (dC, dI)) (ci := 4) (v := .ref (ch 0)) (C := RX4) (T := TX4) (N := 2) hx hb hts in_X4 hown hK hP 0 rfl rfl 0 (by decide) t_fieldLink_RX4_12_FourLodgers_Pilot_chart_LFourLodgers_Chart (fun _ h9 => h9) rfl dX4_mayBits_29 ?_
          refine lv_aload_n hx hb dX4_mayBits_32 rfl (lv_at hl 1 rfl) ?_
          refine va_get (D := (dC, dI)) (ci := 2) (v := .ref (mo 3)) (C := RX2) (T := TX2) (N := 11) hx hb hts in_X2 hown hK hP 3 rfl rfl 2 (by decide) t_fieldLink_RX4_28_FourLodgers_Moment_cells_I (fun _ h9 => h9) rfl dX4_mayBits_33 ?_
          refine lv_iload_n hx hb dX4_mayBits_36 rfl (lv_at hl 2 rfl) ?_
          refine va_iald hx hb hK hP 6 0 rfl rfl (i := ship) (by first | assumption | exact vp_in_iff.mpr ⟨by omega, by omega⟩ | omega | decide) dX4_mayBits_37 ?_
          refine lv_iload hx hb dX4_mayBits_38 (lv_at hl 5 rfl) ?_
          refine rcVi (As := [.int (mo_cells ship.toNatClampNeg), .int (nI i)]) (rest := []) ⟨hx, hb, hml, hown, hts⟩ (kX0_landing l dC dI cI cJ ch ch_drawn ch_rocks ch_rockCount ch_shipCount (mo_cells ship.toNatClampNeg) (nI i) (by first | assumption | exact vp_in_iff.mpr ⟨by omega, by omega⟩ | omega | decide)) (cwV 2 hts gX4_mayBits_X0_landing rfl rfl rfl (by decide +kernel) ⟨Nat.le_of_ble_eq_true rfl, Nat.le_of_ble_eq_true rfl⟩) hK hP hst hS [2] rfl 2 rfl rfl rfl hl.1 rfl (Nat.le_of_ble_eq_true rfl) dX4_mayBits_40 ⟨Nat.zero_le _, Nat.zero_le _⟩ (fun r w_2 => ?_)
          subst w_2
          refine lv_iconst (v := (-1 : Int32)) hx hb dX4_mayBits_43 (by decide) ?_
          refine lv_icmp_eq (tgt := 56) hx hb dX4_mayBits_44 (by decide) (fun c_44 => ?_) (fun c_44 => ?_)
          · rw [if_pos c_44] at hE
            refine lv_iinc (v := (nI (i + 1))) (lv' := [(5, .int (nI (i + 1))), (0, .ref (pi 0)), (1, .ref (mo 0)), (2, .int ship), (3, .int (fX2_upFor mo_kinds mo_illUntil mo_sailedToday mo_today mo_hired ship (0 : Int32))), (4, .int x4)]) hx hb dX4_mayBits_56 hl (k := 5) rfl (by rw [show Int32.ofInt 1 = nI 1 from rfl, nI_add]) (by decide) rfl (fun ls hl => ?_)
            refine lv_goto (tgt := 13) hx hb dX4_mayBits_59 (by decide) ?_
            exact ih x4 ((i + 1))  (by omega) (by omega) hE ls (lv_sub hl [1, 2, 3, 4, 5, 0] rfl)
          · rw [if_neg c_44] at hE
            refine lv_iload hx hb dX4_mayBits_47 (lv_at hl 4 rfl) ?_
            refine lv_iconst (v := (1 : Int32)) hx hb dX4_mayBits_49 (by decide) ?_
            refine lv_iload hx hb dX4_mayBits_50 (lv_at hl 5 rfl) ?_
            refine lv_ishl hx hb dX4_mayBits_52 ?_
            refine lv_ior hx hb dX4_mayBits_53 ?_
            refine lv_istore (lv' := [(4, .int (x4 ||| ((1 : Int32) <<< ((nI i) &&& 31)))), (0, .ref (pi 0)), (1, .ref (mo 0)), (2, .int ship), (3, .int (fX2_upFor mo_kinds mo_illUntil mo_sailedToday mo_today mo_hired ship (0 : Int32))), (5, .int (nI i))]) hx hb dX4_mayBits_54 hl (by decide) rfl (fun ls hl => ?_)
            refine lv_iinc (v := (nI (i + 1))) (lv' := [(5, .int (nI (i + 1))), (4, .int (x4 ||| ((1 : Int32) <<< ((nI i) &&& 31)))), (0, .ref (pi 0)), (1, .ref (mo 0)), (2, .int ship), (3, .int (fX2_upFor mo_kinds mo_illUntil mo_sailedToday mo_today mo_hired ship (0 : Int32)))]) hx hb dX4_mayBits_56 hl (k := 5) rfl (by rw [show Int32.ofInt 1 = nI 1 from rfl, nI_add]) (by decide) rfl (fun ls hl => ?_)
            refine lv_goto (tgt := 13) hx hb dX4_mayBits_59 (by decide) ?_
            exact ih (x4 ||| ((1 : Int32) <<< ((nI i) &&& 31))) ((i + 1))  (by omega) (by omega) hE ls (lv_sub hl [2, 3, 4, 5, 1, 0] rfl)
  exact L13 6 (0 : Int32) (0)  (by omega) (by omega) hE ls (lv_sub hl [3, 4, 5, 2, 1, 0] rfl)
def fX4_placesAfter_13 (ch_rocks : Int64) (mo_kinds : Nat → Int32) (mo_illUntil : Nat → Int32) (mo_sailedToday : Int32) (mo_today : Int32) (mo_hired : Int32) (ship : Int32) (last : Int32) : Nat → Int64 → Nat → Int64
  | 0, _, _ => 0
  | n_ + 1, x4, i => (if last < (nI i) then x4 else (fX4_placesAfter_13 ch_rocks mo_kinds mo_illUntil mo_sailedToday mo_today mo_hired ship last n_ (fX0_spread ch_rocks x4 (fX2_upFor mo_kinds mo_illUntil mo_sailedToday mo_today mo_hired ship (nI i))) ((i + 1))))
def fX4_placesAfter (ch_rocks : Int64) (mo_kinds : Nat → Int32) (mo_illUntil : Nat → Int32) (mo_cells : Nat → Int32) (mo_sailedToday : Int32) (mo_today : Int32) (mo_hired : Int32) (ship : Int32) (last : Int32) : Int64 := (fX4_placesAfter_13 ch_rocks mo_kinds mo_illUntil mo_sailedToday mo_today mo_hired ship last 42 ((1 : Int64) <<< ((mo_cells ship.toNatClampNeg).toInt64 &&& 63)) (0))
set_option maxHeartbeats 4000000 in
set_option maxRecDepth 100000 in
theorem kX4_placesAfter (l : Launch) (dC : Nat → ClassId) (dI : Nat → Nat → Nat) (cI cJ : ClassId) (pi : Nat → Nat) (ch : Nat → Nat) (mo : Nat → Nat) (pi_origins : Nat → Int64) (ch_drawn : Int32) (ch_rocks : Int64) (ch_rockCount : Int32) (ch_shipCount : Int32) (mo_kinds : Nat → Int32) (mo_illUntil : Nat → Int32) (mo_cells : Nat → Int32) (mo_sailedToday : Int32) (mo_today : Int32) (mo_hired : Int32) (mo_timesSailed : Int32) (mo_seenCount : Int32) (mo_seenLodger : Nat → Int32) (mo_seenDay : Nat → Int32) (mo_seenUp : Nat → Int32) (ship : Int32) (last : Int32) (p_1 : vp_in ship 3) (p_2 : last.toInt ≤ 40) : Met l yX4_placesAfter wsX4_placesAfter ({ frames := 2, cells := 0, slots := 0, locals := 52 } : Room) (gR (dC, dI) cI cJ ((kPi cJ pi (ch 0) pi_origins) ++ ((kCh ch ch_drawn ch_rocks ch_rockCount ch_shipCount) ++ (kMo cI mo mo_kinds mo_illUntil mo_cells mo_sailedToday mo_today mo_hired mo_timesSailed mo_seenCount mo_seenLodger mo_seenDay mo_seenUp))) ([.ref (pi 0), .ref (mo 0), .int ship, .int last] : List Value)) (vp_Sl (fun r => r = (fX4_placesAfter ch_rocks mo_kinds mo_illUntil mo_cells mo_sailedToday mo_today mo_hired ship last))) 0 0 (fun _ => False) := by
  refine Met.ofW (cc := cX4_placesAfter) (maxL := 7) (ret := (some .long)) (by decide) rfl ?_
  intro p e s m args below meth c s₁ B hml hv
  obtain ⟨rfl, hP, hK, hst⟩ := hv
  have hx := B.exec
  have hb := B.bytes
  have hr := B.returns
  have hts := atoms_spec (ws := wsX4_placesAfter) B.pre
  have hown : s.vm.findClass RX4 = some m.cls := findClass_of_methodNamed B.named
  have hlocks := B.notSynchronized
  have hS : va_S (fun _ => False) s.heap s.heap [] := va_S.rf
  generalize hE : (fX4_placesAfter ch_rocks mo_kinds mo_illUntil mo_cells mo_sailedToday mo_today mo_hired ship last) = RES
  generalize hQ : MQ below (vp_Sl (fun r => r = RES)) ([.ref (pi 0), .ref (mo 0), .int ship, .int last] : List Value).toArray s 0 0 (fun _ => False) = Q
  have hl := lv_entry ([.ref (pi 0), .ref (mo 0), .int ship, .int last] : List Value) (n := 7) (Nat.le_of_ble_eq_true rfl)
  rw [lg_entry_eq]
  generalize (lg_sl ([.ref (pi 0), .ref (mo 0), .int ship, .int last] : List Value) ++ List.replicate (7 - (lg_sl ([.ref (pi 0), .ref (mo 0), .int ship, .int last] : List Value)).length) Slot.unset).toArray = ls at hl ⊢
  have hl : lv_has ls 7 [(0, .ref (pi 0)), (1, .ref (mo 0)), (2, .int ship), (3, .int last)] := hl
  have in_X2 : ∀ w ∈ u_ws RX2 TX2 11, w ∈ wsX4_placesAfter := fun _ h => List.mem_cons_of_mem _ (List.mem_append_left _ (List.mem_append_left _ (List.mem_append_right _ h)))
  have in_X4 : ∀ w ∈ u_ws RX4 TX4 2, w ∈ wsX4_placesAfter := fun _ h => List.mem_cons_of_mem _ (List.mem_append_left _ (List.mem_append_right _ h))
  have t_fieldLink_RX4_12_FourLodgers_Pilot_chart_LFourLodgers_Chart := hts (.fieldLink RX4 12 "FourLodgers$Pilot" "chart" "LFourLodgers$Chart;") (List.mem_of_getElem? (i := 2) rfl)
  have t_fieldLink_RX4_28_FourLodgers_Moment_cells_I := hts (.fieldLink RX4 28 "FourLodgers$Moment" "cells" "[I") (List.mem_of_getElem? (i := 1) rfl)
  have i_0 : (0 : Int32).toInt = 0 := by decide
  have p_1' := vp_in_iff.mp p_1
  rw [fX4_placesAfter] at hE
  refine lv_lconst (v := (1 : Int64)) hx hb dX4_placesAfter_0 (by decide) ?_
  refine lv_aload_n hx hb dX4_placesAfter_1 rfl (lv_at hl 1 rfl) ?_
  refine va_get (D := (dC, dI)) (ci := 2) (v := .ref (mo 3)) (C := RX2) (T := TX2) (N := 11) hx hb hts in_X2 hown hK hP 3 rfl rfl 2 (by decide) t_fieldLink_RX4_28_FourLodgers_Moment_cells_I (fun _ h9 => h9) rfl dX4_placesAfter_2 ?_
  refine lv_iload_n hx hb dX4_placesAfter_5 rfl (lv_at hl 2 rfl) ?_
  refine va_iald hx hb hK hP 6 0 rfl rfl (i := ship) (by first | assumption | exact vp_in_iff.mpr ⟨by omega, by omega⟩ | omega | decide) dX4_placesAfter_6 ?_
  refine lv_lshl hx hb dX4_placesAfter_7 rfl ?_
  refine lv_lstore (lv' := [(4, .long ((1 : Int64) <<< ((mo_cells ship.toNatClampNeg).toInt64 &&& 63))), (0, .ref (pi 0)), (1, .ref (mo 0)), (2, .int ship), (3, .int last)]) hx hb dX4_placesAfter_8 hl (by decide) rfl (fun ls hl => ?_)
  refine lv_iconst (v := (0 : Int32)) hx hb dX4_placesAfter_10 (by decide) ?_
  refine lv_istore (lv' := [(6, .int (0 : Int32)), (4, .long ((1 : Int64) <<< ((mo_cells ship.toNatClampNeg).toInt64 &&& 63))), (0, .ref (pi 0)), (1, .ref (mo 0)), (2, .int ship), (3, .int last)]) hx hb dX4_placesAfter_11 hl (by decide) rfl (fun ls hl => ?_)
  have L13 : ∀ (n_ : Nat) (x4 : Int64) (i : Nat) , (i ≤ 41) → 41 - i < n_ → (fX4_placesAfter_13 ch_rocks mo_kinds mo_illUntil mo_sailedToday mo_today mo_hired ship last n_ x4 i) = RES → ∀ ls : Array Slot, lv_has ls 7 [(0, .ref (pi 0)), (1, .ref (mo 0)), (2, .int ship), (3, .int last), (4, .long x4), (6, .int (nI i))] → W p l e (headSpec wsX4_placesAfter ({ frames := 2, cells := 0, slots := 0, locals := 52 } : Room)).room s m ([.ref (pi 0), .ref (mo 0), .int ship, .int last] : List Value).toArray below meth c s.heap [] 0 0 Q (F0 m 13 ls []) := by
    intro n_
    induction n_ with
    | zero => intro x4 i  hi hn; exact absurd hn (Nat.not_lt_zero _)
    | succ n_ ih =>
      intro x4 i  hi hn hE ls hl
      rw [fX4_placesAfter_13] at hE
      have tn_i : (nI i).toInt = (i : Int) := nI_toInt (by omega)
      refine lv_iload hx hb dX4_placesAfter_13 (lv_at hl 5 rfl) ?_
      refine lv_iload_n hx hb dX4_placesAfter_15 rfl (lv_at hl 3 rfl) ?_
      refine lv_icmp_gt (tgt := 43) hx hb dX4_placesAfter_16 (by decide) (fun c_16 => ?_) (fun c_16 => ?_)
      · have e_16 := Int32.lt_iff_toInt_lt.mp c_16
        rw [if_pos c_16] at hE
        refine lv_lload hx hb dX4_placesAfter_43 (lv_at hl 4 rfl) ?_
        subst hE
        rw [← hQ]
        exact W.lret hx hb hr (fun t ht hW => ⟨_, rfl, rfl, ht⟩) (fun q h => absurd h List.not_mem_nil) dX4_placesAfter_45
      · have e_16 := mt Int32.lt_iff_toInt_lt.mpr c_16
        rw [if_neg c_16] at hE
        refine lv_aload_n hx hb dX4_placesAfter_19 rfl (lv_at hl 0 rfl) ?_
        refine va_get (D := (dC, dI)) (ci := 4) (v := .ref (ch 0)) (C := RX4) (T := TX4) (N := 2) hx hb hts in_X4 hown hK hP 0 rfl rfl 0 (by decide) t_fieldLink_RX4_12_FourLodgers_Pilot_chart_LFourLodgers_Chart (fun _ h9 => h9) rfl dX4_placesAfter_20 ?_
        refine lv_lload hx hb dX4_placesAfter_23 (lv_at hl 4 rfl) ?_
        refine lv_aload_n hx hb dX4_placesAfter_25 rfl (lv_at hl 1 rfl) ?_
        refine lv_iload_n hx hb dX4_placesAfter_26 rfl (lv_at hl 2 rfl) ?_
        refine lv_iload hx hb dX4_placesAfter_27 (lv_at hl 5 rfl) ?_
        refine rcVi (As := [.int ship, .int (nI i)]) (rest := [.long x4, .ref (ch 0)]) ⟨hx, hb, hml, hown, hts⟩ (kX2_upFor l dC dI cI cJ mo mo_kinds mo_illUntil mo_cells mo_sailedToday mo_today mo_hired mo_timesSailed mo_seenCount mo_seenLodger mo_seenDay mo_seenUp ship (nI i)) (cwV 2 hts gX4_placesAfter_X2_upFor rfl rfl rfl (by decide +kernel) ⟨Nat.le_of_ble_eq_true rfl, Nat.le_of_ble_eq_true rfl⟩) hK hP hst hS [3, 4, 5, 6, 7, 8, 9] rfl 3 rfl rfl rfl hl.1 rfl (Nat.le_of_ble_eq_true rfl) dX4_placesAfter_29 ⟨Nat.zero_le _, Nat.zero_le _⟩ (fun r w_1 => ?_)
        subst w_1
        refine rcVl (As := [.long x4, .int (fX2_upFor mo_kinds mo_illUntil mo_sailedToday mo_today mo_hired ship (nI i))]) (rest := []) ⟨hx, hb, hml, hown, hts⟩ (kX0_spread l dC dI cI cJ ch ch_drawn ch_rocks ch_rockCount ch_shipCount x4 (fX2_upFor mo_kinds mo_illUntil mo_sailedToday mo_today mo_hired ship (nI i))) (cwV 2 hts gX4_placesAfter_X0_spread rfl rfl rfl (by decide +kernel) ⟨Nat.le_of_ble_eq_true rfl, Nat.le_of_ble_eq_true rfl⟩) hK hP hst hS [2] rfl 2 rfl rfl rfl hl.1 rfl (Nat.le_of_ble_eq_true rfl) dX4_placesAfter_32 ⟨Nat.zero_le _, Nat.zero_le _⟩ (fun r w_2 => ?_)
        subst w_2
        refine lv_lstore (lv' := [(4, .long (fX0_spread ch_rocks x4 (fX2_upFor mo_kinds mo_illUntil mo_sailedToday mo_today mo_hired ship (nI i)))), (0, .ref (pi 0)), (1, .ref (mo 0)), (2, .int ship), (3, .int last), (6, .int (nI i))]) hx hb dX4_placesAfter_35 hl (by decide) rfl (fun ls hl => ?_)
        refine lv_iinc (v := (nI (i + 1))) (lv' := [(6, .int (nI (i + 1))), (4, .long (fX0_spread ch_rocks x4 (fX2_upFor mo_kinds mo_illUntil mo_sailedToday mo_today mo_hired ship (nI i)))), (0, .ref (pi 0)), (1, .ref (mo 0)), (2, .int ship), (3, .int last)]) hx hb dX4_placesAfter_37 hl (k := 5) rfl (by rw [show Int32.ofInt 1 = nI 1 from rfl, nI_add]) (by decide) rfl (fun ls hl => ?_)
        refine lv_goto (tgt := 13) hx hb dX4_placesAfter_40 (by decide) ?_
        exact ih (fX0_spread ch_rocks x4 (fX2_upFor mo_kinds mo_illUntil mo_sailedToday mo_today mo_hired ship (nI i))) ((i + 1))  (by omega) (by omega) hE ls (lv_sub hl [2, 3, 4, 5, 1, 0] rfl)
  exact L13 42 ((1 : Int64) <<< ((mo_cells ship.toNatClampNeg).toInt64 &&& 63)) (0)  (by omega) (by omega) hE ls (lv_sub hl [2, 3, 4, 5, 1, 0] rfl)
def fX4_daysTo_13 (ch_rocks : Int64) (mo_kinds : Nat → Int32) (mo_illUntil : Nat → Int32) (mo_sailedToday : Int32) (mo_today : Int32) (mo_hired : Int32) (ship : Int32) (cell : Int32) : Nat → Int64 → Nat → Int32
  | 0, _, _ => 0
  | n_ + 1, x4, i => (if (40 : Int32) < (nI i) then (if ((x4 >>> (cell.toInt64 &&& 63)) &&& (1 : Int64)) = (0 : Int64) then (-1 : Int32) else (41 : Int32)) else (if ((x4 >>> (cell.toInt64 &&& 63)) &&& (1 : Int64)) = (0 : Int64) then (fX4_daysTo_13 ch_rocks mo_kinds mo_illUntil mo_sailedToday mo_today mo_hired ship cell n_ (fX0_spread ch_rocks x4 (fX2_upFor mo_kinds mo_illUntil mo_sailedToday mo_today mo_hired ship (nI i))) ((i + 1))) else (nI i)))
def fX4_daysTo (ch_rocks : Int64) (mo_kinds : Nat → Int32) (mo_illUntil : Nat → Int32) (mo_cells : Nat → Int32) (mo_sailedToday : Int32) (mo_today : Int32) (mo_hired : Int32) (ship : Int32) (cell : Int32) : Int32 := (fX4_daysTo_13 ch_rocks mo_kinds mo_illUntil mo_sailedToday mo_today mo_hired ship cell 42 ((1 : Int64) <<< ((mo_cells ship.toNatClampNeg).toInt64 &&& 63)) (0))
set_option maxHeartbeats 4000000 in
set_option maxRecDepth 100000 in
theorem kX4_daysTo (l : Launch) (dC : Nat → ClassId) (dI : Nat → Nat → Nat) (cI cJ : ClassId) (pi : Nat → Nat) (ch : Nat → Nat) (mo : Nat → Nat) (pi_origins : Nat → Int64) (ch_drawn : Int32) (ch_rocks : Int64) (ch_rockCount : Int32) (ch_shipCount : Int32) (mo_kinds : Nat → Int32) (mo_illUntil : Nat → Int32) (mo_cells : Nat → Int32) (mo_sailedToday : Int32) (mo_today : Int32) (mo_hired : Int32) (mo_timesSailed : Int32) (mo_seenCount : Int32) (mo_seenLodger : Nat → Int32) (mo_seenDay : Nat → Int32) (mo_seenUp : Nat → Int32) (ship : Int32) (cell : Int32) (p_1 : vp_in ship 3) : Met l yX4_daysTo wsX4_daysTo ({ frames := 2, cells := 0, slots := 0, locals := 52 } : Room) (gR (dC, dI) cI cJ ((kPi cJ pi (ch 0) pi_origins) ++ ((kCh ch ch_drawn ch_rocks ch_rockCount ch_shipCount) ++ (kMo cI mo mo_kinds mo_illUntil mo_cells mo_sailedToday mo_today mo_hired mo_timesSailed mo_seenCount mo_seenLodger mo_seenDay mo_seenUp))) ([.ref (pi 0), .ref (mo 0), .int ship, .int cell] : List Value)) (vp_Si (fun r => r = (fX4_daysTo ch_rocks mo_kinds mo_illUntil mo_cells mo_sailedToday mo_today mo_hired ship cell))) 0 0 (fun _ => False) := by
  refine Met.ofW (cc := cX4_daysTo) (maxL := 7) (ret := (some .int)) (by decide) rfl ?_
  intro p e s m args below meth c s₁ B hml hv
  obtain ⟨rfl, hP, hK, hst⟩ := hv
  have hx := B.exec
  have hb := B.bytes
  have hr := B.returns
  have hts := atoms_spec (ws := wsX4_daysTo) B.pre
  have hown : s.vm.findClass RX4 = some m.cls := findClass_of_methodNamed B.named
  have hlocks := B.notSynchronized
  have hS : va_S (fun _ => False) s.heap s.heap [] := va_S.rf
  generalize hE : (fX4_daysTo ch_rocks mo_kinds mo_illUntil mo_cells mo_sailedToday mo_today mo_hired ship cell) = RES
  generalize hQ : MQ below (vp_Si (fun r => r = RES)) ([.ref (pi 0), .ref (mo 0), .int ship, .int cell] : List Value).toArray s 0 0 (fun _ => False) = Q
  have hl := lv_entry ([.ref (pi 0), .ref (mo 0), .int ship, .int cell] : List Value) (n := 7) (Nat.le_of_ble_eq_true rfl)
  rw [lg_entry_eq]
  generalize (lg_sl ([.ref (pi 0), .ref (mo 0), .int ship, .int cell] : List Value) ++ List.replicate (7 - (lg_sl ([.ref (pi 0), .ref (mo 0), .int ship, .int cell] : List Value)).length) Slot.unset).toArray = ls at hl ⊢
  have hl : lv_has ls 7 [(0, .ref (pi 0)), (1, .ref (mo 0)), (2, .int ship), (3, .int cell)] := hl
  have in_X2 : ∀ w ∈ u_ws RX2 TX2 11, w ∈ wsX4_daysTo := fun _ h => List.mem_cons_of_mem _ (List.mem_append_left _ (List.mem_append_left _ (List.mem_append_right _ h)))
  have in_X4 : ∀ w ∈ u_ws RX4 TX4 2, w ∈ wsX4_daysTo := fun _ h => List.mem_cons_of_mem _ (List.mem_append_left _ (List.mem_append_right _ h))
  have t_fieldLink_RX4_12_FourLodgers_Pilot_chart_LFourLodgers_Chart := hts (.fieldLink RX4 12 "FourLodgers$Pilot" "chart" "LFourLodgers$Chart;") (List.mem_of_getElem? (i := 2) rfl)
  have t_fieldLink_RX4_28_FourLodgers_Moment_cells_I := hts (.fieldLink RX4 28 "FourLodgers$Moment" "cells" "[I") (List.mem_of_getElem? (i := 1) rfl)
  have i_m1 : (-1 : Int32).toInt = -1 := by decide
  have i_0 : (0 : Int32).toInt = 0 := by decide
  have i_40 : (40 : Int32).toInt = 40 := by decide
  have i_41 : (41 : Int32).toInt = 41 := by decide
  have p_1' := vp_in_iff.mp p_1
  rw [fX4_daysTo] at hE
  refine lv_lconst (v := (1 : Int64)) hx hb dX4_daysTo_0 (by decide) ?_
  refine lv_aload_n hx hb dX4_daysTo_1 rfl (lv_at hl 1 rfl) ?_
  refine va_get (D := (dC, dI)) (ci := 2) (v := .ref (mo 3)) (C := RX2) (T := TX2) (N := 11) hx hb hts in_X2 hown hK hP 3 rfl rfl 2 (by decide) t_fieldLink_RX4_28_FourLodgers_Moment_cells_I (fun _ h9 => h9) rfl dX4_daysTo_2 ?_
  refine lv_iload_n hx hb dX4_daysTo_5 rfl (lv_at hl 2 rfl) ?_
  refine va_iald hx hb hK hP 6 0 rfl rfl (i := ship) (by first | assumption | exact vp_in_iff.mpr ⟨by omega, by omega⟩ | omega | decide) dX4_daysTo_6 ?_
  refine lv_lshl hx hb dX4_daysTo_7 rfl ?_
  refine lv_lstore (lv' := [(4, .long ((1 : Int64) <<< ((mo_cells ship.toNatClampNeg).toInt64 &&& 63))), (0, .ref (pi 0)), (1, .ref (mo 0)), (2, .int ship), (3, .int cell)]) hx hb dX4_daysTo_8 hl (by decide) rfl (fun ls hl => ?_)
  refine lv_iconst (v := (0 : Int32)) hx hb dX4_daysTo_10 (by decide) ?_
  refine lv_istore (lv' := [(6, .int (0 : Int32)), (4, .long ((1 : Int64) <<< ((mo_cells ship.toNatClampNeg).toInt64 &&& 63))), (0, .ref (pi 0)), (1, .ref (mo 0)), (2, .int ship), (3, .int cell)]) hx hb dX4_daysTo_11 hl (by decide) rfl (fun ls hl => ?_)
  have L13 : ∀ (n_ : Nat) (x4 : Int64) (i : Nat) , (i ≤ 41) → 41 - i < n_ → (fX4_daysTo_13 ch_rocks mo_kinds mo_illUntil mo_sailedToday mo_today mo_hired ship cell n_ x4 i) = RES → ∀ ls : Array Slot, lv_has ls 7 [(0, .ref (pi 0)), (1, .ref (mo 0)), (2, .int ship), (3, .int cell), (4, .long x4), (6, .int (nI i))] → W p l e (headSpec wsX4_daysTo ({ frames := 2, cells := 0, slots := 0, locals := 52 } : Room)).room s m ([.ref (pi 0), .ref (mo 0), .int ship, .int cell] : List Value).toArray below meth c s.heap [] 0 0 Q (F0 m 13 ls []) := by
    intro n_
    induction n_ with
    | zero => intro x4 i  hi hn; exact absurd hn (Nat.not_lt_zero _)
    | succ n_ ih =>
      intro x4 i  hi hn hE ls hl
      rw [fX4_daysTo_13] at hE
      have tn_i : (nI i).toInt = (i : Int) := nI_toInt (by omega)
      refine lv_iload hx hb dX4_daysTo_13 (lv_at hl 5 rfl) ?_
      refine lv_bipush (v := (40 : Int32)) hx hb dX4_daysTo_15 (by decide) ?_
      refine lv_icmp_gt (tgt := 58) hx hb dX4_daysTo_17 (by decide) (fun c_17 => ?_) (fun c_17 => ?_)
      · have e_17 := Int32.lt_iff_toInt_lt.mp c_17
        rw [if_pos c_17] at hE
        refine lv_lload hx hb dX4_daysTo_58 (lv_at hl 4 rfl) ?_
        refine lv_iload_n hx hb dX4_daysTo_60 rfl (lv_at hl 3 rfl) ?_
        refine lv_lshr hx hb dX4_daysTo_61 rfl ?_
        refine lv_lconst (v := (1 : Int64)) hx hb dX4_daysTo_62 (by decide) ?_
        refine lv_land hx hb dX4_daysTo_63 ?_
        refine lv_lconst (v := (0 : Int64)) hx hb dX4_daysTo_64 (by decide) ?_
        refine W.lcmp hx hb dX4_daysTo_65 ?_
        refine lv_if_eq (tgt := 74) hx hb dX4_daysTo_66 (by decide) (fun c_66 => ?_) (fun c_66 => ?_)
        · replace c_66 : ((x4 >>> (cell.toInt64 &&& 63)) &&& (1 : Int64)) = (0 : Int64) := (lg_cmp_eq _ _).mp c_66
          rw [if_pos c_66] at hE
          refine lv_iconst (v := (-1 : Int32)) hx hb dX4_daysTo_74 (by decide) ?_
          subst hE
          rw [← hQ]
          exact W.iret hx hb hr (fun t ht hW => ⟨_, rfl, rfl, ht⟩) (fun q h => absurd h List.not_mem_nil) dX4_daysTo_75
        · replace c_66 : ¬ ((x4 >>> (cell.toInt64 &&& 63)) &&& (1 : Int64)) = (0 : Int64) := fun q => c_66 ((lg_cmp_eq _ _).mpr q)
          rw [if_neg c_66] at hE
          refine lv_bipush (v := (41 : Int32)) hx hb dX4_daysTo_69 (by decide) ?_
          refine lv_goto (tgt := 75) hx hb dX4_daysTo_71 (by decide) ?_
          subst hE
          rw [← hQ]
          exact W.iret hx hb hr (fun t ht hW => ⟨_, rfl, rfl, ht⟩) (fun q h => absurd h List.not_mem_nil) dX4_daysTo_75
      · have e_17 := mt Int32.lt_iff_toInt_lt.mpr c_17
        rw [if_neg c_17] at hE
        refine lv_lload hx hb dX4_daysTo_20 (lv_at hl 4 rfl) ?_
        refine lv_iload_n hx hb dX4_daysTo_22 rfl (lv_at hl 3 rfl) ?_
        refine lv_lshr hx hb dX4_daysTo_23 rfl ?_
        refine lv_lconst (v := (1 : Int64)) hx hb dX4_daysTo_24 (by decide) ?_
        refine lv_land hx hb dX4_daysTo_25 ?_
        refine lv_lconst (v := (0 : Int64)) hx hb dX4_daysTo_26 (by decide) ?_
        refine W.lcmp hx hb dX4_daysTo_27 ?_
        refine lv_if_eq (tgt := 34) hx hb dX4_daysTo_28 (by decide) (fun c_28 => ?_) (fun c_28 => ?_)
        · replace c_28 : ((x4 >>> (cell.toInt64 &&& 63)) &&& (1 : Int64)) = (0 : Int64) := (lg_cmp_eq _ _).mp c_28
          rw [if_pos c_28] at hE
          refine lv_aload_n hx hb dX4_daysTo_34 rfl (lv_at hl 0 rfl) ?_
          refine va_get (D := (dC, dI)) (ci := 4) (v := .ref (ch 0)) (C := RX4) (T := TX4) (N := 2) hx hb hts in_X4 hown hK hP 0 rfl rfl 0 (by decide) t_fieldLink_RX4_12_FourLodgers_Pilot_chart_LFourLodgers_Chart (fun _ h9 => h9) rfl dX4_daysTo_35 ?_
          refine lv_lload hx hb dX4_daysTo_38 (lv_at hl 4 rfl) ?_
          refine lv_aload_n hx hb dX4_daysTo_40 rfl (lv_at hl 1 rfl) ?_
          refine lv_iload_n hx hb dX4_daysTo_41 rfl (lv_at hl 2 rfl) ?_
          refine lv_iload hx hb dX4_daysTo_42 (lv_at hl 5 rfl) ?_
          refine rcVi (As := [.int ship, .int (nI i)]) (rest := [.long x4, .ref (ch 0)]) ⟨hx, hb, hml, hown, hts⟩ (kX2_upFor l dC dI cI cJ mo mo_kinds mo_illUntil mo_cells mo_sailedToday mo_today mo_hired mo_timesSailed mo_seenCount mo_seenLodger mo_seenDay mo_seenUp ship (nI i)) (cwV 2 hts gX4_daysTo_X2_upFor rfl rfl rfl (by decide +kernel) ⟨Nat.le_of_ble_eq_true rfl, Nat.le_of_ble_eq_true rfl⟩) hK hP hst hS [3, 4, 5, 6, 7, 8, 9] rfl 3 rfl rfl rfl hl.1 rfl (Nat.le_of_ble_eq_true rfl) dX4_daysTo_44 ⟨Nat.zero_le _, Nat.zero_le _⟩ (fun r w_1 => ?_)
          subst w_1
          refine rcVl (As := [.long x4, .int (fX2_upFor mo_kinds mo_illUntil mo_sailedToday mo_today mo_hired ship (nI i))]) (rest := []) ⟨hx, hb, hml, hown, hts⟩ (kX0_spread l dC dI cI cJ ch ch_drawn ch_rocks ch_rockCount ch_shipCount x4 (fX2_upFor mo_kinds mo_illUntil mo_sailedToday mo_today mo_hired ship (nI i))) (cwV 2 hts gX4_daysTo_X0_spread rfl rfl rfl (by decide +kernel) ⟨Nat.le_of_ble_eq_true rfl, Nat.le_of_ble_eq_true rfl⟩) hK hP hst hS [2] rfl 2 rfl rfl rfl hl.1 rfl (Nat.le_of_ble_eq_true rfl) dX4_daysTo_47 ⟨Nat.zero_le _, Nat.zero_le _⟩ (fun r w_2 => ?_)
          subst w_2
          refine lv_lstore (lv' := [(4, .long (fX0_spread ch_rocks x4 (fX2_upFor mo_kinds mo_illUntil mo_sailedToday mo_today mo_hired ship (nI i)))), (0, .ref (pi 0)), (1, .ref (mo 0)), (2, .int ship), (3, .int cell), (6, .int (nI i))]) hx hb dX4_daysTo_50 hl (by decide) rfl (fun ls hl => ?_)
          refine lv_iinc (v := (nI (i + 1))) (lv' := [(6, .int (nI (i + 1))), (4, .long (fX0_spread ch_rocks x4 (fX2_upFor mo_kinds mo_illUntil mo_sailedToday mo_today mo_hired ship (nI i)))), (0, .ref (pi 0)), (1, .ref (mo 0)), (2, .int ship), (3, .int cell)]) hx hb dX4_daysTo_52 hl (k := 5) rfl (by rw [show Int32.ofInt 1 = nI 1 from rfl, nI_add]) (by decide) rfl (fun ls hl => ?_)
          refine lv_goto (tgt := 13) hx hb dX4_daysTo_55 (by decide) ?_
          exact ih (fX0_spread ch_rocks x4 (fX2_upFor mo_kinds mo_illUntil mo_sailedToday mo_today mo_hired ship (nI i))) ((i + 1))  (by omega) (by omega) hE ls (lv_sub hl [2, 3, 4, 5, 1, 0] rfl)
        · replace c_28 : ¬ ((x4 >>> (cell.toInt64 &&& 63)) &&& (1 : Int64)) = (0 : Int64) := fun q => c_28 ((lg_cmp_eq _ _).mpr q)
          rw [if_neg c_28] at hE
          refine lv_iload hx hb dX4_daysTo_31 (lv_at hl 5 rfl) ?_
          subst hE
          rw [← hQ]
          exact W.iret hx hb hr (fun t ht hW => ⟨_, rfl, rfl, ht⟩) (fun q h => absurd h List.not_mem_nil) dX4_daysTo_33
  exact L13 42 ((1 : Int64) <<< ((mo_cells ship.toNatClampNeg).toInt64 &&& 63)) (0)  (by omega) (by omega) hE ls (lv_sub hl [2, 3, 4, 5, 1, 0] rfl)
def fX4_daysToMeet_23 (ch_rocks : Int64) (mo_kinds : Nat → Int32) (mo_illUntil : Nat → Int32) (mo_sailedToday : Int32) (mo_today : Int32) (mo_hired : Int32) (a_ : Int32) (b_ : Int32) : Nat → Int64 → Int64 → Nat → Int32
  | 0, _, _, _ => 0
  | n_ + 1, x4, x6, i => (if (40 : Int32) < (nI i) then (if (x4 &&& x6) = (0 : Int64) then (-1 : Int32) else (41 : Int32)) else (if (x4 &&& x6) = (0 : Int64) then (fX4_daysToMeet_23 ch_rocks mo_kinds mo_illUntil mo_sailedToday mo_today mo_hired a_ b_ n_ (fX0_spread ch_rocks x4 (fX2_upFor mo_kinds mo_illUntil mo_sailedToday mo_today mo_hired a_ (nI i))) (fX0_spread ch_rocks x6 (fX2_upFor mo_kinds mo_illUntil mo_sailedToday mo_today mo_hired b_ (nI i))) ((i + 1))) else (nI i)))
def fX4_daysToMeet (ch_rocks : Int64) (mo_kinds : Nat → Int32) (mo_illUntil : Nat → Int32) (mo_cells : Nat → Int32) (mo_sailedToday : Int32) (mo_today : Int32) (mo_hired : Int32) (a_ : Int32) (b_ : Int32) : Int32 := (fX4_daysToMeet_23 ch_rocks mo_kinds mo_illUntil mo_sailedToday mo_today mo_hired a_ b_ 42 ((1 : Int64) <<< ((mo_cells a_.toNatClampNeg).toInt64 &&& 63)) ((1 : Int64) <<< ((mo_cells b_.toNatClampNeg).toInt64 &&& 63)) (0))
set_option maxHeartbeats 4000000 in
set_option maxRecDepth 100000 in
theorem kX4_daysToMeet (l : Launch) (dC : Nat → ClassId) (dI : Nat → Nat → Nat) (cI cJ : ClassId) (pi : Nat → Nat) (ch : Nat → Nat) (mo : Nat → Nat) (pi_origins : Nat → Int64) (ch_drawn : Int32) (ch_rocks : Int64) (ch_rockCount : Int32) (ch_shipCount : Int32) (mo_kinds : Nat → Int32) (mo_illUntil : Nat → Int32) (mo_cells : Nat → Int32) (mo_sailedToday : Int32) (mo_today : Int32) (mo_hired : Int32) (mo_timesSailed : Int32) (mo_seenCount : Int32) (mo_seenLodger : Nat → Int32) (mo_seenDay : Nat → Int32) (mo_seenUp : Nat → Int32) (a_ : Int32) (b_ : Int32) (p_1 : vp_in a_ 3) (p_2 : vp_in b_ 3) : Met l yX4_daysToMeet wsX4_daysToMeet ({ frames := 2, cells := 0, slots := 0, locals := 52 } : Room) (gR (dC, dI) cI cJ ((kPi cJ pi (ch 0) pi_origins) ++ ((kCh ch ch_drawn ch_rocks ch_rockCount ch_shipCount) ++ (kMo cI mo mo_kinds mo_illUntil mo_cells mo_sailedToday mo_today mo_hired mo_timesSailed mo_seenCount mo_seenLodger mo_seenDay mo_seenUp))) ([.ref (pi 0), .ref (mo 0), .int a_, .int b_] : List Value)) (vp_Si (fun r => r = (fX4_daysToMeet ch_rocks mo_kinds mo_illUntil mo_cells mo_sailedToday mo_today mo_hired a_ b_))) 0 0 (fun _ => False) := by
  refine Met.ofW (cc := cX4_daysToMeet) (maxL := 9) (ret := (some .int)) (by decide) rfl ?_
  intro p e s m args below meth c s₁ B hml hv
  obtain ⟨rfl, hP, hK, hst⟩ := hv
  have hx := B.exec
  have hb := B.bytes
  have hr := B.returns
  have hts := atoms_spec (ws := wsX4_daysToMeet) B.pre
  have hown : s.vm.findClass RX4 = some m.cls := findClass_of_methodNamed B.named
  have hlocks := B.notSynchronized
  have hS : va_S (fun _ => False) s.heap s.heap [] := va_S.rf
  generalize hE : (fX4_daysToMeet ch_rocks mo_kinds mo_illUntil mo_cells mo_sailedToday mo_today mo_hired a_ b_) = RES
  generalize hQ : MQ below (vp_Si (fun r => r = RES)) ([.ref (pi 0), .ref (mo 0), .int a_, .int b_] : List Value).toArray s 0 0 (fun _ => False) = Q
  have hl := lv_entry ([.ref (pi 0), .ref (mo 0), .int a_, .int b_] : List Value) (n := 9) (Nat.le_of_ble_eq_true rfl)
  rw [lg_entry_eq]
  generalize (lg_sl ([.ref (pi 0), .ref (mo 0), .int a_, .int b_] : List Value) ++ List.replicate (9 - (lg_sl ([.ref (pi 0), .ref (mo 0), .int a_, .int b_] : List Value)).length) Slot.unset).toArray = ls at hl ⊢
  have hl : lv_has ls 9 [(0, .ref (pi 0)), (1, .ref (mo 0)), (2, .int a_), (3, .int b_)] := hl
  have in_X2 : ∀ w ∈ u_ws RX2 TX2 11, w ∈ wsX4_daysToMeet := fun _ h => List.mem_cons_of_mem _ (List.mem_append_left _ (List.mem_append_left _ (List.mem_append_right _ h)))
  have in_X4 : ∀ w ∈ u_ws RX4 TX4 2, w ∈ wsX4_daysToMeet := fun _ h => List.mem_cons_of_mem _ (List.mem_append_left _ (List.mem_append_right _ h))
  have t_fieldLink_RX4_12_FourLodgers_Pilot_chart_LFourLodgers_Chart := hts (.fieldLink RX4 12 "FourLodgers$Pilot" "chart" "LFourLodgers$Chart;") (List.mem_of_getElem? (i := 2) rfl)
  have t_fieldLink_RX4_28_FourLodgers_Moment_cells_I := hts (.fieldLink RX4 28 "FourLodgers$Moment" "cells" "[I") (List.mem_of_getElem? (i := 1) rfl)
  have i_m1 : (-1 : Int32).toInt = -1 := by decide
  have i_0 : (0 : Int32).toInt = 0 := by decide
  have i_40 : (40 : Int32).toInt = 40 := by decide
  have i_41 : (41 : Int32).toInt = 41 := by decide
  have p_1' := vp_in_iff.mp p_1
  have p_2' := vp_in_iff.mp p_2
  rw [fX4_daysToMeet] at hE
  refine lv_lconst (v := (1 : Int64)) hx hb dX4_daysToMeet_0 (by decide) ?_
  refine lv_aload_n hx hb dX4_daysToMeet_1 rfl (lv_at hl 1 rfl) ?_
  refine va_get (D := (dC, dI)) (ci := 2) (v := .ref (mo 3)) (C := RX2) (T := TX2) (N := 11) hx hb hts in_X2 hown hK hP 3 rfl rfl 2 (by decide) t_fieldLink_RX4_28_FourLodgers_Moment_cells_I (fun _ h9 => h9) rfl dX4_daysToMeet_2 ?_
  refine lv_iload_n hx hb dX4_daysToMeet_5 rfl (lv_at hl 2 rfl) ?_
  refine va_iald hx hb hK hP 6 0 rfl rfl (i := a_) (by first | assumption | exact vp_in_iff.mpr ⟨by omega, by omega⟩ | omega | decide) dX4_daysToMeet_6 ?_
  refine lv_lshl hx hb dX4_daysToMeet_7 rfl ?_
  refine lv_lstore (lv' := [(4, .long ((1 : Int64) <<< ((mo_cells a_.toNatClampNeg).toInt64 &&& 63))), (0, .ref (pi 0)), (1, .ref (mo 0)), (2, .int a_), (3, .int b_)]) hx hb dX4_daysToMeet_8 hl (by decide) rfl (fun ls hl => ?_)
  refine lv_lconst (v := (1 : Int64)) hx hb dX4_daysToMeet_10 (by decide) ?_
  refine lv_aload_n hx hb dX4_daysToMeet_11 rfl (lv_at hl 2 rfl) ?_
  refine va_get (D := (dC, dI)) (ci := 2) (v := .ref (mo 3)) (C := RX2) (T := TX2) (N := 11) hx hb hts in_X2 hown hK hP 3 rfl rfl 2 (by decide) t_fieldLink_RX4_28_FourLodgers_Moment_cells_I (fun _ h9 => h9) rfl dX4_daysToMeet_12 ?_
  refine lv_iload_n hx hb dX4_daysToMeet_15 rfl (lv_at hl 4 rfl) ?_
  refine va_iald hx hb hK hP 6 0 rfl rfl (i := b_) (by first | assumption | exact vp_in_iff.mpr ⟨by omega, by omega⟩ | omega | decide) dX4_daysToMeet_16 ?_
  refine lv_lshl hx hb dX4_daysToMeet_17 rfl ?_
  refine lv_lstore (lv' := [(6, .long ((1 : Int64) <<< ((mo_cells b_.toNatClampNeg).toInt64 &&& 63))), (4, .long ((1 : Int64) <<< ((mo_cells a_.toNatClampNeg).toInt64 &&& 63))), (0, .ref (pi 0)), (1, .ref (mo 0)), (2, .int a_), (3, .int b_)]) hx hb dX4_daysToMeet_18 hl (by decide) rfl (fun ls hl => ?_)
  refine lv_iconst (v := (0 : Int32)) hx hb dX4_daysToMeet_20 (by decide) ?_
  refine lv_istore (lv' := [(8, .int (0 : Int32)), (6, .long ((1 : Int64) <<< ((mo_cells b_.toNatClampNeg).toInt64 &&& 63))), (4, .long ((1 : Int64) <<< ((mo_cells a_.toNatClampNeg).toInt64 &&& 63))), (0, .ref (pi 0)), (1, .ref (mo 0)), (2, .int a_), (3, .int b_)]) hx hb dX4_daysToMeet_21 hl (by decide) rfl (fun ls hl => ?_)
  have L23 : ∀ (n_ : Nat) (x4 : Int64) (x6 : Int64) (i : Nat) , (i ≤ 41) → 41 - i < n_ → (fX4_daysToMeet_23 ch_rocks mo_kinds mo_illUntil mo_sailedToday mo_today mo_hired a_ b_ n_ x4 x6 i) = RES → ∀ ls : Array Slot, lv_has ls 9 [(0, .ref (pi 0)), (1, .ref (mo 0)), (2, .int a_), (3, .int b_), (4, .long x4), (6, .long x6), (8, .int (nI i))] → W p l e (headSpec wsX4_daysToMeet ({ frames := 2, cells := 0, slots := 0, locals := 52 } : Room)).room s m ([.ref (pi 0), .ref (mo 0), .int a_, .int b_] : List Value).toArray below meth c s.heap [] 0 0 Q (F0 m 23 ls []) := by
    intro n_
    induction n_ with
    | zero => intro x4 x6 i  hi hn; exact absurd hn (Nat.not_lt_zero _)
    | succ n_ ih =>
      intro x4 x6 i  hi hn hE ls hl
      rw [fX4_daysToMeet_23] at hE
      have tn_i : (nI i).toInt = (i : Int) := nI_toInt (by omega)
      refine lv_iload hx hb dX4_daysToMeet_23 (lv_at hl 6 rfl) ?_
      refine lv_bipush (v := (40 : Int32)) hx hb dX4_daysToMeet_25 (by decide) ?_
      refine lv_icmp_gt (tgt := 85) hx hb dX4_daysToMeet_27 (by decide) (fun c_27 => ?_) (fun c_27 => ?_)
      · have e_27 := Int32.lt_iff_toInt_lt.mp c_27
        rw [if_pos c_27] at hE
        refine lv_lload hx hb dX4_daysToMeet_85 (lv_at hl 4 rfl) ?_
        refine lv_lload hx hb dX4_daysToMeet_87 (lv_at hl 5 rfl) ?_
        refine lv_land hx hb dX4_daysToMeet_89 ?_
        refine lv_lconst (v := (0 : Int64)) hx hb dX4_daysToMeet_90 (by decide) ?_
        refine W.lcmp hx hb dX4_daysToMeet_91 ?_
        refine lv_if_eq (tgt := 100) hx hb dX4_daysToMeet_92 (by decide) (fun c_92 => ?_) (fun c_92 => ?_)
        · replace c_92 : (x4 &&& x6) = (0 : Int64) := (lg_cmp_eq _ _).mp c_92
          rw [if_pos c_92] at hE
          refine lv_iconst (v := (-1 : Int32)) hx hb dX4_daysToMeet_100 (by decide) ?_
          subst hE
          rw [← hQ]
          exact W.iret hx hb hr (fun t ht hW => ⟨_, rfl, rfl, ht⟩) (fun q h => absurd h List.not_mem_nil) dX4_daysToMeet_101
        · replace c_92 : ¬ (x4 &&& x6) = (0 : Int64) := fun q => c_92 ((lg_cmp_eq _ _).mpr q)
          rw [if_neg c_92] at hE
          refine lv_bipush (v := (41 : Int32)) hx hb dX4_daysToMeet_95 (by decide) ?_
          refine lv_goto (tgt := 101) hx hb dX4_daysToMeet_97 (by decide) ?_
          subst hE
          rw [← hQ]
          exact W.iret hx hb hr (fun t ht hW => ⟨_, rfl, rfl, ht⟩) (fun q h => absurd h List.not_mem_nil) dX4_daysToMeet_101
      · have e_27 := mt Int32.lt_iff_toInt_lt.mpr c_27
        rw [if_neg c_27] at hE
        refine lv_lload hx hb dX4_daysToMeet_30 (lv_at hl 4 rfl) ?_
        refine lv_lload hx hb dX4_daysToMeet_32 (lv_at hl 5 rfl) ?_
        refine lv_land hx hb dX4_daysToMeet_34 ?_
        refine lv_lconst (v := (0 : Int64)) hx hb dX4_daysToMeet_35 (by decide) ?_
        refine W.lcmp hx hb dX4_daysToMeet_36 ?_
        refine lv_if_eq (tgt := 43) hx hb dX4_daysToMeet_37 (by decide) (fun c_37 => ?_) (fun c_37 => ?_)
        · replace c_37 : (x4 &&& x6) = (0 : Int64) := (lg_cmp_eq _ _).mp c_37
          rw [if_pos c_37] at hE
          refine lv_aload_n hx hb dX4_daysToMeet_43 rfl (lv_at hl 0 rfl) ?_
          refine va_get (D := (dC, dI)) (ci := 4) (v := .ref (ch 0)) (C := RX4) (T := TX4) (N := 2) hx hb hts in_X4 hown hK hP 0 rfl rfl 0 (by decide) t_fieldLink_RX4_12_FourLodgers_Pilot_chart_LFourLodgers_Chart (fun _ h9 => h9) rfl dX4_daysToMeet_44 ?_
          refine lv_lload hx hb dX4_daysToMeet_47 (lv_at hl 4 rfl) ?_
          refine lv_aload_n hx hb dX4_daysToMeet_49 rfl (lv_at hl 1 rfl) ?_
          refine lv_iload_n hx hb dX4_daysToMeet_50 rfl (lv_at hl 2 rfl) ?_
          refine lv_iload hx hb dX4_daysToMeet_51 (lv_at hl 6 rfl) ?_
          refine rcVi (As := [.int a_, .int (nI i)]) (rest := [.long x4, .ref (ch 0)]) ⟨hx, hb, hml, hown, hts⟩ (kX2_upFor l dC dI cI cJ mo mo_kinds mo_illUntil mo_cells mo_sailedToday mo_today mo_hired mo_timesSailed mo_seenCount mo_seenLodger mo_seenDay mo_seenUp a_ (nI i)) (cwV 2 hts gX4_daysToMeet_X2_upFor rfl rfl rfl (by decide +kernel) ⟨Nat.le_of_ble_eq_true rfl, Nat.le_of_ble_eq_true rfl⟩) hK hP hst hS [3, 4, 5, 6, 7, 8, 9] rfl 3 rfl rfl rfl hl.1 rfl (Nat.le_of_ble_eq_true rfl) dX4_daysToMeet_53 ⟨Nat.zero_le _, Nat.zero_le _⟩ (fun r w_1 => ?_)
          subst w_1
          refine rcVl (As := [.long x4, .int (fX2_upFor mo_kinds mo_illUntil mo_sailedToday mo_today mo_hired a_ (nI i))]) (rest := []) ⟨hx, hb, hml, hown, hts⟩ (kX0_spread l dC dI cI cJ ch ch_drawn ch_rocks ch_rockCount ch_shipCount x4 (fX2_upFor mo_kinds mo_illUntil mo_sailedToday mo_today mo_hired a_ (nI i))) (cwV 2 hts gX4_daysToMeet_X0_spread rfl rfl rfl (by decide +kernel) ⟨Nat.le_of_ble_eq_true rfl, Nat.le_of_ble_eq_true rfl⟩) hK hP hst hS [2] rfl 2 rfl rfl rfl hl.1 rfl (Nat.le_of_ble_eq_true rfl) dX4_daysToMeet_56 ⟨Nat.zero_le _, Nat.zero_le _⟩ (fun r w_2 => ?_)
          subst w_2
          refine lv_lstore (lv' := [(4, .long (fX0_spread ch_rocks x4 (fX2_upFor mo_kinds mo_illUntil mo_sailedToday mo_today mo_hired a_ (nI i)))), (0, .ref (pi 0)), (1, .ref (mo 0)), (2, .int a_), (3, .int b_), (6, .long x6), (8, .int (nI i))]) hx hb dX4_daysToMeet_59 hl (by decide) rfl (fun ls hl => ?_)
          refine lv_aload_n hx hb dX4_daysToMeet_61 rfl (lv_at hl 1 rfl) ?_
          refine va_get (D := (dC, dI)) (ci := 4) (v := .ref (ch 0)) (C := RX4) (T := TX4) (N := 2) hx hb hts in_X4 hown hK hP 0 rfl rfl 0 (by decide) t_fieldLink_RX4_12_FourLodgers_Pilot_chart_LFourLodgers_Chart (fun _ h9 => h9) rfl dX4_daysToMeet_62 ?_
          refine lv_lload hx hb dX4_daysToMeet_65 (lv_at hl 5 rfl) ?_
          refine lv_aload_n hx hb dX4_daysToMeet_67 rfl (lv_at hl 2 rfl) ?_
          refine lv_iload_n hx hb dX4_daysToMeet_68 rfl (lv_at hl 4 rfl) ?_
          refine lv_iload hx hb dX4_daysToMeet_69 (lv_at hl 6 rfl) ?_
          refine rcVi (As := [.int b_, .int (nI i)]) (rest := [.long x6, .ref (ch 0)]) ⟨hx, hb, hml, hown, hts⟩ (kX2_upFor l dC dI cI cJ mo mo_kinds mo_illUntil mo_cells mo_sailedToday mo_today mo_hired mo_timesSailed mo_seenCount mo_seenLodger mo_seenDay mo_seenUp b_ (nI i)) (cwV 2 hts gX4_daysToMeet_X2_upFor rfl rfl rfl (by decide +kernel) ⟨Nat.le_of_ble_eq_true rfl, Nat.le_of_ble_eq_true rfl⟩) hK hP hst hS [3, 4, 5, 6, 7, 8, 9] rfl 3 rfl rfl rfl hl.1 rfl (Nat.le_of_ble_eq_true rfl) dX4_daysToMeet_71 ⟨Nat.zero_le _, Nat.zero_le _⟩ (fun r w_3 => ?_)
          subst w_3
          refine rcVl (As := [.long x6, .int (fX2_upFor mo_kinds mo_illUntil mo_sailedToday mo_today mo_hired b_ (nI i))]) (rest := []) ⟨hx, hb, hml, hown, hts⟩ (kX0_spread l dC dI cI cJ ch ch_drawn ch_rocks ch_rockCount ch_shipCount x6 (fX2_upFor mo_kinds mo_illUntil mo_sailedToday mo_today mo_hired b_ (nI i))) (cwV 2 hts gX4_daysToMeet_X0_spread rfl rfl rfl (by decide +kernel) ⟨Nat.le_of_ble_eq_true rfl, Nat.le_of_ble_eq_true rfl⟩) hK hP hst hS [2] rfl 2 rfl rfl rfl hl.1 rfl (Nat.le_of_ble_eq_true rfl) dX4_daysToMeet_74 ⟨Nat.zero_le _, Nat.zero_le _⟩ (fun r w_4 => ?_)
          subst w_4
          refine lv_lstore (lv' := [(6, .long (fX0_spread ch_rocks x6 (fX2_upFor mo_kinds mo_illUntil mo_sailedToday mo_today mo_hired b_ (nI i)))), (4, .long (fX0_spread ch_rocks x4 (fX2_upFor mo_kinds mo_illUntil mo_sailedToday mo_today mo_hired a_ (nI i)))), (0, .ref (pi 0)), (1, .ref (mo 0)), (2, .int a_), (3, .int b_), (8, .int (nI i))]) hx hb dX4_daysToMeet_77 hl (by decide) rfl (fun ls hl => ?_)
          refine lv_iinc (v := (nI (i + 1))) (lv' := [(8, .int (nI (i + 1))), (6, .long (fX0_spread ch_rocks x6 (fX2_upFor mo_kinds mo_illUntil mo_sailedToday mo_today mo_hired b_ (nI i)))), (4, .long (fX0_spread ch_rocks x4 (fX2_upFor mo_kinds mo_illUntil mo_sailedToday mo_today mo_hired a_ (nI i)))), (0, .ref (pi 0)), (1, .ref (mo 0)), (2, .int a_), (3, .int b_)]) hx hb dX4_daysToMeet_79 hl (k := 6) rfl (by rw [show Int32.ofInt 1 = nI 1 from rfl, nI_add]) (by decide) rfl (fun ls hl => ?_)
          refine lv_goto (tgt := 23) hx hb dX4_daysToMeet_82 (by decide) ?_
          exact ih (fX0_spread ch_rocks x4 (fX2_upFor mo_kinds mo_illUntil mo_sailedToday mo_today mo_hired a_ (nI i))) (fX0_spread ch_rocks x6 (fX2_upFor mo_kinds mo_illUntil mo_sailedToday mo_today mo_hired b_ (nI i))) ((i + 1))  (by omega) (by omega) hE ls (lv_sub hl [3, 4, 5, 6, 2, 1, 0] rfl)
        · replace c_37 : ¬ (x4 &&& x6) = (0 : Int64) := fun q => c_37 ((lg_cmp_eq _ _).mpr q)
          rw [if_neg c_37] at hE
          refine lv_iload hx hb dX4_daysToMeet_40 (lv_at hl 6 rfl) ?_
          subst hE
          rw [← hQ]
          exact W.iret hx hb hr (fun t ht hW => ⟨_, rfl, rfl, ht⟩) (fun q h => absurd h List.not_mem_nil) dX4_daysToMeet_42
  exact L23 42 ((1 : Int64) <<< ((mo_cells a_.toNatClampNeg).toInt64 &&& 63)) ((1 : Int64) <<< ((mo_cells b_.toNatClampNeg).toInt64 &&& 63)) (0)  (by omega) (by omega) hE ls (lv_sub hl [3, 4, 5, 6, 2, 1, 0] rfl)
def fX4_firstHelm_3 (ch_rocks : Int64) (at_ : Int32) (up : Int32) (goals : Int64) : Nat → Nat → Int32
  | 0, _ => 0
  | n_ + 1, i => (if (4 : Int32) < (nI i) then (5 : Int32) else (if ((up >>> ((nI i) &&& 31)) &&& (1 : Int32)) = (0 : Int32) then (fX4_firstHelm_3 ch_rocks at_ up goals n_ ((i + 1))) else (if ((fX0_movedBy ch_rocks ((1 : Int64) <<< (at_.toInt64 &&& 63)) (nI i)) &&& goals) = (0 : Int64) then (fX4_firstHelm_3 ch_rocks at_ up goals n_ ((i + 1))) else (nI i))))
def fX4_firstHelm (ch_rocks : Int64) (at_ : Int32) (up : Int32) (goals : Int64) : Int32 := (fX4_firstHelm_3 ch_rocks at_ up goals 6 (0))
set_option maxHeartbeats 4000000 in
set_option maxRecDepth 100000 in
theorem kX4_firstHelm (l : Launch) (dC : Nat → ClassId) (dI : Nat → Nat → Nat) (cI cJ : ClassId) (pi : Nat → Nat) (ch : Nat → Nat) (pi_origins : Nat → Int64) (ch_drawn : Int32) (ch_rocks : Int64) (ch_rockCount : Int32) (ch_shipCount : Int32) (at_ : Int32) (up : Int32) (goals : Int64) : Met l yX4_firstHelm wsX4_firstHelm ({ frames := 1, cells := 0, slots := 0, locals := 26 } : Room) (gR (dC, dI) cI cJ ((kPi cJ pi (ch 0) pi_origins) ++ (kCh ch ch_drawn ch_rocks ch_rockCount ch_shipCount)) ([.ref (pi 0), .int at_, .int up, .long goals] : List Value)) (vp_Si (fun r => r = (fX4_firstHelm ch_rocks at_ up goals))) 0 0 (fun _ => False) := by
  refine Met.ofW (cc := cX4_firstHelm) (maxL := 6) (ret := (some .int)) (by decide) rfl ?_
  intro p e s m args below meth c s₁ B hml hv
  obtain ⟨rfl, hP, hK, hst⟩ := hv
  have hx := B.exec
  have hb := B.bytes
  have hr := B.returns
  have hts := atoms_spec (ws := wsX4_firstHelm) B.pre
  have hown : s.vm.findClass RX4 = some m.cls := findClass_of_methodNamed B.named
  have hlocks := B.notSynchronized
  have hS : va_S (fun _ => False) s.heap s.heap [] := va_S.rf
  generalize hE : (fX4_firstHelm ch_rocks at_ up goals) = RES
  generalize hQ : MQ below (vp_Si (fun r => r = RES)) ([.ref (pi 0), .int at_, .int up, .long goals] : List Value).toArray s 0 0 (fun _ => False) = Q
  have hl := lv_entry ([.ref (pi 0), .int at_, .int up, .long goals] : List Value) (n := 6) (Nat.le_of_ble_eq_true rfl)
  rw [lg_entry_eq]
  generalize (lg_sl ([.ref (pi 0), .int at_, .int up, .long goals] : List Value) ++ List.replicate (6 - (lg_sl ([.ref (pi 0), .int at_, .int up, .long goals] : List Value)).length) Slot.unset).toArray = ls at hl ⊢
  have hl : lv_has ls 6 [(0, .ref (pi 0)), (1, .int at_), (2, .int up), (3, .long goals)] := hl
  have in_X4 : ∀ w ∈ u_ws RX4 TX4 2, w ∈ wsX4_firstHelm := fun _ h => List.mem_cons_of_mem _ (List.mem_append_left _ (List.mem_append_right _ h))
  have t_fieldLink_RX4_12_FourLodgers_Pilot_chart_LFourLodgers_Chart := hts (.fieldLink RX4 12 "FourLodgers$Pilot" "chart" "LFourLodgers$Chart;") (List.mem_of_getElem? (i := 1) rfl)
  have i_0 : (0 : Int32).toInt = 0 := by decide
  have i_1 : (1 : Int32).toInt = 1 := by decide
  have i_4 : (4 : Int32).toInt = 4 := by decide
  have i_5 : (5 : Int32).toInt = 5 := by decide
  rw [fX4_firstHelm] at hE
  refine lv_iconst (v := (0 : Int32)) hx hb dX4_firstHelm_0 (by decide) ?_
  refine lv_istore (lv' := [(5, .int (0 : Int32)), (0, .ref (pi 0)), (1, .int at_), (2, .int up), (3, .long goals)]) hx hb dX4_firstHelm_1 hl (by decide) rfl (fun ls hl => ?_)
  have L3 : ∀ (n_ : Nat) (i : Nat) , (i ≤ 5) → 5 - i < n_ → (fX4_firstHelm_3 ch_rocks at_ up goals n_ i) = RES → ∀ ls : Array Slot, lv_has ls 6 [(0, .ref (pi 0)), (1, .int at_), (2, .int up), (3, .long goals), (5, .int (nI i))] → W p l e (headSpec wsX4_firstHelm ({ frames := 1, cells := 0, slots := 0, locals := 26 } : Room)).room s m ([.ref (pi 0), .int at_, .int up, .long goals] : List Value).toArray below meth c s.heap [] 0 0 Q (F0 m 3 ls []) := by
    intro n_
    induction n_ with
    | zero => intro i  hi hn; exact absurd hn (Nat.not_lt_zero _)
    | succ n_ ih =>
      intro i  hi hn hE ls hl
      rw [fX4_firstHelm_3] at hE
      have tn_i : (nI i).toInt = (i : Int) := nI_toInt (by omega)
      refine lv_iload hx hb dX4_firstHelm_3 (lv_at hl 4 rfl) ?_
      refine lv_iconst (v := (4 : Int32)) hx hb dX4_firstHelm_5 (by decide) ?_
      refine lv_icmp_gt (tgt := 46) hx hb dX4_firstHelm_6 (by decide) (fun c_6 => ?_) (fun c_6 => ?_)
      · have e_6 := Int32.lt_iff_toInt_lt.mp c_6
        rw [if_pos c_6] at hE
        refine lv_iconst (v := (5 : Int32)) hx hb dX4_firstHelm_46 (by decide) ?_
        subst hE
        rw [← hQ]
        exact W.iret hx hb hr (fun t ht hW => ⟨_, rfl, rfl, ht⟩) (fun q h => absurd h List.not_mem_nil) dX4_firstHelm_47
      · have e_6 := mt Int32.lt_iff_toInt_lt.mpr c_6
        rw [if_neg c_6] at hE
        refine lv_iload_n hx hb dX4_firstHelm_9 rfl (lv_at hl 2 rfl) ?_
        refine lv_iload hx hb dX4_firstHelm_10 (lv_at hl 4 rfl) ?_
        refine lv_ishr hx hb dX4_firstHelm_12 ?_
        refine lv_iconst (v := (1 : Int32)) hx hb dX4_firstHelm_13 (by decide) ?_
        refine lv_iand hx hb dX4_firstHelm_14 ?_
        refine lv_if_eq (tgt := 40) hx hb dX4_firstHelm_15 (by decide) (fun c_15 => ?_) (fun c_15 => ?_)
        · rw [if_pos c_15] at hE
          refine lv_iinc (v := (nI (i + 1))) (lv' := [(5, .int (nI (i + 1))), (0, .ref (pi 0)), (1, .int at_), (2, .int up), (3, .long goals)]) hx hb dX4_firstHelm_40 hl (k := 4) rfl (by rw [show Int32.ofInt 1 = nI 1 from rfl, nI_add]) (by decide) rfl (fun ls hl => ?_)
          refine lv_goto (tgt := 3) hx hb dX4_firstHelm_43 (by decide) ?_
          exact ih ((i + 1))  (by omega) (by omega) hE ls (lv_sub hl [1, 2, 3, 4, 0] rfl)
        · rw [if_neg c_15] at hE
          refine lv_aload_n hx hb dX4_firstHelm_18 rfl (lv_at hl 0 rfl) ?_
          refine va_get (D := (dC, dI)) (ci := 4) (v := .ref (ch 0)) (C := RX4) (T := TX4) (N := 2) hx hb hts in_X4 hown hK hP 0 rfl rfl 0 (by decide) t_fieldLink_RX4_12_FourLodgers_Pilot_chart_LFourLodgers_Chart (fun _ h9 => h9) rfl dX4_firstHelm_19 ?_
          refine lv_lconst (v := (1 : Int64)) hx hb dX4_firstHelm_22 (by decide) ?_
          refine lv_iload_n hx hb dX4_firstHelm_23 rfl (lv_at hl 1 rfl) ?_
          refine lv_lshl hx hb dX4_firstHelm_24 rfl ?_
          refine lv_iload hx hb dX4_firstHelm_25 (lv_at hl 4 rfl) ?_
          refine rcVl (As := [.long ((1 : Int64) <<< (at_.toInt64 &&& 63)), .int (nI i)]) (rest := []) ⟨hx, hb, hml, hown, hts⟩ (kX0_movedBy l dC dI cI cJ ch ch_drawn ch_rocks ch_rockCount ch_shipCount ((1 : Int64) <<< (at_.toInt64 &&& 63)) (nI i) (by first | assumption | exact vp_in_iff.mpr ⟨by omega, by omega⟩ | omega | decide)) (cwV 2 hts gX4_firstHelm_X0_movedBy rfl rfl rfl (by decide +kernel) ⟨Nat.le_of_ble_eq_true rfl, Nat.le_of_ble_eq_true rfl⟩) hK hP hst hS [2] rfl 2 rfl rfl rfl hl.1 rfl (Nat.le_of_ble_eq_true rfl) dX4_firstHelm_27 ⟨Nat.zero_le _, Nat.zero_le _⟩ (fun r w_1 => ?_)
          subst w_1
          refine lv_lload_n hx hb dX4_firstHelm_30 rfl (lv_at hl 3 rfl) ?_
          refine lv_land hx hb dX4_firstHelm_31 ?_
          refine lv_lconst (v := (0 : Int64)) hx hb dX4_firstHelm_32 (by decide) ?_
          refine W.lcmp hx hb dX4_firstHelm_33 ?_
          refine lv_if_eq (tgt := 40) hx hb dX4_firstHelm_34 (by decide) (fun c_34 => ?_) (fun c_34 => ?_)
          · replace c_34 : ((fX0_movedBy ch_rocks ((1 : Int64) <<< (at_.toInt64 &&& 63)) (nI i)) &&& goals) = (0 : Int64) := (lg_cmp_eq _ _).mp c_34
            rw [if_pos c_34] at hE
            refine lv_iinc (v := (nI (i + 1))) (lv' := [(5, .int (nI (i + 1))), (0, .ref (pi 0)), (1, .int at_), (2, .int up), (3, .long goals)]) hx hb dX4_firstHelm_40 hl (k := 4) rfl (by rw [show Int32.ofInt 1 = nI 1 from rfl, nI_add]) (by decide) rfl (fun ls hl => ?_)
            refine lv_goto (tgt := 3) hx hb dX4_firstHelm_43 (by decide) ?_
            exact ih ((i + 1))  (by omega) (by omega) hE ls (lv_sub hl [1, 2, 3, 4, 0] rfl)
          · replace c_34 : ¬ ((fX0_movedBy ch_rocks ((1 : Int64) <<< (at_.toInt64 &&& 63)) (nI i)) &&& goals) = (0 : Int64) := fun q => c_34 ((lg_cmp_eq _ _).mpr q)
            rw [if_neg c_34] at hE
            refine lv_iload hx hb dX4_firstHelm_37 (lv_at hl 4 rfl) ?_
            subst hE
            rw [← hQ]
            exact W.iret hx hb hr (fun t ht hW => ⟨_, rfl, rfl, ht⟩) (fun q h => absurd h List.not_mem_nil) dX4_firstHelm_39
  exact L3 6 (0)  (by omega) (by omega) hE ls (lv_sub hl [1, 2, 3, 4, 0] rfl)
def fX4_traceBack_16 (ch_rocks : Int64) (mo_kinds : Nat → Int32) (mo_illUntil : Nat → Int32) (mo_sailedToday : Int32) (mo_today : Int32) (mo_hired : Int32) (ship : Int32) : Nat → Int32 → (Nat → Int64) → (Nat → Int64)
  | 0, _, _ => (fun _ => 0)
  | n_ + 1, x5, pi_origins_16 => (if x5 < (0 : Int32) then pi_origins_16 else (fX4_traceBack_16 ch_rocks mo_kinds mo_illUntil mo_sailedToday mo_today mo_hired ship n_ (x5 + (-1 : Int32)) (vp_updL pi_origins_16 x5.toNatClampNeg (fX0_spreadBack ch_rocks (pi_origins_16 (x5 + (1 : Int32)).toNatClampNeg) (fX2_upFor mo_kinds mo_illUntil mo_sailedToday mo_today mo_hired ship x5)))))
def fX4_traceBack (pi_origins : Nat → Int64) (ch_rocks : Int64) (mo_kinds : Nat → Int32) (mo_illUntil : Nat → Int32) (mo_sailedToday : Int32) (mo_today : Int32) (mo_hired : Int32) (ship : Int32) (cell : Int32) (days : Int32) : (Nat → Int64) := (fX4_traceBack_16 ch_rocks mo_kinds mo_illUntil mo_sailedToday mo_today mo_hired ship 42 (days - (1 : Int32)) (vp_updL pi_origins days.toNatClampNeg ((1 : Int64) <<< (cell.toInt64 &&& 63))))
set_option maxHeartbeats 4000000 in
set_option maxRecDepth 100000 in
theorem kX4_traceBack (l : Launch) (dC : Nat → ClassId) (dI : Nat → Nat → Nat) (cI cJ : ClassId) (sz : Nat) (pi : Nat → Nat) (ch : Nat → Nat) (mo : Nat → Nat) (pi_origins : Nat → Int64) (ch_drawn : Int32) (ch_rocks : Int64) (ch_rockCount : Int32) (ch_shipCount : Int32) (mo_kinds : Nat → Int32) (mo_illUntil : Nat → Int32) (mo_cells : Nat → Int32) (mo_sailedToday : Int32) (mo_today : Int32) (mo_hired : Int32) (mo_timesSailed : Int32) (mo_seenCount : Int32) (mo_seenLodger : Nat → Int32) (mo_seenDay : Nat → Int32) (mo_seenUp : Nat → Int32) (ship : Int32) (cell : Int32) (days : Int32) (p_2 : 0 ≤ days.toInt) (p_3 : days.toInt ≤ 41) : Met l yX4_traceBack wsX4_traceBack ({ frames := 2, cells := 0, slots := 0, locals := 52 } : Room) (gW (dC, dI) cI cJ sz ((kPi cJ pi (ch 0) pi_origins) ++ ((kCh ch ch_drawn ch_rocks ch_rockCount ch_shipCount) ++ (kMo cI mo mo_kinds mo_illUntil mo_cells mo_sailedToday mo_today mo_hired mo_timesSailed mo_seenCount mo_seenLodger mo_seenDay mo_seenUp))) ([.ref (pi 0), .ref (mo 0), .int ship, .int cell, .int days] : List Value)) (va_Qv (fun _ : Unit => True) (fun u : Unit => gB (dC, dI) cI cJ (va_A ((kPi cJ pi (ch 0) pi_origins) ++ ((kCh ch ch_drawn ch_rocks ch_rockCount ch_shipCount) ++ (kMo cI mo mo_kinds mo_illUntil mo_cells mo_sailedToday mo_today mo_hired mo_timesSailed mo_seenCount mo_seenLodger mo_seenDay mo_seenUp))) sz) ((kPi cJ pi (ch 0) (fX4_traceBack pi_origins ch_rocks mo_kinds mo_illUntil mo_sailedToday mo_today mo_hired ship cell days)) ++ ((kCh ch ch_drawn ch_rocks ch_rockCount ch_shipCount) ++ (kMo cI mo mo_kinds mo_illUntil mo_cells mo_sailedToday mo_today mo_hired mo_timesSailed mo_seenCount mo_seenLodger mo_seenDay mo_seenUp)))) (va_A ((kPi cJ pi (ch 0) pi_origins) ++ ((kCh ch ch_drawn ch_rocks ch_rockCount ch_shipCount) ++ (kMo cI mo mo_kinds mo_illUntil mo_cells mo_sailedToday mo_today mo_hired mo_timesSailed mo_seenCount mo_seenLodger mo_seenDay mo_seenUp))) sz)) 0 0 (va_A ((kPi cJ pi (ch 0) pi_origins) ++ ((kCh ch ch_drawn ch_rocks ch_rockCount ch_shipCount) ++ (kMo cI mo mo_kinds mo_illUntil mo_cells mo_sailedToday mo_today mo_hired mo_timesSailed mo_seenCount mo_seenLodger mo_seenDay mo_seenUp))) sz) := by
  refine Met.ofW (cc := cX4_traceBack) (maxL := 6) (ret := none) (by decide) rfl ?_
  intro p e s m args below meth c s₁ B hml hv
  obtain ⟨rfl, hsz, hP, hK, hD0, hst⟩ := hv
  have hx := B.exec
  have hb := B.bytes
  have hr := B.returns
  have hts := atoms_spec (ws := wsX4_traceBack) B.pre
  have hown : s.vm.findClass RX4 = some m.cls := findClass_of_methodNamed B.named
  have hlocks := B.notSynchronized
  subst hsz
  have hD := hD0.self (sz := s.heap.size)
  generalize hAe : va_A ((kPi cJ pi (ch 0) pi_origins) ++ ((kCh ch ch_drawn ch_rocks ch_rockCount ch_shipCount) ++ (kMo cI mo mo_kinds mo_illUntil mo_cells mo_sailedToday mo_today mo_hired mo_timesSailed mo_seenCount mo_seenLodger mo_seenDay mo_seenUp))) s.heap.size = A at hD hst ⊢
  have hA : ∀ q : Nat, s.heap.size ≤ q → A q := fun q h => by rw [← hAe]; exact Or.inr h
  have hS : va_S A s.heap s.heap [] := va_S.rf
  generalize hE : (fX4_traceBack pi_origins ch_rocks mo_kinds mo_illUntil mo_sailedToday mo_today mo_hired ship cell days) = RES
  generalize hQ : MQ below (va_Qv (fun _ : Unit => True) (fun u : Unit => gB (dC, dI) cI cJ A ((kPi cJ pi (ch 0) RES) ++ ((kCh ch ch_drawn ch_rocks ch_rockCount ch_shipCount) ++ (kMo cI mo mo_kinds mo_illUntil mo_cells mo_sailedToday mo_today mo_hired mo_timesSailed mo_seenCount mo_seenLodger mo_seenDay mo_seenUp)))) A) ([.ref (pi 0), .ref (mo 0), .int ship, .int cell, .int days] : List Value).toArray s 0 0 A = Q
  have hl := lv_entry ([.ref (pi 0), .ref (mo 0), .int ship, .int cell, .int days] : List Value) (n := 6) (Nat.le_of_ble_eq_true rfl)
  rw [lg_entry_eq]
  generalize (lg_sl ([.ref (pi 0), .ref (mo 0), .int ship, .int cell, .int days] : List Value) ++ List.replicate (6 - (lg_sl ([.ref (pi 0), .ref (mo 0), .int ship, .int cell, .int days] : List Value)).length) Slot.unset).toArray = ls at hl ⊢
  have hl : lv_has ls 6 [(0, .ref (pi 0)), (1, .ref (mo 0)), (2, .int ship), (3, .int cell), (4, .int days)] := hl
  have in_X4 : ∀ w ∈ u_ws RX4 TX4 2, w ∈ wsX4_traceBack := fun _ h => List.mem_cons_of_mem _ (List.mem_append_left _ (List.mem_append_left _ (List.mem_append_right _ h)))
  have t_fieldLink_RX4_12_FourLodgers_Pilot_chart_LFourLodgers_Chart := hts (.fieldLink RX4 12 "FourLodgers$Pilot" "chart" "LFourLodgers$Chart;") (List.mem_of_getElem? (i := 2) rfl)
  have t_fieldLink_RX4_18_FourLodgers_Pilot_origins_J := hts (.fieldLink RX4 18 "FourLodgers$Pilot" "origins" "[J") (List.mem_of_getElem? (i := 1) rfl)
  have i_m1 : (-1 : Int32).toInt = -1 := by decide
  have i_0 : (0 : Int32).toInt = 0 := by decide
  have i_1 : (1 : Int32).toInt = 1 := by decide
  rw [fX4_traceBack] at hE
  refine lv_aload_n hx hb dX4_traceBack_0 rfl (lv_at hl 0 rfl) ?_
  refine va_get (D := (dC, dI)) (ci := 4) (v := .ref (pi 1)) (C := RX4) (T := TX4) (N := 2) hx hb hts in_X4 hown hK hP 0 rfl rfl 1 (by decide) t_fieldLink_RX4_18_FourLodgers_Pilot_origins_J (fun _ h9 => h9) rfl dX4_traceBack_1 ?_
  refine lv_iload hx hb dX4_traceBack_4 (lv_at hl 4 rfl) ?_
  refine lv_lconst (v := (1 : Int64)) hx hb dX4_traceBack_6 (by decide) ?_
  refine lv_iload_n hx hb dX4_traceBack_7 rfl (lv_at hl 3 rfl) ?_
  refine lv_lshl hx hb dX4_traceBack_8 rfl ?_
  refine va_last hx hb hK hP hD hS 1 1 rfl rfl (i := days) (by first | assumption | exact vp_in_iff.mpr ⟨by omega, by omega⟩ | omega | decide) dX4_traceBack_9 (fun H locs hP hD hS => ?_)
  replace hP : va_P (dC, dI) vwCl ((kPi cJ pi (ch 0) (vp_updL pi_origins days.toNatClampNeg ((1 : Int64) <<< (cell.toInt64 &&& 63)))) ++ ((kCh ch ch_drawn ch_rocks ch_rockCount ch_shipCount) ++ (kMo cI mo mo_kinds mo_illUntil mo_cells mo_sailedToday mo_today mo_hired mo_timesSailed mo_seenCount mo_seenLodger mo_seenDay mo_seenUp))) H := hP
  replace hD : va_D A ((kPi cJ pi (ch 0) (vp_updL pi_origins days.toNatClampNeg ((1 : Int64) <<< (cell.toInt64 &&& 63)))) ++ ((kCh ch ch_drawn ch_rocks ch_rockCount ch_shipCount) ++ (kMo cI mo mo_kinds mo_illUntil mo_cells mo_sailedToday mo_today mo_hired mo_timesSailed mo_seenCount mo_seenLodger mo_seenDay mo_seenUp))) := hD
  refine lv_iload hx hb dX4_traceBack_10 (lv_at hl 4 rfl) ?_
  refine lv_iconst (v := (1 : Int32)) hx hb dX4_traceBack_12 (by decide) ?_
  refine lv_isub hx hb dX4_traceBack_13 ?_
  refine lv_istore (lv' := [(5, .int (days - (1 : Int32))), (0, .ref (pi 0)), (1, .ref (mo 0)), (2, .int ship), (3, .int cell), (4, .int days)]) hx hb dX4_traceBack_14 hl (by decide) rfl (fun ls hl => ?_)
  have L16 : ∀ (n_ : Nat) (x5 : Int32) (pi_origins_16 : Nat → Int64) , (-1 ≤ x5.toInt ∧ x5.toInt ≤ 40) → (x5.toInt + 1).toNat < n_ → (fX4_traceBack_16 ch_rocks mo_kinds mo_illUntil mo_sailedToday mo_today mo_hired ship n_ x5 pi_origins_16) = RES → ∀ (H : Heap) (locs : List Loc), va_P (dC, dI) vwCl ((kPi cJ pi (ch 0) pi_origins_16) ++ ((kCh ch ch_drawn ch_rocks ch_rockCount ch_shipCount) ++ (kMo cI mo mo_kinds mo_illUntil mo_cells mo_sailedToday mo_today mo_hired mo_timesSailed mo_seenCount mo_seenLodger mo_seenDay mo_seenUp))) H → va_D A ((kPi cJ pi (ch 0) pi_origins_16) ++ ((kCh ch ch_drawn ch_rocks ch_rockCount ch_shipCount) ++ (kMo cI mo mo_kinds mo_illUntil mo_cells mo_sailedToday mo_today mo_hired mo_timesSailed mo_seenCount mo_seenLodger mo_seenDay mo_seenUp))) → va_S A s.heap H locs → ∀ ls : Array Slot, lv_has ls 6 [(0, .ref (pi 0)), (1, .ref (mo 0)), (2, .int ship), (3, .int cell), (4, .int days), (5, .int x5)] → W p l e (headSpec wsX4_traceBack ({ frames := 2, cells := 0, slots := 0, locals := 52 } : Room)).room s m ([.ref (pi 0), .ref (mo 0), .int ship, .int cell, .int days] : List Value).toArray below meth c H locs 0 0 Q (F0 m 16 ls []) := by
    intro n_
    induction n_ with
    | zero => intro x5 pi_origins_16  hi hn; exact absurd hn (Nat.not_lt_zero _)
    | succ n_ ih =>
      intro x5 pi_origins_16  hi hn hE H locs hP hD hS ls hl
      rw [fX4_traceBack_16] at hE
      refine lv_iload hx hb dX4_traceBack_16 (lv_at hl 5 rfl) ?_
      refine lv_if_lt (tgt := 57) hx hb dX4_traceBack_18 (by decide) (fun c_18 => ?_) (fun c_18 => ?_)
      · have e_18 := Int32.lt_iff_toInt_lt.mp c_18
        rw [if_pos c_18] at hE
        subst hE
        rw [← hQ]
        exact W.vret hx hb hr (fun t ht hW => ⟨⟨(), rfl, trivial, by rw [ht]; exact hP, va_K.moved hW.alike hK, hD⟩, hS.F ht⟩) hS.2.2 dX4_traceBack_57
      · have e_18 := mt Int32.lt_iff_toInt_lt.mpr c_18
        rw [if_neg c_18] at hE
        refine lv_aload_n hx hb dX4_traceBack_21 rfl (lv_at hl 0 rfl) ?_
        refine va_get (D := (dC, dI)) (ci := 4) (v := .ref (pi 1)) (C := RX4) (T := TX4) (N := 2) hx hb hts in_X4 hown hK hP 0 rfl rfl 1 (by decide) t_fieldLink_RX4_18_FourLodgers_Pilot_origins_J (fun _ h9 => h9) rfl dX4_traceBack_22 ?_
        refine lv_iload hx hb dX4_traceBack_25 (lv_at hl 5 rfl) ?_
        refine lv_aload_n hx hb dX4_traceBack_27 rfl (lv_at hl 0 rfl) ?_
        refine va_get (D := (dC, dI)) (ci := 4) (v := .ref (ch 0)) (C := RX4) (T := TX4) (N := 2) hx hb hts in_X4 hown hK hP 0 rfl rfl 0 (by decide) t_fieldLink_RX4_12_FourLodgers_Pilot_chart_LFourLodgers_Chart (fun _ h9 => h9) rfl dX4_traceBack_28 ?_
        refine lv_aload_n hx hb dX4_traceBack_31 rfl (lv_at hl 0 rfl) ?_
        refine va_get (D := (dC, dI)) (ci := 4) (v := .ref (pi 1)) (C := RX4) (T := TX4) (N := 2) hx hb hts in_X4 hown hK hP 0 rfl rfl 1 (by decide) t_fieldLink_RX4_18_FourLodgers_Pilot_origins_J (fun _ h9 => h9) rfl dX4_traceBack_32 ?_
        refine lv_iload hx hb dX4_traceBack_35 (lv_at hl 5 rfl) ?_
        refine lv_iconst (v := (1 : Int32)) hx hb dX4_traceBack_37 (by decide) ?_
        refine lv_iadd hx hb dX4_traceBack_38 ?_
        refine va_lald hx hb hK hP 1 1 rfl rfl (i := (x5 + (1 : Int32))) (vp_in_iff.mpr (by rw [i_add (by omega) (by omega)]; omega)) dX4_traceBack_39 ?_
        refine lv_aload_n hx hb dX4_traceBack_40 rfl (lv_at hl 1 rfl) ?_
        refine lv_iload_n hx hb dX4_traceBack_41 rfl (lv_at hl 2 rfl) ?_
        refine lv_iload hx hb dX4_traceBack_42 (lv_at hl 5 rfl) ?_
        refine rcVi (As := [.int ship, .int x5]) (rest := [.long (pi_origins_16 (x5 + (1 : Int32)).toNatClampNeg), .ref (ch 0), .int x5, .ref (pi 1)]) ⟨hx, hb, hml, hown, hts⟩ (kX2_upFor l dC dI cI cJ mo mo_kinds mo_illUntil mo_cells mo_sailedToday mo_today mo_hired mo_timesSailed mo_seenCount mo_seenLodger mo_seenDay mo_seenUp ship x5) (cwV 2 hts gX4_traceBack_X2_upFor rfl rfl rfl (by decide +kernel) ⟨Nat.le_of_ble_eq_true rfl, Nat.le_of_ble_eq_true rfl⟩) hK hP hst hS [3, 4, 5, 6, 7, 8, 9] rfl 3 rfl rfl rfl hl.1 rfl (Nat.le_of_ble_eq_true rfl) dX4_traceBack_44 ⟨Nat.zero_le _, Nat.zero_le _⟩ (fun r w_1 => ?_)
        subst w_1
        refine rcVl (As := [.long (pi_origins_16 (x5 + (1 : Int32)).toNatClampNeg), .int (fX2_upFor mo_kinds mo_illUntil mo_sailedToday mo_today mo_hired ship x5)]) (rest := [.int x5, .ref (pi 1)]) ⟨hx, hb, hml, hown, hts⟩ (kX0_spreadBack l dC dI cI cJ ch ch_drawn ch_rocks ch_rockCount ch_shipCount (pi_origins_16 (x5 + (1 : Int32)).toNatClampNeg) (fX2_upFor mo_kinds mo_illUntil mo_sailedToday mo_today mo_hired ship x5)) (cwV 2 hts gX4_traceBack_X0_spreadBack rfl rfl rfl (by decide +kernel) ⟨Nat.le_of_ble_eq_true rfl, Nat.le_of_ble_eq_true rfl⟩) hK hP hst hS [2] rfl 2 rfl rfl rfl hl.1 rfl (Nat.le_of_ble_eq_true rfl) dX4_traceBack_47 ⟨Nat.zero_le _, Nat.zero_le _⟩ (fun r w_2 => ?_)
        subst w_2
        refine va_last hx hb hK hP hD hS 1 1 rfl rfl (i := x5) (by first | assumption | exact vp_in_iff.mpr ⟨by omega, by omega⟩ | omega | decide) dX4_traceBack_50 (fun H locs hP hD hS => ?_)
        replace hP : va_P (dC, dI) vwCl ((kPi cJ pi (ch 0) (vp_updL pi_origins_16 x5.toNatClampNeg (fX0_spreadBack ch_rocks (pi_origins_16 (x5 + (1 : Int32)).toNatClampNeg) (fX2_upFor mo_kinds mo_illUntil mo_sailedToday mo_today mo_hired ship x5)))) ++ ((kCh ch ch_drawn ch_rocks ch_rockCount ch_shipCount) ++ (kMo cI mo mo_kinds mo_illUntil mo_cells mo_sailedToday mo_today mo_hired mo_timesSailed mo_seenCount mo_seenLodger mo_seenDay mo_seenUp))) H := hP
        replace hD : va_D A ((kPi cJ pi (ch 0) (vp_updL pi_origins_16 x5.toNatClampNeg (fX0_spreadBack ch_rocks (pi_origins_16 (x5 + (1 : Int32)).toNatClampNeg) (fX2_upFor mo_kinds mo_illUntil mo_sailedToday mo_today mo_hired ship x5)))) ++ ((kCh ch ch_drawn ch_rocks ch_rockCount ch_shipCount) ++ (kMo cI mo mo_kinds mo_illUntil mo_cells mo_sailedToday mo_today mo_hired mo_timesSailed mo_seenCount mo_seenLodger mo_seenDay mo_seenUp))) := hD
        refine lv_iinc (v := (x5 + (-1 : Int32))) (lv' := [(5, .int (x5 + (-1 : Int32))), (0, .ref (pi 0)), (1, .ref (mo 0)), (2, .int ship), (3, .int cell), (4, .int days)]) hx hb dX4_traceBack_51 hl (k := 5) rfl rfl (by decide) rfl (fun ls hl => ?_)
        refine lv_goto (tgt := 16) hx hb dX4_traceBack_54 (by decide) ?_
        have hb_ := i_add (x := x5) (y := (-1 : Int32)) (by omega) (by omega)
        exact ih (x5 + (-1 : Int32)) (vp_updL pi_origins_16 x5.toNatClampNeg (fX0_spreadBack ch_rocks (pi_origins_16 (x5 + (1 : Int32)).toNatClampNeg) (fX2_upFor mo_kinds mo_illUntil mo_sailedToday mo_today mo_hired ship x5)))  (by omega) (by omega) hE H locs hP hD hS ls (lv_sub hl [1, 2, 3, 4, 5, 0] rfl)
  exact L16 42 (days - (1 : Int32)) (vp_updL pi_origins days.toNatClampNeg ((1 : Int64) <<< (cell.toInt64 &&& 63)))  (by have hd_ := i_sub (x := days) (y := (1 : Int32)) (by omega) (by omega); omega) (by have hd_ := i_sub (x := days) (y := (1 : Int32)) (by omega) (by omega); omega) hE H locs hP hD hS ls (lv_sub hl [1, 2, 3, 4, 5, 0] rfl)
