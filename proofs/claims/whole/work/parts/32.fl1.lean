def fX5_namesLodger (ch_drawn : Int32) (lodger : Int32) : Int32 := (if ch_drawn = (0 : Int32) then (0 : Int32) else (if lodger < (0 : Int32) then (0 : Int32) else (if (4 : Int32) ≤ lodger then (0 : Int32) else (1 : Int32))))
set_option maxHeartbeats 4000000 in
set_option maxRecDepth 100000 in
theorem kX5_namesLodger (l : Launch) (dC : Nat → ClassId) (dI : Nat → Nat → Nat) (cI cJ : ClassId) (fl : Nat → Nat) (pg : Nat → Nat) (dr : Nat → Nat) (pi : Nat → Nat) (ch : Nat → Nat) (nw : Nat → Nat) (kp : Nat → Nat) (tr : Nat → Nat) (fl_hasImage : Int32) (fl_seasRead : Int32) (pg_letters : Nat → Int32) (pg_size : Int32) (dr_kinds : Nat → Int32) (dr_ills : Nat → Int32) (dr_ships : Nat → Int32) (dr_shipCount : Int32) (dr_rocks : Int64) (dr_rockCount : Int32) (dr_amongRocks : Int32) (dr_row : Int32) (dr_whole : Int32) (pi_origins : Nat → Int64) (ch_drawn : Int32) (ch_rocks : Int64) (ch_rockCount : Int32) (ch_shipCount : Int32) (nw_kinds : Nat → Int32) (nw_illUntil : Nat → Int32) (nw_cells : Nat → Int32) (nw_sailedToday : Int32) (nw_today : Int32) (nw_hired : Int32) (nw_timesSailed : Int32) (nw_seenCount : Int32) (nw_seenLodger : Nat → Int32) (nw_seenDay : Nat → Int32) (nw_seenUp : Nat → Int32) (kp_kinds : Nat → Int32) (kp_illUntil : Nat → Int32) (kp_cells : Nat → Int32) (kp_sailedToday : Int32) (kp_today : Int32) (kp_hired : Int32) (kp_timesSailed : Int32) (kp_seenCount : Int32) (kp_seenLodger : Nat → Int32) (kp_seenDay : Nat → Int32) (kp_seenUp : Nat → Int32) (tr_kinds : Nat → Int32) (tr_illUntil : Nat → Int32) (tr_cells : Nat → Int32) (tr_sailedToday : Int32) (tr_today : Int32) (tr_hired : Int32) (tr_timesSailed : Int32) (tr_seenCount : Int32) (tr_seenLodger : Nat → Int32) (tr_seenDay : Nat → Int32) (tr_seenUp : Nat → Int32) (lodger : Int32) : Met l yX5_namesLodger wsX5_namesLodger ({ frames := 0, cells := 0, slots := 0, locals := 0 } : Room) (gR (dC, dI) cI cJ ((kFl fl (pg 0) (dr 0) (pi 0) (ch 0) (nw 0) (kp 0) (tr 0) fl_hasImage fl_seasRead) ++ ((kPg cI pg pg_letters pg_size) ++ ((kDr cI dr dr_kinds dr_ills dr_ships dr_shipCount dr_rocks dr_rockCount dr_amongRocks dr_row dr_whole) ++ ((kPi cJ pi (ch 0) pi_origins) ++ ((kCh ch ch_drawn ch_rocks ch_rockCount ch_shipCount) ++ ((kMo cI nw nw_kinds nw_illUntil nw_cells nw_sailedToday nw_today nw_hired nw_timesSailed nw_seenCount nw_seenLodger nw_seenDay nw_seenUp) ++ ((kMo cI kp kp_kinds kp_illUntil kp_cells kp_sailedToday kp_today kp_hired kp_timesSailed kp_seenCount kp_seenLodger kp_seenDay kp_seenUp) ++ (kMo cI tr tr_kinds tr_illUntil tr_cells tr_sailedToday tr_today tr_hired tr_timesSailed tr_seenCount tr_seenLodger tr_seenDay tr_seenUp)))))))) ([.ref (fl 0), .int lodger] : List Value)) (vp_Si (fun r => r = (fX5_namesLodger ch_drawn lodger) ∧ isB r)) 0 0 (fun _ => False) := by
  refine Met.ofW (cc := cX5_namesLodger) (maxL := 2) (ret := (some .boolean)) (by decide) rfl ?_
  intro p e s m args below meth c s₁ B hml hv
  obtain ⟨rfl, hP, hK, hst⟩ := hv
  have hx := B.exec
  have hb := B.bytes
  have hr := B.returns
  have hts := atoms_spec (ws := wsX5_namesLodger) B.pre
  have hown : s.vm.findClass RX5 = some m.cls := findClass_of_methodNamed B.named
  have hlocks := B.notSynchronized
  have hS : va_S (fun _ => False) s.heap s.heap [] := va_S.rf
  generalize hE : (fX5_namesLodger ch_drawn lodger) = RES
  generalize hQ : MQ below (vp_Si (fun r => r = RES ∧ isB r)) ([.ref (fl 0), .int lodger] : List Value).toArray s 0 0 (fun _ => False) = Q
  have hl := lv_entry ([.ref (fl 0), .int lodger] : List Value) (n := 2) (Nat.le_of_ble_eq_true rfl)
  rw [lg_entry_eq]
  generalize (lg_sl ([.ref (fl 0), .int lodger] : List Value) ++ List.replicate (2 - (lg_sl ([.ref (fl 0), .int lodger] : List Value)).length) Slot.unset).toArray = ls at hl ⊢
  have hl : lv_has ls 2 [(0, .ref (fl 0)), (1, .int lodger)] := hl
  have in_X0 : ∀ w ∈ u_ws RX0 TX0 4, w ∈ wsX5_namesLodger := fun _ h => List.mem_cons_of_mem _ (List.mem_append_right _ h)
  have in_X5 : ∀ w ∈ u_ws RX5 TX5 9, w ∈ wsX5_namesLodger := fun _ h => List.mem_cons_of_mem _ (List.mem_append_left _ (List.mem_append_right _ h))
  have t_fieldLink_RX5_156_FourLodgers_Chart_drawn_Z := hts (.fieldLink RX5 156 "FourLodgers$Chart" "drawn" "Z") (List.mem_of_getElem? (i := 2) rfl)
  have t_fieldLink_RX5_34_FourLodgers_chart_LFourLodgers_Chart := hts (.fieldLink RX5 34 "FourLodgers" "chart" "LFourLodgers$Chart;") (List.mem_of_getElem? (i := 1) rfl)
  have i_0 : (0 : Int32).toInt = 0 := by decide
  have i_1 : (1 : Int32).toInt = 1 := by decide
  have i_4 : (4 : Int32).toInt = 4 := by decide
  rw [fX5_namesLodger] at hE
  refine lv_aload_n hx hb dX5_namesLodger_0 rfl (lv_at hl 0 rfl) ?_
  refine va_get (D := (dC, dI)) (ci := 5) (v := .ref (ch 0)) (C := RX5) (T := TX5) (N := 9) hx hb hts in_X5 hown hK hP 0 rfl rfl 3 (by decide) t_fieldLink_RX5_34_FourLodgers_chart_LFourLodgers_Chart (fun _ h9 => h9) rfl dX5_namesLodger_1 ?_
  refine va_get (D := (dC, dI)) (ci := 0) (v := .int ch_drawn) (C := RX0) (T := TX0) (N := 4) hx hb hts in_X0 hown hK hP 9 rfl rfl 0 (by decide) t_fieldLink_RX5_156_FourLodgers_Chart_drawn_Z (fun _ h9 => h9) rfl dX5_namesLodger_4 ?_
  refine lv_if_eq (tgt := 23) hx hb dX5_namesLodger_7 (by decide) (fun c_7 => ?_) (fun c_7 => ?_)
  · have e_7 := congrArg Int32.toInt c_7
    rw [if_pos c_7] at hE
    refine lv_iconst (v := (0 : Int32)) hx hb dX5_namesLodger_23 (by decide) ?_
    subst hE
    rw [← hQ]
    exact W.zret hx hb hr (isB.n nb_0) (fun t ht hW => ⟨_, rfl, ⟨rfl, nb_0⟩, ht⟩) (fun q h => absurd h List.not_mem_nil) dX5_namesLodger_24
  · have e_7 := mt Int32.toInt_inj.mp c_7
    rw [if_neg c_7] at hE
    refine lv_iload_n hx hb dX5_namesLodger_10 rfl (lv_at hl 1 rfl) ?_
    refine lv_if_lt (tgt := 23) hx hb dX5_namesLodger_11 (by decide) (fun c_11 => ?_) (fun c_11 => ?_)
    · have e_11 := Int32.lt_iff_toInt_lt.mp c_11
      rw [if_pos c_11] at hE
      refine lv_iconst (v := (0 : Int32)) hx hb dX5_namesLodger_23 (by decide) ?_
      subst hE
      rw [← hQ]
      exact W.zret hx hb hr (isB.n nb_0) (fun t ht hW => ⟨_, rfl, ⟨rfl, nb_0⟩, ht⟩) (fun q h => absurd h List.not_mem_nil) dX5_namesLodger_24
    · have e_11 := mt Int32.lt_iff_toInt_lt.mpr c_11
      rw [if_neg c_11] at hE
      refine lv_iload_n hx hb dX5_namesLodger_14 rfl (lv_at hl 1 rfl) ?_
      refine lv_iconst (v := (4 : Int32)) hx hb dX5_namesLodger_15 (by decide) ?_
      refine lv_icmp_ge (tgt := 23) hx hb dX5_namesLodger_16 (by decide) (fun c_16 => ?_) (fun c_16 => ?_)
      · have e_16 := Int32.le_iff_toInt_le.mp c_16
        rw [if_pos c_16] at hE
        refine lv_iconst (v := (0 : Int32)) hx hb dX5_namesLodger_23 (by decide) ?_
        subst hE
        rw [← hQ]
        exact W.zret hx hb hr (isB.n nb_0) (fun t ht hW => ⟨_, rfl, ⟨rfl, nb_0⟩, ht⟩) (fun q h => absurd h List.not_mem_nil) dX5_namesLodger_24
      · have e_16 := mt Int32.le_iff_toInt_le.mpr c_16
        rw [if_neg c_16] at hE
        refine lv_iconst (v := (1 : Int32)) hx hb dX5_namesLodger_19 (by decide) ?_
        refine lv_goto (tgt := 24) hx hb dX5_namesLodger_20 (by decide) ?_
        subst hE
        rw [← hQ]
        exact W.zret hx hb hr (isB.n nb_1) (fun t ht hW => ⟨_, rfl, ⟨rfl, nb_1⟩, ht⟩) (fun q h => absurd h List.not_mem_nil) dX5_namesLodger_24
def fX5_namesShip (ch_drawn : Int32) (ch_shipCount : Int32) (ship : Int32) : Int32 := (if ch_drawn = (0 : Int32) then (0 : Int32) else (if ship < (0 : Int32) then (0 : Int32) else (if ch_shipCount ≤ ship then (0 : Int32) else (1 : Int32))))
set_option maxHeartbeats 4000000 in
set_option maxRecDepth 100000 in
theorem kX5_namesShip (l : Launch) (dC : Nat → ClassId) (dI : Nat → Nat → Nat) (cI cJ : ClassId) (fl : Nat → Nat) (pg : Nat → Nat) (dr : Nat → Nat) (pi : Nat → Nat) (ch : Nat → Nat) (nw : Nat → Nat) (kp : Nat → Nat) (tr : Nat → Nat) (fl_hasImage : Int32) (fl_seasRead : Int32) (pg_letters : Nat → Int32) (pg_size : Int32) (dr_kinds : Nat → Int32) (dr_ills : Nat → Int32) (dr_ships : Nat → Int32) (dr_shipCount : Int32) (dr_rocks : Int64) (dr_rockCount : Int32) (dr_amongRocks : Int32) (dr_row : Int32) (dr_whole : Int32) (pi_origins : Nat → Int64) (ch_drawn : Int32) (ch_rocks : Int64) (ch_rockCount : Int32) (ch_shipCount : Int32) (nw_kinds : Nat → Int32) (nw_illUntil : Nat → Int32) (nw_cells : Nat → Int32) (nw_sailedToday : Int32) (nw_today : Int32) (nw_hired : Int32) (nw_timesSailed : Int32) (nw_seenCount : Int32) (nw_seenLodger : Nat → Int32) (nw_seenDay : Nat → Int32) (nw_seenUp : Nat → Int32) (kp_kinds : Nat → Int32) (kp_illUntil : Nat → Int32) (kp_cells : Nat → Int32) (kp_sailedToday : Int32) (kp_today : Int32) (kp_hired : Int32) (kp_timesSailed : Int32) (kp_seenCount : Int32) (kp_seenLodger : Nat → Int32) (kp_seenDay : Nat → Int32) (kp_seenUp : Nat → Int32) (tr_kinds : Nat → Int32) (tr_illUntil : Nat → Int32) (tr_cells : Nat → Int32) (tr_sailedToday : Int32) (tr_today : Int32) (tr_hired : Int32) (tr_timesSailed : Int32) (tr_seenCount : Int32) (tr_seenLodger : Nat → Int32) (tr_seenDay : Nat → Int32) (tr_seenUp : Nat → Int32) (ship : Int32) : Met l yX5_namesShip wsX5_namesShip ({ frames := 0, cells := 0, slots := 0, locals := 0 } : Room) (gR (dC, dI) cI cJ ((kFl fl (pg 0) (dr 0) (pi 0) (ch 0) (nw 0) (kp 0) (tr 0) fl_hasImage fl_seasRead) ++ ((kPg cI pg pg_letters pg_size) ++ ((kDr cI dr dr_kinds dr_ills dr_ships dr_shipCount dr_rocks dr_rockCount dr_amongRocks dr_row dr_whole) ++ ((kPi cJ pi (ch 0) pi_origins) ++ ((kCh ch ch_drawn ch_rocks ch_rockCount ch_shipCount) ++ ((kMo cI nw nw_kinds nw_illUntil nw_cells nw_sailedToday nw_today nw_hired nw_timesSailed nw_seenCount nw_seenLodger nw_seenDay nw_seenUp) ++ ((kMo cI kp kp_kinds kp_illUntil kp_cells kp_sailedToday kp_today kp_hired kp_timesSailed kp_seenCount kp_seenLodger kp_seenDay kp_seenUp) ++ (kMo cI tr tr_kinds tr_illUntil tr_cells tr_sailedToday tr_today tr_hired tr_timesSailed tr_seenCount tr_seenLodger tr_seenDay tr_seenUp)))))))) ([.ref (fl 0), .int ship] : List Value)) (vp_Si (fun r => r = (fX5_namesShip ch_drawn ch_shipCount ship) ∧ isB r)) 0 0 (fun _ => False) := by
  refine Met.ofW (cc := cX5_namesShip) (maxL := 2) (ret := (some .boolean)) (by decide) rfl ?_
  intro p e s m args below meth c s₁ B hml hv
  obtain ⟨rfl, hP, hK, hst⟩ := hv
  have hx := B.exec
  have hb := B.bytes
  have hr := B.returns
  have hts := atoms_spec (ws := wsX5_namesShip) B.pre
  have hown : s.vm.findClass RX5 = some m.cls := findClass_of_methodNamed B.named
  have hlocks := B.notSynchronized
  have hS : va_S (fun _ => False) s.heap s.heap [] := va_S.rf
  generalize hE : (fX5_namesShip ch_drawn ch_shipCount ship) = RES
  generalize hQ : MQ below (vp_Si (fun r => r = RES ∧ isB r)) ([.ref (fl 0), .int ship] : List Value).toArray s 0 0 (fun _ => False) = Q
  have hl := lv_entry ([.ref (fl 0), .int ship] : List Value) (n := 2) (Nat.le_of_ble_eq_true rfl)
  rw [lg_entry_eq]
  generalize (lg_sl ([.ref (fl 0), .int ship] : List Value) ++ List.replicate (2 - (lg_sl ([.ref (fl 0), .int ship] : List Value)).length) Slot.unset).toArray = ls at hl ⊢
  have hl : lv_has ls 2 [(0, .ref (fl 0)), (1, .int ship)] := hl
  have in_X0 : ∀ w ∈ u_ws RX0 TX0 4, w ∈ wsX5_namesShip := fun _ h => List.mem_cons_of_mem _ (List.mem_append_right _ h)
  have in_X5 : ∀ w ∈ u_ws RX5 TX5 9, w ∈ wsX5_namesShip := fun _ h => List.mem_cons_of_mem _ (List.mem_append_left _ (List.mem_append_right _ h))
  have t_fieldLink_RX5_156_FourLodgers_Chart_drawn_Z := hts (.fieldLink RX5 156 "FourLodgers$Chart" "drawn" "Z") (List.mem_of_getElem? (i := 2) rfl)
  have t_fieldLink_RX5_34_FourLodgers_chart_LFourLodgers_Chart := hts (.fieldLink RX5 34 "FourLodgers" "chart" "LFourLodgers$Chart;") (List.mem_of_getElem? (i := 1) rfl)
  have t_fieldLink_RX5_83_FourLodgers_Chart_shipCount_I := hts (.fieldLink RX5 83 "FourLodgers$Chart" "shipCount" "I") (List.mem_of_getElem? (i := 3) rfl)
  have i_0 : (0 : Int32).toInt = 0 := by decide
  have i_1 : (1 : Int32).toInt = 1 := by decide
  rw [fX5_namesShip] at hE
  refine lv_aload_n hx hb dX5_namesShip_0 rfl (lv_at hl 0 rfl) ?_
  refine va_get (D := (dC, dI)) (ci := 5) (v := .ref (ch 0)) (C := RX5) (T := TX5) (N := 9) hx hb hts in_X5 hown hK hP 0 rfl rfl 3 (by decide) t_fieldLink_RX5_34_FourLodgers_chart_LFourLodgers_Chart (fun _ h9 => h9) rfl dX5_namesShip_1 ?_
  refine va_get (D := (dC, dI)) (ci := 0) (v := .int ch_drawn) (C := RX0) (T := TX0) (N := 4) hx hb hts in_X0 hown hK hP 9 rfl rfl 0 (by decide) t_fieldLink_RX5_156_FourLodgers_Chart_drawn_Z (fun _ h9 => h9) rfl dX5_namesShip_4 ?_
  refine lv_if_eq (tgt := 29) hx hb dX5_namesShip_7 (by decide) (fun c_7 => ?_) (fun c_7 => ?_)
  · have e_7 := congrArg Int32.toInt c_7
    rw [if_pos c_7] at hE
    refine lv_iconst (v := (0 : Int32)) hx hb dX5_namesShip_29 (by decide) ?_
    subst hE
    rw [← hQ]
    exact W.zret hx hb hr (isB.n nb_0) (fun t ht hW => ⟨_, rfl, ⟨rfl, nb_0⟩, ht⟩) (fun q h => absurd h List.not_mem_nil) dX5_namesShip_30
  · have e_7 := mt Int32.toInt_inj.mp c_7
    rw [if_neg c_7] at hE
    refine lv_iload_n hx hb dX5_namesShip_10 rfl (lv_at hl 1 rfl) ?_
    refine lv_if_lt (tgt := 29) hx hb dX5_namesShip_11 (by decide) (fun c_11 => ?_) (fun c_11 => ?_)
    · have e_11 := Int32.lt_iff_toInt_lt.mp c_11
      rw [if_pos c_11] at hE
      refine lv_iconst (v := (0 : Int32)) hx hb dX5_namesShip_29 (by decide) ?_
      subst hE
      rw [← hQ]
      exact W.zret hx hb hr (isB.n nb_0) (fun t ht hW => ⟨_, rfl, ⟨rfl, nb_0⟩, ht⟩) (fun q h => absurd h List.not_mem_nil) dX5_namesShip_30
    · have e_11 := mt Int32.lt_iff_toInt_lt.mpr c_11
      rw [if_neg c_11] at hE
      refine lv_iload_n hx hb dX5_namesShip_14 rfl (lv_at hl 1 rfl) ?_
      refine lv_aload_n hx hb dX5_namesShip_15 rfl (lv_at hl 0 rfl) ?_
      refine va_get (D := (dC, dI)) (ci := 5) (v := .ref (ch 0)) (C := RX5) (T := TX5) (N := 9) hx hb hts in_X5 hown hK hP 0 rfl rfl 3 (by decide) t_fieldLink_RX5_34_FourLodgers_chart_LFourLodgers_Chart (fun _ h9 => h9) rfl dX5_namesShip_16 ?_
      refine va_get (D := (dC, dI)) (ci := 0) (v := .int ch_shipCount) (C := RX0) (T := TX0) (N := 4) hx hb hts in_X0 hown hK hP 9 rfl rfl 3 (by decide) t_fieldLink_RX5_83_FourLodgers_Chart_shipCount_I (fun _ h9 => h9) rfl dX5_namesShip_19 ?_
      refine lv_icmp_ge (tgt := 29) hx hb dX5_namesShip_22 (by decide) (fun c_22 => ?_) (fun c_22 => ?_)
      · have e_22 := Int32.le_iff_toInt_le.mp c_22
        rw [if_pos c_22] at hE
        refine lv_iconst (v := (0 : Int32)) hx hb dX5_namesShip_29 (by decide) ?_
        subst hE
        rw [← hQ]
        exact W.zret hx hb hr (isB.n nb_0) (fun t ht hW => ⟨_, rfl, ⟨rfl, nb_0⟩, ht⟩) (fun q h => absurd h List.not_mem_nil) dX5_namesShip_30
      · have e_22 := mt Int32.le_iff_toInt_le.mpr c_22
        rw [if_neg c_22] at hE
        refine lv_iconst (v := (1 : Int32)) hx hb dX5_namesShip_25 (by decide) ?_
        refine lv_goto (tgt := 30) hx hb dX5_namesShip_26 (by decide) ?_
        subst hE
        rw [← hQ]
        exact W.zret hx hb hr (isB.n nb_1) (fun t ht hW => ⟨_, rfl, ⟨rfl, nb_1⟩, ht⟩) (fun q h => absurd h List.not_mem_nil) dX5_namesShip_30
def fX5_namesCell (ch_drawn : Int32) (cell : Int32) : Int32 := (if ch_drawn = (0 : Int32) then (0 : Int32) else (if cell < (0 : Int32) then (0 : Int32) else (if (36 : Int32) ≤ cell then (0 : Int32) else (1 : Int32))))
set_option maxHeartbeats 4000000 in
set_option maxRecDepth 100000 in
theorem kX5_namesCell (l : Launch) (dC : Nat → ClassId) (dI : Nat → Nat → Nat) (cI cJ : ClassId) (fl : Nat → Nat) (pg : Nat → Nat) (dr : Nat → Nat) (pi : Nat → Nat) (ch : Nat → Nat) (nw : Nat → Nat) (kp : Nat → Nat) (tr : Nat → Nat) (fl_hasImage : Int32) (fl_seasRead : Int32) (pg_letters : Nat → Int32) (pg_size : Int32) (dr_kinds : Nat → Int32) (dr_ills : Nat → Int32) (dr_ships : Nat → Int32) (dr_shipCount : Int32) (dr_rocks : Int64) (dr_rockCount : Int32) (dr_amongRocks : Int32) (dr_row : Int32) (dr_whole : Int32) (pi_origins : Nat → Int64) (ch_drawn : Int32) (ch_rocks : Int64) (ch_rockCount : Int32) (ch_shipCount : Int32) (nw_kinds : Nat → Int32) (nw_illUntil : Nat → Int32) (nw_cells : Nat → Int32) (nw_sailedToday : Int32) (nw_today : Int32) (nw_hired : Int32) (nw_timesSailed : Int32) (nw_seenCount : Int32) (nw_seenLodger : Nat → Int32) (nw_seenDay : Nat → Int32) (nw_seenUp : Nat → Int32) (kp_kinds : Nat → Int32) (kp_illUntil : Nat → Int32) (kp_cells : Nat → Int32) (kp_sailedToday : Int32) (kp_today : Int32) (kp_hired : Int32) (kp_timesSailed : Int32) (kp_seenCount : Int32) (kp_seenLodger : Nat → Int32) (kp_seenDay : Nat → Int32) (kp_seenUp : Nat → Int32) (tr_kinds : Nat → Int32) (tr_illUntil : Nat → Int32) (tr_cells : Nat → Int32) (tr_sailedToday : Int32) (tr_today : Int32) (tr_hired : Int32) (tr_timesSailed : Int32) (tr_seenCount : Int32) (tr_seenLodger : Nat → Int32) (tr_seenDay : Nat → Int32) (tr_seenUp : Nat → Int32) (cell : Int32) : Met l yX5_namesCell wsX5_namesCell ({ frames := 0, cells := 0, slots := 0, locals := 0 } : Room) (gR (dC, dI) cI cJ ((kFl fl (pg 0) (dr 0) (pi 0) (ch 0) (nw 0) (kp 0) (tr 0) fl_hasImage fl_seasRead) ++ ((kPg cI pg pg_letters pg_size) ++ ((kDr cI dr dr_kinds dr_ills dr_ships dr_shipCount dr_rocks dr_rockCount dr_amongRocks dr_row dr_whole) ++ ((kPi cJ pi (ch 0) pi_origins) ++ ((kCh ch ch_drawn ch_rocks ch_rockCount ch_shipCount) ++ ((kMo cI nw nw_kinds nw_illUntil nw_cells nw_sailedToday nw_today nw_hired nw_timesSailed nw_seenCount nw_seenLodger nw_seenDay nw_seenUp) ++ ((kMo cI kp kp_kinds kp_illUntil kp_cells kp_sailedToday kp_today kp_hired kp_timesSailed kp_seenCount kp_seenLodger kp_seenDay kp_seenUp) ++ (kMo cI tr tr_kinds tr_illUntil tr_cells tr_sailedToday tr_today tr_hired tr_timesSailed tr_seenCount tr_seenLodger tr_seenDay tr_seenUp)))))))) ([.ref (fl 0), .int cell] : List Value)) (vp_Si (fun r => r = (fX5_namesCell ch_drawn cell) ∧ isB r)) 0 0 (fun _ => False) := by
  refine Met.ofW (cc := cX5_namesCell) (maxL := 2) (ret := (some .boolean)) (by decide) rfl ?_
  intro p e s m args below meth c s₁ B hml hv
  obtain ⟨rfl, hP, hK, hst⟩ := hv
  have hx := B.exec
  have hb := B.bytes
  have hr := B.returns
  have hts := atoms_spec (ws := wsX5_namesCell) B.pre
  have hown : s.vm.findClass RX5 = some m.cls := findClass_of_methodNamed B.named
  have hlocks := B.notSynchronized
  have hS : va_S (fun _ => False) s.heap s.heap [] := va_S.rf
  generalize hE : (fX5_namesCell ch_drawn cell) = RES
  generalize hQ : MQ below (vp_Si (fun r => r = RES ∧ isB r)) ([.ref (fl 0), .int cell] : List Value).toArray s 0 0 (fun _ => False) = Q
  have hl := lv_entry ([.ref (fl 0), .int cell] : List Value) (n := 2) (Nat.le_of_ble_eq_true rfl)
  rw [lg_entry_eq]
  generalize (lg_sl ([.ref (fl 0), .int cell] : List Value) ++ List.replicate (2 - (lg_sl ([.ref (fl 0), .int cell] : List Value)).length) Slot.unset).toArray = ls at hl ⊢
  have hl : lv_has ls 2 [(0, .ref (fl 0)), (1, .int cell)] := hl
  have in_X0 : ∀ w ∈ u_ws RX0 TX0 4, w ∈ wsX5_namesCell := fun _ h => List.mem_cons_of_mem _ (List.mem_append_right _ h)
  have in_X5 : ∀ w ∈ u_ws RX5 TX5 9, w ∈ wsX5_namesCell := fun _ h => List.mem_cons_of_mem _ (List.mem_append_left _ (List.mem_append_right _ h))
  have t_fieldLink_RX5_156_FourLodgers_Chart_drawn_Z := hts (.fieldLink RX5 156 "FourLodgers$Chart" "drawn" "Z") (List.mem_of_getElem? (i := 2) rfl)
  have t_fieldLink_RX5_34_FourLodgers_chart_LFourLodgers_Chart := hts (.fieldLink RX5 34 "FourLodgers" "chart" "LFourLodgers$Chart;") (List.mem_of_getElem? (i := 1) rfl)
  have i_0 : (0 : Int32).toInt = 0 := by decide
  have i_1 : (1 : Int32).toInt = 1 := by decide
  have i_36 : (36 : Int32).toInt = 36 := by decide
  rw [fX5_namesCell] at hE
  refine lv_aload_n hx hb dX5_namesCell_0 rfl (lv_at hl 0 rfl) ?_
  refine va_get (D := (dC, dI)) (ci := 5) (v := .ref (ch 0)) (C := RX5) (T := TX5) (N := 9) hx hb hts in_X5 hown hK hP 0 rfl rfl 3 (by decide) t_fieldLink_RX5_34_FourLodgers_chart_LFourLodgers_Chart (fun _ h9 => h9) rfl dX5_namesCell_1 ?_
  refine va_get (D := (dC, dI)) (ci := 0) (v := .int ch_drawn) (C := RX0) (T := TX0) (N := 4) hx hb hts in_X0 hown hK hP 9 rfl rfl 0 (by decide) t_fieldLink_RX5_156_FourLodgers_Chart_drawn_Z (fun _ h9 => h9) rfl dX5_namesCell_4 ?_
  refine lv_if_eq (tgt := 24) hx hb dX5_namesCell_7 (by decide) (fun c_7 => ?_) (fun c_7 => ?_)
  · have e_7 := congrArg Int32.toInt c_7
    rw [if_pos c_7] at hE
    refine lv_iconst (v := (0 : Int32)) hx hb dX5_namesCell_24 (by decide) ?_
    subst hE
    rw [← hQ]
    exact W.zret hx hb hr (isB.n nb_0) (fun t ht hW => ⟨_, rfl, ⟨rfl, nb_0⟩, ht⟩) (fun q h => absurd h List.not_mem_nil) dX5_namesCell_25
  · have e_7 := mt Int32.toInt_inj.mp c_7
    rw [if_neg c_7] at hE
    refine lv_iload_n hx hb dX5_namesCell_10 rfl (lv_at hl 1 rfl) ?_
    refine lv_if_lt (tgt := 24) hx hb dX5_namesCell_11 (by decide) (fun c_11 => ?_) (fun c_11 => ?_)
    · have e_11 := Int32.lt_iff_toInt_lt.mp c_11
      rw [if_pos c_11] at hE
      refine lv_iconst (v := (0 : Int32)) hx hb dX5_namesCell_24 (by decide) ?_
      subst hE
      rw [← hQ]
      exact W.zret hx hb hr (isB.n nb_0) (fun t ht hW => ⟨_, rfl, ⟨rfl, nb_0⟩, ht⟩) (fun q h => absurd h List.not_mem_nil) dX5_namesCell_25
    · have e_11 := mt Int32.lt_iff_toInt_lt.mpr c_11
      rw [if_neg c_11] at hE
      refine lv_iload_n hx hb dX5_namesCell_14 rfl (lv_at hl 1 rfl) ?_
      refine lv_bipush (v := (36 : Int32)) hx hb dX5_namesCell_15 (by decide) ?_
      refine lv_icmp_ge (tgt := 24) hx hb dX5_namesCell_17 (by decide) (fun c_17 => ?_) (fun c_17 => ?_)
      · have e_17 := Int32.le_iff_toInt_le.mp c_17
        rw [if_pos c_17] at hE
        refine lv_iconst (v := (0 : Int32)) hx hb dX5_namesCell_24 (by decide) ?_
        subst hE
        rw [← hQ]
        exact W.zret hx hb hr (isB.n nb_0) (fun t ht hW => ⟨_, rfl, ⟨rfl, nb_0⟩, ht⟩) (fun q h => absurd h List.not_mem_nil) dX5_namesCell_25
      · have e_17 := mt Int32.le_iff_toInt_le.mpr c_17
        rw [if_neg c_17] at hE
        refine lv_iconst (v := (1 : Int32)) hx hb dX5_namesCell_20 (by decide) ?_
        refine lv_goto (tgt := 25) hx hb dX5_namesCell_21 (by decide) ?_
        subst hE
        rw [← hQ]
        exact W.zret hx hb hr (isB.n nb_1) (fun t ht hW => ⟨_, rfl, ⟨rfl, nb_1⟩, ht⟩) (fun q h => absurd h List.not_mem_nil) dX5_namesCell_25
def fX5_shipsIn_4 (ch_shipCount : Int32) (nw_cells : Nat → Int32) (cell : Int32) : Nat → Int32 → Nat → Int32
  | 0, _, _ => 0
  | n_ + 1, x2, i => (if ch_shipCount ≤ (nI i) then x2 else (if (nw_cells (nI i).toNatClampNeg) = cell then (fX5_shipsIn_4 ch_shipCount nw_cells cell n_ (x2 ||| ((1 : Int32) <<< ((nI i) &&& 31))) ((i + 1))) else (fX5_shipsIn_4 ch_shipCount nw_cells cell n_ x2 ((i + 1)))))
def fX5_shipsIn (ch_shipCount : Int32) (nw_cells : Nat → Int32) (cell : Int32) : Int32 := (fX5_shipsIn_4 ch_shipCount nw_cells cell 4 (0 : Int32) (0))
set_option maxHeartbeats 4000000 in
set_option maxRecDepth 100000 in
theorem kX5_shipsIn (l : Launch) (dC : Nat → ClassId) (dI : Nat → Nat → Nat) (cI cJ : ClassId) (fl : Nat → Nat) (pg : Nat → Nat) (dr : Nat → Nat) (pi : Nat → Nat) (ch : Nat → Nat) (nw : Nat → Nat) (kp : Nat → Nat) (tr : Nat → Nat) (fl_hasImage : Int32) (fl_seasRead : Int32) (pg_letters : Nat → Int32) (pg_size : Int32) (dr_kinds : Nat → Int32) (dr_ills : Nat → Int32) (dr_ships : Nat → Int32) (dr_shipCount : Int32) (dr_rocks : Int64) (dr_rockCount : Int32) (dr_amongRocks : Int32) (dr_row : Int32) (dr_whole : Int32) (pi_origins : Nat → Int64) (ch_drawn : Int32) (ch_rocks : Int64) (ch_rockCount : Int32) (ch_shipCount : Int32) (nw_kinds : Nat → Int32) (nw_illUntil : Nat → Int32) (nw_cells : Nat → Int32) (nw_sailedToday : Int32) (nw_today : Int32) (nw_hired : Int32) (nw_timesSailed : Int32) (nw_seenCount : Int32) (nw_seenLodger : Nat → Int32) (nw_seenDay : Nat → Int32) (nw_seenUp : Nat → Int32) (kp_kinds : Nat → Int32) (kp_illUntil : Nat → Int32) (kp_cells : Nat → Int32) (kp_sailedToday : Int32) (kp_today : Int32) (kp_hired : Int32) (kp_timesSailed : Int32) (kp_seenCount : Int32) (kp_seenLodger : Nat → Int32) (kp_seenDay : Nat → Int32) (kp_seenUp : Nat → Int32) (tr_kinds : Nat → Int32) (tr_illUntil : Nat → Int32) (tr_cells : Nat → Int32) (tr_sailedToday : Int32) (tr_today : Int32) (tr_hired : Int32) (tr_timesSailed : Int32) (tr_seenCount : Int32) (tr_seenLodger : Nat → Int32) (tr_seenDay : Nat → Int32) (tr_seenUp : Nat → Int32) (cell : Int32) (p_t : ch_shipCount.toInt ≤ 3) : Met l yX5_shipsIn wsX5_shipsIn ({ frames := 0, cells := 0, slots := 0, locals := 0 } : Room) (gR (dC, dI) cI cJ ((kFl fl (pg 0) (dr 0) (pi 0) (ch 0) (nw 0) (kp 0) (tr 0) fl_hasImage fl_seasRead) ++ ((kPg cI pg pg_letters pg_size) ++ ((kDr cI dr dr_kinds dr_ills dr_ships dr_shipCount dr_rocks dr_rockCount dr_amongRocks dr_row dr_whole) ++ ((kPi cJ pi (ch 0) pi_origins) ++ ((kCh ch ch_drawn ch_rocks ch_rockCount ch_shipCount) ++ ((kMo cI nw nw_kinds nw_illUntil nw_cells nw_sailedToday nw_today nw_hired nw_timesSailed nw_seenCount nw_seenLodger nw_seenDay nw_seenUp) ++ ((kMo cI kp kp_kinds kp_illUntil kp_cells kp_sailedToday kp_today kp_hired kp_timesSailed kp_seenCount kp_seenLodger kp_seenDay kp_seenUp) ++ (kMo cI tr tr_kinds tr_illUntil tr_cells tr_sailedToday tr_today tr_hired tr_timesSailed tr_seenCount tr_seenLodger tr_seenDay tr_seenUp)))))))) ([.ref (fl 0), .int cell] : List Value)) (vp_Si (fun r => r = (fX5_shipsIn ch_shipCount nw_cells cell))) 0 0 (fun _ => False) := by
  refine Met.ofW (cc := cX5_shipsIn) (maxL := 4) (ret := (some .int)) (by decide) rfl ?_
  intro p e s m args below meth c s₁ B hml hv
  obtain ⟨rfl, hP, hK, hst⟩ := hv
  have hx := B.exec
  have hb := B.bytes
  have hr := B.returns
  have hts := atoms_spec (ws := wsX5_shipsIn) B.pre
  have hown : s.vm.findClass RX5 = some m.cls := findClass_of_methodNamed B.named
  have hlocks := B.notSynchronized
  have hS : va_S (fun _ => False) s.heap s.heap [] := va_S.rf
  generalize hE : (fX5_shipsIn ch_shipCount nw_cells cell) = RES
  generalize hQ : MQ below (vp_Si (fun r => r = RES)) ([.ref (fl 0), .int cell] : List Value).toArray s 0 0 (fun _ => False) = Q
  have hl := lv_entry ([.ref (fl 0), .int cell] : List Value) (n := 4) (Nat.le_of_ble_eq_true rfl)
  rw [lg_entry_eq]
  generalize (lg_sl ([.ref (fl 0), .int cell] : List Value) ++ List.replicate (4 - (lg_sl ([.ref (fl 0), .int cell] : List Value)).length) Slot.unset).toArray = ls at hl ⊢
  have hl : lv_has ls 4 [(0, .ref (fl 0)), (1, .int cell)] := hl
  have in_X0 : ∀ w ∈ u_ws RX0 TX0 4, w ∈ wsX5_shipsIn := fun _ h => List.mem_cons_of_mem _ (List.mem_append_left _ (List.mem_append_right _ h))
  have in_X2 : ∀ w ∈ u_ws RX2 TX2 11, w ∈ wsX5_shipsIn := fun _ h => List.mem_cons_of_mem _ (List.mem_append_right _ h)
  have in_X5 : ∀ w ∈ u_ws RX5 TX5 9, w ∈ wsX5_shipsIn := fun _ h => List.mem_cons_of_mem _ (List.mem_append_left _ (List.mem_append_left _ (List.mem_append_right _ h)))
  have t_fieldLink_RX5_127_FourLodgers_Moment_cells_I := hts (.fieldLink RX5 127 "FourLodgers$Moment" "cells" "[I") (List.mem_of_getElem? (i := 4) rfl)
  have t_fieldLink_RX5_34_FourLodgers_chart_LFourLodgers_Chart := hts (.fieldLink RX5 34 "FourLodgers" "chart" "LFourLodgers$Chart;") (List.mem_of_getElem? (i := 1) rfl)
  have t_fieldLink_RX5_38_FourLodgers_now_LFourLodgers_Moment := hts (.fieldLink RX5 38 "FourLodgers" "now" "LFourLodgers$Moment;") (List.mem_of_getElem? (i := 3) rfl)
  have t_fieldLink_RX5_83_FourLodgers_Chart_shipCount_I := hts (.fieldLink RX5 83 "FourLodgers$Chart" "shipCount" "I") (List.mem_of_getElem? (i := 2) rfl)
  have i_0 : (0 : Int32).toInt = 0 := by decide
  have i_1 : (1 : Int32).toInt = 1 := by decide
  rw [fX5_shipsIn] at hE
  refine lv_iconst (v := (0 : Int32)) hx hb dX5_shipsIn_0 (by decide) ?_
  refine lv_istore_n (lv' := [(2, .int (0 : Int32)), (0, .ref (fl 0)), (1, .int cell)]) hx hb dX5_shipsIn_1 rfl hl (by decide) rfl (fun ls hl => ?_)
  refine lv_iconst (v := (0 : Int32)) hx hb dX5_shipsIn_2 (by decide) ?_
  refine lv_istore_n (lv' := [(3, .int (0 : Int32)), (2, .int (0 : Int32)), (0, .ref (fl 0)), (1, .int cell)]) hx hb dX5_shipsIn_3 rfl hl (by decide) rfl (fun ls hl => ?_)
  have L4 : ∀ (n_ : Nat) (x2 : Int32) (i : Nat) , (i ≤ 3) → 3 - i < n_ → (fX5_shipsIn_4 ch_shipCount nw_cells cell n_ x2 i) = RES → ∀ ls : Array Slot, lv_has ls 4 [(0, .ref (fl 0)), (1, .int cell), (2, .int x2), (3, .int (nI i))] → W p l e (headSpec wsX5_shipsIn ({ frames := 0, cells := 0, slots := 0, locals := 0 } : Room)).room s m ([.ref (fl 0), .int cell] : List Value).toArray below meth c s.heap [] 0 0 Q (F0 m 4 ls []) := by
    intro n_
    induction n_ with
    | zero => intro x2 i  hi hn; exact absurd hn (Nat.not_lt_zero _)
    | succ n_ ih =>
      intro x2 i  hi hn hE ls hl
      rw [fX5_shipsIn_4] at hE
      have tn_i : (nI i).toInt = (i : Int) := nI_toInt (by omega)
      refine lv_iload_n hx hb dX5_shipsIn_4 rfl (lv_at hl 3 rfl) ?_
      refine lv_aload_n hx hb dX5_shipsIn_5 rfl (lv_at hl 0 rfl) ?_
      refine va_get (D := (dC, dI)) (ci := 5) (v := .ref (ch 0)) (C := RX5) (T := TX5) (N := 9) hx hb hts in_X5 hown hK hP 0 rfl rfl 3 (by decide) t_fieldLink_RX5_34_FourLodgers_chart_LFourLodgers_Chart (fun _ h9 => h9) rfl dX5_shipsIn_6 ?_
      refine va_get (D := (dC, dI)) (ci := 0) (v := .int ch_shipCount) (C := RX0) (T := TX0) (N := 4) hx hb hts in_X0 hown hK hP 9 rfl rfl 3 (by decide) t_fieldLink_RX5_83_FourLodgers_Chart_shipCount_I (fun _ h9 => h9) rfl dX5_shipsIn_9 ?_
      refine lv_icmp_ge (tgt := 40) hx hb dX5_shipsIn_12 (by decide) (fun c_12 => ?_) (fun c_12 => ?_)
      · have e_12 := Int32.le_iff_toInt_le.mp c_12
        rw [if_pos c_12] at hE
        refine lv_iload_n hx hb dX5_shipsIn_40 rfl (lv_at hl 2 rfl) ?_
        subst hE
        rw [← hQ]
        exact W.iret hx hb hr (fun t ht hW => ⟨_, rfl, rfl, ht⟩) (fun q h => absurd h List.not_mem_nil) dX5_shipsIn_41
      · have e_12 := mt Int32.le_iff_toInt_le.mpr c_12
        rw [if_neg c_12] at hE
        refine lv_aload_n hx hb dX5_shipsIn_15 rfl (lv_at hl 0 rfl) ?_
        refine va_get (D := (dC, dI)) (ci := 5) (v := .ref (nw 0)) (C := RX5) (T := TX5) (N := 9) hx hb hts in_X5 hown hK hP 0 rfl rfl 4 (by decide) t_fieldLink_RX5_38_FourLodgers_now_LFourLodgers_Moment (fun _ h9 => h9) rfl dX5_shipsIn_16 ?_
        refine va_get (D := (dC, dI)) (ci := 2) (v := .ref (nw 3)) (C := RX2) (T := TX2) (N := 11) hx hb hts in_X2 hown hK hP 10 rfl rfl 2 (by decide) t_fieldLink_RX5_127_FourLodgers_Moment_cells_I (fun _ h9 => h9) rfl dX5_shipsIn_19 ?_
        refine lv_iload_n hx hb dX5_shipsIn_22 rfl (lv_at hl 3 rfl) ?_
        refine va_iald hx hb hK hP 13 0 rfl rfl (i := (nI i)) (by first | assumption | exact vp_in_iff.mpr ⟨by omega, by omega⟩ | omega | decide) dX5_shipsIn_23 ?_
        refine lv_iload_n hx hb dX5_shipsIn_24 rfl (lv_at hl 1 rfl) ?_
        refine lv_icmp_ne (tgt := 34) hx hb dX5_shipsIn_25 (by decide) (fun c_25 => ?_) (fun c_25 => ?_)
        · have e_25 := mt Int32.toInt_inj.mp c_25
          rw [if_neg c_25] at hE
          refine lv_iinc (v := (nI (i + 1))) (lv' := [(3, .int (nI (i + 1))), (0, .ref (fl 0)), (1, .int cell), (2, .int x2)]) hx hb dX5_shipsIn_34 hl (k := 3) rfl (by rw [show Int32.ofInt 1 = nI 1 from rfl, nI_add]) (by decide) rfl (fun ls hl => ?_)
          refine lv_goto (tgt := 4) hx hb dX5_shipsIn_37 (by decide) ?_
          exact ih x2 ((i + 1))  (by omega) (by omega) hE ls (lv_sub hl [1, 2, 3, 0] rfl)
        · have e_25 := congrArg Int32.toInt c_25
          rw [if_pos c_25] at hE
          refine lv_iload_n hx hb dX5_shipsIn_28 rfl (lv_at hl 2 rfl) ?_
          refine lv_iconst (v := (1 : Int32)) hx hb dX5_shipsIn_29 (by decide) ?_
          refine lv_iload_n hx hb dX5_shipsIn_30 rfl (lv_at hl 3 rfl) ?_
          refine lv_ishl hx hb dX5_shipsIn_31 ?_
          refine lv_ior hx hb dX5_shipsIn_32 ?_
          refine lv_istore_n (lv' := [(2, .int (x2 ||| ((1 : Int32) <<< ((nI i) &&& 31)))), (0, .ref (fl 0)), (1, .int cell), (3, .int (nI i))]) hx hb dX5_shipsIn_33 rfl hl (by decide) rfl (fun ls hl => ?_)
          refine lv_iinc (v := (nI (i + 1))) (lv' := [(3, .int (nI (i + 1))), (2, .int (x2 ||| ((1 : Int32) <<< ((nI i) &&& 31)))), (0, .ref (fl 0)), (1, .int cell)]) hx hb dX5_shipsIn_34 hl (k := 3) rfl (by rw [show Int32.ofInt 1 = nI 1 from rfl, nI_add]) (by decide) rfl (fun ls hl => ?_)
          refine lv_goto (tgt := 4) hx hb dX5_shipsIn_37 (by decide) ?_
          exact ih (x2 ||| ((1 : Int32) <<< ((nI i) &&& 31))) ((i + 1))  (by omega) (by omega) hE ls (lv_sub hl [2, 3, 1, 0] rfl)
  exact L4 4 (0 : Int32) (0)  (by omega) (by omega) hE ls (lv_sub hl [2, 3, 1, 0] rfl)
def fX5_lodgersUp_4 (ch_drawn : Int32) (nw_kinds : Nat → Int32) (nw_illUntil : Nat → Int32) (nw_today : Int32) : Nat → Int32 → Nat → Int32
  | 0, _, _ => 0
  | n_ + 1, x1, i => (if ch_drawn = (0 : Int32) then x1 else (if (4 : Int32) ≤ (nI i) then x1 else (fX5_lodgersUp_4 ch_drawn nw_kinds nw_illUntil nw_today n_ (x1 + (fX5_asBit (fX2_isUp nw_kinds nw_illUntil (nI i) nw_today))) ((i + 1)))))
def fX5_lodgersUp (ch_drawn : Int32) (nw_kinds : Nat → Int32) (nw_illUntil : Nat → Int32) (nw_today : Int32) : Int32 := (fX5_lodgersUp_4 ch_drawn nw_kinds nw_illUntil nw_today 5 (0 : Int32) (0))
set_option maxHeartbeats 4000000 in
set_option maxRecDepth 100000 in
theorem kX5_lodgersUp (l : Launch) (dC : Nat → ClassId) (dI : Nat → Nat → Nat) (cI cJ : ClassId) (fl : Nat → Nat) (pg : Nat → Nat) (dr : Nat → Nat) (pi : Nat → Nat) (ch : Nat → Nat) (nw : Nat → Nat) (kp : Nat → Nat) (tr : Nat → Nat) (fl_hasImage : Int32) (fl_seasRead : Int32) (pg_letters : Nat → Int32) (pg_size : Int32) (dr_kinds : Nat → Int32) (dr_ills : Nat → Int32) (dr_ships : Nat → Int32) (dr_shipCount : Int32) (dr_rocks : Int64) (dr_rockCount : Int32) (dr_amongRocks : Int32) (dr_row : Int32) (dr_whole : Int32) (pi_origins : Nat → Int64) (ch_drawn : Int32) (ch_rocks : Int64) (ch_rockCount : Int32) (ch_shipCount : Int32) (nw_kinds : Nat → Int32) (nw_illUntil : Nat → Int32) (nw_cells : Nat → Int32) (nw_sailedToday : Int32) (nw_today : Int32) (nw_hired : Int32) (nw_timesSailed : Int32) (nw_seenCount : Int32) (nw_seenLodger : Nat → Int32) (nw_seenDay : Nat → Int32) (nw_seenUp : Nat → Int32) (kp_kinds : Nat → Int32) (kp_illUntil : Nat → Int32) (kp_cells : Nat → Int32) (kp_sailedToday : Int32) (kp_today : Int32) (kp_hired : Int32) (kp_timesSailed : Int32) (kp_seenCount : Int32) (kp_seenLodger : Nat → Int32) (kp_seenDay : Nat → Int32) (kp_seenUp : Nat → Int32) (tr_kinds : Nat → Int32) (tr_illUntil : Nat → Int32) (tr_cells : Nat → Int32) (tr_sailedToday : Int32) (tr_today : Int32) (tr_hired : Int32) (tr_timesSailed : Int32) (tr_seenCount : Int32) (tr_seenLodger : Nat → Int32) (tr_seenDay : Nat → Int32) (tr_seenUp : Nat → Int32) : Met l yX5_lodgersUp wsX5_lodgersUp ({ frames := 2, cells := 0, slots := 0, locals := 44 } : Room) (gR (dC, dI) cI cJ ((kFl fl (pg 0) (dr 0) (pi 0) (ch 0) (nw 0) (kp 0) (tr 0) fl_hasImage fl_seasRead) ++ ((kPg cI pg pg_letters pg_size) ++ ((kDr cI dr dr_kinds dr_ills dr_ships dr_shipCount dr_rocks dr_rockCount dr_amongRocks dr_row dr_whole) ++ ((kPi cJ pi (ch 0) pi_origins) ++ ((kCh ch ch_drawn ch_rocks ch_rockCount ch_shipCount) ++ ((kMo cI nw nw_kinds nw_illUntil nw_cells nw_sailedToday nw_today nw_hired nw_timesSailed nw_seenCount nw_seenLodger nw_seenDay nw_seenUp) ++ ((kMo cI kp kp_kinds kp_illUntil kp_cells kp_sailedToday kp_today kp_hired kp_timesSailed kp_seenCount kp_seenLodger kp_seenDay kp_seenUp) ++ (kMo cI tr tr_kinds tr_illUntil tr_cells tr_sailedToday tr_today tr_hired tr_timesSailed tr_seenCount tr_seenLodger tr_seenDay tr_seenUp)))))))) ([.ref (fl 0)] : List Value)) (vp_Si (fun r => r = (fX5_lodgersUp ch_drawn nw_kinds nw_illUntil nw_today))) 0 0 (fun _ => False) := by
  refine Met.ofW (cc := cX5_lodgersUp) (maxL := 3) (ret := (some .int)) (by decide) rfl ?_
  intro p e s m args below meth c s₁ B hml hv
  obtain ⟨rfl, hP, hK, hst⟩ := hv
  have hx := B.exec
  have hb := B.bytes
  have hr := B.returns
  have hts := atoms_spec (ws := wsX5_lodgersUp) B.pre
  have hown : s.vm.findClass RX5 = some m.cls := findClass_of_methodNamed B.named
  have hlocks := B.notSynchronized
  have hS : va_S (fun _ => False) s.heap s.heap [] := va_S.rf
  generalize hE : (fX5_lodgersUp ch_drawn nw_kinds nw_illUntil nw_today) = RES
  generalize hQ : MQ below (vp_Si (fun r => r = RES)) ([.ref (fl 0)] : List Value).toArray s 0 0 (fun _ => False) = Q
  have hl := lv_entry ([.ref (fl 0)] : List Value) (n := 3) (Nat.le_of_ble_eq_true rfl)
  rw [lg_entry_eq]
  generalize (lg_sl ([.ref (fl 0)] : List Value) ++ List.replicate (3 - (lg_sl ([.ref (fl 0)] : List Value)).length) Slot.unset).toArray = ls at hl ⊢
  have hl : lv_has ls 3 [(0, .ref (fl 0))] := hl
  have in_X0 : ∀ w ∈ u_ws RX0 TX0 4, w ∈ wsX5_lodgersUp := fun _ h => List.mem_cons_of_mem _ (List.mem_append_left _ (List.mem_append_right _ h))
  have in_X2 : ∀ w ∈ u_ws RX2 TX2 11, w ∈ wsX5_lodgersUp := fun _ h => List.mem_cons_of_mem _ (List.mem_append_right _ h)
  have in_X5 : ∀ w ∈ u_ws RX5 TX5 9, w ∈ wsX5_lodgersUp := fun _ h => List.mem_cons_of_mem _ (List.mem_append_left _ (List.mem_append_left _ (List.mem_append_right _ h)))
  have t_fieldLink_RX5_156_FourLodgers_Chart_drawn_Z := hts (.fieldLink RX5 156 "FourLodgers$Chart" "drawn" "Z") (List.mem_of_getElem? (i := 2) rfl)
  have t_fieldLink_RX5_34_FourLodgers_chart_LFourLodgers_Chart := hts (.fieldLink RX5 34 "FourLodgers" "chart" "LFourLodgers$Chart;") (List.mem_of_getElem? (i := 1) rfl)
  have t_fieldLink_RX5_38_FourLodgers_now_LFourLodgers_Moment := hts (.fieldLink RX5 38 "FourLodgers" "now" "LFourLodgers$Moment;") (List.mem_of_getElem? (i := 3) rfl)
  have t_fieldLink_RX5_97_FourLodgers_Moment_today_I := hts (.fieldLink RX5 97 "FourLodgers$Moment" "today" "I") (List.mem_of_getElem? (i := 4) rfl)
  have i_0 : (0 : Int32).toInt = 0 := by decide
  have i_4 : (4 : Int32).toInt = 4 := by decide
  rw [fX5_lodgersUp] at hE
  refine lv_iconst (v := (0 : Int32)) hx hb dX5_lodgersUp_0 (by decide) ?_
  refine lv_istore_n (lv' := [(1, .int (0 : Int32)), (0, .ref (fl 0))]) hx hb dX5_lodgersUp_1 rfl hl (by decide) rfl (fun ls hl => ?_)
  refine lv_iconst (v := (0 : Int32)) hx hb dX5_lodgersUp_2 (by decide) ?_
  refine lv_istore_n (lv' := [(2, .int (0 : Int32)), (1, .int (0 : Int32)), (0, .ref (fl 0))]) hx hb dX5_lodgersUp_3 rfl hl (by decide) rfl (fun ls hl => ?_)
  have L4 : ∀ (n_ : Nat) (x1 : Int32) (i : Nat) , (i ≤ 4) → 4 - i < n_ → (fX5_lodgersUp_4 ch_drawn nw_kinds nw_illUntil nw_today n_ x1 i) = RES → ∀ ls : Array Slot, lv_has ls 3 [(0, .ref (fl 0)), (1, .int x1), (2, .int (nI i))] → W p l e (headSpec wsX5_lodgersUp ({ frames := 2, cells := 0, slots := 0, locals := 44 } : Room)).room s m ([.ref (fl 0)] : List Value).toArray below meth c s.heap [] 0 0 Q (F0 m 4 ls []) := by
    intro n_
    induction n_ with
    | zero => intro x1 i  hi hn; exact absurd hn (Nat.not_lt_zero _)
    | succ n_ ih =>
      intro x1 i  hi hn hE ls hl
      rw [fX5_lodgersUp_4] at hE
      have tn_i : (nI i).toInt = (i : Int) := nI_toInt (by omega)
      refine lv_aload_n hx hb dX5_lodgersUp_4 rfl (lv_at hl 0 rfl) ?_
      refine va_get (D := (dC, dI)) (ci := 5) (v := .ref (ch 0)) (C := RX5) (T := TX5) (N := 9) hx hb hts in_X5 hown hK hP 0 rfl rfl 3 (by decide) t_fieldLink_RX5_34_FourLodgers_chart_LFourLodgers_Chart (fun _ h9 => h9) rfl dX5_lodgersUp_5 ?_
      refine va_get (D := (dC, dI)) (ci := 0) (v := .int ch_drawn) (C := RX0) (T := TX0) (N := 4) hx hb hts in_X0 hown hK hP 9 rfl rfl 0 (by decide) t_fieldLink_RX5_156_FourLodgers_Chart_drawn_Z (fun _ h9 => h9) rfl dX5_lodgersUp_8 ?_
      refine lv_if_eq (tgt := 46) hx hb dX5_lodgersUp_11 (by decide) (fun c_11 => ?_) (fun c_11 => ?_)
      · have e_11 := congrArg Int32.toInt c_11
        rw [if_pos c_11] at hE
        refine lv_iload_n hx hb dX5_lodgersUp_46 rfl (lv_at hl 1 rfl) ?_
        subst hE
        rw [← hQ]
        exact W.iret hx hb hr (fun t ht hW => ⟨_, rfl, rfl, ht⟩) (fun q h => absurd h List.not_mem_nil) dX5_lodgersUp_47
      · have e_11 := mt Int32.toInt_inj.mp c_11
        rw [if_neg c_11] at hE
        refine lv_iload_n hx hb dX5_lodgersUp_14 rfl (lv_at hl 2 rfl) ?_
        refine lv_iconst (v := (4 : Int32)) hx hb dX5_lodgersUp_15 (by decide) ?_
        refine lv_icmp_ge (tgt := 46) hx hb dX5_lodgersUp_16 (by decide) (fun c_16 => ?_) (fun c_16 => ?_)
        · have e_16 := Int32.le_iff_toInt_le.mp c_16
          rw [if_pos c_16] at hE
          refine lv_iload_n hx hb dX5_lodgersUp_46 rfl (lv_at hl 1 rfl) ?_
          subst hE
          rw [← hQ]
          exact W.iret hx hb hr (fun t ht hW => ⟨_, rfl, rfl, ht⟩) (fun q h => absurd h List.not_mem_nil) dX5_lodgersUp_47
        · have e_16 := mt Int32.le_iff_toInt_le.mpr c_16
          rw [if_neg c_16] at hE
          refine lv_iload_n hx hb dX5_lodgersUp_19 rfl (lv_at hl 1 rfl) ?_
          refine lv_aload_n hx hb dX5_lodgersUp_20 rfl (lv_at hl 0 rfl) ?_
          refine va_get (D := (dC, dI)) (ci := 5) (v := .ref (nw 0)) (C := RX5) (T := TX5) (N := 9) hx hb hts in_X5 hown hK hP 0 rfl rfl 4 (by decide) t_fieldLink_RX5_38_FourLodgers_now_LFourLodgers_Moment (fun _ h9 => h9) rfl dX5_lodgersUp_21 ?_
          refine lv_iload_n hx hb dX5_lodgersUp_24 rfl (lv_at hl 2 rfl) ?_
          refine lv_aload_n hx hb dX5_lodgersUp_25 rfl (lv_at hl 0 rfl) ?_
          refine va_get (D := (dC, dI)) (ci := 5) (v := .ref (nw 0)) (C := RX5) (T := TX5) (N := 9) hx hb hts in_X5 hown hK hP 0 rfl rfl 4 (by decide) t_fieldLink_RX5_38_FourLodgers_now_LFourLodgers_Moment (fun _ h9 => h9) rfl dX5_lodgersUp_26 ?_
          refine va_get (D := (dC, dI)) (ci := 2) (v := .int nw_today) (C := RX2) (T := TX2) (N := 11) hx hb hts in_X2 hown hK hP 10 rfl rfl 4 (by decide) t_fieldLink_RX5_97_FourLodgers_Moment_today_I (fun _ h9 => h9) rfl dX5_lodgersUp_29 ?_
          refine rcVi (As := [.int (nI i), .int nw_today]) (rest := [.int x1]) ⟨hx, hb, hml, hown, hts⟩ (kX2_isUp l dC dI cI cJ nw nw_kinds nw_illUntil nw_cells nw_sailedToday nw_today nw_hired nw_timesSailed nw_seenCount nw_seenLodger nw_seenDay nw_seenUp (nI i) nw_today (by first | assumption | exact vp_in_iff.mpr ⟨by omega, by omega⟩ | omega | decide)) (cwV 2 hts gX5_lodgersUp_X2_isUp rfl rfl rfl (by decide +kernel) ⟨Nat.le_of_ble_eq_true rfl, Nat.le_of_ble_eq_true rfl⟩) hK hP hst hS [10, 11, 12, 13, 14, 15, 16] rfl 10 rfl rfl rfl hl.1 rfl (Nat.le_of_ble_eq_true rfl) dX5_lodgersUp_32 ⟨Nat.zero_le _, Nat.zero_le _⟩ (fun r w_1 => ?_)
          obtain ⟨rfl, nb_2⟩ := w_1
          refine rcSi (As := [.int (fX2_isUp nw_kinds nw_illUntil (nI i) nw_today)]) (rest := [.int x1]) ⟨hx, hb, hml, hown, hts⟩ (kX5_asBit l dC dI cI cJ (fX2_isUp nw_kinds nw_illUntil (nI i) nw_today)) (va_cwS 1 hts gX5_lodgersUp_X5_asBit rfl rfl rfl (by decide +kernel) ⟨Nat.le_of_ble_eq_true rfl, Nat.le_of_ble_eq_true rfl⟩) hK hP hst hS [] rfl rfl hl.1 rfl (Nat.le_of_ble_eq_true rfl) dX5_lodgersUp_35 ⟨Nat.zero_le _, Nat.zero_le _⟩ (fun r w_3 => ?_)
          subst w_3
          refine lv_iadd hx hb dX5_lodgersUp_38 ?_
          refine lv_istore_n (lv' := [(1, .int (x1 + (fX5_asBit (fX2_isUp nw_kinds nw_illUntil (nI i) nw_today)))), (0, .ref (fl 0)), (2, .int (nI i))]) hx hb dX5_lodgersUp_39 rfl hl (by decide) rfl (fun ls hl => ?_)
          refine lv_iinc (v := (nI (i + 1))) (lv' := [(2, .int (nI (i + 1))), (1, .int (x1 + (fX5_asBit (fX2_isUp nw_kinds nw_illUntil (nI i) nw_today)))), (0, .ref (fl 0))]) hx hb dX5_lodgersUp_40 hl (k := 2) rfl (by rw [show Int32.ofInt 1 = nI 1 from rfl, nI_add]) (by decide) rfl (fun ls hl => ?_)
          refine lv_goto (tgt := 4) hx hb dX5_lodgersUp_43 (by decide) ?_
          exact ih (x1 + (fX5_asBit (fX2_isUp nw_kinds nw_illUntil (nI i) nw_today))) ((i + 1))  (by omega) (by omega) hE ls (lv_sub hl [2, 1, 0] rfl)
  exact L4 5 (0 : Int32) (0)  (by omega) (by omega) hE ls (lv_sub hl [2, 1, 0] rfl)
def fX5_lodgersIll_4 (nw_illUntil : Nat → Int32) (nw_today : Int32) : Nat → Int32 → Nat → Int32
  | 0, _, _ => 0
  | n_ + 1, x1, i => (if (4 : Int32) ≤ (nI i) then x1 else (fX5_lodgersIll_4 nw_illUntil nw_today n_ (x1 + (fX5_asBit (fX2_isIll nw_illUntil (nI i) nw_today))) ((i + 1))))
def fX5_lodgersIll (nw_illUntil : Nat → Int32) (nw_today : Int32) : Int32 := (fX5_lodgersIll_4 nw_illUntil nw_today 5 (0 : Int32) (0))
set_option maxHeartbeats 4000000 in
set_option maxRecDepth 100000 in
theorem kX5_lodgersIll (l : Launch) (dC : Nat → ClassId) (dI : Nat → Nat → Nat) (cI cJ : ClassId) (fl : Nat → Nat) (pg : Nat → Nat) (dr : Nat → Nat) (pi : Nat → Nat) (ch : Nat → Nat) (nw : Nat → Nat) (kp : Nat → Nat) (tr : Nat → Nat) (fl_hasImage : Int32) (fl_seasRead : Int32) (pg_letters : Nat → Int32) (pg_size : Int32) (dr_kinds : Nat → Int32) (dr_ills : Nat → Int32) (dr_ships : Nat → Int32) (dr_shipCount : Int32) (dr_rocks : Int64) (dr_rockCount : Int32) (dr_amongRocks : Int32) (dr_row : Int32) (dr_whole : Int32) (pi_origins : Nat → Int64) (ch_drawn : Int32) (ch_rocks : Int64) (ch_rockCount : Int32) (ch_shipCount : Int32) (nw_kinds : Nat → Int32) (nw_illUntil : Nat → Int32) (nw_cells : Nat → Int32) (nw_sailedToday : Int32) (nw_today : Int32) (nw_hired : Int32) (nw_timesSailed : Int32) (nw_seenCount : Int32) (nw_seenLodger : Nat → Int32) (nw_seenDay : Nat → Int32) (nw_seenUp : Nat → Int32) (kp_kinds : Nat → Int32) (kp_illUntil : Nat → Int32) (kp_cells : Nat → Int32) (kp_sailedToday : Int32) (kp_today : Int32) (kp_hired : Int32) (kp_timesSailed : Int32) (kp_seenCount : Int32) (kp_seenLodger : Nat → Int32) (kp_seenDay : Nat → Int32) (kp_seenUp : Nat → Int32) (tr_kinds : Nat → Int32) (tr_illUntil : Nat → Int32) (tr_cells : Nat → Int32) (tr_sailedToday : Int32) (tr_today : Int32) (tr_hired : Int32) (tr_timesSailed : Int32) (tr_seenCount : Int32) (tr_seenLodger : Nat → Int32) (tr_seenDay : Nat → Int32) (tr_seenUp : Nat → Int32) : Met l yX5_lodgersIll wsX5_lodgersIll ({ frames := 1, cells := 0, slots := 0, locals := 22 } : Room) (gR (dC, dI) cI cJ ((kFl fl (pg 0) (dr 0) (pi 0) (ch 0) (nw 0) (kp 0) (tr 0) fl_hasImage fl_seasRead) ++ ((kPg cI pg pg_letters pg_size) ++ ((kDr cI dr dr_kinds dr_ills dr_ships dr_shipCount dr_rocks dr_rockCount dr_amongRocks dr_row dr_whole) ++ ((kPi cJ pi (ch 0) pi_origins) ++ ((kCh ch ch_drawn ch_rocks ch_rockCount ch_shipCount) ++ ((kMo cI nw nw_kinds nw_illUntil nw_cells nw_sailedToday nw_today nw_hired nw_timesSailed nw_seenCount nw_seenLodger nw_seenDay nw_seenUp) ++ ((kMo cI kp kp_kinds kp_illUntil kp_cells kp_sailedToday kp_today kp_hired kp_timesSailed kp_seenCount kp_seenLodger kp_seenDay kp_seenUp) ++ (kMo cI tr tr_kinds tr_illUntil tr_cells tr_sailedToday tr_today tr_hired tr_timesSailed tr_seenCount tr_seenLodger tr_seenDay tr_seenUp)))))))) ([.ref (fl 0)] : List Value)) (vp_Si (fun r => r = (fX5_lodgersIll nw_illUntil nw_today))) 0 0 (fun _ => False) := by
  refine Met.ofW (cc := cX5_lodgersIll) (maxL := 3) (ret := (some .int)) (by decide) rfl ?_
  intro p e s m args below meth c s₁ B hml hv
  obtain ⟨rfl, hP, hK, hst⟩ := hv
  have hx := B.exec
  have hb := B.bytes
  have hr := B.returns
  have hts := atoms_spec (ws := wsX5_lodgersIll) B.pre
  have hown : s.vm.findClass RX5 = some m.cls := findClass_of_methodNamed B.named
  have hlocks := B.notSynchronized
  have hS : va_S (fun _ => False) s.heap s.heap [] := va_S.rf
  generalize hE : (fX5_lodgersIll nw_illUntil nw_today) = RES
  generalize hQ : MQ below (vp_Si (fun r => r = RES)) ([.ref (fl 0)] : List Value).toArray s 0 0 (fun _ => False) = Q
  have hl := lv_entry ([.ref (fl 0)] : List Value) (n := 3) (Nat.le_of_ble_eq_true rfl)
  rw [lg_entry_eq]
  generalize (lg_sl ([.ref (fl 0)] : List Value) ++ List.replicate (3 - (lg_sl ([.ref (fl 0)] : List Value)).length) Slot.unset).toArray = ls at hl ⊢
  have hl : lv_has ls 3 [(0, .ref (fl 0))] := hl
  have in_X2 : ∀ w ∈ u_ws RX2 TX2 11, w ∈ wsX5_lodgersIll := fun _ h => List.mem_cons_of_mem _ (List.mem_append_right _ h)
  have in_X5 : ∀ w ∈ u_ws RX5 TX5 9, w ∈ wsX5_lodgersIll := fun _ h => List.mem_cons_of_mem _ (List.mem_append_left _ (List.mem_append_right _ h))
  have t_fieldLink_RX5_38_FourLodgers_now_LFourLodgers_Moment := hts (.fieldLink RX5 38 "FourLodgers" "now" "LFourLodgers$Moment;") (List.mem_of_getElem? (i := 1) rfl)
  have t_fieldLink_RX5_97_FourLodgers_Moment_today_I := hts (.fieldLink RX5 97 "FourLodgers$Moment" "today" "I") (List.mem_of_getElem? (i := 2) rfl)
  have i_0 : (0 : Int32).toInt = 0 := by decide
  have i_4 : (4 : Int32).toInt = 4 := by decide
  rw [fX5_lodgersIll] at hE
  refine lv_iconst (v := (0 : Int32)) hx hb dX5_lodgersIll_0 (by decide) ?_
  refine lv_istore_n (lv' := [(1, .int (0 : Int32)), (0, .ref (fl 0))]) hx hb dX5_lodgersIll_1 rfl hl (by decide) rfl (fun ls hl => ?_)
  refine lv_iconst (v := (0 : Int32)) hx hb dX5_lodgersIll_2 (by decide) ?_
  refine lv_istore_n (lv' := [(2, .int (0 : Int32)), (1, .int (0 : Int32)), (0, .ref (fl 0))]) hx hb dX5_lodgersIll_3 rfl hl (by decide) rfl (fun ls hl => ?_)
  have L4 : ∀ (n_ : Nat) (x1 : Int32) (i : Nat) , (i ≤ 4) → 4 - i < n_ → (fX5_lodgersIll_4 nw_illUntil nw_today n_ x1 i) = RES → ∀ ls : Array Slot, lv_has ls 3 [(0, .ref (fl 0)), (1, .int x1), (2, .int (nI i))] → W p l e (headSpec wsX5_lodgersIll ({ frames := 1, cells := 0, slots := 0, locals := 22 } : Room)).room s m ([.ref (fl 0)] : List Value).toArray below meth c s.heap [] 0 0 Q (F0 m 4 ls []) := by
    intro n_
    induction n_ with
    | zero => intro x1 i  hi hn; exact absurd hn (Nat.not_lt_zero _)
    | succ n_ ih =>
      intro x1 i  hi hn hE ls hl
      rw [fX5_lodgersIll_4] at hE
      have tn_i : (nI i).toInt = (i : Int) := nI_toInt (by omega)
      refine lv_iload_n hx hb dX5_lodgersIll_4 rfl (lv_at hl 2 rfl) ?_
      refine lv_iconst (v := (4 : Int32)) hx hb dX5_lodgersIll_5 (by decide) ?_
      refine lv_icmp_ge (tgt := 36) hx hb dX5_lodgersIll_6 (by decide) (fun c_6 => ?_) (fun c_6 => ?_)
      · have e_6 := Int32.le_iff_toInt_le.mp c_6
        rw [if_pos c_6] at hE
        refine lv_iload_n hx hb dX5_lodgersIll_36 rfl (lv_at hl 1 rfl) ?_
        subst hE
        rw [← hQ]
        exact W.iret hx hb hr (fun t ht hW => ⟨_, rfl, rfl, ht⟩) (fun q h => absurd h List.not_mem_nil) dX5_lodgersIll_37
      · have e_6 := mt Int32.le_iff_toInt_le.mpr c_6
        rw [if_neg c_6] at hE
        refine lv_iload_n hx hb dX5_lodgersIll_9 rfl (lv_at hl 1 rfl) ?_
        refine lv_aload_n hx hb dX5_lodgersIll_10 rfl (lv_at hl 0 rfl) ?_
        refine va_get (D := (dC, dI)) (ci := 5) (v := .ref (nw 0)) (C := RX5) (T := TX5) (N := 9) hx hb hts in_X5 hown hK hP 0 rfl rfl 4 (by decide) t_fieldLink_RX5_38_FourLodgers_now_LFourLodgers_Moment (fun _ h9 => h9) rfl dX5_lodgersIll_11 ?_
        refine lv_iload_n hx hb dX5_lodgersIll_14 rfl (lv_at hl 2 rfl) ?_
        refine lv_aload_n hx hb dX5_lodgersIll_15 rfl (lv_at hl 0 rfl) ?_
        refine va_get (D := (dC, dI)) (ci := 5) (v := .ref (nw 0)) (C := RX5) (T := TX5) (N := 9) hx hb hts in_X5 hown hK hP 0 rfl rfl 4 (by decide) t_fieldLink_RX5_38_FourLodgers_now_LFourLodgers_Moment (fun _ h9 => h9) rfl dX5_lodgersIll_16 ?_
        refine va_get (D := (dC, dI)) (ci := 2) (v := .int nw_today) (C := RX2) (T := TX2) (N := 11) hx hb hts in_X2 hown hK hP 10 rfl rfl 4 (by decide) t_fieldLink_RX5_97_FourLodgers_Moment_today_I (fun _ h9 => h9) rfl dX5_lodgersIll_19 ?_
        refine rcVi (As := [.int (nI i), .int nw_today]) (rest := [.int x1]) ⟨hx, hb, hml, hown, hts⟩ (kX2_isIll l dC dI cI cJ nw nw_kinds nw_illUntil nw_cells nw_sailedToday nw_today nw_hired nw_timesSailed nw_seenCount nw_seenLodger nw_seenDay nw_seenUp (nI i) nw_today (by first | assumption | exact vp_in_iff.mpr ⟨by omega, by omega⟩ | omega | decide)) (cwV 2 hts gX5_lodgersIll_X2_isIll rfl rfl rfl (by decide +kernel) ⟨Nat.le_of_ble_eq_true rfl, Nat.le_of_ble_eq_true rfl⟩) hK hP hst hS [10, 11, 12, 13, 14, 15, 16] rfl 10 rfl rfl rfl hl.1 rfl (Nat.le_of_ble_eq_true rfl) dX5_lodgersIll_22 ⟨Nat.zero_le _, Nat.zero_le _⟩ (fun r w_1 => ?_)
        obtain ⟨rfl, nb_2⟩ := w_1
        refine rcSi (As := [.int (fX2_isIll nw_illUntil (nI i) nw_today)]) (rest := [.int x1]) ⟨hx, hb, hml, hown, hts⟩ (kX5_asBit l dC dI cI cJ (fX2_isIll nw_illUntil (nI i) nw_today)) (va_cwS 1 hts gX5_lodgersIll_X5_asBit rfl rfl rfl (by decide +kernel) ⟨Nat.le_of_ble_eq_true rfl, Nat.le_of_ble_eq_true rfl⟩) hK hP hst hS [] rfl rfl hl.1 rfl (Nat.le_of_ble_eq_true rfl) dX5_lodgersIll_25 ⟨Nat.zero_le _, Nat.zero_le _⟩ (fun r w_3 => ?_)
        subst w_3
        refine lv_iadd hx hb dX5_lodgersIll_28 ?_
        refine lv_istore_n (lv' := [(1, .int (x1 + (fX5_asBit (fX2_isIll nw_illUntil (nI i) nw_today)))), (0, .ref (fl 0)), (2, .int (nI i))]) hx hb dX5_lodgersIll_29 rfl hl (by decide) rfl (fun ls hl => ?_)
        refine lv_iinc (v := (nI (i + 1))) (lv' := [(2, .int (nI (i + 1))), (1, .int (x1 + (fX5_asBit (fX2_isIll nw_illUntil (nI i) nw_today)))), (0, .ref (fl 0))]) hx hb dX5_lodgersIll_30 hl (k := 2) rfl (by rw [show Int32.ofInt 1 = nI 1 from rfl, nI_add]) (by decide) rfl (fun ls hl => ?_)
        refine lv_goto (tgt := 4) hx hb dX5_lodgersIll_33 (by decide) ?_
        exact ih (x1 + (fX5_asBit (fX2_isIll nw_illUntil (nI i) nw_today))) ((i + 1))  (by omega) (by omega) hE ls (lv_sub hl [2, 1, 0] rfl)
  exact L4 5 (0 : Int32) (0)  (by omega) (by omega) hE ls (lv_sub hl [2, 1, 0] rfl)
def fX5_count (fl_seasRead : Int32) (pg_size : Int32) (ch_drawn : Int32) (ch_rockCount : Int32) (ch_shipCount : Int32) (nw_kinds : Nat → Int32) (nw_illUntil : Nat → Int32) (nw_sailedToday : Int32) (nw_today : Int32) (nw_hired : Int32) (nw_timesSailed : Int32) (nw_seenCount : Int32) (what_ : Int32) : Int32 := (if what_ = (0 : Int32) then ch_shipCount else (if what_ = (1 : Int32) then ch_rockCount else (if what_ = (2 : Int32) then nw_today else (if what_ = (3 : Int32) then (fX5_asBit nw_hired) else (if what_ = (4 : Int32) then (fX5_lodgersUp ch_drawn nw_kinds nw_illUntil nw_today) else (if what_ = (5 : Int32) then (fX5_lodgersIll nw_illUntil nw_today) else (if what_ = (6 : Int32) then (fJ6_bitCount_0f7a4 nw_sailedToday) else (if what_ = (7 : Int32) then nw_timesSailed else (if what_ = (8 : Int32) then nw_seenCount else (if what_ = (9 : Int32) then pg_size else (if what_ = (10 : Int32) then fl_seasRead else (-102 : Int32))))))))))))
set_option maxHeartbeats 4000000 in
set_option maxRecDepth 100000 in
theorem kX5_count (l : Launch) (dC : Nat → ClassId) (dI : Nat → Nat → Nat) (cI cJ : ClassId) (fl : Nat → Nat) (pg : Nat → Nat) (dr : Nat → Nat) (pi : Nat → Nat) (ch : Nat → Nat) (nw : Nat → Nat) (kp : Nat → Nat) (tr : Nat → Nat) (fl_hasImage : Int32) (fl_seasRead : Int32) (pg_letters : Nat → Int32) (pg_size : Int32) (dr_kinds : Nat → Int32) (dr_ills : Nat → Int32) (dr_ships : Nat → Int32) (dr_shipCount : Int32) (dr_rocks : Int64) (dr_rockCount : Int32) (dr_amongRocks : Int32) (dr_row : Int32) (dr_whole : Int32) (pi_origins : Nat → Int64) (ch_drawn : Int32) (ch_rocks : Int64) (ch_rockCount : Int32) (ch_shipCount : Int32) (nw_kinds : Nat → Int32) (nw_illUntil : Nat → Int32) (nw_cells : Nat → Int32) (nw_sailedToday : Int32) (nw_today : Int32) (nw_hired : Int32) (nw_timesSailed : Int32) (nw_seenCount : Int32) (nw_seenLodger : Nat → Int32) (nw_seenDay : Nat → Int32) (nw_seenUp : Nat → Int32) (kp_kinds : Nat → Int32) (kp_illUntil : Nat → Int32) (kp_cells : Nat → Int32) (kp_sailedToday : Int32) (kp_today : Int32) (kp_hired : Int32) (kp_timesSailed : Int32) (kp_seenCount : Int32) (kp_seenLodger : Nat → Int32) (kp_seenDay : Nat → Int32) (kp_seenUp : Nat → Int32) (tr_kinds : Nat → Int32) (tr_illUntil : Nat → Int32) (tr_cells : Nat → Int32) (tr_sailedToday : Int32) (tr_today : Int32) (tr_hired : Int32) (tr_timesSailed : Int32) (tr_seenCount : Int32) (tr_seenLodger : Nat → Int32) (tr_seenDay : Nat → Int32) (tr_seenUp : Nat → Int32) (what_ : Int32) : Met l yX5_count wsX5_count ({ frames := 3, cells := 0, slots := 0, locals := 66 } : Room) (gR (dC, dI) cI cJ ((kFl fl (pg 0) (dr 0) (pi 0) (ch 0) (nw 0) (kp 0) (tr 0) fl_hasImage fl_seasRead) ++ ((kPg cI pg pg_letters pg_size) ++ ((kDr cI dr dr_kinds dr_ills dr_ships dr_shipCount dr_rocks dr_rockCount dr_amongRocks dr_row dr_whole) ++ ((kPi cJ pi (ch 0) pi_origins) ++ ((kCh ch ch_drawn ch_rocks ch_rockCount ch_shipCount) ++ ((kMo cI nw nw_kinds nw_illUntil nw_cells nw_sailedToday nw_today nw_hired nw_timesSailed nw_seenCount nw_seenLodger nw_seenDay nw_seenUp) ++ ((kMo cI kp kp_kinds kp_illUntil kp_cells kp_sailedToday kp_today kp_hired kp_timesSailed kp_seenCount kp_seenLodger kp_seenDay kp_seenUp) ++ (kMo cI tr tr_kinds tr_illUntil tr_cells tr_sailedToday tr_today tr_hired tr_timesSailed tr_seenCount tr_seenLodger tr_seenDay tr_seenUp)))))))) ([.ref (fl 0), .int what_] : List Value)) (vp_Si (fun r => r = (fX5_count fl_seasRead pg_size ch_drawn ch_rockCount ch_shipCount nw_kinds nw_illUntil nw_sailedToday nw_today nw_hired nw_timesSailed nw_seenCount what_))) 0 0 (fun _ => False) := by
  refine Met.ofW (cc := cX5_count) (maxL := 2) (ret := (some .int)) (by decide) rfl ?_
  intro p e s m args below meth c s₁ B hml hv
  obtain ⟨rfl, hP, hK, hst⟩ := hv
  have hx := B.exec
  have hb := B.bytes
  have hr := B.returns
  have hts := atoms_spec (ws := wsX5_count) B.pre
  have hown : s.vm.findClass RX5 = some m.cls := findClass_of_methodNamed B.named
  have hlocks := B.notSynchronized
  have hS : va_S (fun _ => False) s.heap s.heap [] := va_S.rf
  generalize hE : (fX5_count fl_seasRead pg_size ch_drawn ch_rockCount ch_shipCount nw_kinds nw_illUntil nw_sailedToday nw_today nw_hired nw_timesSailed nw_seenCount what_) = RES
  generalize hQ : MQ below (vp_Si (fun r => r = RES)) ([.ref (fl 0), .int what_] : List Value).toArray s 0 0 (fun _ => False) = Q
  have hl := lv_entry ([.ref (fl 0), .int what_] : List Value) (n := 2) (Nat.le_of_ble_eq_true rfl)
  rw [lg_entry_eq]
  generalize (lg_sl ([.ref (fl 0), .int what_] : List Value) ++ List.replicate (2 - (lg_sl ([.ref (fl 0), .int what_] : List Value)).length) Slot.unset).toArray = ls at hl ⊢
  have hl : lv_has ls 2 [(0, .ref (fl 0)), (1, .int what_)] := hl
  have in_X0 : ∀ w ∈ u_ws RX0 TX0 4, w ∈ wsX5_count := fun _ h => List.mem_cons_of_mem _ (List.mem_append_left _ (List.mem_append_left _ (List.mem_append_right _ h)))
  have in_X2 : ∀ w ∈ u_ws RX2 TX2 11, w ∈ wsX5_count := fun _ h => List.mem_cons_of_mem _ (List.mem_append_left _ (List.mem_append_right _ h))
  have in_X3 : ∀ w ∈ u_ws RX3 TX3 2, w ∈ wsX5_count := fun _ h => List.mem_cons_of_mem _ (List.mem_append_right _ h)
  have in_X5 : ∀ w ∈ u_ws RX5 TX5 9, w ∈ wsX5_count := fun _ h => List.mem_cons_of_mem _ (List.mem_append_left _ (List.mem_append_left _ (List.mem_append_left _ (List.mem_append_right _ h))))
  have t_fieldLink_RX5_10_FourLodgers_page_LFourLodgers_Page := hts (.fieldLink RX5 10 "FourLodgers" "page" "LFourLodgers$Page;") (List.mem_of_getElem? (i := 10) rfl)
  have t_fieldLink_RX5_146_FourLodgers_Moment_timesSailed_I := hts (.fieldLink RX5 146 "FourLodgers$Moment" "timesSailed" "I") (List.mem_of_getElem? (i := 8) rfl)
  have t_fieldLink_RX5_165_FourLodgers_Moment_hired_Z := hts (.fieldLink RX5 165 "FourLodgers$Moment" "hired" "Z") (List.mem_of_getElem? (i := 6) rfl)
  have t_fieldLink_RX5_211_FourLodgers_Moment_seenCount_I := hts (.fieldLink RX5 211 "FourLodgers$Moment" "seenCount" "I") (List.mem_of_getElem? (i := 9) rfl)
  have t_fieldLink_RX5_218_FourLodgers_Moment_sailedToday_I := hts (.fieldLink RX5 218 "FourLodgers$Moment" "sailedToday" "I") (List.mem_of_getElem? (i := 7) rfl)
  have t_fieldLink_RX5_224_FourLodgers_Chart_rockCount_I := hts (.fieldLink RX5 224 "FourLodgers$Chart" "rockCount" "I") (List.mem_of_getElem? (i := 3) rfl)
  have t_fieldLink_RX5_34_FourLodgers_chart_LFourLodgers_Chart := hts (.fieldLink RX5 34 "FourLodgers" "chart" "LFourLodgers$Chart;") (List.mem_of_getElem? (i := 1) rfl)
  have t_fieldLink_RX5_38_FourLodgers_now_LFourLodgers_Moment := hts (.fieldLink RX5 38 "FourLodgers" "now" "LFourLodgers$Moment;") (List.mem_of_getElem? (i := 4) rfl)
  have t_fieldLink_RX5_52_FourLodgers_seasRead_I := hts (.fieldLink RX5 52 "FourLodgers" "seasRead" "I") (List.mem_of_getElem? (i := 12) rfl)
  have t_fieldLink_RX5_60_FourLodgers_Page_size_I := hts (.fieldLink RX5 60 "FourLodgers$Page" "size" "I") (List.mem_of_getElem? (i := 11) rfl)
  have t_fieldLink_RX5_83_FourLodgers_Chart_shipCount_I := hts (.fieldLink RX5 83 "FourLodgers$Chart" "shipCount" "I") (List.mem_of_getElem? (i := 2) rfl)
  have t_fieldLink_RX5_97_FourLodgers_Moment_today_I := hts (.fieldLink RX5 97 "FourLodgers$Moment" "today" "I") (List.mem_of_getElem? (i := 5) rfl)
  have i_m102 : (-102 : Int32).toInt = -102 := by decide
  have i_0 : (0 : Int32).toInt = 0 := by decide
  have i_1 : (1 : Int32).toInt = 1 := by decide
  have i_2 : (2 : Int32).toInt = 2 := by decide
  have i_3 : (3 : Int32).toInt = 3 := by decide
  have i_4 : (4 : Int32).toInt = 4 := by decide
  have i_5 : (5 : Int32).toInt = 5 := by decide
  have i_6 : (6 : Int32).toInt = 6 := by decide
  have i_7 : (7 : Int32).toInt = 7 := by decide
  have i_8 : (8 : Int32).toInt = 8 := by decide
  have i_9 : (9 : Int32).toInt = 9 := by decide
  have i_10 : (10 : Int32).toInt = 10 := by decide
  rw [fX5_count] at hE
  refine lv_iload_n hx hb dX5_count_0 rfl (lv_at hl 1 rfl) ?_
  by_cases c_1_0 : what_ = (0 : Int32)
  · have e_1_0 := congrArg Int32.toInt c_1_0
    rw [if_pos c_1_0] at hE
    refine lv_tableIn (off := 59) (tgt := 60) hx hb dX5_count_1 (by rw [c_1_0]; decide) (by rw [c_1_0]; decide) (by rw [c_1_0]; rfl) (by decide) ?_
    refine lv_aload_n hx hb dX5_count_60 rfl (lv_at hl 0 rfl) ?_
    refine va_get (D := (dC, dI)) (ci := 5) (v := .ref (ch 0)) (C := RX5) (T := TX5) (N := 9) hx hb hts in_X5 hown hK hP 0 rfl rfl 3 (by decide) t_fieldLink_RX5_34_FourLodgers_chart_LFourLodgers_Chart (fun _ h9 => h9) rfl dX5_count_61 ?_
    refine va_get (D := (dC, dI)) (ci := 0) (v := .int ch_shipCount) (C := RX0) (T := TX0) (N := 4) hx hb hts in_X0 hown hK hP 9 rfl rfl 3 (by decide) t_fieldLink_RX5_83_FourLodgers_Chart_shipCount_I (fun _ h9 => h9) rfl dX5_count_64 ?_
    subst hE
    rw [← hQ]
    exact W.iret hx hb hr (fun t ht hW => ⟨_, rfl, rfl, ht⟩) (fun q h => absurd h List.not_mem_nil) dX5_count_67
  · rw [if_neg c_1_0] at hE
    have e_1_0 := mt Int32.toInt_inj.mp c_1_0
    by_cases c_1_1 : what_ = (1 : Int32)
    · have e_1_1 := congrArg Int32.toInt c_1_1
      rw [if_pos c_1_1] at hE
      refine lv_tableIn (off := 67) (tgt := 68) hx hb dX5_count_1 (by rw [c_1_1]; decide) (by rw [c_1_1]; decide) (by rw [c_1_1]; rfl) (by decide) ?_
      refine lv_aload_n hx hb dX5_count_68 rfl (lv_at hl 0 rfl) ?_
      refine va_get (D := (dC, dI)) (ci := 5) (v := .ref (ch 0)) (C := RX5) (T := TX5) (N := 9) hx hb hts in_X5 hown hK hP 0 rfl rfl 3 (by decide) t_fieldLink_RX5_34_FourLodgers_chart_LFourLodgers_Chart (fun _ h9 => h9) rfl dX5_count_69 ?_
      refine va_get (D := (dC, dI)) (ci := 0) (v := .int ch_rockCount) (C := RX0) (T := TX0) (N := 4) hx hb hts in_X0 hown hK hP 9 rfl rfl 2 (by decide) t_fieldLink_RX5_224_FourLodgers_Chart_rockCount_I (fun _ h9 => h9) rfl dX5_count_72 ?_
      subst hE
      rw [← hQ]
      exact W.iret hx hb hr (fun t ht hW => ⟨_, rfl, rfl, ht⟩) (fun q h => absurd h List.not_mem_nil) dX5_count_75
    · rw [if_neg c_1_1] at hE
      have e_1_1 := mt Int32.toInt_inj.mp c_1_1
      by_cases c_1_2 : what_ = (2 : Int32)
      · have e_1_2 := congrArg Int32.toInt c_1_2
        rw [if_pos c_1_2] at hE
        refine lv_tableIn (off := 75) (tgt := 76) hx hb dX5_count_1 (by rw [c_1_2]; decide) (by rw [c_1_2]; decide) (by rw [c_1_2]; rfl) (by decide) ?_
        refine lv_aload_n hx hb dX5_count_76 rfl (lv_at hl 0 rfl) ?_
        refine va_get (D := (dC, dI)) (ci := 5) (v := .ref (nw 0)) (C := RX5) (T := TX5) (N := 9) hx hb hts in_X5 hown hK hP 0 rfl rfl 4 (by decide) t_fieldLink_RX5_38_FourLodgers_now_LFourLodgers_Moment (fun _ h9 => h9) rfl dX5_count_77 ?_
        refine va_get (D := (dC, dI)) (ci := 2) (v := .int nw_today) (C := RX2) (T := TX2) (N := 11) hx hb hts in_X2 hown hK hP 10 rfl rfl 4 (by decide) t_fieldLink_RX5_97_FourLodgers_Moment_today_I (fun _ h9 => h9) rfl dX5_count_80 ?_
        subst hE
        rw [← hQ]
        exact W.iret hx hb hr (fun t ht hW => ⟨_, rfl, rfl, ht⟩) (fun q h => absurd h List.not_mem_nil) dX5_count_83
      · rw [if_neg c_1_2] at hE
        have e_1_2 := mt Int32.toInt_inj.mp c_1_2
        by_cases c_1_3 : what_ = (3 : Int32)
        · have e_1_3 := congrArg Int32.toInt c_1_3
          rw [if_pos c_1_3] at hE
          refine lv_tableIn (off := 83) (tgt := 84) hx hb dX5_count_1 (by rw [c_1_3]; decide) (by rw [c_1_3]; decide) (by rw [c_1_3]; rfl) (by decide) ?_
          refine lv_aload_n hx hb dX5_count_84 rfl (lv_at hl 0 rfl) ?_
          refine va_get (D := (dC, dI)) (ci := 5) (v := .ref (nw 0)) (C := RX5) (T := TX5) (N := 9) hx hb hts in_X5 hown hK hP 0 rfl rfl 4 (by decide) t_fieldLink_RX5_38_FourLodgers_now_LFourLodgers_Moment (fun _ h9 => h9) rfl dX5_count_85 ?_
          refine va_get (D := (dC, dI)) (ci := 2) (v := .int nw_hired) (C := RX2) (T := TX2) (N := 11) hx hb hts in_X2 hown hK hP 10 rfl rfl 5 (by decide) t_fieldLink_RX5_165_FourLodgers_Moment_hired_Z (fun _ h9 => h9) rfl dX5_count_88 ?_
          refine rcSi (As := [.int nw_hired]) (rest := []) ⟨hx, hb, hml, hown, hts⟩ (kX5_asBit l dC dI cI cJ nw_hired) (va_cwS 1 hts gX5_count_X5_asBit rfl rfl rfl (by decide +kernel) ⟨Nat.le_of_ble_eq_true rfl, Nat.le_of_ble_eq_true rfl⟩) hK hP hst hS [] rfl rfl hl.1 rfl (Nat.le_of_ble_eq_true rfl) dX5_count_91 ⟨Nat.zero_le _, Nat.zero_le _⟩ (fun r w_1 => ?_)
          subst w_1
          subst hE
          rw [← hQ]
          exact W.iret hx hb hr (fun t ht hW => ⟨_, rfl, rfl, ht⟩) (fun q h => absurd h List.not_mem_nil) dX5_count_94
        · rw [if_neg c_1_3] at hE
          have e_1_3 := mt Int32.toInt_inj.mp c_1_3
          by_cases c_1_4 : what_ = (4 : Int32)
          · have e_1_4 := congrArg Int32.toInt c_1_4
            rw [if_pos c_1_4] at hE
            refine lv_tableIn (off := 94) (tgt := 95) hx hb dX5_count_1 (by rw [c_1_4]; decide) (by rw [c_1_4]; decide) (by rw [c_1_4]; rfl) (by decide) ?_
            refine lv_aload_n hx hb dX5_count_95 rfl (lv_at hl 0 rfl) ?_
            refine rcVi (As := []) (rest := []) ⟨hx, hb, hml, hown, hts⟩ (kX5_lodgersUp l dC dI cI cJ fl pg dr pi ch nw kp tr fl_hasImage fl_seasRead pg_letters pg_size dr_kinds dr_ills dr_ships dr_shipCount dr_rocks dr_rockCount dr_amongRocks dr_row dr_whole pi_origins ch_drawn ch_rocks ch_rockCount ch_shipCount nw_kinds nw_illUntil nw_cells nw_sailedToday nw_today nw_hired nw_timesSailed nw_seenCount nw_seenLodger nw_seenDay nw_seenUp kp_kinds kp_illUntil kp_cells kp_sailedToday kp_today kp_hired kp_timesSailed kp_seenCount kp_seenLodger kp_seenDay kp_seenUp tr_kinds tr_illUntil tr_cells tr_sailedToday tr_today tr_hired tr_timesSailed tr_seenCount tr_seenLodger tr_seenDay tr_seenUp) (cwV 0 hts gX5_count_X5_lodgersUp rfl rfl rfl (by decide +kernel) ⟨Nat.le_of_ble_eq_true rfl, Nat.le_of_ble_eq_true rfl⟩) hK hP hst hS [0, 1, 2, 3, 4, 5, 6, 7, 8, 9, 10, 11, 12, 13, 14, 15, 16, 17, 18, 19, 20, 21, 22, 23, 24, 25, 26, 27, 28, 29, 30] rfl 0 rfl rfl rfl hl.1 rfl (Nat.le_of_ble_eq_true rfl) dX5_count_96 ⟨Nat.zero_le _, Nat.zero_le _⟩ (fun r w_2 => ?_)
            subst w_2
            subst hE
            rw [← hQ]
            exact W.iret hx hb hr (fun t ht hW => ⟨_, rfl, rfl, ht⟩) (fun q h => absurd h List.not_mem_nil) dX5_count_99
          · rw [if_neg c_1_4] at hE
            have e_1_4 := mt Int32.toInt_inj.mp c_1_4
            by_cases c_1_5 : what_ = (5 : Int32)
            · have e_1_5 := congrArg Int32.toInt c_1_5
              rw [if_pos c_1_5] at hE
              refine lv_tableIn (off := 99) (tgt := 100) hx hb dX5_count_1 (by rw [c_1_5]; decide) (by rw [c_1_5]; decide) (by rw [c_1_5]; rfl) (by decide) ?_
              refine lv_aload_n hx hb dX5_count_100 rfl (lv_at hl 0 rfl) ?_
              refine rcVi (As := []) (rest := []) ⟨hx, hb, hml, hown, hts⟩ (kX5_lodgersIll l dC dI cI cJ fl pg dr pi ch nw kp tr fl_hasImage fl_seasRead pg_letters pg_size dr_kinds dr_ills dr_ships dr_shipCount dr_rocks dr_rockCount dr_amongRocks dr_row dr_whole pi_origins ch_drawn ch_rocks ch_rockCount ch_shipCount nw_kinds nw_illUntil nw_cells nw_sailedToday nw_today nw_hired nw_timesSailed nw_seenCount nw_seenLodger nw_seenDay nw_seenUp kp_kinds kp_illUntil kp_cells kp_sailedToday kp_today kp_hired kp_timesSailed kp_seenCount kp_seenLodger kp_seenDay kp_seenUp tr_kinds tr_illUntil tr_cells tr_sailedToday tr_today tr_hired tr_timesSailed tr_seenCount tr_seenLodger tr_seenDay tr_seenUp) (cwV 0 hts gX5_count_X5_lodgersIll rfl rfl rfl (by decide +kernel) ⟨Nat.le_of_ble_eq_true rfl, Nat.le_of_ble_eq_true rfl⟩) hK hP hst hS [0, 1, 2, 3, 4, 5, 6, 7, 8, 9, 10, 11, 12, 13, 14, 15, 16, 17, 18, 19, 20, 21, 22, 23, 24, 25, 26, 27, 28, 29, 30] rfl 0 rfl rfl rfl hl.1 rfl (Nat.le_of_ble_eq_true rfl) dX5_count_101 ⟨Nat.zero_le _, Nat.zero_le _⟩ (fun r w_3 => ?_)
              subst w_3
              subst hE
              rw [← hQ]
              exact W.iret hx hb hr (fun t ht hW => ⟨_, rfl, rfl, ht⟩) (fun q h => absurd h List.not_mem_nil) dX5_count_104
            · rw [if_neg c_1_5] at hE
              have e_1_5 := mt Int32.toInt_inj.mp c_1_5
              by_cases c_1_6 : what_ = (6 : Int32)
              · have e_1_6 := congrArg Int32.toInt c_1_6
                rw [if_pos c_1_6] at hE
                refine lv_tableIn (off := 104) (tgt := 105) hx hb dX5_count_1 (by rw [c_1_6]; decide) (by rw [c_1_6]; decide) (by rw [c_1_6]; rfl) (by decide) ?_
                refine lv_aload_n hx hb dX5_count_105 rfl (lv_at hl 0 rfl) ?_
                refine va_get (D := (dC, dI)) (ci := 5) (v := .ref (nw 0)) (C := RX5) (T := TX5) (N := 9) hx hb hts in_X5 hown hK hP 0 rfl rfl 4 (by decide) t_fieldLink_RX5_38_FourLodgers_now_LFourLodgers_Moment (fun _ h9 => h9) rfl dX5_count_106 ?_
                refine va_get (D := (dC, dI)) (ci := 2) (v := .int nw_sailedToday) (C := RX2) (T := TX2) (N := 11) hx hb hts in_X2 hown hK hP 10 rfl rfl 3 (by decide) t_fieldLink_RX5_218_FourLodgers_Moment_sailedToday_I (fun _ h9 => h9) rfl dX5_count_109 ?_
                refine rcSi (As := [.int nw_sailedToday]) (rest := []) ⟨hx, hb, hml, hown, hts⟩ (kJ6_bitCount_0f7a4 l dC dI cI cJ nw_sailedToday) (va_cwS 1 hts gX5_count_J6_bitCount_0f7a4 rfl rfl rfl (by decide +kernel) ⟨Nat.le_of_ble_eq_true rfl, Nat.le_of_ble_eq_true rfl⟩) hK hP hst hS [] rfl rfl hl.1 rfl (Nat.le_of_ble_eq_true rfl) dX5_count_112 ⟨Nat.zero_le _, Nat.zero_le _⟩ (fun r w_4 => ?_)
                subst w_4
                subst hE
                rw [← hQ]
                exact W.iret hx hb hr (fun t ht hW => ⟨_, rfl, rfl, ht⟩) (fun q h => absurd h List.not_mem_nil) dX5_count_115
              · rw [if_neg c_1_6] at hE
                have e_1_6 := mt Int32.toInt_inj.mp c_1_6
                by_cases c_1_7 : what_ = (7 : Int32)
                · have e_1_7 := congrArg Int32.toInt c_1_7
                  rw [if_pos c_1_7] at hE
                  refine lv_tableIn (off := 115) (tgt := 116) hx hb dX5_count_1 (by rw [c_1_7]; decide) (by rw [c_1_7]; decide) (by rw [c_1_7]; rfl) (by decide) ?_
                  refine lv_aload_n hx hb dX5_count_116 rfl (lv_at hl 0 rfl) ?_
                  refine va_get (D := (dC, dI)) (ci := 5) (v := .ref (nw 0)) (C := RX5) (T := TX5) (N := 9) hx hb hts in_X5 hown hK hP 0 rfl rfl 4 (by decide) t_fieldLink_RX5_38_FourLodgers_now_LFourLodgers_Moment (fun _ h9 => h9) rfl dX5_count_117 ?_
                  refine va_get (D := (dC, dI)) (ci := 2) (v := .int nw_timesSailed) (C := RX2) (T := TX2) (N := 11) hx hb hts in_X2 hown hK hP 10 rfl rfl 6 (by decide) t_fieldLink_RX5_146_FourLodgers_Moment_timesSailed_I (fun _ h9 => h9) rfl dX5_count_120 ?_
                  subst hE
                  rw [← hQ]
                  exact W.iret hx hb hr (fun t ht hW => ⟨_, rfl, rfl, ht⟩) (fun q h => absurd h List.not_mem_nil) dX5_count_123
                · rw [if_neg c_1_7] at hE
                  have e_1_7 := mt Int32.toInt_inj.mp c_1_7
                  by_cases c_1_8 : what_ = (8 : Int32)
                  · have e_1_8 := congrArg Int32.toInt c_1_8
                    rw [if_pos c_1_8] at hE
                    refine lv_tableIn (off := 123) (tgt := 124) hx hb dX5_count_1 (by rw [c_1_8]; decide) (by rw [c_1_8]; decide) (by rw [c_1_8]; rfl) (by decide) ?_
                    refine lv_aload_n hx hb dX5_count_124 rfl (lv_at hl 0 rfl) ?_
                    refine va_get (D := (dC, dI)) (ci := 5) (v := .ref (nw 0)) (C := RX5) (T := TX5) (N := 9) hx hb hts in_X5 hown hK hP 0 rfl rfl 4 (by decide) t_fieldLink_RX5_38_FourLodgers_now_LFourLodgers_Moment (fun _ h9 => h9) rfl dX5_count_125 ?_
                    refine va_get (D := (dC, dI)) (ci := 2) (v := .int nw_seenCount) (C := RX2) (T := TX2) (N := 11) hx hb hts in_X2 hown hK hP 10 rfl rfl 7 (by decide) t_fieldLink_RX5_211_FourLodgers_Moment_seenCount_I (fun _ h9 => h9) rfl dX5_count_128 ?_
                    subst hE
                    rw [← hQ]
                    exact W.iret hx hb hr (fun t ht hW => ⟨_, rfl, rfl, ht⟩) (fun q h => absurd h List.not_mem_nil) dX5_count_131
                  · rw [if_neg c_1_8] at hE
                    have e_1_8 := mt Int32.toInt_inj.mp c_1_8
                    by_cases c_1_9 : what_ = (9 : Int32)
                    · have e_1_9 := congrArg Int32.toInt c_1_9
                      rw [if_pos c_1_9] at hE
                      refine lv_tableIn (off := 131) (tgt := 132) hx hb dX5_count_1 (by rw [c_1_9]; decide) (by rw [c_1_9]; decide) (by rw [c_1_9]; rfl) (by decide) ?_
                      refine lv_aload_n hx hb dX5_count_132 rfl (lv_at hl 0 rfl) ?_
                      refine va_get (D := (dC, dI)) (ci := 5) (v := .ref (pg 0)) (C := RX5) (T := TX5) (N := 9) hx hb hts in_X5 hown hK hP 0 rfl rfl 0 (by decide) t_fieldLink_RX5_10_FourLodgers_page_LFourLodgers_Page (fun _ h9 => h9) rfl dX5_count_133 ?_
                      refine va_get (D := (dC, dI)) (ci := 3) (v := .int pg_size) (C := RX3) (T := TX3) (N := 2) hx hb hts in_X3 hown hK hP 1 rfl rfl 1 (by decide) t_fieldLink_RX5_60_FourLodgers_Page_size_I (fun _ h9 => h9) rfl dX5_count_136 ?_
                      subst hE
                      rw [← hQ]
                      exact W.iret hx hb hr (fun t ht hW => ⟨_, rfl, rfl, ht⟩) (fun q h => absurd h List.not_mem_nil) dX5_count_139
                    · rw [if_neg c_1_9] at hE
                      have e_1_9 := mt Int32.toInt_inj.mp c_1_9
                      by_cases c_1_10 : what_ = (10 : Int32)
                      · have e_1_10 := congrArg Int32.toInt c_1_10
                        rw [if_pos c_1_10] at hE
                        refine lv_tableIn (off := 139) (tgt := 140) hx hb dX5_count_1 (by rw [c_1_10]; decide) (by rw [c_1_10]; decide) (by rw [c_1_10]; rfl) (by decide) ?_
                        refine lv_aload_n hx hb dX5_count_140 rfl (lv_at hl 0 rfl) ?_
                        refine va_get (D := (dC, dI)) (ci := 5) (v := .int fl_seasRead) (C := RX5) (T := TX5) (N := 9) hx hb hts in_X5 hown hK hP 0 rfl rfl 8 (by decide) t_fieldLink_RX5_52_FourLodgers_seasRead_I (fun _ h9 => h9) rfl dX5_count_141 ?_
                        subst hE
                        rw [← hQ]
                        exact W.iret hx hb hr (fun t ht hW => ⟨_, rfl, rfl, ht⟩) (fun q h => absurd h List.not_mem_nil) dX5_count_144
                      · rw [if_neg c_1_10] at hE
                        have e_1_10 := mt Int32.toInt_inj.mp c_1_10
                        refine lv_tableOut (tgt := 145) hx hb dX5_count_1 (tab_out11 (lv_neT c_1_0 (a := 0) (by decide)) (lv_neT c_1_1 (a := 1) (by decide)) (lv_neT c_1_2 (a := 2) (by decide)) (lv_neT c_1_3 (a := 3) (by decide)) (lv_neT c_1_4 (a := 4) (by decide)) (lv_neT c_1_5 (a := 5) (by decide)) (lv_neT c_1_6 (a := 6) (by decide)) (lv_neT c_1_7 (a := 7) (by decide)) (lv_neT c_1_8 (a := 8) (by decide)) (lv_neT c_1_9 (a := 9) (by decide)) (lv_neT c_1_10 (a := 10) (by decide))) (by decide) ?_
                        refine lv_bipush (v := (-102 : Int32)) hx hb dX5_count_145 (by decide) ?_
                        subst hE
                        rw [← hQ]
                        exact W.iret hx hb hr (fun t ht hW => ⟨_, rfl, rfl, ht⟩) (fun q h => absurd h List.not_mem_nil) dX5_count_147
