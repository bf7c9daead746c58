def fX2_hasSailed (mo_sailedToday : Int32) (ship : Int32) : Int32 := (if ((mo_sailedToday >>> (ship &&& 31)) &&& (1 : Int32)) = (0 : Int32) then (0 : Int32) else (1 : Int32))
set_option maxHeartbeats 4000000 in
set_option maxRecDepth 100000 in
theorem kX2_hasSailed (l : Launch) (dC : Nat → ClassId) (dI : Nat → Nat → Nat) (cI cJ : ClassId) (mo : Nat → Nat) (mo_kinds : Nat → Int32) (mo_illUntil : Nat → Int32) (mo_cells : Nat → Int32) (mo_sailedToday : Int32) (mo_today : Int32) (mo_hired : Int32) (mo_timesSailed : Int32) (mo_seenCount : Int32) (mo_seenLodger : Nat → Int32) (mo_seenDay : Nat → Int32) (mo_seenUp : Nat → Int32) (ship : Int32) : Met l yX2_hasSailed wsX2_hasSailed ({ frames := 0, cells := 0, slots := 0, locals := 0 } : Room) (gR (dC, dI) cI cJ (kMo cI mo mo_kinds mo_illUntil mo_cells mo_sailedToday mo_today mo_hired mo_timesSailed mo_seenCount mo_seenLodger mo_seenDay mo_seenUp) ([.ref (mo 0), .int ship] : List Value)) (vp_Si (fun r => r = (fX2_hasSailed mo_sailedToday ship) ∧ isB r)) 0 0 (fun _ => False) := by
  refine Met.ofW (cc := cX2_hasSailed) (maxL := 2) (ret := (some .boolean)) (by decide) rfl ?_
  intro p e s m args below meth c s₁ B hml hv
  obtain ⟨rfl, hP, hK, hst⟩ := hv
  have hx := B.exec
  have hb := B.bytes
  have hr := B.returns
  have hts := atoms_spec (ws := wsX2_hasSailed) B.pre
  have hown : s.vm.findClass RX2 = some m.cls := findClass_of_methodNamed B.named
  have hlocks := B.notSynchronized
  have hS : va_S (fun _ => False) s.heap s.heap [] := va_S.rf
  generalize hE : (fX2_hasSailed mo_sailedToday ship) = RES
  generalize hQ : MQ below (vp_Si (fun r => r = RES ∧ isB r)) ([.ref (mo 0), .int ship] : List Value).toArray s 0 0 (fun _ => False) = Q
  have hl := lv_entry ([.ref (mo 0), .int ship] : List Value) (n := 2) (Nat.le_of_ble_eq_true rfl)
  rw [lg_entry_eq]
  generalize (lg_sl ([.ref (mo 0), .int ship] : List Value) ++ List.replicate (2 - (lg_sl ([.ref (mo 0), .int ship] : List Value)).length) Slot.unset).toArray = ls at hl ⊢
  have hl : lv_has ls 2 [(0, .ref (mo 0)), (1, .int ship)] := hl
  have in_X2 : ∀ w ∈ u_ws RX2 TX2 11, w ∈ wsX2_hasSailed := fun _ h => List.mem_cons_of_mem _ (List.mem_append_right _ h)
  have t_fieldLink_RX2_45_FourLodgers_Moment_sailedToday_I := hts (.fieldLink RX2 45 "FourLodgers$Moment" "sailedToday" "I") (List.mem_of_getElem? (i := 1) rfl)
  have i_0 : (0 : Int32).toInt = 0 := by decide
  have i_1 : (1 : Int32).toInt = 1 := by decide
  rw [fX2_hasSailed] at hE
  refine lv_aload_n hx hb dX2_hasSailed_0 rfl (lv_at hl 0 rfl) ?_
  refine va_get (D := (dC, dI)) (ci := 2) (v := .int mo_sailedToday) (C := RX2) (T := TX2) (N := 11) hx hb hts in_X2 hown hK hP 0 rfl rfl 3 (by decide) t_fieldLink_RX2_45_FourLodgers_Moment_sailedToday_I (fun _ h9 => h9) rfl dX2_hasSailed_1 ?_
  refine lv_iload_n hx hb dX2_hasSailed_4 rfl (lv_at hl 1 rfl) ?_
  refine lv_ishr hx hb dX2_hasSailed_5 ?_
  refine lv_iconst (v := (1 : Int32)) hx hb dX2_hasSailed_6 (by decide) ?_
  refine lv_iand hx hb dX2_hasSailed_7 ?_
  refine lv_if_eq (tgt := 15) hx hb dX2_hasSailed_8 (by decide) (fun c_8 => ?_) (fun c_8 => ?_)
  · rw [if_pos c_8] at hE
    refine lv_iconst (v := (0 : Int32)) hx hb dX2_hasSailed_15 (by decide) ?_
    subst hE
    rw [← hQ]
    exact W.zret hx hb hr (isB.n nb_0) (fun t ht hW => ⟨_, rfl, ⟨rfl, nb_0⟩, ht⟩) (fun q h => absurd h List.not_mem_nil) dX2_hasSailed_16
  · rw [if_neg c_8] at hE
    refine lv_iconst (v := (1 : Int32)) hx hb dX2_hasSailed_11 (by decide) ?_
    refine lv_goto (tgt := 16) hx hb dX2_hasSailed_12 (by decide) ?_
    subst hE
    rw [← hQ]
    exact W.zret hx hb hr (isB.n nb_1) (fun t ht hW => ⟨_, rfl, ⟨rfl, nb_1⟩, ht⟩) (fun q h => absurd h List.not_mem_nil) dX2_hasSailed_16
def fX2_illFor (mo_illUntil : Nat → Int32) (mo_today : Int32) (lodger : Int32) : Int32 := (if (0 : Int32) < ((mo_illUntil lodger.toNatClampNeg) - mo_today) then ((mo_illUntil lodger.toNatClampNeg) - mo_today) else (0 : Int32))
set_option maxHeartbeats 4000000 in
set_option maxRecDepth 100000 in
theorem kX2_illFor (l : Launch) (dC : Nat → ClassId) (dI : Nat → Nat → Nat) (cI cJ : ClassId) (mo : Nat → Nat) (mo_kinds : Nat → Int32) (mo_illUntil : Nat → Int32) (mo_cells : Nat → Int32) (mo_sailedToday : Int32) (mo_today : Int32) (mo_hired : Int32) (mo_timesSailed : Int32) (mo_seenCount : Int32) (mo_seenLodger : Nat → Int32) (mo_seenDay : Nat → Int32) (mo_seenUp : Nat → Int32) (lodger : Int32) (p_1 : vp_in lodger 4) : Met l yX2_illFor wsX2_illFor ({ frames := 1, cells := 0, slots := 0, locals := 21 } : Room) (gR (dC, dI) cI cJ (kMo cI mo mo_kinds mo_illUntil mo_cells mo_sailedToday mo_today mo_hired mo_timesSailed mo_seenCount mo_seenLodger mo_seenDay mo_seenUp) ([.ref (mo 0), .int lodger] : List Value)) (vp_Si (fun r => r = (fX2_illFor mo_illUntil mo_today lodger))) 0 0 (fun _ => False) := by
  refine Met.ofW (cc := cX2_illFor) (maxL := 2) (ret := (some .int)) (by decide) rfl ?_
  intro p e s m args below meth c s₁ B hml hv
  obtain ⟨rfl, hP, hK, hst⟩ := hv
  have hx := B.exec
  have hb := B.bytes
  have hr := B.returns
  have hts := atoms_spec (ws := wsX2_illFor) B.pre
  have hown : s.vm.findClass RX2 = some m.cls := findClass_of_methodNamed B.named
  have hlocks := B.notSynchronized
  have hS : va_S (fun _ => False) s.heap s.heap [] := va_S.rf
  generalize hE : (fX2_illFor mo_illUntil mo_today lodger) = RES
  generalize hQ : MQ below (vp_Si (fun r => r = RES)) ([.ref (mo 0), .int lodger] : List Value).toArray s 0 0 (fun _ => False) = Q
  have hl := lv_entry ([.ref (mo 0), .int lodger] : List Value) (n := 2) (Nat.le_of_ble_eq_true rfl)
  rw [lg_entry_eq]
  generalize (lg_sl ([.ref (mo 0), .int lodger] : List Value) ++ List.replicate (2 - (lg_sl ([.ref (mo 0), .int lodger] : List Value)).length) Slot.unset).toArray = ls at hl ⊢
  have hl : lv_has ls 2 [(0, .ref (mo 0)), (1, .int lodger)] := hl
  have in_X2 : ∀ w ∈ u_ws RX2 TX2 11, w ∈ wsX2_illFor := fun _ h => List.mem_cons_of_mem _ (List.mem_append_right _ h)
  have t_code_Lib_Math_max_name_Lib_Math_max_code_2_some_int := hts (.code Lib.Math.max.name Lib.Math.max.code 2 (some .int)) (List.mem_of_getElem? (i := 6) rfl)
  have t_fieldLink_RX2_15_FourLodgers_Moment_illUntil_I := hts (.fieldLink RX2 15 "FourLodgers$Moment" "illUntil" "[I") (List.mem_of_getElem? (i := 1) rfl)
  have t_fieldLink_RX2_49_FourLodgers_Moment_today_I := hts (.fieldLink RX2 49 "FourLodgers$Moment" "today" "I") (List.mem_of_getElem? (i := 2) rfl)
  have t_initialized_java_lang_Math := hts (.initialized "java/lang/Math") (List.mem_of_getElem? (i := 5) rfl)
  have t_methodLink_RX2_62_Lib_Math_max_name := hts (.methodLink RX2 62 Lib.Math.max.name) (List.mem_of_getElem? (i := 3) rfl)
  have t_static_Lib_Math_max_name := hts (.static Lib.Math.max.name) (List.mem_of_getElem? (i := 4) rfl)
  have i_0 : (0 : Int32).toInt = 0 := by decide
  have p_1' := vp_in_iff.mp p_1
  rw [fX2_illFor] at hE
  refine lv_iconst (v := (0 : Int32)) hx hb dX2_illFor_0 (by decide) ?_
  refine lv_aload_n hx hb dX2_illFor_1 rfl (lv_at hl 0 rfl) ?_
  refine va_get (D := (dC, dI)) (ci := 2) (v := .ref (mo 2)) (C := RX2) (T := TX2) (N := 11) hx hb hts in_X2 hown hK hP 0 rfl rfl 1 (by decide) t_fieldLink_RX2_15_FourLodgers_Moment_illUntil_I (fun _ h9 => h9) rfl dX2_illFor_2 ?_
  refine lv_iload_n hx hb dX2_illFor_5 rfl (lv_at hl 1 rfl) ?_
  refine va_iald hx hb hK hP 2 0 rfl rfl (i := lodger) (by first | assumption | exact vp_in_iff.mpr ⟨by omega, by omega⟩ | omega | decide) dX2_illFor_6 ?_
  refine lv_aload_n hx hb dX2_illFor_7 rfl (lv_at hl 0 rfl) ?_
  refine va_get (D := (dC, dI)) (ci := 2) (v := .int mo_today) (C := RX2) (T := TX2) (N := 11) hx hb hts in_X2 hown hK hP 0 rfl rfl 4 (by decide) t_fieldLink_RX2_49_FourLodgers_Moment_today_I (fun _ h9 => h9) rfl dX2_illFor_8 ?_
  refine lv_isub hx hb dX2_illFor_11 ?_
  refine va_mmax hx hb (hml.trans hl.1.symm) hown t_methodLink_RX2_62_Lib_Math_max_name t_static_Lib_Math_max_name t_initialized_java_lang_Math t_code_Lib_Math_max_name_Lib_Math_max_code_2_some_int (Nat.le_of_ble_eq_true rfl) (Nat.le_of_ble_eq_true rfl) (Nat.zero_le _) (Nat.zero_le _) dX2_illFor_12 ?_
  subst hE
  rw [← hQ]
  exact W.iret hx hb hr (fun t ht hW => ⟨_, rfl, rfl, ht⟩) (fun q h => absurd h List.not_mem_nil) dX2_illFor_15
def fX2_isIll (mo_illUntil : Nat → Int32) (lodger : Int32) (day_ : Int32) : Int32 := (if (mo_illUntil lodger.toNatClampNeg) ≤ day_ then (0 : Int32) else (1 : Int32))
set_option maxHeartbeats 4000000 in
set_option maxRecDepth 100000 in
theorem kX2_isIll (l : Launch) (dC : Nat → ClassId) (dI : Nat → Nat → Nat) (cI cJ : ClassId) (mo : Nat → Nat) (mo_kinds : Nat → Int32) (mo_illUntil : Nat → Int32) (mo_cells : Nat → Int32) (mo_sailedToday : Int32) (mo_today : Int32) (mo_hired : Int32) (mo_timesSailed : Int32) (mo_seenCount : Int32) (mo_seenLodger : Nat → Int32) (mo_seenDay : Nat → Int32) (mo_seenUp : Nat → Int32) (lodger : Int32) (day_ : Int32) (p_1 : vp_in lodger 4) : Met l yX2_isIll wsX2_isIll ({ frames := 0, cells := 0, slots := 0, locals := 0 } : Room) (gR (dC, dI) cI cJ (kMo cI mo mo_kinds mo_illUntil mo_cells mo_sailedToday mo_today mo_hired mo_timesSailed mo_seenCount mo_seenLodger mo_seenDay mo_seenUp) ([.ref (mo 0), .int lodger, .int day_] : List Value)) (vp_Si (fun r => r = (fX2_isIll mo_illUntil lodger day_) ∧ isB r)) 0 0 (fun _ => False) := by
  refine Met.ofW (cc := cX2_isIll) (maxL := 3) (ret := (some .boolean)) (by decide) rfl ?_
  intro p e s m args below meth c s₁ B hml hv
  obtain ⟨rfl, hP, hK, hst⟩ := hv
  have hx := B.exec
  have hb := B.bytes
  have hr := B.returns
  have hts := atoms_spec (ws := wsX2_isIll) B.pre
  have hown : s.vm.findClass RX2 = some m.cls := findClass_of_methodNamed B.named
  have hlocks := B.notSynchronized
  have hS : va_S (fun _ => False) s.heap s.heap [] := va_S.rf
  generalize hE : (fX2_isIll mo_illUntil lodger day_) = RES
  generalize hQ : MQ below (vp_Si (fun r => r = RES ∧ isB r)) ([.ref (mo 0), .int lodger, .int day_] : List Value).toArray s 0 0 (fun _ => False) = Q
  have hl := lv_entry ([.ref (mo 0), .int lodger, .int day_] : List Value) (n := 3) (Nat.le_of_ble_eq_true rfl)
  rw [lg_entry_eq]
  generalize (lg_sl ([.ref (mo 0), .int lodger, .int day_] : List Value) ++ List.replicate (3 - (lg_sl ([.ref (mo 0), .int lodger, .int day_] : List Value)).length) Slot.unset).toArray = ls at hl ⊢
  have hl : lv_has ls 3 [(0, .ref (mo 0)), (1, .int lodger), (2, .int day_)] := hl
  have in_X2 : ∀ w ∈ u_ws RX2 TX2 11, w ∈ wsX2_isIll := fun _ h => List.mem_cons_of_mem _ (List.mem_append_right _ h)
  have t_fieldLink_RX2_15_FourLodgers_Moment_illUntil_I := hts (.fieldLink RX2 15 "FourLodgers$Moment" "illUntil" "[I") (List.mem_of_getElem? (i := 1) rfl)
  have i_0 : (0 : Int32).toInt = 0 := by decide
  have i_1 : (1 : Int32).toInt = 1 := by decide
  have p_1' := vp_in_iff.mp p_1
  rw [fX2_isIll] at hE
  refine lv_iload_n hx hb dX2_isIll_0 rfl (lv_at hl 2 rfl) ?_
  refine lv_aload_n hx hb dX2_isIll_1 rfl (lv_at hl 0 rfl) ?_
  refine va_get (D := (dC, dI)) (ci := 2) (v := .ref (mo 2)) (C := RX2) (T := TX2) (N := 11) hx hb hts in_X2 hown hK hP 0 rfl rfl 1 (by decide) t_fieldLink_RX2_15_FourLodgers_Moment_illUntil_I (fun _ h9 => h9) rfl dX2_isIll_2 ?_
  refine lv_iload_n hx hb dX2_isIll_5 rfl (lv_at hl 1 rfl) ?_
  refine va_iald hx hb hK hP 2 0 rfl rfl (i := lodger) (by first | assumption | exact vp_in_iff.mpr ⟨by omega, by omega⟩ | omega | decide) dX2_isIll_6 ?_
  refine lv_icmp_ge (tgt := 14) hx hb dX2_isIll_7 (by decide) (fun c_7 => ?_) (fun c_7 => ?_)
  · have e_7 := Int32.le_iff_toInt_le.mp c_7
    rw [if_pos c_7] at hE
    refine lv_iconst (v := (0 : Int32)) hx hb dX2_isIll_14 (by decide) ?_
    subst hE
    rw [← hQ]
    exact W.zret hx hb hr (isB.n nb_0) (fun t ht hW => ⟨_, rfl, ⟨rfl, nb_0⟩, ht⟩) (fun q h => absurd h List.not_mem_nil) dX2_isIll_15
  · have e_7 := mt Int32.le_iff_toInt_le.mpr c_7
    rw [if_neg c_7] at hE
    refine lv_iconst (v := (1 : Int32)) hx hb dX2_isIll_10 (by decide) ?_
    refine lv_goto (tgt := 15) hx hb dX2_isIll_11 (by decide) ?_
    subst hE
    rw [← hQ]
    exact W.zret hx hb hr (isB.n nb_1) (fun t ht hW => ⟨_, rfl, ⟨rfl, nb_1⟩, ht⟩) (fun q h => absurd h List.not_mem_nil) dX2_isIll_15
def fX2_kindIsUp (kind : Int32) (ill : Int32) (day_ : Int32) : Int32 := (if kind = (1 : Int32) then (if ill = (0 : Int32) then (if (day_ - day_ / (2 : Int32) * (2 : Int32)) = (1 : Int32) then (1 : Int32) else (0 : Int32)) else (0 : Int32)) else (if kind = (2 : Int32) then (if ill = (0 : Int32) then (if (day_ - day_ / (3 : Int32) * (3 : Int32)) = (0 : Int32) then (0 : Int32) else (1 : Int32)) else (0 : Int32)) else (if kind = (3 : Int32) then (1 : Int32) else (if kind = (4 : Int32) then (if ill = (0 : Int32) then (if (day_ - day_ / (2 : Int32) * (2 : Int32)) = (1 : Int32) then (1 : Int32) else (if (day_ - day_ / (4 : Int32) * (4 : Int32)) = (0 : Int32) then (1 : Int32) else (0 : Int32))) else (if (day_ - day_ / (4 : Int32) * (4 : Int32)) = (0 : Int32) then (1 : Int32) else (0 : Int32))) else (if ill = (0 : Int32) then (1 : Int32) else (0 : Int32))))))
set_option maxHeartbeats 4000000 in
set_option maxRecDepth 100000 in
theorem kX2_kindIsUp (l : Launch) (dC : Nat → ClassId) (dI : Nat → Nat → Nat) (cI cJ : ClassId) (kind : Int32) (ill : Int32) (day_ : Int32) : Met l yX2_kindIsUp wsX2_kindIsUp ({ frames := 0, cells := 0, slots := 0, locals := 0 } : Room) (gR (dC, dI) cI cJ ([] : va_W) ([.int kind, .int ill, .int day_] : List Value)) (vp_Si (fun r => r = (fX2_kindIsUp kind ill day_) ∧ isB r)) 0 0 (fun _ => False) := by
  refine Met.ofW (cc := cX2_kindIsUp) (maxL := 3) (ret := (some .boolean)) (by decide) rfl ?_
  intro p e s m args below meth c s₁ B hml hv
  obtain ⟨rfl, hP, hK, hst⟩ := hv
  have hx := B.exec
  have hb := B.bytes
  have hr := B.returns
  have hts := atoms_spec (ws := wsX2_kindIsUp) B.pre
  have hown : s.vm.findClass RX2 = some m.cls := findClass_of_methodNamed B.named
  have hlocks := B.notSynchronized
  have hS : va_S (fun _ => False) s.heap s.heap [] := va_S.rf
  generalize hE : (fX2_kindIsUp kind ill day_) = RES
  generalize hQ : MQ below (vp_Si (fun r => r = RES ∧ isB r)) ([.int kind, .int ill, .int day_] : List Value).toArray s 0 0 (fun _ => False) = Q
  have hl := lv_entry ([.int kind, .int ill, .int day_] : List Value) (n := 3) (Nat.le_of_ble_eq_true rfl)
  rw [lg_entry_eq]
  generalize (lg_sl ([.int kind, .int ill, .int day_] : List Value) ++ List.replicate (3 - (lg_sl ([.int kind, .int ill, .int day_] : List Value)).length) Slot.unset).toArray = ls at hl ⊢
  have hl : lv_has ls 3 [(0, .int kind), (1, .int ill), (2, .int day_)] := hl
  have i_0 : (0 : Int32).toInt = 0 := by decide
  have i_1 : (1 : Int32).toInt = 1 := by decide
  have i_2 : (2 : Int32).toInt = 2 := by decide
  have i_3 : (3 : Int32).toInt = 3 := by decide
  have i_4 : (4 : Int32).toInt = 4 := by decide
  rw [fX2_kindIsUp] at hE
  refine lv_iload_n hx hb dX2_kindIsUp_0 rfl (lv_at hl 0 rfl) ?_
  by_cases c_1_1 : kind = (1 : Int32)
  · have e_1_1 := congrArg Int32.toInt c_1_1
    rw [if_pos c_1_1] at hE
    refine lv_tableIn (off := 31) (tgt := 32) hx hb dX2_kindIsUp_1 (by rw [c_1_1]; decide) (by rw [c_1_1]; decide) (by rw [c_1_1]; rfl) (by decide) ?_
    refine lv_iload_n hx hb dX2_kindIsUp_32 rfl (lv_at hl 1 rfl) ?_
    refine lv_if_ne (tgt := 47) hx hb dX2_kindIsUp_33 (by decide) (fun c_33 => ?_) (fun c_33 => ?_)
    · have e_33 := mt Int32.toInt_inj.mp c_33
      rw [if_neg c_33] at hE
      refine lv_iconst (v := (0 : Int32)) hx hb dX2_kindIsUp_47 (by decide) ?_
      subst hE
      rw [← hQ]
      exact W.zret hx hb hr (isB.n nb_0) (fun t ht hW => ⟨_, rfl, ⟨rfl, nb_0⟩, ht⟩) (fun q h => absurd h List.not_mem_nil) dX2_kindIsUp_48
    · have e_33 := congrArg Int32.toInt c_33
      rw [if_pos c_33] at hE
      refine lv_iload_n hx hb dX2_kindIsUp_36 rfl (lv_at hl 2 rfl) ?_
      refine lv_iconst (v := (2 : Int32)) hx hb dX2_kindIsUp_37 (by decide) ?_
      refine lv_irem hx hb dX2_kindIsUp_38 (by decide) ?_
      refine lv_iconst (v := (1 : Int32)) hx hb dX2_kindIsUp_39 (by decide) ?_
      refine lv_icmp_ne (tgt := 47) hx hb dX2_kindIsUp_40 (by decide) (fun c_40 => ?_) (fun c_40 => ?_)
      · rw [if_neg c_40] at hE
        refine lv_iconst (v := (0 : Int32)) hx hb dX2_kindIsUp_47 (by decide) ?_
        subst hE
        rw [← hQ]
        exact W.zret hx hb hr (isB.n nb_0) (fun t ht hW => ⟨_, rfl, ⟨rfl, nb_0⟩, ht⟩) (fun q h => absurd h List.not_mem_nil) dX2_kindIsUp_48
      · rw [if_pos c_40] at hE
        refine lv_iconst (v := (1 : Int32)) hx hb dX2_kindIsUp_43 (by decide) ?_
        refine lv_goto (tgt := 48) hx hb dX2_kindIsUp_44 (by decide) ?_
        subst hE
        rw [← hQ]
        exact W.zret hx hb hr (isB.n nb_1) (fun t ht hW => ⟨_, rfl, ⟨rfl, nb_1⟩, ht⟩) (fun q h => absurd h List.not_mem_nil) dX2_kindIsUp_48
  · rw [if_neg c_1_1] at hE
    have e_1_1 := mt Int32.toInt_inj.mp c_1_1
    by_cases c_1_2 : kind = (2 : Int32)
    · have e_1_2 := congrArg Int32.toInt c_1_2
      rw [if_pos c_1_2] at hE
      refine lv_tableIn (off := 48) (tgt := 49) hx hb dX2_kindIsUp_1 (by rw [c_1_2]; decide) (by rw [c_1_2]; decide) (by rw [c_1_2]; rfl) (by decide) ?_
      refine lv_iload_n hx hb dX2_kindIsUp_49 rfl (lv_at hl 1 rfl) ?_
      refine lv_if_ne (tgt := 63) hx hb dX2_kindIsUp_50 (by decide) (fun c_50 => ?_) (fun c_50 => ?_)
      · have e_50 := mt Int32.toInt_inj.mp c_50
        rw [if_neg c_50] at hE
        refine lv_iconst (v := (0 : Int32)) hx hb dX2_kindIsUp_63 (by decide) ?_
        subst hE
        rw [← hQ]
        exact W.zret hx hb hr (isB.n nb_0) (fun t ht hW => ⟨_, rfl, ⟨rfl, nb_0⟩, ht⟩) (fun q h => absurd h List.not_mem_nil) dX2_kindIsUp_64
      · have e_50 := congrArg Int32.toInt c_50
        rw [if_pos c_50] at hE
        refine lv_iload_n hx hb dX2_kindIsUp_53 rfl (lv_at hl 2 rfl) ?_
        refine lv_iconst (v := (3 : Int32)) hx hb dX2_kindIsUp_54 (by decide) ?_
        refine lv_irem hx hb dX2_kindIsUp_55 (by decide) ?_
        refine lv_if_eq (tgt := 63) hx hb dX2_kindIsUp_56 (by decide) (fun c_56 => ?_) (fun c_56 => ?_)
        · rw [if_pos c_56] at hE
          refine lv_iconst (v := (0 : Int32)) hx hb dX2_kindIsUp_63 (by decide) ?_
          subst hE
          rw [← hQ]
          exact W.zret hx hb hr (isB.n nb_0) (fun t ht hW => ⟨_, rfl, ⟨rfl, nb_0⟩, ht⟩) (fun q h => absurd h List.not_mem_nil) dX2_kindIsUp_64
        · rw [if_neg c_56] at hE
          refine lv_iconst (v := (1 : Int32)) hx hb dX2_kindIsUp_59 (by decide) ?_
          refine lv_goto (tgt := 64) hx hb dX2_kindIsUp_60 (by decide) ?_
          subst hE
          rw [← hQ]
          exact W.zret hx hb hr (isB.n nb_1) (fun t ht hW => ⟨_, rfl, ⟨rfl, nb_1⟩, ht⟩) (fun q h => absurd h List.not_mem_nil) dX2_kindIsUp_64
    · rw [if_neg c_1_2] at hE
      have e_1_2 := mt Int32.toInt_inj.mp c_1_2
      by_cases c_1_3 : kind = (3 : Int32)
      · have e_1_3 := congrArg Int32.toInt c_1_3
        rw [if_pos c_1_3] at hE
        refine lv_tableIn (off := 64) (tgt := 65) hx hb dX2_kindIsUp_1 (by rw [c_1_3]; decide) (by rw [c_1_3]; decide) (by rw [c_1_3]; rfl) (by decide) ?_
        refine lv_iconst (v := (1 : Int32)) hx hb dX2_kindIsUp_65 (by decide) ?_
        subst hE
        rw [← hQ]
        exact W.zret hx hb hr (isB.n nb_1) (fun t ht hW => ⟨_, rfl, ⟨rfl, nb_1⟩, ht⟩) (fun q h => absurd h List.not_mem_nil) dX2_kindIsUp_66
      · rw [if_neg c_1_3] at hE
        have e_1_3 := mt Int32.toInt_inj.mp c_1_3
        by_cases c_1_4 : kind = (4 : Int32)
        · have e_1_4 := congrArg Int32.toInt c_1_4
          rw [if_pos c_1_4] at hE
          refine lv_tableIn (off := 66) (tgt := 67) hx hb dX2_kindIsUp_1 (by rw [c_1_4]; decide) (by rw [c_1_4]; decide) (by rw [c_1_4]; rfl) (by decide) ?_
          refine lv_iload_n hx hb dX2_kindIsUp_67 rfl (lv_at hl 1 rfl) ?_
          refine lv_if_ne (tgt := 78) hx hb dX2_kindIsUp_68 (by decide) (fun c_68 => ?_) (fun c_68 => ?_)
          · have e_68 := mt Int32.toInt_inj.mp c_68
            rw [if_neg c_68] at hE
            refine lv_iload_n hx hb dX2_kindIsUp_78 rfl (lv_at hl 2 rfl) ?_
            refine lv_iconst (v := (4 : Int32)) hx hb dX2_kindIsUp_79 (by decide) ?_
            refine lv_irem hx hb dX2_kindIsUp_80 (by decide) ?_
            refine lv_if_ne (tgt := 88) hx hb dX2_kindIsUp_81 (by decide) (fun c_81 => ?_) (fun c_81 => ?_)
            · rw [if_neg c_81] at hE
              refine lv_iconst (v := (0 : Int32)) hx hb dX2_kindIsUp_88 (by decide) ?_
              subst hE
              rw [← hQ]
              exact W.zret hx hb hr (isB.n nb_0) (fun t ht hW => ⟨_, rfl, ⟨rfl, nb_0⟩, ht⟩) (fun q h => absurd h List.not_mem_nil) dX2_kindIsUp_89
            · rw [if_pos c_81] at hE
              refine lv_iconst (v := (1 : Int32)) hx hb dX2_kindIsUp_84 (by decide) ?_
              refine lv_goto (tgt := 89) hx hb dX2_kindIsUp_85 (by decide) ?_
              subst hE
              rw [← hQ]
              exact W.zret hx hb hr (isB.n nb_1) (fun t ht hW => ⟨_, rfl, ⟨rfl, nb_1⟩, ht⟩) (fun q h => absurd h List.not_mem_nil) dX2_kindIsUp_89
          · have e_68 := congrArg Int32.toInt c_68
            rw [if_pos c_68] at hE
            refine lv_iload_n hx hb dX2_kindIsUp_71 rfl (lv_at hl 2 rfl) ?_
            refine lv_iconst (v := (2 : Int32)) hx hb dX2_kindIsUp_72 (by decide) ?_
            refine lv_irem hx hb dX2_kindIsUp_73 (by decide) ?_
            refine lv_iconst (v := (1 : Int32)) hx hb dX2_kindIsUp_74 (by decide) ?_
            refine lv_icmp_eq (tgt := 84) hx hb dX2_kindIsUp_75 (by decide) (fun c_75 => ?_) (fun c_75 => ?_)
            · rw [if_pos c_75] at hE
              refine lv_iconst (v := (1 : Int32)) hx hb dX2_kindIsUp_84 (by decide) ?_
              refine lv_goto (tgt := 89) hx hb dX2_kindIsUp_85 (by decide) ?_
              subst hE
              rw [← hQ]
              exact W.zret hx hb hr (isB.n nb_1) (fun t ht hW => ⟨_, rfl, ⟨rfl, nb_1⟩, ht⟩) (fun q h => absurd h List.not_mem_nil) dX2_kindIsUp_89
            · rw [if_neg c_75] at hE
              refine lv_iload_n hx hb dX2_kindIsUp_78 rfl (lv_at hl 2 rfl) ?_
              refine lv_iconst (v := (4 : Int32)) hx hb dX2_kindIsUp_79 (by decide) ?_
              refine lv_irem hx hb dX2_kindIsUp_80 (by decide) ?_
              refine lv_if_ne (tgt := 88) hx hb dX2_kindIsUp_81 (by decide) (fun c_81 => ?_) (fun c_81 => ?_)
              · rw [if_neg c_81] at hE
                refine lv_iconst (v := (0 : Int32)) hx hb dX2_kindIsUp_88 (by decide) ?_
                subst hE
                rw [← hQ]
                exact W.zret hx hb hr (isB.n nb_0) (fun t ht hW => ⟨_, rfl, ⟨rfl, nb_0⟩, ht⟩) (fun q h => absurd h List.not_mem_nil) dX2_kindIsUp_89
              · rw [if_pos c_81] at hE
                refine lv_iconst (v := (1 : Int32)) hx hb dX2_kindIsUp_84 (by decide) ?_
                refine lv_goto (tgt := 89) hx hb dX2_kindIsUp_85 (by decide) ?_
                subst hE
                rw [← hQ]
                exact W.zret hx hb hr (isB.n nb_1) (fun t ht hW => ⟨_, rfl, ⟨rfl, nb_1⟩, ht⟩) (fun q h => absurd h List.not_mem_nil) dX2_kindIsUp_89
        · rw [if_neg c_1_4] at hE
          have e_1_4 := mt Int32.toInt_inj.mp c_1_4
          refine lv_tableOut (tgt := 90) hx hb dX2_kindIsUp_1 (tab_out4 (lv_neT c_1_1 (a := 1) (by decide)) (lv_neT c_1_2 (a := 2) (by decide)) (lv_neT c_1_3 (a := 3) (by decide)) (lv_neT c_1_4 (a := 4) (by decide))) (by decide) ?_
          refine lv_iload_n hx hb dX2_kindIsUp_90 rfl (lv_at hl 1 rfl) ?_
          refine lv_if_ne (tgt := 98) hx hb dX2_kindIsUp_91 (by decide) (fun c_91 => ?_) (fun c_91 => ?_)
          · have e_91 := mt Int32.toInt_inj.mp c_91
            rw [if_neg c_91] at hE
            refine lv_iconst (v := (0 : Int32)) hx hb dX2_kindIsUp_98 (by decide) ?_
            subst hE
            rw [← hQ]
            exact W.zret hx hb hr (isB.n nb_0) (fun t ht hW => ⟨_, rfl, ⟨rfl, nb_0⟩, ht⟩) (fun q h => absurd h List.not_mem_nil) dX2_kindIsUp_99
          · have e_91 := congrArg Int32.toInt c_91
            rw [if_pos c_91] at hE
            refine lv_iconst (v := (1 : Int32)) hx hb dX2_kindIsUp_94 (by decide) ?_
            refine lv_goto (tgt := 99) hx hb dX2_kindIsUp_95 (by decide) ?_
            subst hE
            rw [← hQ]
            exact W.zret hx hb hr (isB.n nb_1) (fun t ht hW => ⟨_, rfl, ⟨rfl, nb_1⟩, ht⟩) (fun q h => absurd h List.not_mem_nil) dX2_kindIsUp_99
def fX2_isUp (mo_kinds : Nat → Int32) (mo_illUntil : Nat → Int32) (lodger : Int32) (day_ : Int32) : Int32 := (fX2_kindIsUp (mo_kinds lodger.toNatClampNeg) (fX2_isIll mo_illUntil lodger day_) day_)
set_option maxHeartbeats 4000000 in
set_option maxRecDepth 100000 in
theorem kX2_isUp (l : Launch) (dC : Nat → ClassId) (dI : Nat → Nat → Nat) (cI cJ : ClassId) (mo : Nat → Nat) (mo_kinds : Nat → Int32) (mo_illUntil : Nat → Int32) (mo_cells : Nat → Int32) (mo_sailedToday : Int32) (mo_today : Int32) (mo_hired : Int32) (mo_timesSailed : Int32) (mo_seenCount : Int32) (mo_seenLodger : Nat → Int32) (mo_seenDay : Nat → Int32) (mo_seenUp : Nat → Int32) (lodger : Int32) (day_ : Int32) (p_1 : vp_in lodger 4) : Met l yX2_isUp wsX2_isUp ({ frames := 1, cells := 0, slots := 0, locals := 22 } : Room) (gR (dC, dI) cI cJ (kMo cI mo mo_kinds mo_illUntil mo_cells mo_sailedToday mo_today mo_hired mo_timesSailed mo_seenCount mo_seenLodger mo_seenDay mo_seenUp) ([.ref (mo 0), .int lodger, .int day_] : List Value)) (vp_Si (fun r => r = (fX2_isUp mo_kinds mo_illUntil lodger day_) ∧ isB r)) 0 0 (fun _ => False) := by
  refine Met.ofW (cc := cX2_isUp) (maxL := 3) (ret := (some .boolean)) (by decide) rfl ?_
  intro p e s m args below meth c s₁ B hml hv
  obtain ⟨rfl, hP, hK, hst⟩ := hv
  have hx := B.exec
  have hb := B.bytes
  have hr := B.returns
  have hts := atoms_spec (ws := wsX2_isUp) B.pre
  have hown : s.vm.findClass RX2 = some m.cls := findClass_of_methodNamed B.named
  have hlocks := B.notSynchronized
  have hS : va_S (fun _ => False) s.heap s.heap [] := va_S.rf
  generalize hE : (fX2_isUp mo_kinds mo_illUntil lodger day_) = RES
  generalize hQ : MQ below (vp_Si (fun r => r = RES ∧ isB r)) ([.ref (mo 0), .int lodger, .int day_] : List Value).toArray s 0 0 (fun _ => False) = Q
  have hl := lv_entry ([.ref (mo 0), .int lodger, .int day_] : List Value) (n := 3) (Nat.le_of_ble_eq_true rfl)
  rw [lg_entry_eq]
  generalize (lg_sl ([.ref (mo 0), .int lodger, .int day_] : List Value) ++ List.replicate (3 - (lg_sl ([.ref (mo 0), .int lodger, .int day_] : List Value)).length) Slot.unset).toArray = ls at hl ⊢
  have hl : lv_has ls 3 [(0, .ref (mo 0)), (1, .int lodger), (2, .int day_)] := hl
  have in_X2 : ∀ w ∈ u_ws RX2 TX2 11, w ∈ wsX2_isUp := fun _ h => List.mem_cons_of_mem _ (List.mem_append_right _ h)
  have t_fieldLink_RX2_9_FourLodgers_Moment_kinds_I := hts (.fieldLink RX2 9 "FourLodgers$Moment" "kinds" "[I") (List.mem_of_getElem? (i := 1) rfl)
  have p_1' := vp_in_iff.mp p_1
  rw [fX2_isUp] at hE
  refine lv_aload_n hx hb dX2_isUp_0 rfl (lv_at hl 0 rfl) ?_
  refine va_get (D := (dC, dI)) (ci := 2) (v := .ref (mo 1)) (C := RX2) (T := TX2) (N := 11) hx hb hts in_X2 hown hK hP 0 rfl rfl 0 (by decide) t_fieldLink_RX2_9_FourLodgers_Moment_kinds_I (fun _ h9 => h9) rfl dX2_isUp_1 ?_
  refine lv_iload_n hx hb dX2_isUp_4 rfl (lv_at hl 1 rfl) ?_
  refine va_iald hx hb hK hP 1 0 rfl rfl (i := lodger) (by first | assumption | exact vp_in_iff.mpr ⟨by omega, by omega⟩ | omega | decide) dX2_isUp_5 ?_
  refine lv_aload_n hx hb dX2_isUp_6 rfl (lv_at hl 0 rfl) ?_
  refine lv_iload_n hx hb dX2_isUp_7 rfl (lv_at hl 1 rfl) ?_
  refine lv_iload_n hx hb dX2_isUp_8 rfl (lv_at hl 2 rfl) ?_
  refine rcVi (As := [.int lodger, .int day_]) (rest := [.int (mo_kinds lodger.toNatClampNeg)]) ⟨hx, hb, hml, hown, hts⟩ (kX2_isIll l dC dI cI cJ mo mo_kinds mo_illUntil mo_cells mo_sailedToday mo_today mo_hired mo_timesSailed mo_seenCount mo_seenLodger mo_seenDay mo_seenUp lodger day_ (by first | assumption | exact vp_in_iff.mpr ⟨by omega, by omega⟩ | omega | decide)) (cwV 2 hts gX2_isUp_X2_isIll rfl rfl rfl (by decide +kernel) ⟨Nat.le_of_ble_eq_true rfl, Nat.le_of_ble_eq_true rfl⟩) hK hP hst hS [0, 1, 2, 3, 4, 5, 6] rfl 0 rfl rfl rfl hl.1 rfl (Nat.le_of_ble_eq_true rfl) dX2_isUp_9 ⟨Nat.zero_le _, Nat.zero_le _⟩ (fun r w_1 => ?_)
  obtain ⟨rfl, nb_2⟩ := w_1
  refine lv_iload_n hx hb dX2_isUp_12 rfl (lv_at hl 2 rfl) ?_
  refine rcSi (As := [.int (mo_kinds lodger.toNatClampNeg), .int (fX2_isIll mo_illUntil lodger day_), .int day_]) (rest := []) ⟨hx, hb, hml, hown, hts⟩ (kX2_kindIsUp l dC dI cI cJ (mo_kinds lodger.toNatClampNeg) (fX2_isIll mo_illUntil lodger day_) day_) (va_cwS 3 hts gX2_isUp_X2_kindIsUp rfl rfl rfl (by decide +kernel) ⟨Nat.le_of_ble_eq_true rfl, Nat.le_of_ble_eq_true rfl⟩) hK hP hst hS [] rfl rfl hl.1 rfl (Nat.le_of_ble_eq_true rfl) dX2_isUp_13 ⟨Nat.zero_le _, Nat.zero_le _⟩ (fun r w_3 => ?_)
  obtain ⟨rfl, nb_4⟩ := w_3
  subst hE
  rw [← hQ]
  exact W.zret hx hb hr (isB.n nb_4) (fun t ht hW => ⟨_, rfl, ⟨rfl, nb_4⟩, ht⟩) (fun q h => absurd h List.not_mem_nil) dX2_isUp_16
def fX2_upFor_47 (mo_kinds : Nat → Int32) (mo_illUntil : Nat → Int32) (mo_today : Int32) (fromNow : Int32) : Nat → Int32 → Nat → Int32
  | 0, _, _ => 0
  | n_ + 1, x4, i => (if (4 : Int32) ≤ (nI i) then x4 else (if (fX2_kindIsUp (mo_kinds (nI i).toNatClampNeg) (fX2_isIll mo_illUntil (nI i) (mo_today + fromNow)) (mo_today + fromNow)) = (0 : Int32) then (fX2_upFor_47 mo_kinds mo_illUntil mo_today fromNow n_ x4 ((i + 1))) else (fX2_upFor_47 mo_kinds mo_illUntil mo_today fromNow n_ (x4 ||| ((1 : Int32) <<< ((nI i) &&& 31))) ((i + 1)))))
def fX2_upFor (mo_kinds : Nat → Int32) (mo_illUntil : Nat → Int32) (mo_sailedToday : Int32) (mo_today : Int32) (mo_hired : Int32) (ship : Int32) (fromNow : Int32) : Int32 := (if fromNow = (0 : Int32) then (if (fX2_hasSailed mo_sailedToday ship) = (0 : Int32) then (if mo_hired = (0 : Int32) then (fX2_upFor_47 mo_kinds mo_illUntil mo_today fromNow 5 (0 : Int32) (0)) else (if ((mo_today + fromNow) - (mo_today + fromNow) / (7 : Int32) * (7 : Int32)) = (3 : Int32) then (fX2_upFor_47 mo_kinds mo_illUntil mo_today fromNow 5 (16 : Int32) (0)) else (fX2_upFor_47 mo_kinds mo_illUntil mo_today fromNow 5 (0 : Int32) (0)))) else (0 : Int32)) else (if mo_hired = (0 : Int32) then (fX2_upFor_47 mo_kinds mo_illUntil mo_today fromNow 5 (0 : Int32) (0)) else (if ((mo_today + fromNow) - (mo_today + fromNow) / (7 : Int32) * (7 : Int32)) = (3 : Int32) then (fX2_upFor_47 mo_kinds mo_illUntil mo_today fromNow 5 (16 : Int32) (0)) else (fX2_upFor_47 mo_kinds mo_illUntil mo_today fromNow 5 (0 : Int32) (0)))))
set_option maxHeartbeats 4000000 in
set_option maxRecDepth 100000 in
theorem kX2_upFor (l : Launch) (dC : Nat → ClassId) (dI : Nat → Nat → Nat) (cI cJ : ClassId) (mo : Nat → Nat) (mo_kinds : Nat → Int32) (mo_illUntil : Nat → Int32) (mo_cells : Nat → Int32) (mo_sailedToday : Int32) (mo_today : Int32) (mo_hired : Int32) (mo_timesSailed : Int32) (mo_seenCount : Int32) (mo_seenLodger : Nat → Int32) (mo_seenDay : Nat → Int32) (mo_seenUp : Nat → Int32) (ship : Int32) (fromNow : Int32) : Met l yX2_upFor wsX2_upFor ({ frames := 1, cells := 0, slots := 0, locals := 22 } : Room) (gR (dC, dI) cI cJ (kMo cI mo mo_kinds mo_illUntil mo_cells mo_sailedToday mo_today mo_hired mo_timesSailed mo_seenCount mo_seenLodger mo_seenDay mo_seenUp) ([.ref (mo 0), .int ship, .int fromNow] : List Value)) (vp_Si (fun r => r = (fX2_upFor mo_kinds mo_illUntil mo_sailedToday mo_today mo_hired ship fromNow))) 0 0 (fun _ => False) := by
  refine Met.ofW (cc := cX2_upFor) (maxL := 6) (ret := (some .int)) (by decide) rfl ?_
  intro p e s m args below meth c s₁ B hml hv
  obtain ⟨rfl, hP, hK, hst⟩ := hv
  have hx := B.exec
  have hb := B.bytes
  have hr := B.returns
  have hts := atoms_spec (ws := wsX2_upFor) B.pre
  have hown : s.vm.findClass RX2 = some m.cls := findClass_of_methodNamed B.named
  have hlocks := B.notSynchronized
  have hS : va_S (fun _ => False) s.heap s.heap [] := va_S.rf
  generalize hE : (fX2_upFor mo_kinds mo_illUntil mo_sailedToday mo_today mo_hired ship fromNow) = RES
  generalize hQ : MQ below (vp_Si (fun r => r = RES)) ([.ref (mo 0), .int ship, .int fromNow] : List Value).toArray s 0 0 (fun _ => False) = Q
  have hl := lv_entry ([.ref (mo 0), .int ship, .int fromNow] : List Value) (n := 6) (Nat.le_of_ble_eq_true rfl)
  rw [lg_entry_eq]
  generalize (lg_sl ([.ref (mo 0), .int ship, .int fromNow] : List Value) ++ List.replicate (6 - (lg_sl ([.ref (mo 0), .int ship, .int fromNow] : List Value)).length) Slot.unset).toArray = ls at hl ⊢
  have hl : lv_has ls 6 [(0, .ref (mo 0)), (1, .int ship), (2, .int fromNow)] := hl
  have in_X2 : ∀ w ∈ u_ws RX2 TX2 11, w ∈ wsX2_upFor := fun _ h => List.mem_cons_of_mem _ (List.mem_append_right _ h)
  have t_fieldLink_RX2_49_FourLodgers_Moment_today_I := hts (.fieldLink RX2 49 "FourLodgers$Moment" "today" "I") (List.mem_of_getElem? (i := 1) rfl)
  have t_fieldLink_RX2_52_FourLodgers_Moment_hired_Z := hts (.fieldLink RX2 52 "FourLodgers$Moment" "hired" "Z") (List.mem_of_getElem? (i := 2) rfl)
  have t_fieldLink_RX2_9_FourLodgers_Moment_kinds_I := hts (.fieldLink RX2 9 "FourLodgers$Moment" "kinds" "[I") (List.mem_of_getElem? (i := 3) rfl)
  have i_0 : (0 : Int32).toInt = 0 := by decide
  have i_1 : (1 : Int32).toInt = 1 := by decide
  have i_3 : (3 : Int32).toInt = 3 := by decide
  have i_4 : (4 : Int32).toInt = 4 := by decide
  have i_7 : (7 : Int32).toInt = 7 := by decide
  have i_16 : (16 : Int32).toInt = 16 := by decide
  rw [fX2_upFor] at hE
  refine lv_iload_n hx hb dX2_upFor_0 rfl (lv_at hl 2 rfl) ?_
  refine lv_if_ne (tgt := 14) hx hb dX2_upFor_1 (by decide) (fun c_1 => ?_) (fun c_1 => ?_)
  · have e_1 := mt Int32.toInt_inj.mp c_1
    rw [if_neg c_1] at hE
    refine lv_aload_n hx hb dX2_upFor_14 rfl (lv_at hl 0 rfl) ?_
    refine va_get (D := (dC, dI)) (ci := 2) (v := .int mo_today) (C := RX2) (T := TX2) (N := 11) hx hb hts in_X2 hown hK hP 0 rfl rfl 4 (by decide) t_fieldLink_RX2_49_FourLodgers_Moment_today_I (fun _ h9 => h9) rfl dX2_upFor_15 ?_
    refine lv_iload_n hx hb dX2_upFor_18 rfl (lv_at hl 2 rfl) ?_
    refine lv_iadd hx hb dX2_upFor_19 ?_
    refine lv_istore_n (lv' := [(3, .int (mo_today + fromNow)), (0, .ref (mo 0)), (1, .int ship), (2, .int fromNow)]) hx hb dX2_upFor_20 rfl hl (by decide) rfl (fun ls hl => ?_)
    refine lv_aload_n hx hb dX2_upFor_21 rfl (lv_at hl 1 rfl) ?_
    refine va_get (D := (dC, dI)) (ci := 2) (v := .int mo_hired) (C := RX2) (T := TX2) (N := 11) hx hb hts in_X2 hown hK hP 0 rfl rfl 5 (by decide) t_fieldLink_RX2_52_FourLodgers_Moment_hired_Z (fun _ h9 => h9) rfl dX2_upFor_22 ?_
    refine lv_if_eq (tgt := 41) hx hb dX2_upFor_25 (by decide) (fun c_25 => ?_) (fun c_25 => ?_)
    · have e_25 := congrArg Int32.toInt c_25
      rw [if_pos c_25] at hE
      refine lv_iconst (v := (0 : Int32)) hx hb dX2_upFor_41 (by decide) ?_
      refine lv_istore (lv' := [(4, .int (0 : Int32)), (3, .int (mo_today + fromNow)), (0, .ref (mo 0)), (1, .int ship), (2, .int fromNow)]) hx hb dX2_upFor_42 hl (by decide) rfl (fun ls hl => ?_)
      refine lv_iconst (v := (0 : Int32)) hx hb dX2_upFor_44 (by decide) ?_
      refine lv_istore (lv' := [(5, .int (0 : Int32)), (4, .int (0 : Int32)), (3, .int (mo_today + fromNow)), (0, .ref (mo 0)), (1, .int ship), (2, .int fromNow)]) hx hb dX2_upFor_45 hl (by decide) rfl (fun ls hl => ?_)
      have L47 : ∀ (n_ : Nat) (x4 : Int32) (i : Nat) , (i ≤ 4) → 4 - i < n_ → (fX2_upFor_47 mo_kinds mo_illUntil mo_today fromNow n_ x4 i) = RES → ∀ ls : Array Slot, lv_has ls 6 [(0, .ref (mo 0)), (1, .int ship), (2, .int fromNow), (3, .int (mo_today + fromNow)), (4, .int x4), (5, .int (nI i))] → W p l e (headSpec wsX2_upFor ({ frames := 1, cells := 0, slots := 0, locals := 22 } : Room)).room s m ([.ref (mo 0), .int ship, .int fromNow] : List Value).toArray below meth c s.heap [] 0 0 Q (F0 m 47 ls []) := by
        intro n_
        induction n_ with
        | zero => intro x4 i  hi hn; exact absurd hn (Nat.not_lt_zero _)
        | succ n_ ih =>
          intro x4 i  hi hn hE ls hl
          rw [fX2_upFor_47] at hE
          have tn_i : (nI i).toInt = (i : Int) := nI_toInt (by omega)
          refine lv_iload hx hb dX2_upFor_47 (lv_at hl 5 rfl) ?_
          refine lv_iconst (v := (4 : Int32)) hx hb dX2_upFor_49 (by decide) ?_
          refine lv_icmp_ge (tgt := 89) hx hb dX2_upFor_50 (by decide) (fun c_50 => ?_) (fun c_50 => ?_)
          · have e_50 := Int32.le_iff_toInt_le.mp c_50
            rw [if_pos c_50] at hE
            refine lv_iload hx hb dX2_upFor_89 (lv_at hl 4 rfl) ?_
            subst hE
            rw [← hQ]
            exact W.iret hx hb hr (fun t ht hW => ⟨_, rfl, rfl, ht⟩) (fun q h => absurd h List.not_mem_nil) dX2_upFor_91
          · have e_50 := mt Int32.le_iff_toInt_le.mpr c_50
            rw [if_neg c_50] at hE
            refine lv_aload_n hx hb dX2_upFor_53 rfl (lv_at hl 0 rfl) ?_
            refine va_get (D := (dC, dI)) (ci := 2) (v := .ref (mo 1)) (C := RX2) (T := TX2) (N := 11) hx hb hts in_X2 hown hK hP 0 rfl rfl 0 (by decide) t_fieldLink_RX2_9_FourLodgers_Moment_kinds_I (fun _ h9 => h9) rfl dX2_upFor_54 ?_
            refine lv_iload hx hb dX2_upFor_57 (lv_at hl 5 rfl) ?_
            refine va_iald hx hb hK hP 1 0 rfl rfl (i := (nI i)) (by first | assumption | exact vp_in_iff.mpr ⟨by omega, by omega⟩ | omega | decide) dX2_upFor_59 ?_
            refine lv_aload_n hx hb dX2_upFor_60 rfl (lv_at hl 0 rfl) ?_
            refine lv_iload hx hb dX2_upFor_61 (lv_at hl 5 rfl) ?_
            refine lv_iload_n hx hb dX2_upFor_63 rfl (lv_at hl 3 rfl) ?_
            refine rcVi (As := [.int (nI i), .int (mo_today + fromNow)]) (rest := [.int (mo_kinds (nI i).toNatClampNeg)]) ⟨hx, hb, hml, hown, hts⟩ (kX2_isIll l dC dI cI cJ mo mo_kinds mo_illUntil mo_cells mo_sailedToday mo_today mo_hired mo_timesSailed mo_seenCount mo_seenLodger mo_seenDay mo_seenUp (nI i) (mo_today + fromNow) (by first | assumption | exact vp_in_iff.mpr ⟨by omega, by omega⟩ | omega | decide)) (cwV 2 hts gX2_upFor_X2_isIll rfl rfl rfl (by decide +kernel) ⟨Nat.le_of_ble_eq_true rfl, Nat.le_of_ble_eq_true rfl⟩) hK hP hst hS [0, 1, 2, 3, 4, 5, 6] rfl 0 rfl rfl rfl hl.1 rfl (Nat.le_of_ble_eq_true rfl) dX2_upFor_64 ⟨Nat.zero_le _, Nat.zero_le _⟩ (fun r w_1 => ?_)
            obtain ⟨rfl, nb_2⟩ := w_1
            refine lv_iload_n hx hb dX2_upFor_67 rfl (lv_at hl 3 rfl) ?_
            refine rcSi (As := [.int (mo_kinds (nI i).toNatClampNeg), .int (fX2_isIll mo_illUntil (nI i) (mo_today + fromNow)), .int (mo_today + fromNow)]) (rest := []) ⟨hx, hb, hml, hown, hts⟩ (kX2_kindIsUp l dC dI cI cJ (mo_kinds (nI i).toNatClampNeg) (fX2_isIll mo_illUntil (nI i) (mo_today + fromNow)) (mo_today + fromNow)) (va_cwS 3 hts gX2_upFor_X2_kindIsUp rfl rfl rfl (by decide +kernel) ⟨Nat.le_of_ble_eq_true rfl, Nat.le_of_ble_eq_true rfl⟩) hK hP hst hS [] rfl rfl hl.1 rfl (Nat.le_of_ble_eq_true rfl) dX2_upFor_68 ⟨Nat.zero_le _, Nat.zero_le _⟩ (fun r w_3 => ?_)
            obtain ⟨rfl, nb_4⟩ := w_3
            refine lv_if_eq (tgt := 83) hx hb dX2_upFor_71 (by decide) (fun c_71 => ?_) (fun c_71 => ?_)
            · rw [if_pos c_71] at hE
              refine lv_iinc (v := (nI (i + 1))) (lv' := [(5, .int (nI (i + 1))), (0, .ref (mo 0)), (1, .int ship), (2, .int fromNow), (3, .int (mo_today + fromNow)), (4, .int x4)]) hx hb dX2_upFor_83 hl (k := 5) rfl (by rw [show Int32.ofInt 1 = nI 1 from rfl, nI_add]) (by decide) rfl (fun ls hl => ?_)
              refine lv_goto (tgt := 47) hx hb dX2_upFor_86 (by decide) ?_
              exact ih x4 ((i + 1))  (by omega) (by omega) hE ls (lv_sub hl [1, 2, 3, 4, 5, 0] rfl)
            · rw [if_neg c_71] at hE
              refine lv_iload hx hb dX2_upFor_74 (lv_at hl 4 rfl) ?_
              refine lv_iconst (v := (1 : Int32)) hx hb dX2_upFor_76 (by decide) ?_
              refine lv_iload hx hb dX2_upFor_77 (lv_at hl 5 rfl) ?_
              refine lv_ishl hx hb dX2_upFor_79 ?_
              refine lv_ior hx hb dX2_upFor_80 ?_
              refine lv_istore (lv' := [(4, .int (x4 ||| ((1 : Int32) <<< ((nI i) &&& 31)))), (0, .ref (mo 0)), (1, .int ship), (2, .int fromNow), (3, .int (mo_today + fromNow)), (5, .int (nI i))]) hx hb dX2_upFor_81 hl (by decide) rfl (fun ls hl => ?_)
              refine lv_iinc (v := (nI (i + 1))) (lv' := [(5, .int (nI (i + 1))), (4, .int (x4 ||| ((1 : Int32) <<< ((nI i) &&& 31)))), (0, .ref (mo 0)), (1, .int ship), (2, .int fromNow), (3, .int (mo_today + fromNow))]) hx hb dX2_upFor_83 hl (k := 5) rfl (by rw [show Int32.ofInt 1 = nI 1 from rfl, nI_add]) (by decide) rfl (fun ls hl => ?_)
              refine lv_goto (tgt := 47) hx hb dX2_upFor_86 (by decide) ?_
              exact ih (x4 ||| ((1 : Int32) <<< ((nI i) &&& 31))) ((i + 1))  (by omega) (by omega) hE ls (lv_sub hl [2, 3, 4, 5, 1, 0] rfl)
      exact L47 5 (0 : Int32) (0)  (by omega) (by omega) hE ls (lv_sub hl [3, 4, 5, 2, 1, 0] rfl)
    · have e_25 := mt Int32.toInt_inj.mp c_25
      rw [if_neg c_25] at hE
      refine lv_iload_n hx hb dX2_upFor_28 rfl (lv_at hl 0 rfl) ?_
      refine lv_bipush (v := (7 : Int32)) hx hb dX2_upFor_29 (by decide) ?_
      refine lv_irem hx hb dX2_upFor_31 (by decide) ?_
      refine lv_iconst (v := (3 : Int32)) hx hb dX2_upFor_32 (by decide) ?_
      refine lv_icmp_ne (tgt := 41) hx hb dX2_upFor_33 (by decide) (fun c_33 => ?_) (fun c_33 => ?_)
      · rw [if_neg c_33] at hE
        refine lv_iconst (v := (0 : Int32)) hx hb dX2_upFor_41 (by decide) ?_
        refine lv_istore (lv' := [(4, .int (0 : Int32)), (3, .int (mo_today + fromNow)), (0, .ref (mo 0)), (1, .int ship), (2, .int fromNow)]) hx hb dX2_upFor_42 hl (by decide) rfl (fun ls hl => ?_)
        refine lv_iconst (v := (0 : Int32)) hx hb dX2_upFor_44 (by decide) ?_
        refine lv_istore (lv' := [(5, .int (0 : Int32)), (4, .int (0 : Int32)), (3, .int (mo_today + fromNow)), (0, .ref (mo 0)), (1, .int ship), (2, .int fromNow)]) hx hb dX2_upFor_45 hl (by decide) rfl (fun ls hl => ?_)
        have L47 : ∀ (n_ : Nat) (x4 : Int32) (i : Nat) , (i ≤ 4) → 4 - i < n_ → (fX2_upFor_47 mo_kinds mo_illUntil mo_today fromNow n_ x4 i) = RES → ∀ ls : Array Slot, lv_has ls 6 [(0, .ref (mo 0)), (1, .int ship), (2, .int fromNow), (3, .int (mo_today + fromNow)), (4, .int x4), (5, .int (nI i))] → W p l e (headSpec wsX2_upFor ({ frames := 1, cells := 0, slots := 0, locals := 22 } : Room)).room s m ([.ref (mo 0), .int ship, .int fromNow] : List Value).toArray below meth c s.heap [] 0 0 Q (F0 m 47 ls []) := by
          intro n_
          induction n_ with
          | zero => intro x4 i  hi hn; exact absurd hn (Nat.not_lt_zero _)
          | succ n_ ih =>
            intro x4 i  hi hn hE ls hl
            rw [fX2_upFor_47] at hE
            have tn_i : (nI i).toInt = (i : Int) := nI_toInt (by omega)
            refine lv_iload hx hb dX2_upFor_47 (lv_at hl 5 rfl) ?_
            refine lv_iconst (v := (4 : Int32)) hx hb dX2_upFor_49 (by decide) ?_
            refine lv_icmp_ge (tgt := 89) hx hb dX2_upFor_50 (by decide) (fun c_50 => ?_) (fun c_50 => ?_)
            · have e_50 := Int32.le_iff_toInt_le.mp c_50
              rw [if_pos c_50] at hE
              refine lv_iload hx hb dX2_upFor_89 (lv_at hl 4 rfl) ?_
              subst hE
              rw [← hQ]
              exact W.iret hx hb hr (fun t ht hW => ⟨_, rfl, rfl, ht⟩) (fun q h => absurd h List.not_mem_nil) dX2_upFor_91
            · have e_50 := mt Int32.le_iff_toInt_le.mpr c_50
              rw [if_neg c_50] at hE
              refine lv_aload_n hx hb dX2_upFor_53 rfl (lv_at hl 0 rfl) ?_
              refine va_get (D := (dC, dI)) (ci := 2) (v := .ref (mo 1)) (C := RX2) (T := TX2) (N := 11) hx hb hts in_X2 hown hK hP 0 rfl rfl 0 (by decide) t_fieldLink_RX2_9_FourLodgers_Moment_kinds_I (fun _ h9 => h9) rfl dX2_upFor_54 ?_
              refine lv_iload hx hb dX2_upFor_57 (lv_at hl 5 rfl) ?_
              refine va_iald hx hb hK hP 1 0 rfl rfl (i := (nI i)) (by first | assumption | exact vp_in_iff.mpr ⟨by omega, by omega⟩ | omega | decide) dX2_upFor_59 ?_
              refine lv_aload_n hx hb dX2_upFor_60 rfl (lv_at hl 0 rfl) ?_
              refine lv_iload hx hb dX2_upFor_61 (lv_at hl 5 rfl) ?_
              refine lv_iload_n hx hb dX2_upFor_63 rfl (lv_at hl 3 rfl) ?_
              refine rcVi (As := [.int (nI i), .int (mo_today + fromNow)]) (rest := [.int (mo_kinds (nI i).toNatClampNeg)]) ⟨hx, hb, hml, hown, hts⟩ (kX2_isIll l dC dI cI cJ mo mo_kinds mo_illUntil mo_cells mo_sailedToday mo_today mo_hired mo_timesSailed mo_seenCount mo_seenLodger mo_seenDay mo_seenUp (nI i) (mo_today + fromNow) (by first | assumption | exact vp_in_iff.mpr ⟨by omega, by omega⟩ | omega | decide)) (cwV 2 hts gX2_upFor_X2_isIll rfl rfl rfl (by decide +kernel) ⟨Nat.le_of_ble_eq_true rfl, Nat.le_of_ble_eq_true rfl⟩) hK hP hst hS [0, 1, 2, 3, 4, 5, 6] rfl 0 rfl rfl rfl hl.1 rfl (Nat.le_of_ble_eq_true rfl) dX2_upFor_64 ⟨Nat.zero_le _, Nat.zero_le _⟩ (fun r w_5 => ?_)
              obtain ⟨rfl, nb_6⟩ := w_5
              refine lv_iload_n hx hb dX2_upFor_67 rfl (lv_at hl 3 rfl) ?_
              refine rcSi (As := [.int (mo_kinds (nI i).toNatClampNeg), .int (fX2_isIll mo_illUntil (nI i) (mo_today + fromNow)), .int (mo_today + fromNow)]) (rest := []) ⟨hx, hb, hml, hown, hts⟩ (kX2_kindIsUp l dC dI cI cJ (mo_kinds (nI i).toNatClampNeg) (fX2_isIll mo_illUntil (nI i) (mo_today + fromNow)) (mo_today + fromNow)) (va_cwS 3 hts gX2_upFor_X2_kindIsUp rfl rfl rfl (by decide +kernel) ⟨Nat.le_of_ble_eq_true rfl, Nat.le_of_ble_eq_true rfl⟩) hK hP hst hS [] rfl rfl hl.1 rfl (Nat.le_of_ble_eq_true rfl) dX2_upFor_68 ⟨Nat.zero_le _, Nat.zero_le _⟩ (fun r w_7 => ?_)
              obtain ⟨rfl, nb_8⟩ := w_7
              refine lv_if_eq (tgt := 83) hx hb dX2_upFor_71 (by decide) (fun c_71 => ?_) (fun c_71 => ?_)
              · rw [if_pos c_71] at hE
                refine lv_iinc (v := (nI (i + 1))) (lv' := [(5, .int (nI (i + 1))), (0, .ref (mo 0)), (1, .int ship), (2, .int fromNow), (3, .int (mo_today + fromNow)), (4, .int x4)]) hx hb dX2_upFor_83 hl (k := 5) rfl (by rw [show Int32.ofInt 1 = nI 1 from rfl, nI_add]) (by decide) rfl (fun ls hl => ?_)
                refine lv_goto (tgt := 47) hx hb dX2_upFor_86 (by decide) ?_
                exact ih x4 ((i + 1))  (by omega) (by omega) hE ls (lv_sub hl [1, 2, 3, 4, 5, 0] rfl)
              · rw [if_neg c_71] at hE
                refine lv_iload hx hb dX2_upFor_74 (lv_at hl 4 rfl) ?_
                refine lv_iconst (v := (1 : Int32)) hx hb dX2_upFor_76 (by decide) ?_
                refine lv_iload hx hb dX2_upFor_77 (lv_at hl 5 rfl) ?_
                refine lv_ishl hx hb dX2_upFor_79 ?_
                refine lv_ior hx hb dX2_upFor_80 ?_
                refine lv_istore (lv' := [(4, .int (x4 ||| ((1 : Int32) <<< ((nI i) &&& 31)))), (0, .ref (mo 0)), (1, .int ship), (2, .int fromNow), (3, .int (mo_today + fromNow)), (5, .int (nI i))]) hx hb dX2_upFor_81 hl (by decide) rfl (fun ls hl => ?_)
                refine lv_iinc (v := (nI (i + 1))) (lv' := [(5, .int (nI (i + 1))), (4, .int (x4 ||| ((1 : Int32) <<< ((nI i) &&& 31)))), (0, .ref (mo 0)), (1, .int ship), (2, .int fromNow), (3, .int (mo_today + fromNow))]) hx hb dX2_upFor_83 hl (k := 5) rfl (by rw [show Int32.ofInt 1 = nI 1 from rfl, nI_add]) (by decide) rfl (fun ls hl => ?_)
                refine lv_goto (tgt := 47) hx hb dX2_upFor_86 (by decide) ?_
                exact ih (x4 ||| ((1 : Int32) <<< ((nI i) &&& 31))) ((i + 1))  (by omega) (by omega) hE ls (lv_sub hl [2, 3, 4, 5, 1, 0] rfl)
        exact L47 5 (0 : Int32) (0)  (by omega) (by omega) hE ls (lv_sub hl [3, 4, 5, 2, 1, 0] rfl)
      · rw [if_pos c_33] at hE
        refine lv_bipush (v := (16 : Int32)) hx hb dX2_upFor_36 (by decide) ?_
        refine lv_goto (tgt := 42) hx hb dX2_upFor_38 (by decide) ?_
        refine lv_istore (lv' := [(4, .int (16 : Int32)), (3, .int (mo_today + fromNow)), (0, .ref (mo 0)), (1, .int ship), (2, .int fromNow)]) hx hb dX2_upFor_42 hl (by decide) rfl (fun ls hl => ?_)
        refine lv_iconst (v := (0 : Int32)) hx hb dX2_upFor_44 (by decide) ?_
        refine lv_istore (lv' := [(5, .int (0 : Int32)), (4, .int (16 : Int32)), (3, .int (mo_today + fromNow)), (0, .ref (mo 0)), (1, .int ship), (2, .int fromNow)]) hx hb dX2_upFor_45 hl (by decide) rfl (fun ls hl => ?_)
        have L47 : ∀ (n_ : Nat) (x4 : Int32) (i : Nat) , (i ≤ 4) → 4 - i < n_ → (fX2_upFor_47 mo_kinds mo_illUntil mo_today fromNow n_ x4 i) = RES → ∀ ls : Array Slot, lv_has ls 6 [(0, .ref (mo 0)), (1, .int ship), (2, .int fromNow), (3, .int (mo_today + fromNow)), (4, .int x4), (5, .int (nI i))] → W p l e (headSpec wsX2_upFor ({ frames := 1, cells := 0, slots := 0, locals := 22 } : Room)).room s m ([.ref (mo 0), .int ship, .int fromNow] : List Value).toArray below meth c s.heap [] 0 0 Q (F0 m 47 ls []) := by
          intro n_
          induction n_ with
          | zero => intro x4 i  hi hn; exact absurd hn (Nat.not_lt_zero _)
          | succ n_ ih =>
            intro x4 i  hi hn hE ls hl
            rw [fX2_upFor_47] at hE
            have tn_i : (nI i).toInt = (i : Int) := nI_toInt (by omega)
            refine lv_iload hx hb dX2_upFor_47 (lv_at hl 5 rfl) ?_
            refine lv_iconst (v := (4 : Int32)) hx hb dX2_upFor_49 (by decide) ?_
            refine lv_icmp_ge (tgt := 89) hx hb dX2_upFor_50 (by decide) (fun c_50 => ?_) (fun c_50 => ?_)
            · have e_50 := Int32.le_iff_toInt_le.mp c_50
              rw [if_pos c_50] at hE
              refine lv_iload hx hb dX2_upFor_89 (lv_at hl 4 rfl) ?_
              subst hE
              rw [← hQ]
              exact W.iret hx hb hr (fun t ht hW => ⟨_, rfl, rfl, ht⟩) (fun q h => absurd h List.not_mem_nil) dX2_upFor_91
            · have e_50 := mt Int32.le_iff_toInt_le.mpr c_50
              rw [if_neg c_50] at hE
              refine lv_aload_n hx hb dX2_upFor_53 rfl (lv_at hl 0 rfl) ?_
              refine va_get (D := (dC, dI)) (ci := 2) (v := .ref (mo 1)) (C := RX2) (T := TX2) (N := 11) hx hb hts in_X2 hown hK hP 0 rfl rfl 0 (by decide) t_fieldLink_RX2_9_FourLodgers_Moment_kinds_I (fun _ h9 => h9) rfl dX2_upFor_54 ?_
              refine lv_iload hx hb dX2_upFor_57 (lv_at hl 5 rfl) ?_
              refine va_iald hx hb hK hP 1 0 rfl rfl (i := (nI i)) (by first | assumption | exact vp_in_iff.mpr ⟨by omega, by omega⟩ | omega | decide) dX2_upFor_59 ?_
              refine lv_aload_n hx hb dX2_upFor_60 rfl (lv_at hl 0 rfl) ?_
              refine lv_iload hx hb dX2_upFor_61 (lv_at hl 5 rfl) ?_
              refine lv_iload_n hx hb dX2_upFor_63 rfl (lv_at hl 3 rfl) ?_
              refine rcVi (As := [.int (nI i), .int (mo_today + fromNow)]) (rest := [.int (mo_kinds (nI i).toNatClampNeg)]) ⟨hx, hb, hml, hown, hts⟩ (kX2_isIll l dC dI cI cJ mo mo_kinds mo_illUntil mo_cells mo_sailedToday mo_today mo_hired mo_timesSailed mo_seenCount mo_seenLodger mo_seenDay mo_seenUp (nI i) (mo_today + fromNow) (by first | assumption | exact vp_in_iff.mpr ⟨by omega, by omega⟩ | omega | decide)) (cwV 2 hts gX2_upFor_X2_isIll rfl rfl rfl (by decide +kernel) ⟨Nat.le_of_ble_eq_true rfl, Nat.le_of_ble_eq_true rfl⟩) hK hP hst hS [0, 1, 2, 3, 4, 5, 6] rfl 0 rfl rfl rfl hl.1 rfl (Nat.le_of_ble_eq_true rfl) dX2_upFor_64 ⟨Nat.zero_le _, Nat.zero_le _⟩ (fun r w_9 => ?_)
              obtain ⟨rfl, nb_10⟩ := w_9
              refine lv_iload_n hx hb dX2_upFor_67 rfl (lv_at hl 3 rfl) ?_
              refine rcSi (As := [.int (mo_kinds (nI i).toNatClampNeg), .int (fX2_isIll mo_illUntil (nI i) (mo_today + fromNow)), .int (mo_today + fromNow)]) (rest := []) ⟨hx, hb, hml, hown, hts⟩ (kX2_kindIsUp l dC dI cI cJ (mo_kinds (nI i).toNatClampNeg) (fX2_isIll mo_illUntil (nI i) (mo_today + fromNow)) (mo_today + fromNow)) (va_cwS 3 hts gX2_upFor_X2_kindIsUp rfl rfl rfl (by decide +kernel) ⟨Nat.le_of_ble_eq_true rfl, Nat.le_of_ble_eq_true rfl⟩) hK hP hst hS [] rfl rfl hl.1 rfl (Nat.le_of_ble_eq_true rfl) dX2_upFor_68 ⟨Nat.zero_le _, Nat.zero_le _⟩ (fun r w_11 => ?_)
              obtain ⟨rfl, nb_12⟩ := w_11
              refine lv_if_eq (tgt := 83) hx hb dX2_upFor_71 (by decide) (fun c_71 => ?_) (fun c_71 => ?_)
              · rw [if_pos c_71] at hE
                refine lv_iinc (v := (nI (i + 1))) (lv' := [(5, .int (nI (i + 1))), (0, .ref (mo 0)), (1, .int ship), (2, .int fromNow), (3, .int (mo_today + fromNow)), (4, .int x4)]) hx hb dX2_upFor_83 hl (k := 5) rfl (by rw [show Int32.ofInt 1 = nI 1 from rfl, nI_add]) (by decide) rfl (fun ls hl => ?_)
                refine lv_goto (tgt := 47) hx hb dX2_upFor_86 (by decide) ?_
                exact ih x4 ((i + 1))  (by omega) (by omega) hE ls (lv_sub hl [1, 2, 3, 4, 5, 0] rfl)
              · rw [if_neg c_71] at hE
                refine lv_iload hx hb dX2_upFor_74 (lv_at hl 4 rfl) ?_
                refine lv_iconst (v := (1 : Int32)) hx hb dX2_upFor_76 (by decide) ?_
                refine lv_iload hx hb dX2_upFor_77 (lv_at hl 5 rfl) ?_
                refine lv_ishl hx hb dX2_upFor_79 ?_
                refine lv_ior hx hb dX2_upFor_80 ?_
                refine lv_istore (lv' := [(4, .int (x4 ||| ((1 : Int32) <<< ((nI i) &&& 31)))), (0, .ref (mo 0)), (1, .int ship), (2, .int fromNow), (3, .int (mo_today + fromNow)), (5, .int (nI i))]) hx hb dX2_upFor_81 hl (by decide) rfl (fun ls hl => ?_)
                refine lv_iinc (v := (nI (i + 1))) (lv' := [(5, .int (nI (i + 1))), (4, .int (x4 ||| ((1 : Int32) <<< ((nI i) &&& 31)))), (0, .ref (mo 0)), (1, .int ship), (2, .int fromNow), (3, .int (mo_today + fromNow))]) hx hb dX2_upFor_83 hl (k := 5) rfl (by rw [show Int32.ofInt 1 = nI 1 from rfl, nI_add]) (by decide) rfl (fun ls hl => ?_)
                refine lv_goto (tgt := 47) hx hb dX2_upFor_86 (by decide) ?_
                exact ih (x4 ||| ((1 : Int32) <<< ((nI i) &&& 31))) ((i + 1))  (by omega) (by omega) hE ls (lv_sub hl [2, 3, 4, 5, 1, 0] rfl)
        exact L47 5 (16 : Int32) (0)  (by omega) (by omega) hE ls (lv_sub hl [3, 4, 5, 2, 1, 0] rfl)
  · have e_1 := congrArg Int32.toInt c_1
    rw [if_pos c_1] at hE
    refine lv_aload_n hx hb dX2_upFor_4 rfl (lv_at hl 0 rfl) ?_
    refine lv_iload_n hx hb dX2_upFor_5 rfl (lv_at hl 1 rfl) ?_
    refine rcVi (As := [.int ship]) (rest := []) ⟨hx, hb, hml, hown, hts⟩ (kX2_hasSailed l dC dI cI cJ mo mo_kinds mo_illUntil mo_cells mo_sailedToday mo_today mo_hired mo_timesSailed mo_seenCount mo_seenLodger mo_seenDay mo_seenUp ship) (cwV 1 hts gX2_upFor_X2_hasSailed rfl rfl rfl (by decide +kernel) ⟨Nat.le_of_ble_eq_true rfl, Nat.le_of_ble_eq_true rfl⟩) hK hP hst hS [0, 1, 2, 3, 4, 5, 6] rfl 0 rfl rfl rfl hl.1 rfl (Nat.le_of_ble_eq_true rfl) dX2_upFor_6 ⟨Nat.zero_le _, Nat.zero_le _⟩ (fun r w_13 => ?_)
    obtain ⟨rfl, nb_14⟩ := w_13
    refine lv_if_eq (tgt := 14) hx hb dX2_upFor_9 (by decide) (fun c_9 => ?_) (fun c_9 => ?_)
    · rw [if_pos c_9] at hE
      refine lv_aload_n hx hb dX2_upFor_14 rfl (lv_at hl 0 rfl) ?_
      refine va_get (D := (dC, dI)) (ci := 2) (v := .int mo_today) (C := RX2) (T := TX2) (N := 11) hx hb hts in_X2 hown hK hP 0 rfl rfl 4 (by decide) t_fieldLink_RX2_49_FourLodgers_Moment_today_I (fun _ h9 => h9) rfl dX2_upFor_15 ?_
      refine lv_iload_n hx hb dX2_upFor_18 rfl (lv_at hl 2 rfl) ?_
      refine lv_iadd hx hb dX2_upFor_19 ?_
      refine lv_istore_n (lv' := [(3, .int (mo_today + fromNow)), (0, .ref (mo 0)), (1, .int ship), (2, .int fromNow)]) hx hb dX2_upFor_20 rfl hl (by decide) rfl (fun ls hl => ?_)
      refine lv_aload_n hx hb dX2_upFor_21 rfl (lv_at hl 1 rfl) ?_
      refine va_get (D := (dC, dI)) (ci := 2) (v := .int mo_hired) (C := RX2) (T := TX2) (N := 11) hx hb hts in_X2 hown hK hP 0 rfl rfl 5 (by decide) t_fieldLink_RX2_52_FourLodgers_Moment_hired_Z (fun _ h9 => h9) rfl dX2_upFor_22 ?_
      refine lv_if_eq (tgt := 41) hx hb dX2_upFor_25 (by decide) (fun c_25 => ?_) (fun c_25 => ?_)
      · have e_25 := congrArg Int32.toInt c_25
        rw [if_pos c_25] at hE
        refine lv_iconst (v := (0 : Int32)) hx hb dX2_upFor_41 (by decide) ?_
        refine lv_istore (lv' := [(4, .int (0 : Int32)), (3, .int (mo_today + fromNow)), (0, .ref (mo 0)), (1, .int ship), (2, .int fromNow)]) hx hb dX2_upFor_42 hl (by decide) rfl (fun ls hl => ?_)
        refine lv_iconst (v := (0 : Int32)) hx hb dX2_upFor_44 (by decide) ?_
        refine lv_istore (lv' := [(5, .int (0 : Int32)), (4, .int (0 : Int32)), (3, .int (mo_today + fromNow)), (0, .ref (mo 0)), (1, .int ship), (2, .int fromNow)]) hx hb dX2_upFor_45 hl (by decide) rfl (fun ls hl => ?_)
        have L47 : ∀ (n_ : Nat) (x4 : Int32) (i : Nat) , (i ≤ 4) → 4 - i < n_ → (fX2_upFor_47 mo_kinds mo_illUntil mo_today fromNow n_ x4 i) = RES → ∀ ls : Array Slot, lv_has ls 6 [(0, .ref (mo 0)), (1, .int ship), (2, .int fromNow), (3, .int (mo_today + fromNow)), (4, .int x4), (5, .int (nI i))] → W p l e (headSpec wsX2_upFor ({ frames := 1, cells := 0, slots := 0, locals := 22 } : Room)).room s m ([.ref (mo 0), .int ship, .int fromNow] : List Value).toArray below meth c s.heap [] 0 0 Q (F0 m 47 ls []) := by
          intro n_
          induction n_ with
          | zero => intro x4 i  hi hn; exact absurd hn (Nat.not_lt_zero _)
          | succ n_ ih =>
            intro x4 i  hi hn hE ls hl
            rw [fX2_upFor_47] at hE
            have tn_i : (nI i).toInt = (i : Int) := nI_toInt (by omega)
            refine lv_iload hx hb dX2_upFor_47 (lv_at hl 5 rfl) ?_
            refine lv_iconst (v := (4 : Int32)) hx hb dX2_upFor_49 (by decide) ?_
            refine lv_icmp_ge (tgt := 89) hx hb dX2_upFor_50 (by decide) (fun c_50 => ?_) (fun c_50 => ?_)
            · have e_50 := Int32.le_iff_toInt_le.mp c_50
              rw [if_pos c_50] at hE
              refine lv_iload hx hb dX2_upFor_89 (lv_at hl 4 rfl) ?_
              subst hE
              rw [← hQ]
              exact W.iret hx hb hr (fun t ht hW => ⟨_, rfl, rfl, ht⟩) (fun q h => absurd h List.not_mem_nil) dX2_upFor_91
            · have e_50 := mt Int32.le_iff_toInt_le.mpr c_50
              rw [if_neg c_50] at hE
              refine lv_aload_n hx hb dX2_upFor_53 rfl (lv_at hl 0 rfl) ?_
              refine va_get (D := (dC, dI)) (ci := 2) (v := .ref (mo 1)) (C := RX2) (T := TX2) (N := 11) hx hb hts in_X2 hown hK hP 0 rfl rfl 0 (by decide) t_fieldLink_RX2_9_FourLodgers_Moment_kinds_I (fun _ h9 => h9) rfl dX2_upFor_54 ?_
              refine lv_iload hx hb dX2_upFor_57 (lv_at hl 5 rfl) ?_
              refine va_iald hx hb hK hP 1 0 rfl rfl (i := (nI i)) (by first | assumption | exact vp_in_iff.mpr ⟨by omega, by omega⟩ | omega | decide) dX2_upFor_59 ?_
              refine lv_aload_n hx hb dX2_upFor_60 rfl (lv_at hl 0 rfl) ?_
              refine lv_iload hx hb dX2_upFor_61 (lv_at hl 5 rfl) ?_
              refine lv_iload_n hx hb dX2_upFor_63 rfl (lv_at hl 3 rfl) ?_
              refine rcVi (As := [.int (nI i), .int (mo_today + fromNow)]) (rest := [.int (mo_kinds (nI i).toNatClampNeg)]) ⟨hx, hb, hml, hown, hts⟩ (kX2_isIll l dC dI cI cJ mo mo_kinds mo_illUntil mo_cells mo_sailedToday mo_today mo_hired mo_timesSailed mo_seenCount mo_seenLodger mo_seenDay mo_seenUp (nI i) (mo_today + fromNow) (by first | assumption | exact vp_in_iff.mpr ⟨by omega, by omega⟩ | omega | decide)) (cwV 2 hts gX2_upFor_X2_isIll rfl rfl rfl (by decide +kernel) ⟨Nat.le_of_ble_eq_true rfl, Nat.le_of_ble_eq_true rfl⟩) hK hP hst hS [0, 1, 2, 3, 4, 5, 6] rfl 0 rfl rfl rfl hl.1 rfl (Nat.le_of_ble_eq_true rfl) dX2_upFor_64 ⟨Nat.zero_le _, Nat.zero_le _⟩ (fun r w_15 => ?_)
              obtain ⟨rfl, nb_16⟩ := w_15
              refine lv_iload_n hx hb dX2_upFor_67 rfl (lv_at hl 3 rfl) ?_
              refine rcSi (As := [.int (mo_kinds (nI i).toNatClampNeg), .int (fX2_isIll mo_illUntil (nI i) (mo_today + fromNow)), .int (mo_today + fromNow)]) (rest := []) ⟨hx, hb, hml, hown, hts⟩ (kX2_kindIsUp l dC dI cI cJ (mo_kinds (nI i).toNatClampNeg) (fX2_isIll mo_illUntil (nI i) (mo_today + fromNow)) (mo_today + fromNow)) (va_cwS 3 hts gX2_upFor_X2_kindIsUp rfl rfl rfl (by decide +kernel) ⟨Nat.le_of_ble_eq_true rfl, Nat.le_of_ble_eq_true rfl⟩) hK hP hst hS [] rfl rfl hl.1 rfl (Nat.le_of_ble_eq_true rfl) dX2_upFor_68 ⟨Nat.zero_le _, Nat.zero_le _⟩ (fun r w_17 => ?_)
              obtain ⟨rfl, nb_18⟩ := w_17
              refine lv_if_eq (tgt := 83) hx hb dX2_upFor_71 (by decide) (fun c_71 => ?_) (fun c_71 => ?_)
              · rw [if_pos c_71] at hE
                refine lv_iinc (v := (nI (i + 1))) (lv' := [(5, .int (nI (i + 1))), (0, .ref (mo 0)), (1, .int ship), (2, .int fromNow), (3, .int (mo_today + fromNow)), (4, .int x4)]) hx hb dX2_upFor_83 hl (k := 5) rfl (by rw [show Int32.ofInt 1 = nI 1 from rfl, nI_add]) (by decide) rfl (fun ls hl => ?_)
                refine lv_goto (tgt := 47) hx hb dX2_upFor_86 (by decide) ?_
                exact ih x4 ((i + 1))  (by omega) (by omega) hE ls (lv_sub hl [1, 2, 3, 4, 5, 0] rfl)
              · rw [if_neg c_71] at hE
                refine lv_iload hx hb dX2_upFor_74 (lv_at hl 4 rfl) ?_
                refine lv_iconst (v := (1 : Int32)) hx hb dX2_upFor_76 (by decide) ?_
                refine lv_iload hx hb dX2_upFor_77 (lv_at hl 5 rfl) ?_
                refine lv_ishl hx hb dX2_upFor_79 ?_
                refine lv_ior hx hb dX2_upFor_80 ?_
                refine lv_istore (lv' := [(4, .int (x4 ||| ((1 : Int32) <<< ((nI i) &&& 31)))), (0, .ref (mo 0)), (1, .int ship), (2, .int fromNow), (3, .int (mo_today + fromNow)), (5, .int (nI i))]) hx hb dX2_upFor_81 hl (by decide) rfl (fun ls hl => ?_)
                refine lv_iinc (v := (nI (i + 1))) (lv' := [(5, .int (nI (i + 1))), (4, .int (x4 ||| ((1 : Int32) <<< ((nI i) &&& 31)))), (0, .ref (mo 0)), (1, .int ship), (2, .int fromNow), (3, .int (mo_today + fromNow))]) hx hb dX2_upFor_83 hl (k := 5) rfl (by rw [show Int32.ofInt 1 = nI 1 from rfl, nI_add]) (by decide) rfl (fun ls hl => ?_)
                refine lv_goto (tgt := 47) hx hb dX2_upFor_86 (by decide) ?_
                exact ih (x4 ||| ((1 : Int32) <<< ((nI i) &&& 31))) ((i + 1))  (by omega) (by omega) hE ls (lv_sub hl [2, 3, 4, 5, 1, 0] rfl)
        exact L47 5 (0 : Int32) (0)  (by omega) (by omega) hE ls (lv_sub hl [3, 4, 5, 2, 1, 0] rfl)
      · have e_25 := mt Int32.toInt_inj.mp c_25
        rw [if_neg c_25] at hE
        refine lv_iload_n hx hb dX2_upFor_28 rfl (lv_at hl 0 rfl) ?_
        refine lv_bipush (v := (7 : Int32)) hx hb dX2_upFor_29 (by decide) ?_
        refine lv_irem hx hb dX2_upFor_31 (by decide) ?_
        refine lv_iconst (v := (3 : Int32)) hx hb dX2_upFor_32 (by decide) ?_
        refine lv_icmp_ne (tgt := 41) hx hb dX2_upFor_33 (by decide) (fun c_33 => ?_) (fun c_33 => ?_)
        · rw [if_neg c_33] at hE
          refine lv_iconst (v := (0 : Int32)) hx hb dX2_upFor_41 (by decide) ?_
          refine lv_istore (lv' := [(4, .int (0 : Int32)), (3, .int (mo_today + fromNow)), (0, .ref (mo 0)), (1, .int ship), (2, .int fromNow)]) hx hb dX2_upFor_42 hl (by decide) rfl (fun ls hl => ?_)
          refine lv_iconst (v := (0 : Int32)) hx hb dX2_upFor_44 (by decide) ?_
          refine lv_istore (lv' := [(5, .int (0 : Int32)), (4, .int (0 : Int32)), (3, .int (mo_today + fromNow)), (0, .ref (mo 0)), (1, .int ship), (2, .int fromNow)]) hx hb dX2_upFor_45 hl (by decide) rfl (fun ls hl => ?_)
          have L47 : ∀ (n_ : Nat) (x4 : Int32) (i : Nat) , (i ≤ 4) → 4 - i < n_ → (fX2_upFor_47 mo_kinds mo_illUntil mo_today fromNow n_ x4 i) = RES → ∀ ls : Array Slot, lv_has ls 6 [(0, .ref (mo 0)), (1, .int ship), (2, .int fromNow), (3, .int (mo_today + fromNow)), (4, .int x4), (5, .int (nI i))] → W p l e (headSpec wsX2_upFor ({ frames := 1, cells := 0, slots := 0, locals := 22 } : Room)).room s m ([.ref (mo 0), .int ship, .int fromNow] : List Value).toArray below meth c s.heap [] 0 0 Q (F0 m 47 ls []) := by
            intro n_
            induction n_ with
            | zero => intro x4 i  hi hn; exact absurd hn (Nat.not_lt_zero _)
            | succ n_ ih =>
              intro x4 i  hi hn hE ls hl
              rw [fX2_upFor_47] at hE
              have tn_i : (nI i).toInt = (i : Int) := nI_toInt (by omega)
              refine lv_iload hx hb dX2_upFor_47 (lv_at hl 5 rfl) ?_
              refine lv_iconst (v := (4 : Int32)) hx hb dX2_upFor_49 (by decide) ?_
              refine lv_icmp_ge (tgt := 89) hx hb dX2_upFor_50 (by decide) (fun c_50 => ?_) (fun c_50 => ?_)
              · have e_50 := Int32.le_iff_toInt_le.mp c_50
                rw [if_pos c_50] at hE
                refine lv_iload hx hb dX2_upFor_89 (lv_at hl 4 rfl) ?_
                subst hE
                rw [← hQ]
                exact W.iret hx hb hr (fun t ht hW => ⟨_, rfl, rfl, ht⟩) (fun q h => absurd h List.not_mem_nil) dX2_upFor_91
              · have e_50 := mt Int32.le_iff_toInt_le.mpr c_50
                rw [if_neg c_50] at hE
                refine lv_aload_n hx hb dX2_upFor_53 rfl (lv_at hl 0 rfl) ?_
                refine va_get (D := (dC, dI)) (ci := 2) (v := .ref (mo 1)) (C := RX2) (T := TX2) (N := 11) hx hb hts in_X2 hown hK hP 0 rfl rfl 0 (by decide) t_fieldLink_RX2_9_FourLodgers_Moment_kinds_I (fun _ h9 => h9) rfl dX2_upFor_54 ?_
                refine lv_iload hx hb dX2_upFor_57 (lv_at hl 5 rfl) ?_
                refine va_iald hx hb hK hP 1 0 rfl rfl (i := (nI i)) (by first | assumption | exact vp_in_iff.mpr ⟨by omega, by omega⟩ | omega | decide) dX2_upFor_59 ?_
                refine lv_aload_n hx hb dX2_upFor_60 rfl (lv_at hl 0 rfl) ?_
                refine lv_iload hx hb dX2_upFor_61 (lv_at hl 5 rfl) ?_
                refine lv_iload_n hx hb dX2_upFor_63 rfl (lv_at hl 3 rfl) ?_
                refine rcVi (As := [.int (nI i), .int (mo_today + fromNow)]) (rest := [.int (mo_kinds (nI i).toNatClampNeg)]) ⟨hx, hb, hml, hown, hts⟩ (kX2_isIll l dC dI cI cJ mo mo_kinds mo_illUntil mo_cells mo_sailedToday mo_today mo_hired mo_timesSailed mo_seenCount mo_seenLodger mo_seenDay mo_seenUp (nI i) (mo_today + fromNow) (by first | assumption | exact vp_in_iff.mpr ⟨by omega, by omega⟩ | omega | decide)) (cwV 2 hts gX2_upFor_X2_isIll rfl rfl rfl (by decide +kernel) ⟨Nat.le_of_ble_eq_true rfl, Nat.le_of_ble_eq_true rfl⟩) hK hP hst hS [0, 1, 2, 3, 4, 5, 6] rfl 0 rfl rfl rfl hl.1 rfl (Nat.le_of_ble_eq_true rfl) dX2_upFor_64 ⟨Nat.zero_le _, Nat.zero_le _⟩ (fun r w_19 => ?_)
                obtain ⟨rfl, nb_20⟩ := w_19
                refine lv_iload_n hx hb dX2_upFor_67 rfl (lv_at hl 3 rfl) ?_
                refine rcSi (As := [.int (mo_kinds (nI i).toNatClampNeg), .int (fX2_isIll mo_illUntil (nI i) (mo_today + fromNow)), .int (mo_today + fromNow)]) (rest := []) ⟨hx, hb, hml, hown, hts⟩ (kX2_kindIsUp l dC dI cI cJ (mo_kinds (nI i).toNatClampNeg) (fX2_isIll mo_illUntil (nI i) (mo_today + fromNow)) (mo_today + fromNow)) (va_cwS 3 hts gX2_upFor_X2_kindIsUp rfl rfl rfl (by decide +kernel) ⟨Nat.le_of_ble_eq_true rfl, Nat.le_of_ble_eq_true rfl⟩) hK hP hst hS [] rfl rfl hl.1 rfl (Nat.le_of_ble_eq_true rfl) dX2_upFor_68 ⟨Nat.zero_le _, Nat.zero_le _⟩ (fun r w_21 => ?_)
                obtain ⟨rfl, nb_22⟩ := w_21
                refine lv_if_eq (tgt := 83) hx hb dX2_upFor_71 (by decide) (fun c_71 => ?_) (fun c_71 => ?_)
                · rw [if_pos c_71] at hE
                  refine lv_iinc (v := (nI (i + 1))) (lv' := [(5, .int (nI (i + 1))), (0, .ref (mo 0)), (1, .int ship), (2, .int fromNow), (3, .int (mo_today + fromNow)), (4, .int x4)]) hx hb dX2_upFor_83 hl (k := 5) rfl (by rw [show Int32.ofInt 1 = nI 1 from rfl, nI_add]) (by decide) rfl (fun ls hl => ?_)
                  refine lv_goto (tgt := 47) hx hb dX2_upFor_86 (by decide) ?_
                  exact ih x4 ((i + 1))  (by omega) (by omega) hE ls (lv_sub hl [1, 2, 3, 4, 5, 0] rfl)
                · rw [if_neg c_71] at hE
                  refine lv_iload hx hb dX2_upFor_74 (lv_at hl 4 rfl) ?_
                  refine lv_iconst (v := (1 : Int32)) hx hb dX2_upFor_76 (by decide) ?_
                  refine lv_iload hx hb dX2_upFor_77 (lv_at hl 5 rfl) ?_
                  refine lv_ishl hx hb dX2_upFor_79 ?_
                  refine lv_ior hx hb dX2_upFor_80 ?_
                  refine lv_istore (lv' := [(4, .int (x4 ||| ((1 : Int32) <<< ((nI i) &&& 31)))), (0, .ref (mo 0)), (1, .int ship), (2, .int fromNow), (3, .int (mo_today + fromNow)), (5, .int (nI i))]) hx hb dX2_upFor_81 hl (by decide) rfl (fun ls hl => ?_)
                  refine lv_iinc (v := (nI (i + 1))) (lv' := [(5, .int (nI (i + 1))), (4, .int (x4 ||| ((1 : Int32) <<< ((nI i) &&& 31)))), (0, .ref (mo 0)), (1, .int ship), (2, .int fromNow), (3, .int (mo_today + fromNow))]) hx hb dX2_upFor_83 hl (k := 5) rfl (by rw [show Int32.ofInt 1 = nI 1 from rfl, nI_add]) (by decide) rfl (fun ls hl => ?_)
                  refine lv_goto (tgt := 47) hx hb dX2_upFor_86 (by decide) ?_
                  exact ih (x4 ||| ((1 : Int32) <<< ((nI i) &&& 31))) ((i + 1))  (by omega) (by omega) hE ls (lv_sub hl [2, 3, 4, 5, 1, 0] rfl)
          exact L47 5 (0 : Int32) (0)  (by omega) (by omega) hE ls (lv_sub hl [3, 4, 5, 2, 1, 0] rfl)
        · rw [if_pos c_33] at hE
          refine lv_bipush (v := (16 : Int32)) hx hb dX2_upFor_36 (by decide) ?_
          refine lv_goto (tgt := 42) hx hb dX2_upFor_38 (by decide) ?_
          refine lv_istore (lv' := [(4, .int (16 : Int32)), (3, .int (mo_today + fromNow)), (0, .ref (mo 0)), (1, .int ship), (2, .int fromNow)]) hx hb dX2_upFor_42 hl (by decide) rfl (fun ls hl => ?_)
          refine lv_iconst (v := (0 : Int32)) hx hb dX2_upFor_44 (by decide) ?_
          refine lv_istore (lv' := [(5, .int (0 : Int32)), (4, .int (16 : Int32)), (3, .int (mo_today + fromNow)), (0, .ref (mo 0)), (1, .int ship), (2, .int fromNow)]) hx hb dX2_upFor_45 hl (by decide) rfl (fun ls hl => ?_)
          have L47 : ∀ (n_ : Nat) (x4 : Int32) (i : Nat) , (i ≤ 4) → 4 - i < n_ → (fX2_upFor_47 mo_kinds mo_illUntil mo_today fromNow n_ x4 i) = RES → ∀ ls : Array Slot, lv_has ls 6 [(0, .ref (mo 0)), (1, .int ship), (2, .int fromNow), (3, .int (mo_today + fromNow)), (4, .int x4), (5, .int (nI i))] → W p l e (headSpec wsX2_upFor ({ frames := 1, cells := 0, slots := 0, locals := 22 } : Room)).room s m ([.ref (mo 0), .int ship, .int fromNow] : List Value).toArray below meth c s.heap [] 0 0 Q (F0 m 47 ls []) := by
            intro n_
            induction n_ with
            | zero => intro x4 i  hi hn; exact absurd hn (Nat.not_lt_zero _)
            | succ n_ ih =>
              intro x4 i  hi hn hE ls hl
              rw [fX2_upFor_47] at hE
              have tn_i : (nI i).toInt = (i : Int) := nI_toInt (by omega)
              refine lv_iload hx hb dX2_upFor_47 (lv_at hl 5 rfl) ?_
              refine lv_iconst (v := (4 : Int32)) hx hb dX2_upFor_49 (by decide) ?_
              refine lv_icmp_ge (tgt := 89) hx hb dX2_upFor_50 (by decide) (fun c_50 => ?_) (fun c_50 => ?_)
              · have e_50 := Int32.le_iff_toInt_le.mp c_50
                rw [if_pos c_50] at hE
                refine lv_iload hx hb dX2_upFor_89 (lv_at hl 4 rfl) ?_
                subst hE
                rw [← hQ]
                exact W.iret hx hb hr (fun t ht hW => ⟨_, rfl, rfl, ht⟩) (fun q h => absurd h List.not_mem_nil) dX2_upFor_91
              · have e_50 := mt Int32.le_iff_toInt_le.mpr c_50
                rw [if_neg c_50] at hE
                refine lv_aload_n hx hb dX2_upFor_53 rfl (lv_at hl 0 rfl) ?_
                refine va_get (D := (dC, dI)) (ci := 2) (v := .ref (mo 1)) (C := RX2) (T := TX2) (N := 11) hx hb hts in_X2 hown hK hP 0 rfl rfl 0 (by decide) t_fieldLink_RX2_9_FourLodgers_Moment_kinds_I (fun _ h9 => h9) rfl dX2_upFor_54 ?_
                refine lv_iload hx hb dX2_upFor_57 (lv_at hl 5 rfl) ?_
                refine va_iald hx hb hK hP 1 0 rfl rfl (i := (nI i)) (by first | assumption | exact vp_in_iff.mpr ⟨by omega, by omega⟩ | omega | decide) dX2_upFor_59 ?_
                refine lv_aload_n hx hb dX2_upFor_60 rfl (lv_at hl 0 rfl) ?_
                refine lv_iload hx hb dX2_upFor_61 (lv_at hl 5 rfl) ?_
                refine lv_iload_n hx hb dX2_upFor_63 rfl (lv_at hl 3 rfl) ?_
                refine rcVi (As := [.int (nI i), .int (mo_today + fromNow)]) (rest := [.int (mo_kinds (nI i).toNatClampNeg)]) ⟨hx, hb, hml, hown, hts⟩ (kX2_isIll l dC dI cI cJ mo mo_kinds mo_illUntil mo_cells mo_sailedToday mo_today mo_hired mo_timesSailed mo_seenCount mo_seenLodger mo_seenDay mo_seenUp (nI i) (mo_today + fromNow) (by first | assumption | exact vp_in_iff.mpr ⟨by omega, by omega⟩ | omega | decide)) (cwV 2 hts gX2_upFor_X2_isIll rfl rfl rfl (by decide +kernel) ⟨Nat.le_of_ble_eq_true rfl, Nat.le_of_ble_eq_true rfl⟩) hK hP hst hS [0, 1, 2, 3, 4, 5, 6] rfl 0 rfl rfl rfl hl.1 rfl (Nat.le_of_ble_eq_true rfl) dX2_upFor_64 ⟨Nat.zero_le _, Nat.zero_le _⟩ (fun r w_23 => ?_)
                obtain ⟨rfl, nb_24⟩ := w_23
                refine lv_iload_n hx hb dX2_upFor_67 rfl (lv_at hl 3 rfl) ?_
                refine rcSi (As := [.int (mo_kinds (nI i).toNatClampNeg), .int (fX2_isIll mo_illUntil (nI i) (mo_today + fromNow)), .int (mo_today + fromNow)]) (rest := []) ⟨hx, hb, hml, hown, hts⟩ (kX2_kindIsUp l dC dI cI cJ (mo_kinds (nI i).toNatClampNeg) (fX2_isIll mo_illUntil (nI i) (mo_today + fromNow)) (mo_today + fromNow)) (va_cwS 3 hts gX2_upFor_X2_kindIsUp rfl rfl rfl (by decide +kernel) ⟨Nat.le_of_ble_eq_true rfl, Nat.le_of_ble_eq_true rfl⟩) hK hP hst hS [] rfl rfl hl.1 rfl (Nat.le_of_ble_eq_true rfl) dX2_upFor_68 ⟨Nat.zero_le _, Nat.zero_le _⟩ (fun r w_25 => ?_)
                obtain ⟨rfl, nb_26⟩ := w_25
                refine lv_if_eq (tgt := 83) hx hb dX2_upFor_71 (by decide) (fun c_71 => ?_) (fun c_71 => ?_)
                · rw [if_pos c_71] at hE
                  refine lv_iinc (v := (nI (i + 1))) (lv' := [(5, .int (nI (i + 1))), (0, .ref (mo 0)), (1, .int ship), (2, .int fromNow), (3, .int (mo_today + fromNow)), (4, .int x4)]) hx hb dX2_upFor_83 hl (k := 5) rfl (by rw [show Int32.ofInt 1 = nI 1 from rfl, nI_add]) (by decide) rfl (fun ls hl => ?_)
                  refine lv_goto (tgt := 47) hx hb dX2_upFor_86 (by decide) ?_
                  exact ih x4 ((i + 1))  (by omega) (by omega) hE ls (lv_sub hl [1, 2, 3, 4, 5, 0] rfl)
                · rw [if_neg c_71] at hE
                  refine lv_iload hx hb dX2_upFor_74 (lv_at hl 4 rfl) ?_
                  refine lv_iconst (v := (1 : Int32)) hx hb dX2_upFor_76 (by decide) ?_
                  refine lv_iload hx hb dX2_upFor_77 (lv_at hl 5 rfl) ?_
                  refine lv_ishl hx hb dX2_upFor_79 ?_
                  refine lv_ior hx hb dX2_upFor_80 ?_
                  refine lv_istore (lv' := [(4, .int (x4 ||| ((1 : Int32) <<< ((nI i) &&& 31)))), (0, .ref (mo 0)), (1, .int ship), (2, .int fromNow), (3, .int (mo_today + fromNow)), (5, .int (nI i))]) hx hb dX2_upFor_81 hl (by decide) rfl (fun ls hl => ?_)
                  refine lv_iinc (v := (nI (i + 1))) (lv' := [(5, .int (nI (i + 1))), (4, .int (x4 ||| ((1 : Int32) <<< ((nI i) &&& 31)))), (0, .ref (mo 0)), (1, .int ship), (2, .int fromNow), (3, .int (mo_today + fromNow))]) hx hb dX2_upFor_83 hl (k := 5) rfl (by rw [show Int32.ofInt 1 = nI 1 from rfl, nI_add]) (by decide) rfl (fun ls hl => ?_)
                  refine lv_goto (tgt := 47) hx hb dX2_upFor_86 (by decide) ?_
                  exact ih (x4 ||| ((1 : Int32) <<< ((nI i) &&& 31))) ((i + 1))  (by omega) (by omega) hE ls (lv_sub hl [2, 3, 4, 5, 1, 0] rfl)
          exact L47 5 (16 : Int32) (0)  (by omega) (by omega) hE ls (lv_sub hl [3, 4, 5, 2, 1, 0] rfl)
    · rw [if_neg c_9] at hE
      refine lv_iconst (v := (0 : Int32)) hx hb dX2_upFor_12 (by decide) ?_
      subst hE
      rw [← hQ]
      exact W.iret hx hb hr (fun t ht hW => ⟨_, rfl, rfl, ht⟩) (fun q h => absurd h List.not_mem_nil) dX2_upFor_13
def fX2_daysUp_5 (mo_kinds : Nat → Int32) (mo_illUntil : Nat → Int32) (mo_today : Int32) (lodger : Int32) (days : Int32) : Nat → Int32 → Nat → Int32
  | 0, _, _ => 0
  | n_ + 1, x3, i => (if days ≤ (nI i) then x3 else (if (fX2_isUp mo_kinds mo_illUntil lodger (mo_today + (nI i))) = (0 : Int32) then (fX2_daysUp_5 mo_kinds mo_illUntil mo_today lodger days n_ x3 ((i + 1))) else (fX2_daysUp_5 mo_kinds mo_illUntil mo_today lodger days n_ (x3 + (1 : Int32)) ((i + 1)))))
def fX2_daysUp (mo_kinds : Nat → Int32) (mo_illUntil : Nat → Int32) (mo_today : Int32) (lodger : Int32) (days : Int32) : Int32 := (fX2_daysUp_5 mo_kinds mo_illUntil mo_today lodger days 29 (0 : Int32) (0))
set_option maxHeartbeats 4000000 in
set_option maxRecDepth 100000 in
theorem kX2_daysUp (l : Launch) (dC : Nat → ClassId) (dI : Nat → Nat → Nat) (cI cJ : ClassId) (mo : Nat → Nat) (mo_kinds : Nat → Int32) (mo_illUntil : Nat → Int32) (mo_cells : Nat → Int32) (mo_sailedToday : Int32) (mo_today : Int32) (mo_hired : Int32) (mo_timesSailed : Int32) (mo_seenCount : Int32) (mo_seenLodger : Nat → Int32) (mo_seenDay : Nat → Int32) (mo_seenUp : Nat → Int32) (lodger : Int32) (days : Int32) (p_1 : vp_in lodger 4) (p_2 : days.toInt ≤ 28) : Met l yX2_daysUp wsX2_daysUp ({ frames := 2, cells := 0, slots := 0, locals := 44 } : Room) (gR (dC, dI) cI cJ (kMo cI mo mo_kinds mo_illUntil mo_cells mo_sailedToday mo_today mo_hired mo_timesSailed mo_seenCount mo_seenLodger mo_seenDay mo_seenUp) ([.ref (mo 0), .int lodger, .int days] : List Value)) (vp_Si (fun r => r = (fX2_daysUp mo_kinds mo_illUntil mo_today lodger days))) 0 0 (fun _ => False) := by
  refine Met.ofW (cc := cX2_daysUp) (maxL := 5) (ret := (some .int)) (by decide) rfl ?_
  intro p e s m args below meth c s₁ B hml hv
  obtain ⟨rfl, hP, hK, hst⟩ := hv
  have hx := B.exec
  have hb := B.bytes
  have hr := B.returns
  have hts := atoms_spec (ws := wsX2_daysUp) B.pre
  have hown : s.vm.findClass RX2 = some m.cls := findClass_of_methodNamed B.named
  have hlocks := B.notSynchronized
  have hS : va_S (fun _ => False) s.heap s.heap [] := va_S.rf
  generalize hE : (fX2_daysUp mo_kinds mo_illUntil mo_today lodger days) = RES
  generalize hQ : MQ below (vp_Si (fun r => r = RES)) ([.ref (mo 0), .int lodger, .int days] : List Value).toArray s 0 0 (fun _ => False) = Q
  have hl := lv_entry ([.ref (mo 0), .int lodger, .int days] : List Value) (n := 5) (Nat.le_of_ble_eq_true rfl)
  rw [lg_entry_eq]
  generalize (lg_sl ([.ref (mo 0), .int lodger, .int days] : List Value) ++ List.replicate (5 - (lg_sl ([.ref (mo 0), .int lodger, .int days] : List Value)).length) Slot.unset).toArray = ls at hl ⊢
  have hl : lv_has ls 5 [(0, .ref (mo 0)), (1, .int lodger), (2, .int days)] := hl
  have in_X2 : ∀ w ∈ u_ws RX2 TX2 11, w ∈ wsX2_daysUp := fun _ h => List.mem_cons_of_mem _ (List.mem_append_right _ h)
  have t_fieldLink_RX2_49_FourLodgers_Moment_today_I := hts (.fieldLink RX2 49 "FourLodgers$Moment" "today" "I") (List.mem_of_getElem? (i := 1) rfl)
  have i_0 : (0 : Int32).toInt = 0 := by decide
  have i_1 : (1 : Int32).toInt = 1 := by decide
  have p_1' := vp_in_iff.mp p_1
  rw [fX2_daysUp] at hE
  refine lv_iconst (v := (0 : Int32)) hx hb dX2_daysUp_0 (by decide) ?_
  refine lv_istore_n (lv' := [(3, .int (0 : Int32)), (0, .ref (mo 0)), (1, .int lodger), (2, .int days)]) hx hb dX2_daysUp_1 rfl hl (by decide) rfl (fun ls hl => ?_)
  refine lv_iconst (v := (0 : Int32)) hx hb dX2_daysUp_2 (by decide) ?_
  refine lv_istore (lv' := [(4, .int (0 : Int32)), (3, .int (0 : Int32)), (0, .ref (mo 0)), (1, .int lodger), (2, .int days)]) hx hb dX2_daysUp_3 hl (by decide) rfl (fun ls hl => ?_)
  have L5 : ∀ (n_ : Nat) (x3 : Int32) (i : Nat) , (i ≤ 28) → 28 - i < n_ → (fX2_daysUp_5 mo_kinds mo_illUntil mo_today lodger days n_ x3 i) = RES → ∀ ls : Array Slot, lv_has ls 5 [(0, .ref (mo 0)), (1, .int lodger), (2, .int days), (3, .int x3), (4, .int (nI i))] → W p l e (headSpec wsX2_daysUp ({ frames := 2, cells := 0, slots := 0, locals := 44 } : Room)).room s m ([.ref (mo 0), .int lodger, .int days] : List Value).toArray below meth c s.heap [] 0 0 Q (F0 m 5 ls []) := by
    intro n_
    induction n_ with
    | zero => intro x3 i  hi hn; exact absurd hn (Nat.not_lt_zero _)
    | succ n_ ih =>
      intro x3 i  hi hn hE ls hl
      rw [fX2_daysUp_5] at hE
      have tn_i : (nI i).toInt = (i : Int) := nI_toInt (by omega)
      refine lv_iload hx hb dX2_daysUp_5 (lv_at hl 4 rfl) ?_
      refine lv_iload_n hx hb dX2_daysUp_7 rfl (lv_at hl 2 rfl) ?_
      refine lv_icmp_ge (tgt := 35) hx hb dX2_daysUp_8 (by decide) (fun c_8 => ?_) (fun c_8 => ?_)
      · have e_8 := Int32.le_iff_toInt_le.mp c_8
        rw [if_pos c_8] at hE
        refine lv_iload_n hx hb dX2_daysUp_35 rfl (lv_at hl 3 rfl) ?_
        subst hE
        rw [← hQ]
        exact W.iret hx hb hr (fun t ht hW => ⟨_, rfl, rfl, ht⟩) (fun q h => absurd h List.not_mem_nil) dX2_daysUp_36
      · have e_8 := mt Int32.le_iff_toInt_le.mpr c_8
        rw [if_neg c_8] at hE
        refine lv_aload_n hx hb dX2_daysUp_11 rfl (lv_at hl 0 rfl) ?_
        refine lv_iload_n hx hb dX2_daysUp_12 rfl (lv_at hl 1 rfl) ?_
        refine lv_aload_n hx hb dX2_daysUp_13 rfl (lv_at hl 0 rfl) ?_
        refine va_get (D := (dC, dI)) (ci := 2) (v := .int mo_today) (C := RX2) (T := TX2) (N := 11) hx hb hts in_X2 hown hK hP 0 rfl rfl 4 (by decide) t_fieldLink_RX2_49_FourLodgers_Moment_today_I (fun _ h9 => h9) rfl dX2_daysUp_14 ?_
        refine lv_iload hx hb dX2_daysUp_17 (lv_at hl 4 rfl) ?_
        refine lv_iadd hx hb dX2_daysUp_19 ?_
        refine rcVi (As := [.int lodger, .int (mo_today + (nI i))]) (rest := []) ⟨hx, hb, hml, hown, hts⟩ (kX2_isUp l dC dI cI cJ mo mo_kinds mo_illUntil mo_cells mo_sailedToday mo_today mo_hired mo_timesSailed mo_seenCount mo_seenLodger mo_seenDay mo_seenUp lodger (mo_today + (nI i)) (by first | assumption | exact vp_in_iff.mpr ⟨by omega, by omega⟩ | omega | decide)) (cwV 2 hts gX2_daysUp_X2_isUp rfl rfl rfl (by decide +kernel) ⟨Nat.le_of_ble_eq_true rfl, Nat.le_of_ble_eq_true rfl⟩) hK hP hst hS [0, 1, 2, 3, 4, 5, 6] rfl 0 rfl rfl rfl hl.1 rfl (Nat.le_of_ble_eq_true rfl) dX2_daysUp_20 ⟨Nat.zero_le _, Nat.zero_le _⟩ (fun r w_1 => ?_)
        obtain ⟨rfl, nb_2⟩ := w_1
        refine lv_if_eq (tgt := 29) hx hb dX2_daysUp_23 (by decide) (fun c_23 => ?_) (fun c_23 => ?_)
        · rw [if_pos c_23] at hE
          refine lv_iinc (v := (nI (i + 1))) (lv' := [(4, .int (nI (i + 1))), (0, .ref (mo 0)), (1, .int lodger), (2, .int days), (3, .int x3)]) hx hb dX2_daysUp_29 hl (k := 4) rfl (by rw [show Int32.ofInt 1 = nI 1 from rfl, nI_add]) (by decide) rfl (fun ls hl => ?_)
          refine lv_goto (tgt := 5) hx hb dX2_daysUp_32 (by decide) ?_
          exact ih x3 ((i + 1))  (by omega) (by omega) hE ls (lv_sub hl [1, 2, 3, 4, 0] rfl)
        · rw [if_neg c_23] at hE
          refine lv_iinc (v := (x3 + (1 : Int32))) (lv' := [(3, .int (x3 + (1 : Int32))), (0, .ref (mo 0)), (1, .int lodger), (2, .int days), (4, .int (nI i))]) hx hb dX2_daysUp_26 hl (k := 3) rfl rfl (by decide) rfl (fun ls hl => ?_)
          refine lv_iinc (v := (nI (i + 1))) (lv' := [(4, .int (nI (i + 1))), (3, .int (x3 + (1 : Int32))), (0, .ref (mo 0)), (1, .int lodger), (2, .int days)]) hx hb dX2_daysUp_29 hl (k := 4) rfl (by rw [show Int32.ofInt 1 = nI 1 from rfl, nI_add]) (by decide) rfl (fun ls hl => ?_)
          refine lv_goto (tgt := 5) hx hb dX2_daysUp_32 (by decide) ?_
          exact ih (x3 + (1 : Int32)) ((i + 1))  (by omega) (by omega) hE ls (lv_sub hl [2, 3, 4, 1, 0] rfl)
  exact L5 29 (0 : Int32) (0)  (by omega) (by omega) hE ls (lv_sub hl [2, 3, 4, 1, 0] rfl)
def fX2_kindsUp_21 (mo_illUntil : Nat → Int32) (mo_today : Int32) (lodger : Int32) (fromNow : Int32) : Nat → Int32 → Nat → Int32
  | 0, _, _ => 0
  | n_ + 1, x5, i => (if (5 : Int32) ≤ (nI i) then x5 else (if (fX2_kindIsUp (nI i) (fX2_isIll mo_illUntil lodger (mo_today + fromNow)) (mo_today + fromNow)) = (0 : Int32) then (fX2_kindsUp_21 mo_illUntil mo_today lodger fromNow n_ x5 ((i + 1))) else (fX2_kindsUp_21 mo_illUntil mo_today lodger fromNow n_ (x5 ||| ((1 : Int32) <<< ((nI i) &&& 31))) ((i + 1)))))
def fX2_kindsUp (mo_illUntil : Nat → Int32) (mo_today : Int32) (lodger : Int32) (fromNow : Int32) : Int32 := (fX2_kindsUp_21 mo_illUntil mo_today lodger fromNow 6 (0 : Int32) (0))
set_option maxHeartbeats 4000000 in
set_option maxRecDepth 100000 in
theorem kX2_kindsUp (l : Launch) (dC : Nat → ClassId) (dI : Nat → Nat → Nat) (cI cJ : ClassId) (mo : Nat → Nat) (mo_kinds : Nat → Int32) (mo_illUntil : Nat → Int32) (mo_cells : Nat → Int32) (mo_sailedToday : Int32) (mo_today : Int32) (mo_hired : Int32) (mo_timesSailed : Int32) (mo_seenCount : Int32) (mo_seenLodger : Nat → Int32) (mo_seenDay : Nat → Int32) (mo_seenUp : Nat → Int32) (lodger : Int32) (fromNow : Int32) (p_1 : vp_in lodger 4) : Met l yX2_kindsUp wsX2_kindsUp ({ frames := 1, cells := 0, slots := 0, locals := 22 } : Room) (gR (dC, dI) cI cJ (kMo cI mo mo_kinds mo_illUntil mo_cells mo_sailedToday mo_today mo_hired mo_timesSailed mo_seenCount mo_seenLodger mo_seenDay mo_seenUp) ([.ref (mo 0), .int lodger, .int fromNow] : List Value)) (vp_Si (fun r => r = (fX2_kindsUp mo_illUntil mo_today lodger fromNow))) 0 0 (fun _ => False) := by
  refine Met.ofW (cc := cX2_kindsUp) (maxL := 7) (ret := (some .int)) (by decide) rfl ?_
  intro p e s m args below meth c s₁ B hml hv
  obtain ⟨rfl, hP, hK, hst⟩ := hv
  have hx := B.exec
  have hb := B.bytes
  have hr := B.returns
  have hts := atoms_spec (ws := wsX2_kindsUp) B.pre
  have hown : s.vm.findClass RX2 = some m.cls := findClass_of_methodNamed B.named
  have hlocks := B.notSynchronized
  have hS : va_S (fun _ => False) s.heap s.heap [] := va_S.rf
  generalize hE : (fX2_kindsUp mo_illUntil mo_today lodger fromNow) = RES
  generalize hQ : MQ below (vp_Si (fun r => r = RES)) ([.ref (mo 0), .int lodger, .int fromNow] : List Value).toArray s 0 0 (fun _ => False) = Q
  have hl := lv_entry ([.ref (mo 0), .int lodger, .int fromNow] : List Value) (n := 7) (Nat.le_of_ble_eq_true rfl)
  rw [lg_entry_eq]
  generalize (lg_sl ([.ref (mo 0), .int lodger, .int fromNow] : List Value) ++ List.replicate (7 - (lg_sl ([.ref (mo 0), .int lodger, .int fromNow] : List Value)).length) Slot.unset).toArray = ls at hl ⊢
  have hl : lv_has ls 7 [(0, .ref (mo 0)), (1, .int lodger), (2, .int fromNow)] := hl
  have in_X2 : ∀ w ∈ u_ws RX2 TX2 11, w ∈ wsX2_kindsUp := fun _ h => List.mem_cons_of_mem _ (List.mem_append_right _ h)
  have t_fieldLink_RX2_49_FourLodgers_Moment_today_I := hts (.fieldLink RX2 49 "FourLodgers$Moment" "today" "I") (List.mem_of_getElem? (i := 1) rfl)
  have i_0 : (0 : Int32).toInt = 0 := by decide
  have i_1 : (1 : Int32).toInt = 1 := by decide
  have i_5 : (5 : Int32).toInt = 5 := by decide
  have p_1' := vp_in_iff.mp p_1
  rw [fX2_kindsUp] at hE
  refine lv_aload_n hx hb dX2_kindsUp_0 rfl (lv_at hl 0 rfl) ?_
  refine va_get (D := (dC, dI)) (ci := 2) (v := .int mo_today) (C := RX2) (T := TX2) (N := 11) hx hb hts in_X2 hown hK hP 0 rfl rfl 4 (by decide) t_fieldLink_RX2_49_FourLodgers_Moment_today_I (fun _ h9 => h9) rfl dX2_kindsUp_1 ?_
  refine lv_iload_n hx hb dX2_kindsUp_4 rfl (lv_at hl 2 rfl) ?_
  refine lv_iadd hx hb dX2_kindsUp_5 ?_
  refine lv_istore_n (lv' := [(3, .int (mo_today + fromNow)), (0, .ref (mo 0)), (1, .int lodger), (2, .int fromNow)]) hx hb dX2_kindsUp_6 rfl hl (by decide) rfl (fun ls hl => ?_)
  refine lv_aload_n hx hb dX2_kindsUp_7 rfl (lv_at hl 1 rfl) ?_
  refine lv_iload_n hx hb dX2_kindsUp_8 rfl (lv_at hl 2 rfl) ?_
  refine lv_iload_n hx hb dX2_kindsUp_9 rfl (lv_at hl 0 rfl) ?_
  refine rcVi (As := [.int lodger, .int (mo_today + fromNow)]) (rest := []) ⟨hx, hb, hml, hown, hts⟩ (kX2_isIll l dC dI cI cJ mo mo_kinds mo_illUntil mo_cells mo_sailedToday mo_today mo_hired mo_timesSailed mo_seenCount mo_seenLodger mo_seenDay mo_seenUp lodger (mo_today + fromNow) (by first | assumption | exact vp_in_iff.mpr ⟨by omega, by omega⟩ | omega | decide)) (cwV 2 hts gX2_kindsUp_X2_isIll rfl rfl rfl (by decide +kernel) ⟨Nat.le_of_ble_eq_true rfl, Nat.le_of_ble_eq_true rfl⟩) hK hP hst hS [0, 1, 2, 3, 4, 5, 6] rfl 0 rfl rfl rfl hl.1 rfl (Nat.le_of_ble_eq_true rfl) dX2_kindsUp_10 ⟨Nat.zero_le _, Nat.zero_le _⟩ (fun r w_1 => ?_)
  obtain ⟨rfl, nb_2⟩ := w_1
  refine lv_istore (lv' := [(4, .int (fX2_isIll mo_illUntil lodger (mo_today + fromNow))), (3, .int (mo_today + fromNow)), (0, .ref (mo 0)), (1, .int lodger), (2, .int fromNow)]) hx hb dX2_kindsUp_13 hl (by decide) rfl (fun ls hl => ?_)
  refine lv_iconst (v := (0 : Int32)) hx hb dX2_kindsUp_15 (by decide) ?_
  refine lv_istore (lv' := [(5, .int (0 : Int32)), (4, .int (fX2_isIll mo_illUntil lodger (mo_today + fromNow))), (3, .int (mo_today + fromNow)), (0, .ref (mo 0)), (1, .int lodger), (2, .int fromNow)]) hx hb dX2_kindsUp_16 hl (by decide) rfl (fun ls hl => ?_)
  refine lv_iconst (v := (0 : Int32)) hx hb dX2_kindsUp_18 (by decide) ?_
  refine lv_istore (lv' := [(6, .int (0 : Int32)), (5, .int (0 : Int32)), (4, .int (fX2_isIll mo_illUntil lodger (mo_today + fromNow))), (3, .int (mo_today + fromNow)), (0, .ref (mo 0)), (1, .int lodger), (2, .int fromNow)]) hx hb dX2_kindsUp_19 hl (by decide) rfl (fun ls hl => ?_)
  have L21 : ∀ (n_ : Nat) (x5 : Int32) (i : Nat) , (i ≤ 5) → 5 - i < n_ → (fX2_kindsUp_21 mo_illUntil mo_today lodger fromNow n_ x5 i) = RES → ∀ ls : Array Slot, lv_has ls 7 [(0, .ref (mo 0)), (1, .int lodger), (2, .int fromNow), (3, .int (mo_today + fromNow)), (4, .int (fX2_isIll mo_illUntil lodger (mo_today + fromNow))), (5, .int x5), (6, .int (nI i))] → W p l e (headSpec wsX2_kindsUp ({ frames := 1, cells := 0, slots := 0, locals := 22 } : Room)).room s m ([.ref (mo 0), .int lodger, .int fromNow] : List Value).toArray below meth c s.heap [] 0 0 Q (F0 m 21 ls []) := by
    intro n_
    induction n_ with
    | zero => intro x5 i  hi hn; exact absurd hn (Nat.not_lt_zero _)
    | succ n_ ih =>
      intro x5 i  hi hn hE ls hl
      rw [fX2_kindsUp_21] at hE
      have tn_i : (nI i).toInt = (i : Int) := nI_toInt (by omega)
      refine lv_iload hx hb dX2_kindsUp_21 (lv_at hl 6 rfl) ?_
      refine lv_iconst (v := (5 : Int32)) hx hb dX2_kindsUp_23 (by decide) ?_
      refine lv_icmp_ge (tgt := 53) hx hb dX2_kindsUp_24 (by decide) (fun c_24 => ?_) (fun c_24 => ?_)
      · have e_24 := Int32.le_iff_toInt_le.mp c_24
        rw [if_pos c_24] at hE
        refine lv_iload hx hb dX2_kindsUp_53 (lv_at hl 5 rfl) ?_
        subst hE
        rw [← hQ]
        exact W.iret hx hb hr (fun t ht hW => ⟨_, rfl, rfl, ht⟩) (fun q h => absurd h List.not_mem_nil) dX2_kindsUp_55
      · have e_24 := mt Int32.le_iff_toInt_le.mpr c_24
        rw [if_neg c_24] at hE
        refine lv_iload hx hb dX2_kindsUp_27 (lv_at hl 6 rfl) ?_
        refine lv_iload hx hb dX2_kindsUp_29 (lv_at hl 4 rfl) ?_
        refine lv_iload_n hx hb dX2_kindsUp_31 rfl (lv_at hl 3 rfl) ?_
        refine rcSi (As := [.int (nI i), .int (fX2_isIll mo_illUntil lodger (mo_today + fromNow)), .int (mo_today + fromNow)]) (rest := []) ⟨hx, hb, hml, hown, hts⟩ (kX2_kindIsUp l dC dI cI cJ (nI i) (fX2_isIll mo_illUntil lodger (mo_today + fromNow)) (mo_today + fromNow)) (va_cwS 3 hts gX2_kindsUp_X2_kindIsUp rfl rfl rfl (by decide +kernel) ⟨Nat.le_of_ble_eq_true rfl, Nat.le_of_ble_eq_true rfl⟩) hK hP hst hS [] rfl rfl hl.1 rfl (Nat.le_of_ble_eq_true rfl) dX2_kindsUp_32 ⟨Nat.zero_le _, Nat.zero_le _⟩ (fun r w_3 => ?_)
        obtain ⟨rfl, nb_4⟩ := w_3
        refine lv_if_eq (tgt := 47) hx hb dX2_kindsUp_35 (by decide) (fun c_35 => ?_) (fun c_35 => ?_)
        · rw [if_pos c_35] at hE
          refine lv_iinc (v := (nI (i + 1))) (lv' := [(6, .int (nI (i + 1))), (0, .ref (mo 0)), (1, .int lodger), (2, .int fromNow), (3, .int (mo_today + fromNow)), (4, .int (fX2_isIll mo_illUntil lodger (mo_today + fromNow))), (5, .int x5)]) hx hb dX2_kindsUp_47 hl (k := 6) rfl (by rw [show Int32.ofInt 1 = nI 1 from rfl, nI_add]) (by decide) rfl (fun ls hl => ?_)
          refine lv_goto (tgt := 21) hx hb dX2_kindsUp_50 (by decide) ?_
          exact ih x5 ((i + 1))  (by omega) (by omega) hE ls (lv_sub hl [1, 2, 3, 4, 5, 6, 0] rfl)
        · rw [if_neg c_35] at hE
          refine lv_iload hx hb dX2_kindsUp_38 (lv_at hl 5 rfl) ?_
          refine lv_iconst (v := (1 : Int32)) hx hb dX2_kindsUp_40 (by decide) ?_
          refine lv_iload hx hb dX2_kindsUp_41 (lv_at hl 6 rfl) ?_
          refine lv_ishl hx hb dX2_kindsUp_43 ?_
          refine lv_ior hx hb dX2_kindsUp_44 ?_
          refine lv_istore (lv' := [(5, .int (x5 ||| ((1 : Int32) <<< ((nI i) &&& 31)))), (0, .ref (mo 0)), (1, .int lodger), (2, .int fromNow), (3, .int (mo_today + fromNow)), (4, .int (fX2_isIll mo_illUntil lodger (mo_today + fromNow))), (6, .int (nI i))]) hx hb dX2_kindsUp_45 hl (by decide) rfl (fun ls hl => ?_)
          refine lv_iinc (v := (nI (i + 1))) (lv' := [(6, .int (nI (i + 1))), (5, .int (x5 ||| ((1 : Int32) <<< ((nI i) &&& 31)))), (0, .ref (mo 0)), (1, .int lodger), (2, .int fromNow), (3, .int (mo_today + fromNow)), (4, .int (fX2_isIll mo_illUntil lodger (mo_today + fromNow)))]) hx hb dX2_kindsUp_47 hl (k := 6) rfl (by rw [show Int32.ofInt 1 = nI 1 from rfl, nI_add]) (by decide) rfl (fun ls hl => ?_)
          refine lv_goto (tgt := 21) hx hb dX2_kindsUp_50 (by decide) ?_
          exact ih (x5 ||| ((1 : Int32) <<< ((nI i) &&& 31))) ((i + 1))  (by omega) (by omega) hE ls (lv_sub hl [2, 3, 4, 5, 6, 1, 0] rfl)
  exact L21 6 (0 : Int32) (0)  (by omega) (by omega) hE ls (lv_sub hl [4, 5, 6, 3, 2, 1, 0] rfl)
def fX2_kindsFitting_5 (mo_illUntil : Nat → Int32) (mo_today : Int32) (mo_seenCount : Int32) (mo_seenLodger : Nat → Int32) (mo_seenDay : Nat → Int32) (mo_seenUp : Nat → Int32) (lodger : Int32) : Nat → Int32 → Nat → Int32
  | 0, _, _ => 0
  | n_ + 1, x2, i => (if mo_seenCount ≤ (nI i) then x2 else (if (mo_seenLodger (nI i).toNatClampNeg) = lodger then (if (mo_seenUp (nI i).toNatClampNeg) = (1 : Int32) then (fX2_kindsFitting_5 mo_illUntil mo_today mo_seenCount mo_seenLodger mo_seenDay mo_seenUp lodger n_ (x2 &&& (fX2_kindsUp mo_illUntil mo_today lodger (mo_seenDay (nI i).toNatClampNeg))) ((i + 1))) else (fX2_kindsFitting_5 mo_illUntil mo_today mo_seenCount mo_seenLodger mo_seenDay mo_seenUp lodger n_ (x2 &&& ((fX2_kindsUp mo_illUntil mo_today lodger (mo_seenDay (nI i).toNatClampNeg)) ^^^ (-1 : Int32))) ((i + 1)))) else (fX2_kindsFitting_5 mo_illUntil mo_today mo_seenCount mo_seenLodger mo_seenDay mo_seenUp lodger n_ x2 ((i + 1)))))
def fX2_kindsFitting (mo_illUntil : Nat → Int32) (mo_today : Int32) (mo_seenCount : Int32) (mo_seenLodger : Nat → Int32) (mo_seenDay : Nat → Int32) (mo_seenUp : Nat → Int32) (lodger : Int32) : Int32 := (fX2_kindsFitting_5 mo_illUntil mo_today mo_seenCount mo_seenLodger mo_seenDay mo_seenUp lodger 7 (31 : Int32) (0))
set_option maxHeartbeats 4000000 in
set_option maxRecDepth 100000 in
theorem kX2_kindsFitting (l : Launch) (dC : Nat → ClassId) (dI : Nat → Nat → Nat) (cI cJ : ClassId) (mo : Nat → Nat) (mo_kinds : Nat → Int32) (mo_illUntil : Nat → Int32) (mo_cells : Nat → Int32) (mo_sailedToday : Int32) (mo_today : Int32) (mo_hired : Int32) (mo_timesSailed : Int32) (mo_seenCount : Int32) (mo_seenLodger : Nat → Int32) (mo_seenDay : Nat → Int32) (mo_seenUp : Nat → Int32) (lodger : Int32) (p_1 : vp_in lodger 4) (p_2 : mo_seenCount.toInt ≤ 6) : Met l yX2_kindsFitting wsX2_kindsFitting ({ frames := 2, cells := 0, slots := 0, locals := 48 } : Room) (gR (dC, dI) cI cJ (kMo cI mo mo_kinds mo_illUntil mo_cells mo_sailedToday mo_today mo_hired mo_timesSailed mo_seenCount mo_seenLodger mo_seenDay mo_seenUp) ([.ref (mo 0), .int lodger] : List Value)) (vp_Si (fun r => r = (fX2_kindsFitting mo_illUntil mo_today mo_seenCount mo_seenLodger mo_seenDay mo_seenUp lodger))) 0 0 (fun _ => False) := by
  refine Met.ofW (cc := cX2_kindsFitting) (maxL := 5) (ret := (some .int)) (by decide) rfl ?_
  intro p e s m args below meth c s₁ B hml hv
  obtain ⟨rfl, hP, hK, hst⟩ := hv
  have hx := B.exec
  have hb := B.bytes
  have hr := B.returns
  have hts := atoms_spec (ws := wsX2_kindsFitting) B.pre
  have hown : s.vm.findClass RX2 = some m.cls := findClass_of_methodNamed B.named
  have hlocks := B.notSynchronized
  have hS : va_S (fun _ => False) s.heap s.heap [] := va_S.rf
  generalize hE : (fX2_kindsFitting mo_illUntil mo_today mo_seenCount mo_seenLodger mo_seenDay mo_seenUp lodger) = RES
  generalize hQ : MQ below (vp_Si (fun r => r = RES)) ([.ref (mo 0), .int lodger] : List Value).toArray s 0 0 (fun _ => False) = Q
  have hl := lv_entry ([.ref (mo 0), .int lodger] : List Value) (n := 5) (Nat.le_of_ble_eq_true rfl)
  rw [lg_entry_eq]
  generalize (lg_sl ([.ref (mo 0), .int lodger] : List Value) ++ List.replicate (5 - (lg_sl ([.ref (mo 0), .int lodger] : List Value)).length) Slot.unset).toArray = ls at hl ⊢
  have hl : lv_has ls 5 [(0, .ref (mo 0)), (1, .int lodger)] := hl
  have in_X2 : ∀ w ∈ u_ws RX2 TX2 11, w ∈ wsX2_kindsFitting := fun _ h => List.mem_cons_of_mem _ (List.mem_append_right _ h)
  have t_fieldLink_RX2_21_FourLodgers_Moment_seenLodger_I := hts (.fieldLink RX2 21 "FourLodgers$Moment" "seenLodger" "[I") (List.mem_of_getElem? (i := 2) rfl)
  have t_fieldLink_RX2_24_FourLodgers_Moment_seenDay_I := hts (.fieldLink RX2 24 "FourLodgers$Moment" "seenDay" "[I") (List.mem_of_getElem? (i := 3) rfl)
  have t_fieldLink_RX2_27_FourLodgers_Moment_seenUp_I := hts (.fieldLink RX2 27 "FourLodgers$Moment" "seenUp" "[I") (List.mem_of_getElem? (i := 4) rfl)
  have t_fieldLink_RX2_59_FourLodgers_Moment_seenCount_I := hts (.fieldLink RX2 59 "FourLodgers$Moment" "seenCount" "I") (List.mem_of_getElem? (i := 1) rfl)
  have i_m1 : (-1 : Int32).toInt = -1 := by decide
  have i_0 : (0 : Int32).toInt = 0 := by decide
  have i_1 : (1 : Int32).toInt = 1 := by decide
  have i_31 : (31 : Int32).toInt = 31 := by decide
  have p_1' := vp_in_iff.mp p_1
  rw [fX2_kindsFitting] at hE
  refine lv_bipush (v := (31 : Int32)) hx hb dX2_kindsFitting_0 (by decide) ?_
  refine lv_istore_n (lv' := [(2, .int (31 : Int32)), (0, .ref (mo 0)), (1, .int lodger)]) hx hb dX2_kindsFitting_2 rfl hl (by decide) rfl (fun ls hl => ?_)
  refine lv_iconst (v := (0 : Int32)) hx hb dX2_kindsFitting_3 (by decide) ?_
  refine lv_istore_n (lv' := [(3, .int (0 : Int32)), (2, .int (31 : Int32)), (0, .ref (mo 0)), (1, .int lodger)]) hx hb dX2_kindsFitting_4 rfl hl (by decide) rfl (fun ls hl => ?_)
  have L5 : ∀ (n_ : Nat) (x2 : Int32) (i : Nat) , (i ≤ 6) → 6 - i < n_ → (fX2_kindsFitting_5 mo_illUntil mo_today mo_seenCount mo_seenLodger mo_seenDay mo_seenUp lodger n_ x2 i) = RES → ∀ ls : Array Slot, lv_has ls 5 [(0, .ref (mo 0)), (1, .int lodger), (2, .int x2), (3, .int (nI i))] → W p l e (headSpec wsX2_kindsFitting ({ frames := 2, cells := 0, slots := 0, locals := 48 } : Room)).room s m ([.ref (mo 0), .int lodger] : List Value).toArray below meth c s.heap [] 0 0 Q (F0 m 5 ls []) := by
    intro n_
    induction n_ with
    | zero => intro x2 i  hi hn; exact absurd hn (Nat.not_lt_zero _)
    | succ n_ ih =>
      intro x2 i  hi hn hE ls hl
      rw [fX2_kindsFitting_5] at hE
      have tn_i : (nI i).toInt = (i : Int) := nI_toInt (by omega)
      refine lv_iload_n hx hb dX2_kindsFitting_5 rfl (lv_at hl 3 rfl) ?_
      refine lv_aload_n hx hb dX2_kindsFitting_6 rfl (lv_at hl 0 rfl) ?_
      refine va_get (D := (dC, dI)) (ci := 2) (v := .int mo_seenCount) (C := RX2) (T := TX2) (N := 11) hx hb hts in_X2 hown hK hP 0 rfl rfl 7 (by decide) t_fieldLink_RX2_59_FourLodgers_Moment_seenCount_I (fun _ h9 => h9) rfl dX2_kindsFitting_7 ?_
      refine lv_icmp_ge (tgt := 64) hx hb dX2_kindsFitting_10 (by decide) (fun c_10 => ?_) (fun c_10 => ?_)
      · have e_10 := Int32.le_iff_toInt_le.mp c_10
        rw [if_pos c_10] at hE
        refine lv_iload_n hx hb dX2_kindsFitting_64 rfl (lv_at hl 2 rfl) ?_
        subst hE
        rw [← hQ]
        exact W.iret hx hb hr (fun t ht hW => ⟨_, rfl, rfl, ht⟩) (fun q h => absurd h List.not_mem_nil) dX2_kindsFitting_65
      · have e_10 := mt Int32.le_iff_toInt_le.mpr c_10
        rw [if_neg c_10] at hE
        refine lv_aload_n hx hb dX2_kindsFitting_13 rfl (lv_at hl 0 rfl) ?_
        refine va_get (D := (dC, dI)) (ci := 2) (v := .ref (mo 4)) (C := RX2) (T := TX2) (N := 11) hx hb hts in_X2 hown hK hP 0 rfl rfl 8 (by decide) t_fieldLink_RX2_21_FourLodgers_Moment_seenLodger_I (fun _ h9 => h9) rfl dX2_kindsFitting_14 ?_
        refine lv_iload_n hx hb dX2_kindsFitting_17 rfl (lv_at hl 3 rfl) ?_
        refine va_iald hx hb hK hP 4 0 rfl rfl (i := (nI i)) (by first | assumption | exact vp_in_iff.mpr ⟨by omega, by omega⟩ | omega | decide) dX2_kindsFitting_18 ?_
        refine lv_iload_n hx hb dX2_kindsFitting_19 rfl (lv_at hl 1 rfl) ?_
        refine lv_icmp_ne (tgt := 58) hx hb dX2_kindsFitting_20 (by decide) (fun c_20 => ?_) (fun c_20 => ?_)
        · have e_20 := mt Int32.toInt_inj.mp c_20
          rw [if_neg c_20] at hE
          refine lv_iinc (v := (nI (i + 1))) (lv' := [(3, .int (nI (i + 1))), (0, .ref (mo 0)), (1, .int lodger), (2, .int x2)]) hx hb dX2_kindsFitting_58 hl (k := 3) rfl (by rw [show Int32.ofInt 1 = nI 1 from rfl, nI_add]) (by decide) rfl (fun ls hl => ?_)
          refine lv_goto (tgt := 5) hx hb dX2_kindsFitting_61 (by decide) ?_
          exact ih x2 ((i + 1))  (by omega) (by omega) hE ls (lv_sub hl [1, 2, 3, 0] rfl)
        · have e_20 := congrArg Int32.toInt c_20
          rw [if_pos c_20] at hE
          refine lv_aload_n hx hb dX2_kindsFitting_23 rfl (lv_at hl 0 rfl) ?_
          refine lv_iload_n hx hb dX2_kindsFitting_24 rfl (lv_at hl 1 rfl) ?_
          refine lv_aload_n hx hb dX2_kindsFitting_25 rfl (lv_at hl 0 rfl) ?_
          refine va_get (D := (dC, dI)) (ci := 2) (v := .ref (mo 5)) (C := RX2) (T := TX2) (N := 11) hx hb hts in_X2 hown hK hP 0 rfl rfl 9 (by decide) t_fieldLink_RX2_24_FourLodgers_Moment_seenDay_I (fun _ h9 => h9) rfl dX2_kindsFitting_26 ?_
          refine lv_iload_n hx hb dX2_kindsFitting_29 rfl (lv_at hl 3 rfl) ?_
          refine va_iald hx hb hK hP 5 0 rfl rfl (i := (nI i)) (by first | assumption | exact vp_in_iff.mpr ⟨by omega, by omega⟩ | omega | decide) dX2_kindsFitting_30 ?_
          refine rcVi (As := [.int lodger, .int (mo_seenDay (nI i).toNatClampNeg)]) (rest := []) ⟨hx, hb, hml, hown, hts⟩ (kX2_kindsUp l dC dI cI cJ mo mo_kinds mo_illUntil mo_cells mo_sailedToday mo_today mo_hired mo_timesSailed mo_seenCount mo_seenLodger mo_seenDay mo_seenUp lodger (mo_seenDay (nI i).toNatClampNeg) (by first | assumption | exact vp_in_iff.mpr ⟨by omega, by omega⟩ | omega | decide)) (cwV 2 hts gX2_kindsFitting_X2_kindsUp rfl rfl rfl (by decide +kernel) ⟨Nat.le_of_ble_eq_true rfl, Nat.le_of_ble_eq_true rfl⟩) hK hP hst hS [0, 1, 2, 3, 4, 5, 6] rfl 0 rfl rfl rfl hl.1 rfl (Nat.le_of_ble_eq_true rfl) dX2_kindsFitting_31 ⟨Nat.zero_le _, Nat.zero_le _⟩ (fun r w_1 => ?_)
          subst w_1
          refine lv_istore (lv' := [(4, .int (fX2_kindsUp mo_illUntil mo_today lodger (mo_seenDay (nI i).toNatClampNeg))), (0, .ref (mo 0)), (1, .int lodger), (2, .int x2), (3, .int (nI i))]) hx hb dX2_kindsFitting_34 hl (by decide) rfl (fun ls hl => ?_)
          refine lv_iload_n hx hb dX2_kindsFitting_36 rfl (lv_at hl 3 rfl) ?_
          refine lv_aload_n hx hb dX2_kindsFitting_37 rfl (lv_at hl 1 rfl) ?_
          refine va_get (D := (dC, dI)) (ci := 2) (v := .ref (mo 6)) (C := RX2) (T := TX2) (N := 11) hx hb hts in_X2 hown hK hP 0 rfl rfl 10 (by decide) t_fieldLink_RX2_27_FourLodgers_Moment_seenUp_I (fun _ h9 => h9) rfl dX2_kindsFitting_38 ?_
          refine lv_iload_n hx hb dX2_kindsFitting_41 rfl (lv_at hl 4 rfl) ?_
          refine va_iald hx hb hK hP 6 0 rfl rfl (i := (nI i)) (by first | assumption | exact vp_in_iff.mpr ⟨by omega, by omega⟩ | omega | decide) dX2_kindsFitting_42 ?_
          refine lv_iconst (v := (1 : Int32)) hx hb dX2_kindsFitting_43 (by decide) ?_
          refine lv_icmp_ne (tgt := 52) hx hb dX2_kindsFitting_44 (by decide) (fun c_44 => ?_) (fun c_44 => ?_)
          · have e_44 := mt Int32.toInt_inj.mp c_44
            rw [if_neg c_44] at hE
            refine lv_iload hx hb dX2_kindsFitting_52 (lv_at hl 0 rfl) ?_
            refine lv_iconst (v := (-1 : Int32)) hx hb dX2_kindsFitting_54 (by decide) ?_
            refine lv_ixor hx hb dX2_kindsFitting_55 ?_
            refine lv_iand hx hb dX2_kindsFitting_56 ?_
            refine lv_istore_n (lv' := [(2, .int (x2 &&& ((fX2_kindsUp mo_illUntil mo_today lodger (mo_seenDay (nI i).toNatClampNeg)) ^^^ (-1 : Int32)))), (4, .int (fX2_kindsUp mo_illUntil mo_today lodger (mo_seenDay (nI i).toNatClampNeg))), (0, .ref (mo 0)), (1, .int lodger), (3, .int (nI i))]) hx hb dX2_kindsFitting_57 rfl hl (by decide) rfl (fun ls hl => ?_)
            refine lv_iinc (v := (nI (i + 1))) (lv' := [(3, .int (nI (i + 1))), (2, .int (x2 &&& ((fX2_kindsUp mo_illUntil mo_today lodger (mo_seenDay (nI i).toNatClampNeg)) ^^^ (-1 : Int32)))), (4, .int (fX2_kindsUp mo_illUntil mo_today lodger (mo_seenDay (nI i).toNatClampNeg))), (0, .ref (mo 0)), (1, .int lodger)]) hx hb dX2_kindsFitting_58 hl (k := 4) rfl (by rw [show Int32.ofInt 1 = nI 1 from rfl, nI_add]) (by decide) rfl (fun ls hl => ?_)
            refine lv_goto (tgt := 5) hx hb dX2_kindsFitting_61 (by decide) ?_
            exact ih (x2 &&& ((fX2_kindsUp mo_illUntil mo_today lodger (mo_seenDay (nI i).toNatClampNeg)) ^^^ (-1 : Int32))) ((i + 1))  (by omega) (by omega) hE ls (lv_sub hl [3, 4, 1, 0] rfl)
          · have e_44 := congrArg Int32.toInt c_44
            rw [if_pos c_44] at hE
            refine lv_iload hx hb dX2_kindsFitting_47 (lv_at hl 0 rfl) ?_
            refine lv_goto (tgt := 56) hx hb dX2_kindsFitting_49 (by decide) ?_
            refine lv_iand hx hb dX2_kindsFitting_56 ?_
            refine lv_istore_n (lv' := [(2, .int (x2 &&& (fX2_kindsUp mo_illUntil mo_today lodger (mo_seenDay (nI i).toNatClampNeg)))), (4, .int (fX2_kindsUp mo_illUntil mo_today lodger (mo_seenDay (nI i).toNatClampNeg))), (0, .ref (mo 0)), (1, .int lodger), (3, .int (nI i))]) hx hb dX2_kindsFitting_57 rfl hl (by decide) rfl (fun ls hl => ?_)
            refine lv_iinc (v := (nI (i + 1))) (lv' := [(3, .int (nI (i + 1))), (2, .int (x2 &&& (fX2_kindsUp mo_illUntil mo_today lodger (mo_seenDay (nI i).toNatClampNeg)))), (4, .int (fX2_kindsUp mo_illUntil mo_today lodger (mo_seenDay (nI i).toNatClampNeg))), (0, .ref (mo 0)), (1, .int lodger)]) hx hb dX2_kindsFitting_58 hl (k := 4) rfl (by rw [show Int32.ofInt 1 = nI 1 from rfl, nI_add]) (by decide) rfl (fun ls hl => ?_)
            refine lv_goto (tgt := 5) hx hb dX2_kindsFitting_61 (by decide) ?_
            exact ih (x2 &&& (fX2_kindsUp mo_illUntil mo_today lodger (mo_seenDay (nI i).toNatClampNeg))) ((i + 1))  (by omega) (by omega) hE ls (lv_sub hl [3, 4, 1, 0] rfl)
  exact L5 7 (31 : Int32) (0)  (by omega) (by omega) hE ls (lv_sub hl [2, 3, 1, 0] rfl)
def fX2_whenToLook_21 (mo_illUntil : Nat → Int32) (mo_today : Int32) (mo_seenCount : Int32) (mo_seenLodger : Nat → Int32) (mo_seenDay : Nat → Int32) (mo_seenUp : Nat → Int32) (lodger : Int32) : Nat → Int32 → Int32 → Nat → Int32
  | 0, _, _, _ => 0
  | n_ + 1, x3, x4, i => (if (20 : Int32) < (nI i) then x3 else (if x4 ≤ (if (fJ6_bitCount_0f7a4 ((fX2_kindsFitting mo_illUntil mo_today mo_seenCount mo_seenLodger mo_seenDay mo_seenUp lodger) &&& (fX2_kindsUp mo_illUntil mo_today lodger (nI i)))) < (fJ6_bitCount_0f7a4 ((fX2_kindsFitting mo_illUntil mo_today mo_seenCount mo_seenLodger mo_seenDay mo_seenUp lodger) &&& ((fX2_kindsUp mo_illUntil mo_today lodger (nI i)) ^^^ (-1 : Int32)))) then (fJ6_bitCount_0f7a4 ((fX2_kindsFitting mo_illUntil mo_today mo_seenCount mo_seenLodger mo_seenDay mo_seenUp lodger) &&& ((fX2_kindsUp mo_illUntil mo_today lodger (nI i)) ^^^ (-1 : Int32)))) else (fJ6_bitCount_0f7a4 ((fX2_kindsFitting mo_illUntil mo_today mo_seenCount mo_seenLodger mo_seenDay mo_seenUp lodger) &&& (fX2_kindsUp mo_illUntil mo_today lodger (nI i))))) then (fX2_whenToLook_21 mo_illUntil mo_today mo_seenCount mo_seenLodger mo_seenDay mo_seenUp lodger n_ x3 x4 ((i + 1))) else (fX2_whenToLook_21 mo_illUntil mo_today mo_seenCount mo_seenLodger mo_seenDay mo_seenUp lodger n_ (nI i) (if (fJ6_bitCount_0f7a4 ((fX2_kindsFitting mo_illUntil mo_today mo_seenCount mo_seenLodger mo_seenDay mo_seenUp lodger) &&& (fX2_kindsUp mo_illUntil mo_today lodger (nI i)))) < (fJ6_bitCount_0f7a4 ((fX2_kindsFitting mo_illUntil mo_today mo_seenCount mo_seenLodger mo_seenDay mo_seenUp lodger) &&& ((fX2_kindsUp mo_illUntil mo_today lodger (nI i)) ^^^ (-1 : Int32)))) then (fJ6_bitCount_0f7a4 ((fX2_kindsFitting mo_illUntil mo_today mo_seenCount mo_seenLodger mo_seenDay mo_seenUp lodger) &&& ((fX2_kindsUp mo_illUntil mo_today lodger (nI i)) ^^^ (-1 : Int32)))) else (fJ6_bitCount_0f7a4 ((fX2_kindsFitting mo_illUntil mo_today mo_seenCount mo_seenLodger mo_seenDay mo_seenUp lodger) &&& (fX2_kindsUp mo_illUntil mo_today lodger (nI i))))) ((i + 1)))))
def fX2_whenToLook (mo_illUntil : Nat → Int32) (mo_today : Int32) (mo_seenCount : Int32) (mo_seenLodger : Nat → Int32) (mo_seenDay : Nat → Int32) (mo_seenUp : Nat → Int32) (lodger : Int32) : Int32 := (if (fX2_kindsFitting mo_illUntil mo_today mo_seenCount mo_seenLodger mo_seenDay mo_seenUp lodger) = (0 : Int32) then (-1 : Int32) else (fX2_whenToLook_21 mo_illUntil mo_today mo_seenCount mo_seenLodger mo_seenDay mo_seenUp lodger 22 (-1 : Int32) (6 : Int32) (0)))
set_option maxHeartbeats 4000000 in
set_option maxRecDepth 100000 in
theorem kX2_whenToLook (l : Launch) (dC : Nat → ClassId) (dI : Nat → Nat → Nat) (cI cJ : ClassId) (mo : Nat → Nat) (mo_kinds : Nat → Int32) (mo_illUntil : Nat → Int32) (mo_cells : Nat → Int32) (mo_sailedToday : Int32) (mo_today : Int32) (mo_hired : Int32) (mo_timesSailed : Int32) (mo_seenCount : Int32) (mo_seenLodger : Nat → Int32) (mo_seenDay : Nat → Int32) (mo_seenUp : Nat → Int32) (lodger : Int32) (p_1 : vp_in lodger 4) (p_2 : mo_seenCount.toInt ≤ 6) : Met l yX2_whenToLook wsX2_whenToLook ({ frames := 3, cells := 0, slots := 0, locals := 72 } : Room) (gR (dC, dI) cI cJ (kMo cI mo mo_kinds mo_illUntil mo_cells mo_sailedToday mo_today mo_hired mo_timesSailed mo_seenCount mo_seenLodger mo_seenDay mo_seenUp) ([.ref (mo 0), .int lodger] : List Value)) (vp_Si (fun r => r = (fX2_whenToLook mo_illUntil mo_today mo_seenCount mo_seenLodger mo_seenDay mo_seenUp lodger))) 0 0 (fun _ => False) := by
  refine Met.ofW (cc := cX2_whenToLook) (maxL := 8) (ret := (some .int)) (by decide) rfl ?_
  intro p e s m args below meth c s₁ B hml hv
  obtain ⟨rfl, hP, hK, hst⟩ := hv
  have hx := B.exec
  have hb := B.bytes
  have hr := B.returns
  have hts := atoms_spec (ws := wsX2_whenToLook) B.pre
  have hown : s.vm.findClass RX2 = some m.cls := findClass_of_methodNamed B.named
  have hlocks := B.notSynchronized
  have hS : va_S (fun _ => False) s.heap s.heap [] := va_S.rf
  generalize hE : (fX2_whenToLook mo_illUntil mo_today mo_seenCount mo_seenLodger mo_seenDay mo_seenUp lodger) = RES
  generalize hQ : MQ below (vp_Si (fun r => r = RES)) ([.ref (mo 0), .int lodger] : List Value).toArray s 0 0 (fun _ => False) = Q
  have hl := lv_entry ([.ref (mo 0), .int lodger] : List Value) (n := 8) (Nat.le_of_ble_eq_true rfl)
  rw [lg_entry_eq]
  generalize (lg_sl ([.ref (mo 0), .int lodger] : List Value) ++ List.replicate (8 - (lg_sl ([.ref (mo 0), .int lodger] : List Value)).length) Slot.unset).toArray = ls at hl ⊢
  have hl : lv_has ls 8 [(0, .ref (mo 0)), (1, .int lodger)] := hl
  have t_code_Lib_Math_max_name_Lib_Math_max_code_2_some_int := hts (.code Lib.Math.max.name Lib.Math.max.code 2 (some .int)) (List.mem_of_getElem? (i := 4) rfl)
  have t_initialized_java_lang_Math := hts (.initialized "java/lang/Math") (List.mem_of_getElem? (i := 3) rfl)
  have t_methodLink_RX2_62_Lib_Math_max_name := hts (.methodLink RX2 62 Lib.Math.max.name) (List.mem_of_getElem? (i := 1) rfl)
  have t_static_Lib_Math_max_name := hts (.static Lib.Math.max.name) (List.mem_of_getElem? (i := 2) rfl)
  have i_m1 : (-1 : Int32).toInt = -1 := by decide
  have i_0 : (0 : Int32).toInt = 0 := by decide
  have i_6 : (6 : Int32).toInt = 6 := by decide
  have i_20 : (20 : Int32).toInt = 20 := by decide
  have p_1' := vp_in_iff.mp p_1
  rw [fX2_whenToLook] at hE
  refine lv_aload_n hx hb dX2_whenToLook_0 rfl (lv_at hl 0 rfl) ?_
  refine lv_iload_n hx hb dX2_whenToLook_1 rfl (lv_at hl 1 rfl) ?_
  refine rcVi (As := [.int lodger]) (rest := []) ⟨hx, hb, hml, hown, hts⟩ (kX2_kindsFitting l dC dI cI cJ mo mo_kinds mo_illUntil mo_cells mo_sailedToday mo_today mo_hired mo_timesSailed mo_seenCount mo_seenLodger mo_seenDay mo_seenUp lodger (by first | assumption | exact vp_in_iff.mpr ⟨by omega, by omega⟩ | omega | decide) (by first | assumption | exact vp_in_iff.mpr ⟨by omega, by omega⟩ | omega | decide)) (cwV 1 hts gX2_whenToLook_X2_kindsFitting rfl rfl rfl (by decide +kernel) ⟨Nat.le_of_ble_eq_true rfl, Nat.le_of_ble_eq_true rfl⟩) hK hP hst hS [0, 1, 2, 3, 4, 5, 6] rfl 0 rfl rfl rfl hl.1 rfl (Nat.le_of_ble_eq_true rfl) dX2_whenToLook_2 ⟨Nat.zero_le _, Nat.zero_le _⟩ (fun r w_1 => ?_)
  subst w_1
  refine lv_istore_n (lv' := [(2, .int (fX2_kindsFitting mo_illUntil mo_today mo_seenCount mo_seenLodger mo_seenDay mo_seenUp lodger)), (0, .ref (mo 0)), (1, .int lodger)]) hx hb dX2_whenToLook_5 rfl hl (by decide) rfl (fun ls hl => ?_)
  refine lv_iload_n hx hb dX2_whenToLook_6 rfl (lv_at hl 0 rfl) ?_
  refine lv_if_ne (tgt := 12) hx hb dX2_whenToLook_7 (by decide) (fun c_7 => ?_) (fun c_7 => ?_)
  · rw [if_neg c_7] at hE
    refine lv_iconst (v := (-1 : Int32)) hx hb dX2_whenToLook_12 (by decide) ?_
    refine lv_istore_n (lv' := [(3, .int (-1 : Int32)), (2, .int (fX2_kindsFitting mo_illUntil mo_today mo_seenCount mo_seenLodger mo_seenDay mo_seenUp lodger)), (0, .ref (mo 0)), (1, .int lodger)]) hx hb dX2_whenToLook_13 rfl hl (by decide) rfl (fun ls hl => ?_)
    refine lv_bipush (v := (6 : Int32)) hx hb dX2_whenToLook_14 (by decide) ?_
    refine lv_istore (lv' := [(4, .int (6 : Int32)), (3, .int (-1 : Int32)), (2, .int (fX2_kindsFitting mo_illUntil mo_today mo_seenCount mo_seenLodger mo_seenDay mo_seenUp lodger)), (0, .ref (mo 0)), (1, .int lodger)]) hx hb dX2_whenToLook_16 hl (by decide) rfl (fun ls hl => ?_)
    refine lv_iconst (v := (0 : Int32)) hx hb dX2_whenToLook_18 (by decide) ?_
    refine lv_istore (lv' := [(5, .int (0 : Int32)), (4, .int (6 : Int32)), (3, .int (-1 : Int32)), (2, .int (fX2_kindsFitting mo_illUntil mo_today mo_seenCount mo_seenLodger mo_seenDay mo_seenUp lodger)), (0, .ref (mo 0)), (1, .int lodger)]) hx hb dX2_whenToLook_19 hl (by decide) rfl (fun ls hl => ?_)
    have L21 : ∀ (n_ : Nat) (x3 : Int32) (x4 : Int32) (i : Nat) , (i ≤ 21) → 21 - i < n_ → (fX2_whenToLook_21 mo_illUntil mo_today mo_seenCount mo_seenLodger mo_seenDay mo_seenUp lodger n_ x3 x4 i) = RES → ∀ ls : Array Slot, lv_has ls 8 [(0, .ref (mo 0)), (1, .int lodger), (2, .int (fX2_kindsFitting mo_illUntil mo_today mo_seenCount mo_seenLodger mo_seenDay mo_seenUp lodger)), (3, .int x3), (4, .int x4), (5, .int (nI i))] → W p l e (headSpec wsX2_whenToLook ({ frames := 3, cells := 0, slots := 0, locals := 72 } : Room)).room s m ([.ref (mo 0), .int lodger] : List Value).toArray below meth c s.heap [] 0 0 Q (F0 m 21 ls []) := by
      intro n_
      induction n_ with
      | zero => intro x3 x4 i  hi hn; exact absurd hn (Nat.not_lt_zero _)
      | succ n_ ih =>
        intro x3 x4 i  hi hn hE ls hl
        rw [fX2_whenToLook_21] at hE
        have tn_i : (nI i).toInt = (i : Int) := nI_toInt (by omega)
        refine lv_iload hx hb dX2_whenToLook_21 (lv_at hl 5 rfl) ?_
        refine lv_bipush (v := (20 : Int32)) hx hb dX2_whenToLook_23 (by decide) ?_
        refine lv_icmp_gt (tgt := 78) hx hb dX2_whenToLook_25 (by decide) (fun c_25 => ?_) (fun c_25 => ?_)
        · have e_25 := Int32.lt_iff_toInt_lt.mp c_25
          rw [if_pos c_25] at hE
          refine lv_iload_n hx hb dX2_whenToLook_78 rfl (lv_at hl 3 rfl) ?_
          subst hE
          rw [← hQ]
          exact W.iret hx hb hr (fun t ht hW => ⟨_, rfl, rfl, ht⟩) (fun q h => absurd h List.not_mem_nil) dX2_whenToLook_79
        · have e_25 := mt Int32.lt_iff_toInt_lt.mpr c_25
          rw [if_neg c_25] at hE
          refine lv_aload_n hx hb dX2_whenToLook_28 rfl (lv_at hl 0 rfl) ?_
          refine lv_iload_n hx hb dX2_whenToLook_29 rfl (lv_at hl 1 rfl) ?_
          refine lv_iload hx hb dX2_whenToLook_30 (lv_at hl 5 rfl) ?_
          refine rcVi (As := [.int lodger, .int (nI i)]) (rest := []) ⟨hx, hb, hml, hown, hts⟩ (kX2_kindsUp l dC dI cI cJ mo mo_kinds mo_illUntil mo_cells mo_sailedToday mo_today mo_hired mo_timesSailed mo_seenCount mo_seenLodger mo_seenDay mo_seenUp lodger (nI i) (by first | assumption | exact vp_in_iff.mpr ⟨by omega, by omega⟩ | omega | decide)) (cwV 2 hts gX2_whenToLook_X2_kindsUp rfl rfl rfl (by decide +kernel) ⟨Nat.le_of_ble_eq_true rfl, Nat.le_of_ble_eq_true rfl⟩) hK hP hst hS [0, 1, 2, 3, 4, 5, 6] rfl 0 rfl rfl rfl hl.1 rfl (Nat.le_of_ble_eq_true rfl) dX2_whenToLook_32 ⟨Nat.zero_le _, Nat.zero_le _⟩ (fun r w_2 => ?_)
          subst w_2
          refine lv_istore (lv' := [(6, .int (fX2_kindsUp mo_illUntil mo_today lodger (nI i))), (0, .ref (mo 0)), (1, .int lodger), (2, .int (fX2_kindsFitting mo_illUntil mo_today mo_seenCount mo_seenLodger mo_seenDay mo_seenUp lodger)), (3, .int x3), (4, .int x4), (5, .int (nI i))]) hx hb dX2_whenToLook_35 hl (by decide) rfl (fun ls hl => ?_)
          refine lv_iload_n hx hb dX2_whenToLook_37 rfl (lv_at hl 3 rfl) ?_
          refine lv_iload hx hb dX2_whenToLook_38 (lv_at hl 0 rfl) ?_
          refine lv_iand hx hb dX2_whenToLook_40 ?_
          refine rcSi (As := [.int ((fX2_kindsFitting mo_illUntil mo_today mo_seenCount mo_seenLodger mo_seenDay mo_seenUp lodger) &&& (fX2_kindsUp mo_illUntil mo_today lodger (nI i)))]) (rest := []) ⟨hx, hb, hml, hown, hts⟩ (kJ6_bitCount_0f7a4 l dC dI cI cJ ((fX2_kindsFitting mo_illUntil mo_today mo_seenCount mo_seenLodger mo_seenDay mo_seenUp lodger) &&& (fX2_kindsUp mo_illUntil mo_today lodger (nI i)))) (va_cwS 1 hts gX2_whenToLook_J6_bitCount_0f7a4 rfl rfl rfl (by decide +kernel) ⟨Nat.le_of_ble_eq_true rfl, Nat.le_of_ble_eq_true rfl⟩) hK hP hst hS [] rfl rfl hl.1 rfl (Nat.le_of_ble_eq_true rfl) dX2_whenToLook_41 ⟨Nat.zero_le _, Nat.zero_le _⟩ (fun r w_3 => ?_)
          subst w_3
          refine lv_iload_n hx hb dX2_whenToLook_44 rfl (lv_at hl 3 rfl) ?_
          refine lv_iload hx hb dX2_whenToLook_45 (lv_at hl 0 rfl) ?_
          refine lv_iconst (v := (-1 : Int32)) hx hb dX2_whenToLook_47 (by decide) ?_
          refine lv_ixor hx hb dX2_whenToLook_48 ?_
          refine lv_iand hx hb dX2_whenToLook_49 ?_
          refine rcSi (As := [.int ((fX2_kindsFitting mo_illUntil mo_today mo_seenCount mo_seenLodger mo_seenDay mo_seenUp lodger) &&& ((fX2_kindsUp mo_illUntil mo_today lodger (nI i)) ^^^ (-1 : Int32)))]) (rest := [.int (fJ6_bitCount_0f7a4 ((fX2_kindsFitting mo_illUntil mo_today mo_seenCount mo_seenLodger mo_seenDay mo_seenUp lodger) &&& (fX2_kindsUp mo_illUntil mo_today lodger (nI i))))]) ⟨hx, hb, hml, hown, hts⟩ (kJ6_bitCount_0f7a4 l dC dI cI cJ ((fX2_kindsFitting mo_illUntil mo_today mo_seenCount mo_seenLodger mo_seenDay mo_seenUp lodger) &&& ((fX2_kindsUp mo_illUntil mo_today lodger (nI i)) ^^^ (-1 : Int32)))) (va_cwS 1 hts gX2_whenToLook_J6_bitCount_0f7a4 rfl rfl rfl (by decide +kernel) ⟨Nat.le_of_ble_eq_true rfl, Nat.le_of_ble_eq_true rfl⟩) hK hP hst hS [] rfl rfl hl.1 rfl (Nat.le_of_ble_eq_true rfl) dX2_whenToLook_50 ⟨Nat.zero_le _, Nat.zero_le _⟩ (fun r w_4 => ?_)
          subst w_4
          refine va_mmax hx hb (hml.trans hl.1.symm) hown t_methodLink_RX2_62_Lib_Math_max_name t_static_Lib_Math_max_name t_initialized_java_lang_Math t_code_Lib_Math_max_name_Lib_Math_max_code_2_some_int (Nat.le_of_ble_eq_true rfl) (Nat.le_of_ble_eq_true rfl) (Nat.zero_le _) (Nat.zero_le _) dX2_whenToLook_53 ?_
          refine lv_istore (lv' := [(7, .int (if (fJ6_bitCount_0f7a4 ((fX2_kindsFitting mo_illUntil mo_today mo_seenCount mo_seenLodger mo_seenDay mo_seenUp lodger) &&& (fX2_kindsUp mo_illUntil mo_today lodger (nI i)))) < (fJ6_bitCount_0f7a4 ((fX2_kindsFitting mo_illUntil mo_today mo_seenCount mo_seenLodger mo_seenDay mo_seenUp lodger) &&& ((fX2_kindsUp mo_illUntil mo_today lodger (nI i)) ^^^ (-1 : Int32)))) then (fJ6_bitCount_0f7a4 ((fX2_kindsFitting mo_illUntil mo_today mo_seenCount mo_seenLodger mo_seenDay mo_seenUp lodger) &&& ((fX2_kindsUp mo_illUntil mo_today lodger (nI i)) ^^^ (-1 : Int32)))) else (fJ6_bitCount_0f7a4 ((fX2_kindsFitting mo_illUntil mo_today mo_seenCount mo_seenLodger mo_seenDay mo_seenUp lodger) &&& (fX2_kindsUp mo_illUntil mo_today lodger (nI i)))))), (6, .int (fX2_kindsUp mo_illUntil mo_today lodger (nI i))), (0, .ref (mo 0)), (1, .int lodger), (2, .int (fX2_kindsFitting mo_illUntil mo_today mo_seenCount mo_seenLodger mo_seenDay mo_seenUp lodger)), (3, .int x3), (4, .int x4), (5, .int (nI i))]) hx hb dX2_whenToLook_56 hl (by decide) rfl (fun ls hl => ?_)
          refine lv_iload hx hb dX2_whenToLook_58 (lv_at hl 0 rfl) ?_
          refine lv_iload hx hb dX2_whenToLook_60 (lv_at hl 6 rfl) ?_
          refine lv_icmp_ge (tgt := 72) hx hb dX2_whenToLook_62 (by decide) (fun c_62 => ?_) (fun c_62 => ?_)
          · rw [if_pos c_62] at hE
            refine lv_iinc (v := (nI (i + 1))) (lv' := [(5, .int (nI (i + 1))), (7, .int (if (fJ6_bitCount_0f7a4 ((fX2_kindsFitting mo_illUntil mo_today mo_seenCount mo_seenLodger mo_seenDay mo_seenUp lodger) &&& (fX2_kindsUp mo_illUntil mo_today lodger (nI i)))) < (fJ6_bitCount_0f7a4 ((fX2_kindsFitting mo_illUntil mo_today mo_seenCount mo_seenLodger mo_seenDay mo_seenUp lodger) &&& ((fX2_kindsUp mo_illUntil mo_today lodger (nI i)) ^^^ (-1 : Int32)))) then (fJ6_bitCount_0f7a4 ((fX2_kindsFitting mo_illUntil mo_today mo_seenCount mo_seenLodger mo_seenDay mo_seenUp lodger) &&& ((fX2_kindsUp mo_illUntil mo_today lodger (nI i)) ^^^ (-1 : Int32)))) else (fJ6_bitCount_0f7a4 ((fX2_kindsFitting mo_illUntil mo_today mo_seenCount mo_seenLodger mo_seenDay mo_seenUp lodger) &&& (fX2_kindsUp mo_illUntil mo_today lodger (nI i)))))), (6, .int (fX2_kindsUp mo_illUntil mo_today lodger (nI i))), (0, .ref (mo 0)), (1, .int lodger), (2, .int (fX2_kindsFitting mo_illUntil mo_today mo_seenCount mo_seenLodger mo_seenDay mo_seenUp lodger)), (3, .int x3), (4, .int x4)]) hx hb dX2_whenToLook_72 hl (k := 7) rfl (by rw [show Int32.ofInt 1 = nI 1 from rfl, nI_add]) (by decide) rfl (fun ls hl => ?_)
            refine lv_goto (tgt := 21) hx hb dX2_whenToLook_75 (by decide) ?_
            exact ih x3 x4 ((i + 1))  (by omega) (by omega) hE ls (lv_sub hl [3, 4, 5, 6, 7, 0] rfl)
          · rw [if_neg c_62] at hE
            refine lv_iload hx hb dX2_whenToLook_65 (lv_at hl 0 rfl) ?_
            refine lv_istore (lv' := [(4, .int (if (fJ6_bitCount_0f7a4 ((fX2_kindsFitting mo_illUntil mo_today mo_seenCount mo_seenLodger mo_seenDay mo_seenUp lodger) &&& (fX2_kindsUp mo_illUntil mo_today lodger (nI i)))) < (fJ6_bitCount_0f7a4 ((fX2_kindsFitting mo_illUntil mo_today mo_seenCount mo_seenLodger mo_seenDay mo_seenUp lodger) &&& ((fX2_kindsUp mo_illUntil mo_today lodger (nI i)) ^^^ (-1 : Int32)))) then (fJ6_bitCount_0f7a4 ((fX2_kindsFitting mo_illUntil mo_today mo_seenCount mo_seenLodger mo_seenDay mo_seenUp lodger) &&& ((fX2_kindsUp mo_illUntil mo_today lodger (nI i)) ^^^ (-1 : Int32)))) else (fJ6_bitCount_0f7a4 ((fX2_kindsFitting mo_illUntil mo_today mo_seenCount mo_seenLodger mo_seenDay mo_seenUp lodger) &&& (fX2_kindsUp mo_illUntil mo_today lodger (nI i)))))), (7, .int (if (fJ6_bitCount_0f7a4 ((fX2_kindsFitting mo_illUntil mo_today mo_seenCount mo_seenLodger mo_seenDay mo_seenUp lodger) &&& (fX2_kindsUp mo_illUntil mo_today lodger (nI i)))) < (fJ6_bitCount_0f7a4 ((fX2_kindsFitting mo_illUntil mo_today mo_seenCount mo_seenLodger mo_seenDay mo_seenUp lodger) &&& ((fX2_kindsUp mo_illUntil mo_today lodger (nI i)) ^^^ (-1 : Int32)))) then (fJ6_bitCount_0f7a4 ((fX2_kindsFitting mo_illUntil mo_today mo_seenCount mo_seenLodger mo_seenDay mo_seenUp lodger) &&& ((fX2_kindsUp mo_illUntil mo_today lodger (nI i)) ^^^ (-1 : Int32)))) else (fJ6_bitCount_0f7a4 ((fX2_kindsFitting mo_illUntil mo_today mo_seenCount mo_seenLodger mo_seenDay mo_seenUp lodger) &&& (fX2_kindsUp mo_illUntil mo_today lodger (nI i)))))), (6, .int (fX2_kindsUp mo_illUntil mo_today lodger (nI i))), (0, .ref (mo 0)), (1, .int lodger), (2, .int (fX2_kindsFitting mo_illUntil mo_today mo_seenCount mo_seenLodger mo_seenDay mo_seenUp lodger)), (3, .int x3), (5, .int (nI i))]) hx hb dX2_whenToLook_67 hl (by decide) rfl (fun ls hl => ?_)
            refine lv_iload hx hb dX2_whenToLook_69 (lv_at hl 7 rfl) ?_
            refine lv_istore_n (lv' := [(3, .int (nI i)), (4, .int (if (fJ6_bitCount_0f7a4 ((fX2_kindsFitting mo_illUntil mo_today mo_seenCount mo_seenLodger mo_seenDay mo_seenUp lodger) &&& (fX2_kindsUp mo_illUntil mo_today lodger (nI i)))) < (fJ6_bitCount_0f7a4 ((fX2_kindsFitting mo_illUntil mo_today mo_seenCount mo_seenLodger mo_seenDay mo_seenUp lodger) &&& ((fX2_kindsUp mo_illUntil mo_today lodger (nI i)) ^^^ (-1 : Int32)))) then (fJ6_bitCount_0f7a4 ((fX2_kindsFitting mo_illUntil mo_today mo_seenCount mo_seenLodger mo_seenDay mo_seenUp lodger) &&& ((fX2_kindsUp mo_illUntil mo_today lodger (nI i)) ^^^ (-1 : Int32)))) else (fJ6_bitCount_0f7a4 ((fX2_kindsFitting mo_illUntil mo_today mo_seenCount mo_seenLodger mo_seenDay mo_seenUp lodger) &&& (fX2_kindsUp mo_illUntil mo_today lodger (nI i)))))), (7, .int (if (fJ6_bitCount_0f7a4 ((fX2_kindsFitting mo_illUntil mo_today mo_seenCount mo_seenLodger mo_seenDay mo_seenUp lodger) &&& (fX2_kindsUp mo_illUntil mo_today lodger (nI i)))) < (fJ6_bitCount_0f7a4 ((fX2_kindsFitting mo_illUntil mo_today mo_seenCount mo_seenLodger mo_seenDay mo_seenUp lodger) &&& ((fX2_kindsUp mo_illUntil mo_today lodger (nI i)) ^^^ (-1 : Int32)))) then (fJ6_bitCount_0f7a4 ((fX2_kindsFitting mo_illUntil mo_today mo_seenCount mo_seenLodger mo_seenDay mo_seenUp lodger) &&& ((fX2_kindsUp mo_illUntil mo_today lodger (nI i)) ^^^ (-1 : Int32)))) else (fJ6_bitCount_0f7a4 ((fX2_kindsFitting mo_illUntil mo_today mo_seenCount mo_seenLodger mo_seenDay mo_seenUp lodger) &&& (fX2_kindsUp mo_illUntil mo_today lodger (nI i)))))), (6, .int (fX2_kindsUp mo_illUntil mo_today lodger (nI i))), (0, .ref (mo 0)), (1, .int lodger), (2, .int (fX2_kindsFitting mo_illUntil mo_today mo_seenCount mo_seenLodger mo_seenDay mo_seenUp lodger)), (5, .int (nI i))]) hx hb dX2_whenToLook_71 rfl hl (by decide) rfl (fun ls hl => ?_)
            refine lv_iinc (v := (nI (i + 1))) (lv' := [(5, .int (nI (i + 1))), (3, .int (nI i)), (4, .int (if (fJ6_bitCount_0f7a4 ((fX2_kindsFitting mo_illUntil mo_today mo_seenCount mo_seenLodger mo_seenDay mo_seenUp lodger) &&& (fX2_kindsUp mo_illUntil mo_today lodger (nI i)))) < (fJ6_bitCount_0f7a4 ((fX2_kindsFitting mo_illUntil mo_today mo_seenCount mo_seenLodger mo_seenDay mo_seenUp lodger) &&& ((fX2_kindsUp mo_illUntil mo_today lodger (nI i)) ^^^ (-1 : Int32)))) then (fJ6_bitCount_0f7a4 ((fX2_kindsFitting mo_illUntil mo_today mo_seenCount mo_seenLodger mo_seenDay mo_seenUp lodger) &&& ((fX2_kindsUp mo_illUntil mo_today lodger (nI i)) ^^^ (-1 : Int32)))) else (fJ6_bitCount_0f7a4 ((fX2_kindsFitting mo_illUntil mo_today mo_seenCount mo_seenLodger mo_seenDay mo_seenUp lodger) &&& (fX2_kindsUp mo_illUntil mo_today lodger (nI i)))))), (7, .int (if (fJ6_bitCount_0f7a4 ((fX2_kindsFitting mo_illUntil mo_today mo_seenCount mo_seenLodger mo_seenDay mo_seenUp lodger) &&& (fX2_kindsUp mo_illUntil mo_today lodger (nI i)))) < (fJ6_bitCount_0f7a4 ((fX2_kindsFitting mo_illUntil mo_today mo_seenCount mo_seenLodger mo_seenDay mo_seenUp lodger) &&& ((fX2_kindsUp mo_illUntil mo_today lodger (nI i)) ^^^ (-1 : Int32)))) then (fJ6_bitCount_0f7a4 ((fX2_kindsFitting mo_illUntil mo_today mo_seenCount mo_seenLodger mo_seenDay mo_seenUp lodger) &&& ((fX2_kindsUp mo_illUntil mo_today lodger (nI i)) ^^^ (-1 : Int32)))) else (fJ6_bitCount_0f7a4 ((fX2_kindsFitting mo_illUntil mo_today mo_seenCount mo_seenLodger mo_seenDay mo_seenUp lodger) &&& (fX2_kindsUp mo_illUntil mo_today lodger (nI i)))))), (6, .int (fX2_kindsUp mo_illUntil mo_today lodger (nI i))), (0, .ref (mo 0)), (1, .int lodger), (2, .int (fX2_kindsFitting mo_illUntil mo_today mo_seenCount mo_seenLodger mo_seenDay mo_seenUp lodger))]) hx hb dX2_whenToLook_72 hl (k := 7) rfl (by rw [show Int32.ofInt 1 = nI 1 from rfl, nI_add]) (by decide) rfl (fun ls hl => ?_)
            refine lv_goto (tgt := 21) hx hb dX2_whenToLook_75 (by decide) ?_
            exact ih (nI i) (if (fJ6_bitCount_0f7a4 ((fX2_kindsFitting mo_illUntil mo_today mo_seenCount mo_seenLodger mo_seenDay mo_seenUp lodger) &&& (fX2_kindsUp mo_illUntil mo_today lodger (nI i)))) < (fJ6_bitCount_0f7a4 ((fX2_kindsFitting mo_illUntil mo_today mo_seenCount mo_seenLodger mo_seenDay mo_seenUp lodger) &&& ((fX2_kindsUp mo_illUntil mo_today lodger (nI i)) ^^^ (-1 : Int32)))) then (fJ6_bitCount_0f7a4 ((fX2_kindsFitting mo_illUntil mo_today mo_seenCount mo_seenLodger mo_seenDay mo_seenUp lodger) &&& ((fX2_kindsUp mo_illUntil mo_today lodger (nI i)) ^^^ (-1 : Int32)))) else (fJ6_bitCount_0f7a4 ((fX2_kindsFitting mo_illUntil mo_today mo_seenCount mo_seenLodger mo_seenDay mo_seenUp lodger) &&& (fX2_kindsUp mo_illUntil mo_today lodger (nI i))))) ((i + 1))  (by omega) (by omega) hE ls (lv_sub hl [5, 6, 7, 1, 2, 0] rfl)
    exact L21 22 (-1 : Int32) (6 : Int32) (0)  (by omega) (by omega) hE ls (lv_sub hl [4, 5, 3, 2, 1, 0] rfl)
  · rw [if_pos c_7] at hE
    refine lv_iconst (v := (-1 : Int32)) hx hb dX2_whenToLook_10 (by decide) ?_
    subst hE
    rw [← hQ]
    exact W.iret hx hb hr (fun t ht hW => ⟨_, rfl, rfl, ht⟩) (fun q h => absurd h List.not_mem_nil) dX2_whenToLook_11
def fX2_sailTo (mo_cells : Nat → Int32) (mo_sailedToday : Int32) (mo_timesSailed : Int32) (ship : Int32) (cell : Int32) : (Nat → Int32) × Int32 × Int32 := ((upd mo_cells ship.toNatClampNeg cell), (mo_sailedToday ||| ((1 : Int32) <<< (ship &&& 31))), (mo_timesSailed + (1 : Int32)))
set_option maxHeartbeats 4000000 in
set_option maxRecDepth 100000 in
theorem kX2_sailTo (l : Launch) (dC : Nat → ClassId) (dI : Nat → Nat → Nat) (cI cJ : ClassId) (sz : Nat) (mo : Nat → Nat) (mo_kinds : Nat → Int32) (mo_illUntil : Nat → Int32) (mo_cells : Nat → Int32) (mo_sailedToday : Int32) (mo_today : Int32) (mo_hired : Int32) (mo_timesSailed : Int32) (mo_seenCount : Int32) (mo_seenLodger : Nat → Int32) (mo_seenDay : Nat → Int32) (mo_seenUp : Nat → Int32) (ship : Int32) (cell : Int32) (p_1 : vp_in ship 3) : Met l yX2_sailTo wsX2_sailTo ({ frames := 0, cells := 0, slots := 0, locals := 0 } : Room) (gW (dC, dI) cI cJ sz (kMo cI mo mo_kinds mo_illUntil mo_cells mo_sailedToday mo_today mo_hired mo_timesSailed mo_seenCount mo_seenLodger mo_seenDay mo_seenUp) ([.ref (mo 0), .int ship, .int cell] : List Value)) (va_Qv (fun _ : Unit => True) (fun u : Unit => gB (dC, dI) cI cJ (va_A (kMo cI mo mo_kinds mo_illUntil mo_cells mo_sailedToday mo_today mo_hired mo_timesSailed mo_seenCount mo_seenLodger mo_seenDay mo_seenUp) sz) (kMo cI mo mo_kinds mo_illUntil ((fX2_sailTo mo_cells mo_sailedToday mo_timesSailed ship cell).1) ((fX2_sailTo mo_cells mo_sailedToday mo_timesSailed ship cell).2.1) mo_today mo_hired ((fX2_sailTo mo_cells mo_sailedToday mo_timesSailed ship cell).2.2) mo_seenCount mo_seenLodger mo_seenDay mo_seenUp)) (va_A (kMo cI mo mo_kinds mo_illUntil mo_cells mo_sailedToday mo_today mo_hired mo_timesSailed mo_seenCount mo_seenLodger mo_seenDay mo_seenUp) sz)) 0 0 (va_A (kMo cI mo mo_kinds mo_illUntil mo_cells mo_sailedToday mo_today mo_hired mo_timesSailed mo_seenCount mo_seenLodger mo_seenDay mo_seenUp) sz) := by
  refine Met.ofW (cc := cX2_sailTo) (maxL := 3) (ret := none) (by decide) rfl ?_
  intro p e s m args below meth c s₁ B hml hv
  obtain ⟨rfl, hsz, hP, hK, hD0, hst⟩ := hv
  have hx := B.exec
  have hb := B.bytes
  have hr := B.returns
  have hts := atoms_spec (ws := wsX2_sailTo) B.pre
  have hown : s.vm.findClass RX2 = some m.cls := findClass_of_methodNamed B.named
  have hlocks := B.notSynchronized
  subst hsz
  have hD := hD0.self (sz := s.heap.size)
  generalize hAe : va_A (kMo cI mo mo_kinds mo_illUntil mo_cells mo_sailedToday mo_today mo_hired mo_timesSailed mo_seenCount mo_seenLodger mo_seenDay mo_seenUp) s.heap.size = A at hD hst ⊢
  have hA : ∀ q : Nat, s.heap.size ≤ q → A q := fun q h => by rw [← hAe]; exact Or.inr h
  have hS : va_S A s.heap s.heap [] := va_S.rf
  generalize hE : (fX2_sailTo mo_cells mo_sailedToday mo_timesSailed ship cell) = RES
  generalize hQ : MQ below (va_Qv (fun _ : Unit => True) (fun u : Unit => gB (dC, dI) cI cJ A (kMo cI mo mo_kinds mo_illUntil (RES.1) (RES.2.1) mo_today mo_hired (RES.2.2) mo_seenCount mo_seenLodger mo_seenDay mo_seenUp)) A) ([.ref (mo 0), .int ship, .int cell] : List Value).toArray s 0 0 A = Q
  have hl := lv_entry ([.ref (mo 0), .int ship, .int cell] : List Value) (n := 3) (Nat.le_of_ble_eq_true rfl)
  rw [lg_entry_eq]
  generalize (lg_sl ([.ref (mo 0), .int ship, .int cell] : List Value) ++ List.replicate (3 - (lg_sl ([.ref (mo 0), .int ship, .int cell] : List Value)).length) Slot.unset).toArray = ls at hl ⊢
  have hl : lv_has ls 3 [(0, .ref (mo 0)), (1, .int ship), (2, .int cell)] := hl
  have in_X2 : ∀ w ∈ u_ws RX2 TX2 11, w ∈ wsX2_sailTo := fun _ h => List.mem_cons_of_mem _ (List.mem_append_right _ h)
  have t_fieldLink_RX2_18_FourLodgers_Moment_cells_I := hts (.fieldLink RX2 18 "FourLodgers$Moment" "cells" "[I") (List.mem_of_getElem? (i := 1) rfl)
  have t_fieldLink_RX2_45_FourLodgers_Moment_sailedToday_I := hts (.fieldLink RX2 45 "FourLodgers$Moment" "sailedToday" "I") (List.mem_of_getElem? (i := 2) rfl)
  have t_fieldLink_RX2_56_FourLodgers_Moment_timesSailed_I := hts (.fieldLink RX2 56 "FourLodgers$Moment" "timesSailed" "I") (List.mem_of_getElem? (i := 3) rfl)
  have i_1 : (1 : Int32).toInt = 1 := by decide
  have p_1' := vp_in_iff.mp p_1
  rw [fX2_sailTo] at hE
  refine lv_aload_n hx hb dX2_sailTo_0 rfl (lv_at hl 0 rfl) ?_
  refine va_get (D := (dC, dI)) (ci := 2) (v := .ref (mo 3)) (C := RX2) (T := TX2) (N := 11) hx hb hts in_X2 hown hK hP 0 rfl rfl 2 (by decide) t_fieldLink_RX2_18_FourLodgers_Moment_cells_I (fun _ h9 => h9) rfl dX2_sailTo_1 ?_
  refine lv_iload_n hx hb dX2_sailTo_4 rfl (lv_at hl 1 rfl) ?_
  refine lv_iload_n hx hb dX2_sailTo_5 rfl (lv_at hl 2 rfl) ?_
  refine va_iast hx hb hK hP hD hS 3 0 rfl rfl (i := ship) (by first | assumption | exact vp_in_iff.mpr ⟨by omega, by omega⟩ | omega | decide) dX2_sailTo_6 (fun H locs hP hD hS => ?_)
  replace hP : va_P (dC, dI) vwCl (kMo cI mo mo_kinds mo_illUntil (upd mo_cells ship.toNatClampNeg cell) mo_sailedToday mo_today mo_hired mo_timesSailed mo_seenCount mo_seenLodger mo_seenDay mo_seenUp) H := hP
  replace hD : va_D A (kMo cI mo mo_kinds mo_illUntil (upd mo_cells ship.toNatClampNeg cell) mo_sailedToday mo_today mo_hired mo_timesSailed mo_seenCount mo_seenLodger mo_seenDay mo_seenUp) := hD
  refine lv_aload_n hx hb dX2_sailTo_7 rfl (lv_at hl 0 rfl) ?_
  refine lv_dup hx hb dX2_sailTo_8 rfl ?_
  refine va_get (D := (dC, dI)) (ci := 2) (v := .int mo_sailedToday) (C := RX2) (T := TX2) (N := 11) hx hb hts in_X2 hown hK hP 0 rfl rfl 3 (by decide) t_fieldLink_RX2_45_FourLodgers_Moment_sailedToday_I (fun _ h9 => h9) rfl dX2_sailTo_9 ?_
  refine lv_iconst (v := (1 : Int32)) hx hb dX2_sailTo_12 (by decide) ?_
  refine lv_iload_n hx hb dX2_sailTo_13 rfl (lv_at hl 1 rfl) ?_
  refine lv_ishl hx hb dX2_sailTo_14 ?_
  refine lv_ior hx hb dX2_sailTo_15 ?_
  refine va_put (D := (dC, dI)) (ci := 2) (v := .int (mo_sailedToday ||| ((1 : Int32) <<< (ship &&& 31)))) (ty := .int) (C := RX2) (T := TX2) (N := 11) hx hb hts in_X2 tyX2 tyX2_ok nmX2 hown hK hP hD hS 0 rfl rfl 3 (by decide) t_fieldLink_RX2_45_FourLodgers_Moment_sailedToday_I (fun _ h9 => h9) rfl (by decide +kernel) rfl rfl (Nat.le_of_ble_eq_true rfl) dX2_sailTo_16 (fun H locs hP hD hS => ?_)
  replace hP : va_P (dC, dI) vwCl (kMo cI mo mo_kinds mo_illUntil (upd mo_cells ship.toNatClampNeg cell) (mo_sailedToday ||| ((1 : Int32) <<< (ship &&& 31))) mo_today mo_hired mo_timesSailed mo_seenCount mo_seenLodger mo_seenDay mo_seenUp) H := hP
  replace hD : va_D A (kMo cI mo mo_kinds mo_illUntil (upd mo_cells ship.toNatClampNeg cell) (mo_sailedToday ||| ((1 : Int32) <<< (ship &&& 31))) mo_today mo_hired mo_timesSailed mo_seenCount mo_seenLodger mo_seenDay mo_seenUp) := hD
  refine lv_aload_n hx hb dX2_sailTo_19 rfl (lv_at hl 0 rfl) ?_
  refine lv_dup hx hb dX2_sailTo_20 rfl ?_
  refine va_get (D := (dC, dI)) (ci := 2) (v := .int mo_timesSailed) (C := RX2) (T := TX2) (N := 11) hx hb hts in_X2 hown hK hP 0 rfl rfl 6 (by decide) t_fieldLink_RX2_56_FourLodgers_Moment_timesSailed_I (fun _ h9 => h9) rfl dX2_sailTo_21 ?_
  refine lv_iconst (v := (1 : Int32)) hx hb dX2_sailTo_24 (by decide) ?_
  refine lv_iadd hx hb dX2_sailTo_25 ?_
  refine va_put (D := (dC, dI)) (ci := 2) (v := .int (mo_timesSailed + (1 : Int32))) (ty := .int) (C := RX2) (T := TX2) (N := 11) hx hb hts in_X2 tyX2 tyX2_ok nmX2 hown hK hP hD hS 0 rfl rfl 6 (by decide) t_fieldLink_RX2_56_FourLodgers_Moment_timesSailed_I (fun _ h9 => h9) rfl (by decide +kernel) rfl rfl (Nat.le_of_ble_eq_true rfl) dX2_sailTo_26 (fun H locs hP hD hS => ?_)
  replace hP : va_P (dC, dI) vwCl (kMo cI mo mo_kinds mo_illUntil (upd mo_cells ship.toNatClampNeg cell) (mo_sailedToday ||| ((1 : Int32) <<< (ship &&& 31))) mo_today mo_hired (mo_timesSailed + (1 : Int32)) mo_seenCount mo_seenLodger mo_seenDay mo_seenUp) H := hP
  replace hD : va_D A (kMo cI mo mo_kinds mo_illUntil (upd mo_cells ship.toNatClampNeg cell) (mo_sailedToday ||| ((1 : Int32) <<< (ship &&& 31))) mo_today mo_hired (mo_timesSailed + (1 : Int32)) mo_seenCount mo_seenLodger mo_seenDay mo_seenUp) := hD
  subst hE
  rw [← hQ]
  exact W.vret hx hb hr (fun t ht hW => ⟨⟨(), rfl, trivial, by rw [ht]; exact hP, va_K.moved hW.alike hK, hD⟩, hS.F ht⟩) hS.2.2 dX2_sailTo_29
def fX2_beginNextDay (mo_today : Int32) : Int32 × Int32 := ((0 : Int32), (mo_today + (1 : Int32)))
set_option maxHeartbeats 4000000 in
set_option maxRecDepth 100000 in
theorem kX2_beginNextDay (l : Launch) (dC : Nat → ClassId) (dI : Nat → Nat → Nat) (cI cJ : ClassId) (sz : Nat) (mo : Nat → Nat) (mo_kinds : Nat → Int32) (mo_illUntil : Nat → Int32) (mo_cells : Nat → Int32) (mo_sailedToday : Int32) (mo_today : Int32) (mo_hired : Int32) (mo_timesSailed : Int32) (mo_seenCount : Int32) (mo_seenLodger : Nat → Int32) (mo_seenDay : Nat → Int32) (mo_seenUp : Nat → Int32) : Met l yX2_beginNextDay wsX2_beginNextDay ({ frames := 0, cells := 0, slots := 0, locals := 0 } : Room) (gW (dC, dI) cI cJ sz (kMo cI mo mo_kinds mo_illUntil mo_cells mo_sailedToday mo_today mo_hired mo_timesSailed mo_seenCount mo_seenLodger mo_seenDay mo_seenUp) ([.ref (mo 0)] : List Value)) (va_Qv (fun _ : Unit => True) (fun u : Unit => gB (dC, dI) cI cJ (va_A (kMo cI mo mo_kinds mo_illUntil mo_cells mo_sailedToday mo_today mo_hired mo_timesSailed mo_seenCount mo_seenLodger mo_seenDay mo_seenUp) sz) (kMo cI mo mo_kinds mo_illUntil mo_cells ((fX2_beginNextDay mo_today).1) ((fX2_beginNextDay mo_today).2) mo_hired mo_timesSailed mo_seenCount mo_seenLodger mo_seenDay mo_seenUp)) (va_A (kMo cI mo mo_kinds mo_illUntil mo_cells mo_sailedToday mo_today mo_hired mo_timesSailed mo_seenCount mo_seenLodger mo_seenDay mo_seenUp) sz)) 0 0 (va_A (kMo cI mo mo_kinds mo_illUntil mo_cells mo_sailedToday mo_today mo_hired mo_timesSailed mo_seenCount mo_seenLodger mo_seenDay mo_seenUp) sz) := by
  refine Met.ofW (cc := cX2_beginNextDay) (maxL := 1) (ret := none) (by decide) rfl ?_
  intro p e s m args below meth c s₁ B hml hv
  obtain ⟨rfl, hsz, hP, hK, hD0, hst⟩ := hv
  have hx := B.exec
  have hb := B.bytes
  have hr := B.returns
  have hts := atoms_spec (ws := wsX2_beginNextDay) B.pre
  have hown : s.vm.findClass RX2 = some m.cls := findClass_of_methodNamed B.named
  have hlocks := B.notSynchronized
  subst hsz
  have hD := hD0.self (sz := s.heap.size)
  generalize hAe : va_A (kMo cI mo mo_kinds mo_illUntil mo_cells mo_sailedToday mo_today mo_hired mo_timesSailed mo_seenCount mo_seenLodger mo_seenDay mo_seenUp) s.heap.size = A at hD hst ⊢
  have hA : ∀ q : Nat, s.heap.size ≤ q → A q := fun q h => by rw [← hAe]; exact Or.inr h
  have hS : va_S A s.heap s.heap [] := va_S.rf
  generalize hE : (fX2_beginNextDay mo_today) = RES
  generalize hQ : MQ below (va_Qv (fun _ : Unit => True) (fun u : Unit => gB (dC, dI) cI cJ A (kMo cI mo mo_kinds mo_illUntil mo_cells (RES.1) (RES.2) mo_hired mo_timesSailed mo_seenCount mo_seenLodger mo_seenDay mo_seenUp)) A) ([.ref (mo 0)] : List Value).toArray s 0 0 A = Q
  have hl := lv_entry ([.ref (mo 0)] : List Value) (n := 1) (Nat.le_of_ble_eq_true rfl)
  rw [lg_entry_eq]
  generalize (lg_sl ([.ref (mo 0)] : List Value) ++ List.replicate (1 - (lg_sl ([.ref (mo 0)] : List Value)).length) Slot.unset).toArray = ls at hl ⊢
  have hl : lv_has ls 1 [(0, .ref (mo 0))] := hl
  have in_X2 : ∀ w ∈ u_ws RX2 TX2 11, w ∈ wsX2_beginNextDay := fun _ h => List.mem_cons_of_mem _ (List.mem_append_right _ h)
  have t_fieldLink_RX2_45_FourLodgers_Moment_sailedToday_I := hts (.fieldLink RX2 45 "FourLodgers$Moment" "sailedToday" "I") (List.mem_of_getElem? (i := 2) rfl)
  have t_fieldLink_RX2_49_FourLodgers_Moment_today_I := hts (.fieldLink RX2 49 "FourLodgers$Moment" "today" "I") (List.mem_of_getElem? (i := 1) rfl)
  have i_0 : (0 : Int32).toInt = 0 := by decide
  have i_1 : (1 : Int32).toInt = 1 := by decide
  rw [fX2_beginNextDay] at hE
  refine lv_aload_n hx hb dX2_beginNextDay_0 rfl (lv_at hl 0 rfl) ?_
  refine lv_dup hx hb dX2_beginNextDay_1 rfl ?_
  refine va_get (D := (dC, dI)) (ci := 2) (v := .int mo_today) (C := RX2) (T := TX2) (N := 11) hx hb hts in_X2 hown hK hP 0 rfl rfl 4 (by decide) t_fieldLink_RX2_49_FourLodgers_Moment_today_I (fun _ h9 => h9) rfl dX2_beginNextDay_2 ?_
  refine lv_iconst (v := (1 : Int32)) hx hb dX2_beginNextDay_5 (by decide) ?_
  refine lv_iadd hx hb dX2_beginNextDay_6 ?_
  refine va_put (D := (dC, dI)) (ci := 2) (v := .int (mo_today + (1 : Int32))) (ty := .int) (C := RX2) (T := TX2) (N := 11) hx hb hts in_X2 tyX2 tyX2_ok nmX2 hown hK hP hD hS 0 rfl rfl 4 (by decide) t_fieldLink_RX2_49_FourLodgers_Moment_today_I (fun _ h9 => h9) rfl (by decide +kernel) rfl rfl (Nat.le_of_ble_eq_true rfl) dX2_beginNextDay_7 (fun H locs hP hD hS => ?_)
  replace hP : va_P (dC, dI) vwCl (kMo cI mo mo_kinds mo_illUntil mo_cells mo_sailedToday (mo_today + (1 : Int32)) mo_hired mo_timesSailed mo_seenCount mo_seenLodger mo_seenDay mo_seenUp) H := hP
  replace hD : va_D A (kMo cI mo mo_kinds mo_illUntil mo_cells mo_sailedToday (mo_today + (1 : Int32)) mo_hired mo_timesSailed mo_seenCount mo_seenLodger mo_seenDay mo_seenUp) := hD
  refine lv_aload_n hx hb dX2_beginNextDay_10 rfl (lv_at hl 0 rfl) ?_
  refine lv_iconst (v := (0 : Int32)) hx hb dX2_beginNextDay_11 (by decide) ?_
  refine va_put (D := (dC, dI)) (ci := 2) (v := .int (0 : Int32)) (ty := .int) (C := RX2) (T := TX2) (N := 11) hx hb hts in_X2 tyX2 tyX2_ok nmX2 hown hK hP hD hS 0 rfl rfl 3 (by decide) t_fieldLink_RX2_45_FourLodgers_Moment_sailedToday_I (fun _ h9 => h9) rfl (by decide +kernel) rfl rfl (Nat.le_of_ble_eq_true rfl) dX2_beginNextDay_12 (fun H locs hP hD hS => ?_)
  replace hP : va_P (dC, dI) vwCl (kMo cI mo mo_kinds mo_illUntil mo_cells (0 : Int32) (mo_today + (1 : Int32)) mo_hired mo_timesSailed mo_seenCount mo_seenLodger mo_seenDay mo_seenUp) H := hP
  replace hD : va_D A (kMo cI mo mo_kinds mo_illUntil mo_cells (0 : Int32) (mo_today + (1 : Int32)) mo_hired mo_timesSailed mo_seenCount mo_seenLodger mo_seenDay mo_seenUp) := hD
  subst hE
  rw [← hQ]
  exact W.vret hx hb hr (fun t ht hW => ⟨⟨(), rfl, trivial, by rw [ht]; exact hP, va_K.moved hW.alike hK, hD⟩, hS.F ht⟩) hS.2.2 dX2_beginNextDay_15
def fX2_begin (dr_kinds : Nat → Int32) (dr_ills : Nat → Int32) (dr_ships : Nat → Int32) : (Nat → Int32) × (Nat → Int32) × (Nat → Int32) × Int32 × Int32 × Int32 × Int32 × Int32 := (dr_kinds, dr_ills, dr_ships, (0 : Int32), (0 : Int32), (0 : Int32), (0 : Int32), (0 : Int32))
set_option maxHeartbeats 4000000 in
set_option maxRecDepth 100000 in
theorem kX2_begin (l : Launch) (dC : Nat → ClassId) (dI : Nat → Nat → Nat) (cI cJ : ClassId) (sz : Nat) (mo : Nat → Nat) (dr : Nat → Nat) (mo_kinds : Nat → Int32) (mo_illUntil : Nat → Int32) (mo_cells : Nat → Int32) (mo_sailedToday : Int32) (mo_today : Int32) (mo_hired : Int32) (mo_timesSailed : Int32) (mo_seenCount : Int32) (mo_seenLodger : Nat → Int32) (mo_seenDay : Nat → Int32) (mo_seenUp : Nat → Int32) (dr_kinds : Nat → Int32) (dr_ills : Nat → Int32) (dr_ships : Nat → Int32) (dr_shipCount : Int32) (dr_rocks : Int64) (dr_rockCount : Int32) (dr_amongRocks : Int32) (dr_row : Int32) (dr_whole : Int32) : Met l yX2_begin wsX2_begin ({ frames := 1, cells := 0, slots := 0, locals := 26 } : Room) (gW (dC, dI) cI cJ sz ((kMo cI mo mo_kinds mo_illUntil mo_cells mo_sailedToday mo_today mo_hired mo_timesSailed mo_seenCount mo_seenLodger mo_seenDay mo_seenUp) ++ (kDr cI dr dr_kinds dr_ills dr_ships dr_shipCount dr_rocks dr_rockCount dr_amongRocks dr_row dr_whole)) ([.ref (mo 0), .ref (dr 0)] : List Value)) (va_Qv (fun _ : Unit => True) (fun u : Unit => gB (dC, dI) cI cJ (va_A ((kMo cI mo mo_kinds mo_illUntil mo_cells mo_sailedToday mo_today mo_hired mo_timesSailed mo_seenCount mo_seenLodger mo_seenDay mo_seenUp) ++ (kDr cI dr dr_kinds dr_ills dr_ships dr_shipCount dr_rocks dr_rockCount dr_amongRocks dr_row dr_whole)) sz) ((kMo cI mo ((fX2_begin dr_kinds dr_ills dr_ships).1) ((fX2_begin dr_kinds dr_ills dr_ships).2.1) ((fX2_begin dr_kinds dr_ills dr_ships).2.2.1) ((fX2_begin dr_kinds dr_ills dr_ships).2.2.2.1) ((fX2_begin dr_kinds dr_ills dr_ships).2.2.2.2.1) ((fX2_begin dr_kinds dr_ills dr_ships).2.2.2.2.2.1) ((fX2_begin dr_kinds dr_ills dr_ships).2.2.2.2.2.2.1) ((fX2_begin dr_kinds dr_ills dr_ships).2.2.2.2.2.2.2) mo_seenLodger mo_seenDay mo_seenUp) ++ (kDr cI dr dr_kinds dr_ills dr_ships dr_shipCount dr_rocks dr_rockCount dr_amongRocks dr_row dr_whole))) (va_A ((kMo cI mo mo_kinds mo_illUntil mo_cells mo_sailedToday mo_today mo_hired mo_timesSailed mo_seenCount mo_seenLodger mo_seenDay mo_seenUp) ++ (kDr cI dr dr_kinds dr_ills dr_ships dr_shipCount dr_rocks dr_rockCount dr_amongRocks dr_row dr_whole)) sz)) 0 0 (va_A ((kMo cI mo mo_kinds mo_illUntil mo_cells mo_sailedToday mo_today mo_hired mo_timesSailed mo_seenCount mo_seenLodger mo_seenDay mo_seenUp) ++ (kDr cI dr dr_kinds dr_ills dr_ships dr_shipCount dr_rocks dr_rockCount dr_amongRocks dr_row dr_whole)) sz) := by
  refine Met.ofW (cc := cX2_begin) (maxL := 2) (ret := none) (by decide) rfl ?_
  intro p e s m args below meth c s₁ B hml hv
  obtain ⟨rfl, hsz, hP, hK, hD0, hst⟩ := hv
  have hx := B.exec
  have hb := B.bytes
  have hr := B.returns
  have hts := atoms_spec (ws := wsX2_begin) B.pre
  have hown : s.vm.findClass RX2 = some m.cls := findClass_of_methodNamed B.named
  have hlocks := B.notSynchronized
  subst hsz
  have hD := hD0.self (sz := s.heap.size)
  generalize hAe : va_A ((kMo cI mo mo_kinds mo_illUntil mo_cells mo_sailedToday mo_today mo_hired mo_timesSailed mo_seenCount mo_seenLodger mo_seenDay mo_seenUp) ++ (kDr cI dr dr_kinds dr_ills dr_ships dr_shipCount dr_rocks dr_rockCount dr_amongRocks dr_row dr_whole)) s.heap.size = A at hD hst ⊢
  have hA : ∀ q : Nat, s.heap.size ≤ q → A q := fun q h => by rw [← hAe]; exact Or.inr h
  have hS : va_S A s.heap s.heap [] := va_S.rf
  generalize hE : (fX2_begin dr_kinds dr_ills dr_ships) = RES
  generalize hQ : MQ below (va_Qv (fun _ : Unit => True) (fun u : Unit => gB (dC, dI) cI cJ A ((kMo cI mo (RES.1) (RES.2.1) (RES.2.2.1) (RES.2.2.2.1) (RES.2.2.2.2.1) (RES.2.2.2.2.2.1) (RES.2.2.2.2.2.2.1) (RES.2.2.2.2.2.2.2) mo_seenLodger mo_seenDay mo_seenUp) ++ (kDr cI dr dr_kinds dr_ills dr_ships dr_shipCount dr_rocks dr_rockCount dr_amongRocks dr_row dr_whole))) A) ([.ref (mo 0), .ref (dr 0)] : List Value).toArray s 0 0 A = Q
  have hl := lv_entry ([.ref (mo 0), .ref (dr 0)] : List Value) (n := 2) (Nat.le_of_ble_eq_true rfl)
  rw [lg_entry_eq]
  generalize (lg_sl ([.ref (mo 0), .ref (dr 0)] : List Value) ++ List.replicate (2 - (lg_sl ([.ref (mo 0), .ref (dr 0)] : List Value)).length) Slot.unset).toArray = ls at hl ⊢
  have hl : lv_has ls 2 [(0, .ref (mo 0)), (1, .ref (dr 0))] := hl
  have in_X1 : ∀ w ∈ u_ws RX1 TX1 9, w ∈ wsX2_begin := fun _ h => List.mem_cons_of_mem _ (List.mem_append_left _ (List.mem_append_right _ h))
  have in_X2 : ∀ w ∈ u_ws RX2 TX2 11, w ∈ wsX2_begin := fun _ h => List.mem_cons_of_mem _ (List.mem_append_right _ h)
  have t_fieldLink_RX2_15_FourLodgers_Moment_illUntil_I := hts (.fieldLink RX2 15 "FourLodgers$Moment" "illUntil" "[I") (List.mem_of_getElem? (i := 8) rfl)
  have t_fieldLink_RX2_18_FourLodgers_Moment_cells_I := hts (.fieldLink RX2 18 "FourLodgers$Moment" "cells" "[I") (List.mem_of_getElem? (i := 10) rfl)
  have t_fieldLink_RX2_30_FourLodgers_Draft_kinds_I := hts (.fieldLink RX2 30 "FourLodgers$Draft" "kinds" "[I") (List.mem_of_getElem? (i := 1) rfl)
  have t_fieldLink_RX2_39_FourLodgers_Draft_ills_I := hts (.fieldLink RX2 39 "FourLodgers$Draft" "ills" "[I") (List.mem_of_getElem? (i := 7) rfl)
  have t_fieldLink_RX2_42_FourLodgers_Draft_ships_I := hts (.fieldLink RX2 42 "FourLodgers$Draft" "ships" "[I") (List.mem_of_getElem? (i := 9) rfl)
  have t_fieldLink_RX2_45_FourLodgers_Moment_sailedToday_I := hts (.fieldLink RX2 45 "FourLodgers$Moment" "sailedToday" "I") (List.mem_of_getElem? (i := 11) rfl)
  have t_fieldLink_RX2_49_FourLodgers_Moment_today_I := hts (.fieldLink RX2 49 "FourLodgers$Moment" "today" "I") (List.mem_of_getElem? (i := 12) rfl)
  have t_fieldLink_RX2_52_FourLodgers_Moment_hired_Z := hts (.fieldLink RX2 52 "FourLodgers$Moment" "hired" "Z") (List.mem_of_getElem? (i := 13) rfl)
  have t_fieldLink_RX2_56_FourLodgers_Moment_timesSailed_I := hts (.fieldLink RX2 56 "FourLodgers$Moment" "timesSailed" "I") (List.mem_of_getElem? (i := 14) rfl)
  have t_fieldLink_RX2_59_FourLodgers_Moment_seenCount_I := hts (.fieldLink RX2 59 "FourLodgers$Moment" "seenCount" "I") (List.mem_of_getElem? (i := 15) rfl)
  have t_fieldLink_RX2_9_FourLodgers_Moment_kinds_I := hts (.fieldLink RX2 9 "FourLodgers$Moment" "kinds" "[I") (List.mem_of_getElem? (i := 2) rfl)
  have t_initialized_java_lang_System := hts (.initialized "java/lang/System") (List.mem_of_getElem? (i := 6) rfl)
  have t_methodLink_RX2_33_arraycopyName := hts (.methodLink RX2 33 arraycopyName) (List.mem_of_getElem? (i := 3) rfl)
  have t_native_arraycopyName := hts (.native arraycopyName) (List.mem_of_getElem? (i := 4) rfl)
  have t_static_arraycopyName := hts (.static arraycopyName) (List.mem_of_getElem? (i := 5) rfl)
  have i_0 : (0 : Int32).toInt = 0 := by decide
  have i_3 : (3 : Int32).toInt = 3 := by decide
  have i_4 : (4 : Int32).toInt = 4 := by decide
  rw [fX2_begin] at hE
  refine lv_aload_n hx hb dX2_begin_0 rfl (lv_at hl 1 rfl) ?_
  refine va_get (D := (dC, dI)) (ci := 1) (v := .ref (dr 1)) (C := RX1) (T := TX1) (N := 9) hx hb hts in_X1 hown hK hP 7 rfl rfl 0 (by decide) t_fieldLink_RX2_30_FourLodgers_Draft_kinds_I (fun _ h9 => h9) rfl dX2_begin_1 ?_
  refine lv_iconst (v := (0 : Int32)) hx hb dX2_begin_4 (by decide) ?_
  refine lv_aload_n hx hb dX2_begin_5 rfl (lv_at hl 0 rfl) ?_
  refine va_get (D := (dC, dI)) (ci := 2) (v := .ref (mo 1)) (C := RX2) (T := TX2) (N := 11) hx hb hts in_X2 hown hK hP 0 rfl rfl 0 (by decide) t_fieldLink_RX2_9_FourLodgers_Moment_kinds_I (fun _ h9 => h9) rfl dX2_begin_6 ?_
  refine lv_iconst (v := (0 : Int32)) hx hb dX2_begin_9 (by decide) ?_
  refine lv_iconst (v := (4 : Int32)) hx hb dX2_begin_10 (by decide) ?_
  refine cp_full (n := 4) hx hb (hml.trans hl.1.symm) hown t_methodLink_RX2_33_arraycopyName t_native_arraycopyName t_static_arraycopyName t_initialized_java_lang_System hK hP hD hS 8 1 0 rfl rfl rfl (by decide) (by decide) (Nat.le_of_ble_eq_true rfl) (Nat.le_of_ble_eq_true rfl) dX2_begin_11 (fun H locs hP hD hS => ?_)
  replace hP : va_P (dC, dI) vwCl ((kMo cI mo dr_kinds mo_illUntil mo_cells mo_sailedToday mo_today mo_hired mo_timesSailed mo_seenCount mo_seenLodger mo_seenDay mo_seenUp) ++ (kDr cI dr dr_kinds dr_ills dr_ships dr_shipCount dr_rocks dr_rockCount dr_amongRocks dr_row dr_whole)) H := hP
  replace hD : va_D A ((kMo cI mo dr_kinds mo_illUntil mo_cells mo_sailedToday mo_today mo_hired mo_timesSailed mo_seenCount mo_seenLodger mo_seenDay mo_seenUp) ++ (kDr cI dr dr_kinds dr_ills dr_ships dr_shipCount dr_rocks dr_rockCount dr_amongRocks dr_row dr_whole)) := hD
  refine lv_aload_n hx hb dX2_begin_14 rfl (lv_at hl 1 rfl) ?_
  refine va_get (D := (dC, dI)) (ci := 1) (v := .ref (dr 2)) (C := RX1) (T := TX1) (N := 9) hx hb hts in_X1 hown hK hP 7 rfl rfl 1 (by decide) t_fieldLink_RX2_39_FourLodgers_Draft_ills_I (fun _ h9 => h9) rfl dX2_begin_15 ?_
  refine lv_iconst (v := (0 : Int32)) hx hb dX2_begin_18 (by decide) ?_
  refine lv_aload_n hx hb dX2_begin_19 rfl (lv_at hl 0 rfl) ?_
  refine va_get (D := (dC, dI)) (ci := 2) (v := .ref (mo 2)) (C := RX2) (T := TX2) (N := 11) hx hb hts in_X2 hown hK hP 0 rfl rfl 1 (by decide) t_fieldLink_RX2_15_FourLodgers_Moment_illUntil_I (fun _ h9 => h9) rfl dX2_begin_20 ?_
  refine lv_iconst (v := (0 : Int32)) hx hb dX2_begin_23 (by decide) ?_
  refine lv_iconst (v := (4 : Int32)) hx hb dX2_begin_24 (by decide) ?_
  refine cp_full (n := 4) hx hb (hml.trans hl.1.symm) hown t_methodLink_RX2_33_arraycopyName t_native_arraycopyName t_static_arraycopyName t_initialized_java_lang_System hK hP hD hS 9 2 0 rfl rfl rfl (by decide) (by decide) (Nat.le_of_ble_eq_true rfl) (Nat.le_of_ble_eq_true rfl) dX2_begin_25 (fun H locs hP hD hS => ?_)
  replace hP : va_P (dC, dI) vwCl ((kMo cI mo dr_kinds dr_ills mo_cells mo_sailedToday mo_today mo_hired mo_timesSailed mo_seenCount mo_seenLodger mo_seenDay mo_seenUp) ++ (kDr cI dr dr_kinds dr_ills dr_ships dr_shipCount dr_rocks dr_rockCount dr_amongRocks dr_row dr_whole)) H := hP
  replace hD : va_D A ((kMo cI mo dr_kinds dr_ills mo_cells mo_sailedToday mo_today mo_hired mo_timesSailed mo_seenCount mo_seenLodger mo_seenDay mo_seenUp) ++ (kDr cI dr dr_kinds dr_ills dr_ships dr_shipCount dr_rocks dr_rockCount dr_amongRocks dr_row dr_whole)) := hD
  refine lv_aload_n hx hb dX2_begin_28 rfl (lv_at hl 1 rfl) ?_
  refine va_get (D := (dC, dI)) (ci := 1) (v := .ref (dr 3)) (C := RX1) (T := TX1) (N := 9) hx hb hts in_X1 hown hK hP 7 rfl rfl 2 (by decide) t_fieldLink_RX2_42_FourLodgers_Draft_ships_I (fun _ h9 => h9) rfl dX2_begin_29 ?_
  refine lv_iconst (v := (0 : Int32)) hx hb dX2_begin_32 (by decide) ?_
  refine lv_aload_n hx hb dX2_begin_33 rfl (lv_at hl 0 rfl) ?_
  refine va_get (D := (dC, dI)) (ci := 2) (v := .ref (mo 3)) (C := RX2) (T := TX2) (N := 11) hx hb hts in_X2 hown hK hP 0 rfl rfl 2 (by decide) t_fieldLink_RX2_18_FourLodgers_Moment_cells_I (fun _ h9 => h9) rfl dX2_begin_34 ?_
  refine lv_iconst (v := (0 : Int32)) hx hb dX2_begin_37 (by decide) ?_
  refine lv_iconst (v := (3 : Int32)) hx hb dX2_begin_38 (by decide) ?_
  refine cp_full (n := 3) hx hb (hml.trans hl.1.symm) hown t_methodLink_RX2_33_arraycopyName t_native_arraycopyName t_static_arraycopyName t_initialized_java_lang_System hK hP hD hS 10 3 0 rfl rfl rfl (by decide) (by decide) (Nat.le_of_ble_eq_true rfl) (Nat.le_of_ble_eq_true rfl) dX2_begin_39 (fun H locs hP hD hS => ?_)
  replace hP : va_P (dC, dI) vwCl ((kMo cI mo dr_kinds dr_ills dr_ships mo_sailedToday mo_today mo_hired mo_timesSailed mo_seenCount mo_seenLodger mo_seenDay mo_seenUp) ++ (kDr cI dr dr_kinds dr_ills dr_ships dr_shipCount dr_rocks dr_rockCount dr_amongRocks dr_row dr_whole)) H := hP
  replace hD : va_D A ((kMo cI mo dr_kinds dr_ills dr_ships mo_sailedToday mo_today mo_hired mo_timesSailed mo_seenCount mo_seenLodger mo_seenDay mo_seenUp) ++ (kDr cI dr dr_kinds dr_ills dr_ships dr_shipCount dr_rocks dr_rockCount dr_amongRocks dr_row dr_whole)) := hD
  refine lv_aload_n hx hb dX2_begin_42 rfl (lv_at hl 0 rfl) ?_
  refine lv_iconst (v := (0 : Int32)) hx hb dX2_begin_43 (by decide) ?_
  refine va_put (D := (dC, dI)) (ci := 2) (v := .int (0 : Int32)) (ty := .int) (C := RX2) (T := TX2) (N := 11) hx hb hts in_X2 tyX2 tyX2_ok nmX2 hown hK hP hD hS 0 rfl rfl 3 (by decide) t_fieldLink_RX2_45_FourLodgers_Moment_sailedToday_I (fun _ h9 => h9) rfl (by decide +kernel) rfl rfl (Nat.le_of_ble_eq_true rfl) dX2_begin_44 (fun H locs hP hD hS => ?_)
  replace hP : va_P (dC, dI) vwCl ((kMo cI mo dr_kinds dr_ills dr_ships (0 : Int32) mo_today mo_hired mo_timesSailed mo_seenCount mo_seenLodger mo_seenDay mo_seenUp) ++ (kDr cI dr dr_kinds dr_ills dr_ships dr_shipCount dr_rocks dr_rockCount dr_amongRocks dr_row dr_whole)) H := hP
  replace hD : va_D A ((kMo cI mo dr_kinds dr_ills dr_ships (0 : Int32) mo_today mo_hired mo_timesSailed mo_seenCount mo_seenLodger mo_seenDay mo_seenUp) ++ (kDr cI dr dr_kinds dr_ills dr_ships dr_shipCount dr_rocks dr_rockCount dr_amongRocks dr_row dr_whole)) := hD
  refine lv_aload_n hx hb dX2_begin_47 rfl (lv_at hl 0 rfl) ?_
  refine lv_iconst (v := (0 : Int32)) hx hb dX2_begin_48 (by decide) ?_
  refine va_put (D := (dC, dI)) (ci := 2) (v := .int (0 : Int32)) (ty := .int) (C := RX2) (T := TX2) (N := 11) hx hb hts in_X2 tyX2 tyX2_ok nmX2 hown hK hP hD hS 0 rfl rfl 4 (by decide) t_fieldLink_RX2_49_FourLodgers_Moment_today_I (fun _ h9 => h9) rfl (by decide +kernel) rfl rfl (Nat.le_of_ble_eq_true rfl) dX2_begin_49 (fun H locs hP hD hS => ?_)
  replace hP : va_P (dC, dI) vwCl ((kMo cI mo dr_kinds dr_ills dr_ships (0 : Int32) (0 : Int32) mo_hired mo_timesSailed mo_seenCount mo_seenLodger mo_seenDay mo_seenUp) ++ (kDr cI dr dr_kinds dr_ills dr_ships dr_shipCount dr_rocks dr_rockCount dr_amongRocks dr_row dr_whole)) H := hP
  replace hD : va_D A ((kMo cI mo dr_kinds dr_ills dr_ships (0 : Int32) (0 : Int32) mo_hired mo_timesSailed mo_seenCount mo_seenLodger mo_seenDay mo_seenUp) ++ (kDr cI dr dr_kinds dr_ills dr_ships dr_shipCount dr_rocks dr_rockCount dr_amongRocks dr_row dr_whole)) := hD
  refine lv_aload_n hx hb dX2_begin_52 rfl (lv_at hl 0 rfl) ?_
  refine lv_iconst (v := (0 : Int32)) hx hb dX2_begin_53 (by decide) ?_
  refine va_put (D := (dC, dI)) (ci := 2) (v := .int (0 : Int32)) (ty := .boolean) (C := RX2) (T := TX2) (N := 11) hx hb hts in_X2 tyX2 tyX2_ok nmX2 hown hK hP hD hS 0 rfl rfl 5 (by decide) t_fieldLink_RX2_52_FourLodgers_Moment_hired_Z (fun _ h9 => h9) rfl (by decide +kernel) (by decide +kernel) (by decide +kernel) (Nat.le_of_ble_eq_true rfl) dX2_begin_54 (fun H locs hP hD hS => ?_)
  replace hP : va_P (dC, dI) vwCl ((kMo cI mo dr_kinds dr_ills dr_ships (0 : Int32) (0 : Int32) (0 : Int32) mo_timesSailed mo_seenCount mo_seenLodger mo_seenDay mo_seenUp) ++ (kDr cI dr dr_kinds dr_ills dr_ships dr_shipCount dr_rocks dr_rockCount dr_amongRocks dr_row dr_whole)) H := hP
  replace hD : va_D A ((kMo cI mo dr_kinds dr_ills dr_ships (0 : Int32) (0 : Int32) (0 : Int32) mo_timesSailed mo_seenCount mo_seenLodger mo_seenDay mo_seenUp) ++ (kDr cI dr dr_kinds dr_ills dr_ships dr_shipCount dr_rocks dr_rockCount dr_amongRocks dr_row dr_whole)) := hD
  refine lv_aload_n hx hb dX2_begin_57 rfl (lv_at hl 0 rfl) ?_
  refine lv_iconst (v := (0 : Int32)) hx hb dX2_begin_58 (by decide) ?_
  refine va_put (D := (dC, dI)) (ci := 2) (v := .int (0 : Int32)) (ty := .int) (C := RX2) (T := TX2) (N := 11) hx hb hts in_X2 tyX2 tyX2_ok nmX2 hown hK hP hD hS 0 rfl rfl 6 (by decide) t_fieldLink_RX2_56_FourLodgers_Moment_timesSailed_I (fun _ h9 => h9) rfl (by decide +kernel) rfl rfl (Nat.le_of_ble_eq_true rfl) dX2_begin_59 (fun H locs hP hD hS => ?_)
  replace hP : va_P (dC, dI) vwCl ((kMo cI mo dr_kinds dr_ills dr_ships (0 : Int32) (0 : Int32) (0 : Int32) (0 : Int32) mo_seenCount mo_seenLodger mo_seenDay mo_seenUp) ++ (kDr cI dr dr_kinds dr_ills dr_ships dr_shipCount dr_rocks dr_rockCount dr_amongRocks dr_row dr_whole)) H := hP
  replace hD : va_D A ((kMo cI mo dr_kinds dr_ills dr_ships (0 : Int32) (0 : Int32) (0 : Int32) (0 : Int32) mo_seenCount mo_seenLodger mo_seenDay mo_seenUp) ++ (kDr cI dr dr_kinds dr_ills dr_ships dr_shipCount dr_rocks dr_rockCount dr_amongRocks dr_row dr_whole)) := hD
  refine lv_aload_n hx hb dX2_begin_62 rfl (lv_at hl 0 rfl) ?_
  refine lv_iconst (v := (0 : Int32)) hx hb dX2_begin_63 (by decide) ?_
  refine va_put (D := (dC, dI)) (ci := 2) (v := .int (0 : Int32)) (ty := .int) (C := RX2) (T := TX2) (N := 11) hx hb hts in_X2 tyX2 tyX2_ok nmX2 hown hK hP hD hS 0 rfl rfl 7 (by decide) t_fieldLink_RX2_59_FourLodgers_Moment_seenCount_I (fun _ h9 => h9) rfl (by decide +kernel) rfl rfl (Nat.le_of_ble_eq_true rfl) dX2_begin_64 (fun H locs hP hD hS => ?_)
  replace hP : va_P (dC, dI) vwCl ((kMo cI mo dr_kinds dr_ills dr_ships (0 : Int32) (0 : Int32) (0 : Int32) (0 : Int32) (0 : Int32) mo_seenLodger mo_seenDay mo_seenUp) ++ (kDr cI dr dr_kinds dr_ills dr_ships dr_shipCount dr_rocks dr_rockCount dr_amongRocks dr_row dr_whole)) H := hP
  replace hD : va_D A ((kMo cI mo dr_kinds dr_ills dr_ships (0 : Int32) (0 : Int32) (0 : Int32) (0 : Int32) (0 : Int32) mo_seenLodger mo_seenDay mo_seenUp) ++ (kDr cI dr dr_kinds dr_ills dr_ships dr_shipCount dr_rocks dr_rockCount dr_amongRocks dr_row dr_whole)) := hD
  subst hE
  rw [← hQ]
  exact W.vret hx hb hr (fun t ht hW => ⟨⟨(), rfl, trivial, by rw [ht]; exact hP, va_K.moved hW.alike hK, hD⟩, hS.F ht⟩) hS.2.2 dX2_begin_67
def fX2_copyFrom (ot_kinds : Nat → Int32) (ot_illUntil : Nat → Int32) (ot_cells : Nat → Int32) (ot_sailedToday : Int32) (ot_today : Int32) (ot_hired : Int32) (ot_timesSailed : Int32) (ot_seenCount : Int32) (ot_seenLodger : Nat → Int32) (ot_seenDay : Nat → Int32) (ot_seenUp : Nat → Int32) : (Nat → Int32) × (Nat → Int32) × (Nat → Int32) × Int32 × Int32 × Int32 × Int32 × Int32 × (Nat → Int32) × (Nat → Int32) × (Nat → Int32) := (ot_kinds, ot_illUntil, ot_cells, ot_sailedToday, ot_today, ot_hired, ot_timesSailed, ot_seenCount, ot_seenLodger, ot_seenDay, ot_seenUp)
set_option maxHeartbeats 4000000 in
set_option maxRecDepth 100000 in
theorem kX2_copyFrom (l : Launch) (dC : Nat → ClassId) (dI : Nat → Nat → Nat) (cI cJ : ClassId) (sz : Nat) (mo : Nat → Nat) (ot : Nat → Nat) (mo_kinds : Nat → Int32) (mo_illUntil : Nat → Int32) (mo_cells : Nat → Int32) (mo_sailedToday : Int32) (mo_today : Int32) (mo_hired : Int32) (mo_timesSailed : Int32) (mo_seenCount : Int32) (mo_seenLodger : Nat → Int32) (mo_seenDay : Nat → Int32) (mo_seenUp : Nat → Int32) (ot_kinds : Nat → Int32) (ot_illUntil : Nat → Int32) (ot_cells : Nat → Int32) (ot_sailedToday : Int32) (ot_today : Int32) (ot_hired : Int32) (ot_timesSailed : Int32) (ot_seenCount : Int32) (ot_seenLodger : Nat → Int32) (ot_seenDay : Nat → Int32) (ot_seenUp : Nat → Int32) (p_1 : isB ot_hired) : Met l yX2_copyFrom wsX2_copyFrom ({ frames := 1, cells := 0, slots := 0, locals := 26 } : Room) (gW (dC, dI) cI cJ sz ((kMo cI mo mo_kinds mo_illUntil mo_cells mo_sailedToday mo_today mo_hired mo_timesSailed mo_seenCount mo_seenLodger mo_seenDay mo_seenUp) ++ (kMo cI ot ot_kinds ot_illUntil ot_cells ot_sailedToday ot_today ot_hired ot_timesSailed ot_seenCount ot_seenLodger ot_seenDay ot_seenUp)) ([.ref (mo 0), .ref (ot 0)] : List Value)) (va_Qv (fun _ : Unit => True) (fun u : Unit => gB (dC, dI) cI cJ (va_A ((kMo cI mo mo_kinds mo_illUntil mo_cells mo_sailedToday mo_today mo_hired mo_timesSailed mo_seenCount mo_seenLodger mo_seenDay mo_seenUp) ++ (kMo cI ot ot_kinds ot_illUntil ot_cells ot_sailedToday ot_today ot_hired ot_timesSailed ot_seenCount ot_seenLodger ot_seenDay ot_seenUp)) sz) ((kMo cI mo ((fX2_copyFrom ot_kinds ot_illUntil ot_cells ot_sailedToday ot_today ot_hired ot_timesSailed ot_seenCount ot_seenLodger ot_seenDay ot_seenUp).1) ((fX2_copyFrom ot_kinds ot_illUntil ot_cells ot_sailedToday ot_today ot_hired ot_timesSailed ot_seenCount ot_seenLodger ot_seenDay ot_seenUp).2.1) ((fX2_copyFrom ot_kinds ot_illUntil ot_cells ot_sailedToday ot_today ot_hired ot_timesSailed ot_seenCount ot_seenLodger ot_seenDay ot_seenUp).2.2.1) ((fX2_copyFrom ot_kinds ot_illUntil ot_cells ot_sailedToday ot_today ot_hired ot_timesSailed ot_seenCount ot_seenLodger ot_seenDay ot_seenUp).2.2.2.1) ((fX2_copyFrom ot_kinds ot_illUntil ot_cells ot_sailedToday ot_today ot_hired ot_timesSailed ot_seenCount ot_seenLodger ot_seenDay ot_seenUp).2.2.2.2.1) ((fX2_copyFrom ot_kinds ot_illUntil ot_cells ot_sailedToday ot_today ot_hired ot_timesSailed ot_seenCount ot_seenLodger ot_seenDay ot_seenUp).2.2.2.2.2.1) ((fX2_copyFrom ot_kinds ot_illUntil ot_cells ot_sailedToday ot_today ot_hired ot_timesSailed ot_seenCount ot_seenLodger ot_seenDay ot_seenUp).2.2.2.2.2.2.1) ((fX2_copyFrom ot_kinds ot_illUntil ot_cells ot_sailedToday ot_today ot_hired ot_timesSailed ot_seenCount ot_seenLodger ot_seenDay ot_seenUp).2.2.2.2.2.2.2.1) ((fX2_copyFrom ot_kinds ot_illUntil ot_cells ot_sailedToday ot_today ot_hired ot_timesSailed ot_seenCount ot_seenLodger ot_seenDay ot_seenUp).2.2.2.2.2.2.2.2.1) ((fX2_copyFrom ot_kinds ot_illUntil ot_cells ot_sailedToday ot_today ot_hired ot_timesSailed ot_seenCount ot_seenLodger ot_seenDay ot_seenUp).2.2.2.2.2.2.2.2.2.1) ((fX2_copyFrom ot_kinds ot_illUntil ot_cells ot_sailedToday ot_today ot_hired ot_timesSailed ot_seenCount ot_seenLodger ot_seenDay ot_seenUp).2.2.2.2.2.2.2.2.2.2)) ++ (kMo cI ot ot_kinds ot_illUntil ot_cells ot_sailedToday ot_today ot_hired ot_timesSailed ot_seenCount ot_seenLodger ot_seenDay ot_seenUp))) (va_A ((kMo cI mo mo_kinds mo_illUntil mo_cells mo_sailedToday mo_today mo_hired mo_timesSailed mo_seenCount mo_seenLodger mo_seenDay mo_seenUp) ++ (kMo cI ot ot_kinds ot_illUntil ot_cells ot_sailedToday ot_today ot_hired ot_timesSailed ot_seenCount ot_seenLodger ot_seenDay ot_seenUp)) sz)) 0 0 (va_A ((kMo cI mo mo_kinds mo_illUntil mo_cells mo_sailedToday mo_today mo_hired mo_timesSailed mo_seenCount mo_seenLodger mo_seenDay mo_seenUp) ++ (kMo cI ot ot_kinds ot_illUntil ot_cells ot_sailedToday ot_today ot_hired ot_timesSailed ot_seenCount ot_seenLodger ot_seenDay ot_seenUp)) sz) := by
  refine Met.ofW (cc := cX2_copyFrom) (maxL := 2) (ret := none) (by decide) rfl ?_
  intro p e s m args below meth c s₁ B hml hv
  obtain ⟨rfl, hsz, hP, hK, hD0, hst⟩ := hv
  have hx := B.exec
  have hb := B.bytes
  have hr := B.returns
  have hts := atoms_spec (ws := wsX2_copyFrom) B.pre
  have hown : s.vm.findClass RX2 = some m.cls := findClass_of_methodNamed B.named
  have hlocks := B.notSynchronized
  subst hsz
  have hD := hD0.self (sz := s.heap.size)
  generalize hAe : va_A ((kMo cI mo mo_kinds mo_illUntil mo_cells mo_sailedToday mo_today mo_hired mo_timesSailed mo_seenCount mo_seenLodger mo_seenDay mo_seenUp) ++ (kMo cI ot ot_kinds ot_illUntil ot_cells ot_sailedToday ot_today ot_hired ot_timesSailed ot_seenCount ot_seenLodger ot_seenDay ot_seenUp)) s.heap.size = A at hD hst ⊢
  have hA : ∀ q : Nat, s.heap.size ≤ q → A q := fun q h => by rw [← hAe]; exact Or.inr h
  have hS : va_S A s.heap s.heap [] := va_S.rf
  generalize hE : (fX2_copyFrom ot_kinds ot_illUntil ot_cells ot_sailedToday ot_today ot_hired ot_timesSailed ot_seenCount ot_seenLodger ot_seenDay ot_seenUp) = RES
  generalize hQ : MQ below (va_Qv (fun _ : Unit => True) (fun u : Unit => gB (dC, dI) cI cJ A ((kMo cI mo (RES.1) (RES.2.1) (RES.2.2.1) (RES.2.2.2.1) (RES.2.2.2.2.1) (RES.2.2.2.2.2.1) (RES.2.2.2.2.2.2.1) (RES.2.2.2.2.2.2.2.1) (RES.2.2.2.2.2.2.2.2.1) (RES.2.2.2.2.2.2.2.2.2.1) (RES.2.2.2.2.2.2.2.2.2.2)) ++ (kMo cI ot ot_kinds ot_illUntil ot_cells ot_sailedToday ot_today ot_hired ot_timesSailed ot_seenCount ot_seenLodger ot_seenDay ot_seenUp))) A) ([.ref (mo 0), .ref (ot 0)] : List Value).toArray s 0 0 A = Q
  have hl := lv_entry ([.ref (mo 0), .ref (ot 0)] : List Value) (n := 2) (Nat.le_of_ble_eq_true rfl)
  rw [lg_entry_eq]
  generalize (lg_sl ([.ref (mo 0), .ref (ot 0)] : List Value) ++ List.replicate (2 - (lg_sl ([.ref (mo 0), .ref (ot 0)] : List Value)).length) Slot.unset).toArray = ls at hl ⊢
  have hl : lv_has ls 2 [(0, .ref (mo 0)), (1, .ref (ot 0))] := hl
  have in_X2 : ∀ w ∈ u_ws RX2 TX2 11, w ∈ wsX2_copyFrom := fun _ h => List.mem_cons_of_mem _ (List.mem_append_right _ h)
  have t_fieldLink_RX2_15_FourLodgers_Moment_illUntil_I := hts (.fieldLink RX2 15 "FourLodgers$Moment" "illUntil" "[I") (List.mem_of_getElem? (i := 6) rfl)
  have t_fieldLink_RX2_18_FourLodgers_Moment_cells_I := hts (.fieldLink RX2 18 "FourLodgers$Moment" "cells" "[I") (List.mem_of_getElem? (i := 7) rfl)
  have t_fieldLink_RX2_21_FourLodgers_Moment_seenLodger_I := hts (.fieldLink RX2 21 "FourLodgers$Moment" "seenLodger" "[I") (List.mem_of_getElem? (i := 8) rfl)
  have t_fieldLink_RX2_24_FourLodgers_Moment_seenDay_I := hts (.fieldLink RX2 24 "FourLodgers$Moment" "seenDay" "[I") (List.mem_of_getElem? (i := 9) rfl)
  have t_fieldLink_RX2_27_FourLodgers_Moment_seenUp_I := hts (.fieldLink RX2 27 "FourLodgers$Moment" "seenUp" "[I") (List.mem_of_getElem? (i := 10) rfl)
  have t_fieldLink_RX2_45_FourLodgers_Moment_sailedToday_I := hts (.fieldLink RX2 45 "FourLodgers$Moment" "sailedToday" "I") (List.mem_of_getElem? (i := 11) rfl)
  have t_fieldLink_RX2_49_FourLodgers_Moment_today_I := hts (.fieldLink RX2 49 "FourLodgers$Moment" "today" "I") (List.mem_of_getElem? (i := 12) rfl)
  have t_fieldLink_RX2_52_FourLodgers_Moment_hired_Z := hts (.fieldLink RX2 52 "FourLodgers$Moment" "hired" "Z") (List.mem_of_getElem? (i := 13) rfl)
  have t_fieldLink_RX2_56_FourLodgers_Moment_timesSailed_I := hts (.fieldLink RX2 56 "FourLodgers$Moment" "timesSailed" "I") (List.mem_of_getElem? (i := 14) rfl)
  have t_fieldLink_RX2_59_FourLodgers_Moment_seenCount_I := hts (.fieldLink RX2 59 "FourLodgers$Moment" "seenCount" "I") (List.mem_of_getElem? (i := 15) rfl)
  have t_fieldLink_RX2_9_FourLodgers_Moment_kinds_I := hts (.fieldLink RX2 9 "FourLodgers$Moment" "kinds" "[I") (List.mem_of_getElem? (i := 1) rfl)
  have t_initialized_java_lang_System := hts (.initialized "java/lang/System") (List.mem_of_getElem? (i := 5) rfl)
  have t_methodLink_RX2_33_arraycopyName := hts (.methodLink RX2 33 arraycopyName) (List.mem_of_getElem? (i := 2) rfl)
  have t_native_arraycopyName := hts (.native arraycopyName) (List.mem_of_getElem? (i := 3) rfl)
  have t_static_arraycopyName := hts (.static arraycopyName) (List.mem_of_getElem? (i := 4) rfl)
  have i_0 : (0 : Int32).toInt = 0 := by decide
  have i_3 : (3 : Int32).toInt = 3 := by decide
  have i_4 : (4 : Int32).toInt = 4 := by decide
  have i_6 : (6 : Int32).toInt = 6 := by decide
  rw [fX2_copyFrom] at hE
  refine lv_aload_n hx hb dX2_copyFrom_0 rfl (lv_at hl 1 rfl) ?_
  refine va_get (D := (dC, dI)) (ci := 2) (v := .ref (ot 1)) (C := RX2) (T := TX2) (N := 11) hx hb hts in_X2 hown hK hP 7 rfl rfl 0 (by decide) t_fieldLink_RX2_9_FourLodgers_Moment_kinds_I (fun _ h9 => h9) rfl dX2_copyFrom_1 ?_
  refine lv_iconst (v := (0 : Int32)) hx hb dX2_copyFrom_4 (by decide) ?_
  refine lv_aload_n hx hb dX2_copyFrom_5 rfl (lv_at hl 0 rfl) ?_
  refine va_get (D := (dC, dI)) (ci := 2) (v := .ref (mo 1)) (C := RX2) (T := TX2) (N := 11) hx hb hts in_X2 hown hK hP 0 rfl rfl 0 (by decide) t_fieldLink_RX2_9_FourLodgers_Moment_kinds_I (fun _ h9 => h9) rfl dX2_copyFrom_6 ?_
  refine lv_iconst (v := (0 : Int32)) hx hb dX2_copyFrom_9 (by decide) ?_
  refine lv_iconst (v := (4 : Int32)) hx hb dX2_copyFrom_10 (by decide) ?_
  refine cp_full (n := 4) hx hb (hml.trans hl.1.symm) hown t_methodLink_RX2_33_arraycopyName t_native_arraycopyName t_static_arraycopyName t_initialized_java_lang_System hK hP hD hS 8 1 0 rfl rfl rfl (by decide) (by decide) (Nat.le_of_ble_eq_true rfl) (Nat.le_of_ble_eq_true rfl) dX2_copyFrom_11 (fun H locs hP hD hS => ?_)
  replace hP : va_P (dC, dI) vwCl ((kMo cI mo ot_kinds mo_illUntil mo_cells mo_sailedToday mo_today mo_hired mo_timesSailed mo_seenCount mo_seenLodger mo_seenDay mo_seenUp) ++ (kMo cI ot ot_kinds ot_illUntil ot_cells ot_sailedToday ot_today ot_hired ot_timesSailed ot_seenCount ot_seenLodger ot_seenDay ot_seenUp)) H := hP
  replace hD : va_D A ((kMo cI mo ot_kinds mo_illUntil mo_cells mo_sailedToday mo_today mo_hired mo_timesSailed mo_seenCount mo_seenLodger mo_seenDay mo_seenUp) ++ (kMo cI ot ot_kinds ot_illUntil ot_cells ot_sailedToday ot_today ot_hired ot_timesSailed ot_seenCount ot_seenLodger ot_seenDay ot_seenUp)) := hD
  refine lv_aload_n hx hb dX2_copyFrom_14 rfl (lv_at hl 1 rfl) ?_
  refine va_get (D := (dC, dI)) (ci := 2) (v := .ref (ot 2)) (C := RX2) (T := TX2) (N := 11) hx hb hts in_X2 hown hK hP 7 rfl rfl 1 (by decide) t_fieldLink_RX2_15_FourLodgers_Moment_illUntil_I (fun _ h9 => h9) rfl dX2_copyFrom_15 ?_
  refine lv_iconst (v := (0 : Int32)) hx hb dX2_copyFrom_18 (by decide) ?_
  refine lv_aload_n hx hb dX2_copyFrom_19 rfl (lv_at hl 0 rfl) ?_
  refine va_get (D := (dC, dI)) (ci := 2) (v := .ref (mo 2)) (C := RX2) (T := TX2) (N := 11) hx hb hts in_X2 hown hK hP 0 rfl rfl 1 (by decide) t_fieldLink_RX2_15_FourLodgers_Moment_illUntil_I (fun _ h9 => h9) rfl dX2_copyFrom_20 ?_
  refine lv_iconst (v := (0 : Int32)) hx hb dX2_copyFrom_23 (by decide) ?_
  refine lv_iconst (v := (4 : Int32)) hx hb dX2_copyFrom_24 (by decide) ?_
  refine cp_full (n := 4) hx hb (hml.trans hl.1.symm) hown t_methodLink_RX2_33_arraycopyName t_native_arraycopyName t_static_arraycopyName t_initialized_java_lang_System hK hP hD hS 9 2 0 rfl rfl rfl (by decide) (by decide) (Nat.le_of_ble_eq_true rfl) (Nat.le_of_ble_eq_true rfl) dX2_copyFrom_25 (fun H locs hP hD hS => ?_)
  replace hP : va_P (dC, dI) vwCl ((kMo cI mo ot_kinds ot_illUntil mo_cells mo_sailedToday mo_today mo_hired mo_timesSailed mo_seenCount mo_seenLodger mo_seenDay mo_seenUp) ++ (kMo cI ot ot_kinds ot_illUntil ot_cells ot_sailedToday ot_today ot_hired ot_timesSailed ot_seenCount ot_seenLodger ot_seenDay ot_seenUp)) H := hP
  replace hD : va_D A ((kMo cI mo ot_kinds ot_illUntil mo_cells mo_sailedToday mo_today mo_hired mo_timesSailed mo_seenCount mo_seenLodger mo_seenDay mo_seenUp) ++ (kMo cI ot ot_kinds ot_illUntil ot_cells ot_sailedToday ot_today ot_hired ot_timesSailed ot_seenCount ot_seenLodger ot_seenDay ot_seenUp)) := hD
  refine lv_aload_n hx hb dX2_copyFrom_28 rfl (lv_at hl 1 rfl) ?_
  refine va_get (D := (dC, dI)) (ci := 2) (v := .ref (ot 3)) (C := RX2) (T := TX2) (N := 11) hx hb hts in_X2 hown hK hP 7 rfl rfl 2 (by decide) t_fieldLink_RX2_18_FourLodgers_Moment_cells_I (fun _ h9 => h9) rfl dX2_copyFrom_29 ?_
  refine lv_iconst (v := (0 : Int32)) hx hb dX2_copyFrom_32 (by decide) ?_
  refine lv_aload_n hx hb dX2_copyFrom_33 rfl (lv_at hl 0 rfl) ?_
  refine va_get (D := (dC, dI)) (ci := 2) (v := .ref (mo 3)) (C := RX2) (T := TX2) (N := 11) hx hb hts in_X2 hown hK hP 0 rfl rfl 2 (by decide) t_fieldLink_RX2_18_FourLodgers_Moment_cells_I (fun _ h9 => h9) rfl dX2_copyFrom_34 ?_
  refine lv_iconst (v := (0 : Int32)) hx hb dX2_copyFrom_37 (by decide) ?_
  refine lv_iconst (v := (3 : Int32)) hx hb dX2_copyFrom_38 (by decide) ?_
  refine cp_full (n := 3) hx hb (hml.trans hl.1.symm) hown t_methodLink_RX2_33_arraycopyName t_native_arraycopyName t_static_arraycopyName t_initialized_java_lang_System hK hP hD hS 10 3 0 rfl rfl rfl (by decide) (by decide) (Nat.le_of_ble_eq_true rfl) (Nat.le_of_ble_eq_true rfl) dX2_copyFrom_39 (fun H locs hP hD hS => ?_)
  replace hP : va_P (dC, dI) vwCl ((kMo cI mo ot_kinds ot_illUntil ot_cells mo_sailedToday mo_today mo_hired mo_timesSailed mo_seenCount mo_seenLodger mo_seenDay mo_seenUp) ++ (kMo cI ot ot_kinds ot_illUntil ot_cells ot_sailedToday ot_today ot_hired ot_timesSailed ot_seenCount ot_seenLodger ot_seenDay ot_seenUp)) H := hP
  replace hD : va_D A ((kMo cI mo ot_kinds ot_illUntil ot_cells mo_sailedToday mo_today mo_hired mo_timesSailed mo_seenCount mo_seenLodger mo_seenDay mo_seenUp) ++ (kMo cI ot ot_kinds ot_illUntil ot_cells ot_sailedToday ot_today ot_hired ot_timesSailed ot_seenCount ot_seenLodger ot_seenDay ot_seenUp)) := hD
  refine lv_aload_n hx hb dX2_copyFrom_42 rfl (lv_at hl 1 rfl) ?_
  refine va_get (D := (dC, dI)) (ci := 2) (v := .ref (ot 4)) (C := RX2) (T := TX2) (N := 11) hx hb hts in_X2 hown hK hP 7 rfl rfl 8 (by decide) t_fieldLink_RX2_21_FourLodgers_Moment_seenLodger_I (fun _ h9 => h9) rfl dX2_copyFrom_43 ?_
  refine lv_iconst (v := (0 : Int32)) hx hb dX2_copyFrom_46 (by decide) ?_
  refine lv_aload_n hx hb dX2_copyFrom_47 rfl (lv_at hl 0 rfl) ?_
  refine va_get (D := (dC, dI)) (ci := 2) (v := .ref (mo 4)) (C := RX2) (T := TX2) (N := 11) hx hb hts in_X2 hown hK hP 0 rfl rfl 8 (by decide) t_fieldLink_RX2_21_FourLodgers_Moment_seenLodger_I (fun _ h9 => h9) rfl dX2_copyFrom_48 ?_
  refine lv_iconst (v := (0 : Int32)) hx hb dX2_copyFrom_51 (by decide) ?_
  refine lv_bipush (v := (6 : Int32)) hx hb dX2_copyFrom_52 (by decide) ?_
  refine cp_full (n := 6) hx hb (hml.trans hl.1.symm) hown t_methodLink_RX2_33_arraycopyName t_native_arraycopyName t_static_arraycopyName t_initialized_java_lang_System hK hP hD hS 11 4 0 rfl rfl rfl (by decide) (by decide) (Nat.le_of_ble_eq_true rfl) (Nat.le_of_ble_eq_true rfl) dX2_copyFrom_54 (fun H locs hP hD hS => ?_)
  replace hP : va_P (dC, dI) vwCl ((kMo cI mo ot_kinds ot_illUntil ot_cells mo_sailedToday mo_today mo_hired mo_timesSailed mo_seenCount ot_seenLodger mo_seenDay mo_seenUp) ++ (kMo cI ot ot_kinds ot_illUntil ot_cells ot_sailedToday ot_today ot_hired ot_timesSailed ot_seenCount ot_seenLodger ot_seenDay ot_seenUp)) H := hP
  replace hD : va_D A ((kMo cI mo ot_kinds ot_illUntil ot_cells mo_sailedToday mo_today mo_hired mo_timesSailed mo_seenCount ot_seenLodger mo_seenDay mo_seenUp) ++ (kMo cI ot ot_kinds ot_illUntil ot_cells ot_sailedToday ot_today ot_hired ot_timesSailed ot_seenCount ot_seenLodger ot_seenDay ot_seenUp)) := hD
  refine lv_aload_n hx hb dX2_copyFrom_57 rfl (lv_at hl 1 rfl) ?_
  refine va_get (D := (dC, dI)) (ci := 2) (v := .ref (ot 5)) (C := RX2) (T := TX2) (N := 11) hx hb hts in_X2 hown hK hP 7 rfl rfl 9 (by decide) t_fieldLink_RX2_24_FourLodgers_Moment_seenDay_I (fun _ h9 => h9) rfl dX2_copyFrom_58 ?_
  refine lv_iconst (v := (0 : Int32)) hx hb dX2_copyFrom_61 (by decide) ?_
  refine lv_aload_n hx hb dX2_copyFrom_62 rfl (lv_at hl 0 rfl) ?_
  refine va_get (D := (dC, dI)) (ci := 2) (v := .ref (mo 5)) (C := RX2) (T := TX2) (N := 11) hx hb hts in_X2 hown hK hP 0 rfl rfl 9 (by decide) t_fieldLink_RX2_24_FourLodgers_Moment_seenDay_I (fun _ h9 => h9) rfl dX2_copyFrom_63 ?_
  refine lv_iconst (v := (0 : Int32)) hx hb dX2_copyFrom_66 (by decide) ?_
  refine lv_bipush (v := (6 : Int32)) hx hb dX2_copyFrom_67 (by decide) ?_
  refine cp_full (n := 6) hx hb (hml.trans hl.1.symm) hown t_methodLink_RX2_33_arraycopyName t_native_arraycopyName t_static_arraycopyName t_initialized_java_lang_System hK hP hD hS 12 5 0 rfl rfl rfl (by decide) (by decide) (Nat.le_of_ble_eq_true rfl) (Nat.le_of_ble_eq_true rfl) dX2_copyFrom_69 (fun H locs hP hD hS => ?_)
  replace hP : va_P (dC, dI) vwCl ((kMo cI mo ot_kinds ot_illUntil ot_cells mo_sailedToday mo_today mo_hired mo_timesSailed mo_seenCount ot_seenLodger ot_seenDay mo_seenUp) ++ (kMo cI ot ot_kinds ot_illUntil ot_cells ot_sailedToday ot_today ot_hired ot_timesSailed ot_seenCount ot_seenLodger ot_seenDay ot_seenUp)) H := hP
  replace hD : va_D A ((kMo cI mo ot_kinds ot_illUntil ot_cells mo_sailedToday mo_today mo_hired mo_timesSailed mo_seenCount ot_seenLodger ot_seenDay mo_seenUp) ++ (kMo cI ot ot_kinds ot_illUntil ot_cells ot_sailedToday ot_today ot_hired ot_timesSailed ot_seenCount ot_seenLodger ot_seenDay ot_seenUp)) := hD
  refine lv_aload_n hx hb dX2_copyFrom_72 rfl (lv_at hl 1 rfl) ?_
  refine va_get (D := (dC, dI)) (ci := 2) (v := .ref (ot 6)) (C := RX2) (T := TX2) (N := 11) hx hb hts in_X2 hown hK hP 7 rfl rfl 10 (by decide) t_fieldLink_RX2_27_FourLodgers_Moment_seenUp_I (fun _ h9 => h9) rfl dX2_copyFrom_73 ?_
  refine lv_iconst (v := (0 : Int32)) hx hb dX2_copyFrom_76 (by decide) ?_
  refine lv_aload_n hx hb dX2_copyFrom_77 rfl (lv_at hl 0 rfl) ?_
  refine va_get (D := (dC, dI)) (ci := 2) (v := .ref (mo 6)) (C := RX2) (T := TX2) (N := 11) hx hb hts in_X2 hown hK hP 0 rfl rfl 10 (by decide) t_fieldLink_RX2_27_FourLodgers_Moment_seenUp_I (fun _ h9 => h9) rfl dX2_copyFrom_78 ?_
  refine lv_iconst (v := (0 : Int32)) hx hb dX2_copyFrom_81 (by decide) ?_
  refine lv_bipush (v := (6 : Int32)) hx hb dX2_copyFrom_82 (by decide) ?_
  refine cp_full (n := 6) hx hb (hml.trans hl.1.symm) hown t_methodLink_RX2_33_arraycopyName t_native_arraycopyName t_static_arraycopyName t_initialized_java_lang_System hK hP hD hS 13 6 0 rfl rfl rfl (by decide) (by decide) (Nat.le_of_ble_eq_true rfl) (Nat.le_of_ble_eq_true rfl) dX2_copyFrom_84 (fun H locs hP hD hS => ?_)
  replace hP : va_P (dC, dI) vwCl ((kMo cI mo ot_kinds ot_illUntil ot_cells mo_sailedToday mo_today mo_hired mo_timesSailed mo_seenCount ot_seenLodger ot_seenDay ot_seenUp) ++ (kMo cI ot ot_kinds ot_illUntil ot_cells ot_sailedToday ot_today ot_hired ot_timesSailed ot_seenCount ot_seenLodger ot_seenDay ot_seenUp)) H := hP
  replace hD : va_D A ((kMo cI mo ot_kinds ot_illUntil ot_cells mo_sailedToday mo_today mo_hired mo_timesSailed mo_seenCount ot_seenLodger ot_seenDay ot_seenUp) ++ (kMo cI ot ot_kinds ot_illUntil ot_cells ot_sailedToday ot_today ot_hired ot_timesSailed ot_seenCount ot_seenLodger ot_seenDay ot_seenUp)) := hD
  refine lv_aload_n hx hb dX2_copyFrom_87 rfl (lv_at hl 0 rfl) ?_
  refine lv_aload_n hx hb dX2_copyFrom_88 rfl (lv_at hl 1 rfl) ?_
  refine va_get (D := (dC, dI)) (ci := 2) (v := .int ot_sailedToday) (C := RX2) (T := TX2) (N := 11) hx hb hts in_X2 hown hK hP 7 rfl rfl 3 (by decide) t_fieldLink_RX2_45_FourLodgers_Moment_sailedToday_I (fun _ h9 => h9) rfl dX2_copyFrom_89 ?_
  refine va_put (D := (dC, dI)) (ci := 2) (v := .int ot_sailedToday) (ty := .int) (C := RX2) (T := TX2) (N := 11) hx hb hts in_X2 tyX2 tyX2_ok nmX2 hown hK hP hD hS 0 rfl rfl 3 (by decide) t_fieldLink_RX2_45_FourLodgers_Moment_sailedToday_I (fun _ h9 => h9) rfl (by decide +kernel) rfl rfl (Nat.le_of_ble_eq_true rfl) dX2_copyFrom_92 (fun H locs hP hD hS => ?_)
  replace hP : va_P (dC, dI) vwCl ((kMo cI mo ot_kinds ot_illUntil ot_cells ot_sailedToday mo_today mo_hired mo_timesSailed mo_seenCount ot_seenLodger ot_seenDay ot_seenUp) ++ (kMo cI ot ot_kinds ot_illUntil ot_cells ot_sailedToday ot_today ot_hired ot_timesSailed ot_seenCount ot_seenLodger ot_seenDay ot_seenUp)) H := hP
  replace hD : va_D A ((kMo cI mo ot_kinds ot_illUntil ot_cells ot_sailedToday mo_today mo_hired mo_timesSailed mo_seenCount ot_seenLodger ot_seenDay ot_seenUp) ++ (kMo cI ot ot_kinds ot_illUntil ot_cells ot_sailedToday ot_today ot_hired ot_timesSailed ot_seenCount ot_seenLodger ot_seenDay ot_seenUp)) := hD
  refine lv_aload_n hx hb dX2_copyFrom_95 rfl (lv_at hl 0 rfl) ?_
  refine lv_aload_n hx hb dX2_copyFrom_96 rfl (lv_at hl 1 rfl) ?_
  refine va_get (D := (dC, dI)) (ci := 2) (v := .int ot_today) (C := RX2) (T := TX2) (N := 11) hx hb hts in_X2 hown hK hP 7 rfl rfl 4 (by decide) t_fieldLink_RX2_49_FourLodgers_Moment_today_I (fun _ h9 => h9) rfl dX2_copyFrom_97 ?_
  refine va_put (D := (dC, dI)) (ci := 2) (v := .int ot_today) (ty := .int) (C := RX2) (T := TX2) (N := 11) hx hb hts in_X2 tyX2 tyX2_ok nmX2 hown hK hP hD hS 0 rfl rfl 4 (by decide) t_fieldLink_RX2_49_FourLodgers_Moment_today_I (fun _ h9 => h9) rfl (by decide +kernel) rfl rfl (Nat.le_of_ble_eq_true rfl) dX2_copyFrom_100 (fun H locs hP hD hS => ?_)
  replace hP : va_P (dC, dI) vwCl ((kMo cI mo ot_kinds ot_illUntil ot_cells ot_sailedToday ot_today mo_hired mo_timesSailed mo_seenCount ot_seenLodger ot_seenDay ot_seenUp) ++ (kMo cI ot ot_kinds ot_illUntil ot_cells ot_sailedToday ot_today ot_hired ot_timesSailed ot_seenCount ot_seenLodger ot_seenDay ot_seenUp)) H := hP
  replace hD : va_D A ((kMo cI mo ot_kinds ot_illUntil ot_cells ot_sailedToday ot_today mo_hired mo_timesSailed mo_seenCount ot_seenLodger ot_seenDay ot_seenUp) ++ (kMo cI ot ot_kinds ot_illUntil ot_cells ot_sailedToday ot_today ot_hired ot_timesSailed ot_seenCount ot_seenLodger ot_seenDay ot_seenUp)) := hD
  refine lv_aload_n hx hb dX2_copyFrom_103 rfl (lv_at hl 0 rfl) ?_
  refine lv_aload_n hx hb dX2_copyFrom_104 rfl (lv_at hl 1 rfl) ?_
  refine va_get (D := (dC, dI)) (ci := 2) (v := .int ot_hired) (C := RX2) (T := TX2) (N := 11) hx hb hts in_X2 hown hK hP 7 rfl rfl 5 (by decide) t_fieldLink_RX2_52_FourLodgers_Moment_hired_Z (fun _ h9 => h9) rfl dX2_copyFrom_105 ?_
  refine va_put (D := (dC, dI)) (ci := 2) (v := .int ot_hired) (ty := .boolean) (C := RX2) (T := TX2) (N := 11) hx hb hts in_X2 tyX2 tyX2_ok nmX2 hown hK hP hD hS 0 rfl rfl 5 (by decide) t_fieldLink_RX2_52_FourLodgers_Moment_hired_Z (fun _ h9 => h9) rfl (by decide +kernel) (isB.n p_1) (isB.f p_1) (Nat.le_of_ble_eq_true rfl) dX2_copyFrom_108 (fun H locs hP hD hS => ?_)
  replace hP : va_P (dC, dI) vwCl ((kMo cI mo ot_kinds ot_illUntil ot_cells ot_sailedToday ot_today ot_hired mo_timesSailed mo_seenCount ot_seenLodger ot_seenDay ot_seenUp) ++ (kMo cI ot ot_kinds ot_illUntil ot_cells ot_sailedToday ot_today ot_hired ot_timesSailed ot_seenCount ot_seenLodger ot_seenDay ot_seenUp)) H := hP
  replace hD : va_D A ((kMo cI mo ot_kinds ot_illUntil ot_cells ot_sailedToday ot_today ot_hired mo_timesSailed mo_seenCount ot_seenLodger ot_seenDay ot_seenUp) ++ (kMo cI ot ot_kinds ot_illUntil ot_cells ot_sailedToday ot_today ot_hired ot_timesSailed ot_seenCount ot_seenLodger ot_seenDay ot_seenUp)) := hD
  refine lv_aload_n hx hb dX2_copyFrom_111 rfl (lv_at hl 0 rfl) ?_
  refine lv_aload_n hx hb dX2_copyFrom_112 rfl (lv_at hl 1 rfl) ?_
  refine va_get (D := (dC, dI)) (ci := 2) (v := .int ot_timesSailed) (C := RX2) (T := TX2) (N := 11) hx hb hts in_X2 hown hK hP 7 rfl rfl 6 (by decide) t_fieldLink_RX2_56_FourLodgers_Moment_timesSailed_I (fun _ h9 => h9) rfl dX2_copyFrom_113 ?_
  refine va_put (D := (dC, dI)) (ci := 2) (v := .int ot_timesSailed) (ty := .int) (C := RX2) (T := TX2) (N := 11) hx hb hts in_X2 tyX2 tyX2_ok nmX2 hown hK hP hD hS 0 rfl rfl 6 (by decide) t_fieldLink_RX2_56_FourLodgers_Moment_timesSailed_I (fun _ h9 => h9) rfl (by decide +kernel) rfl rfl (Nat.le_of_ble_eq_true rfl) dX2_copyFrom_116 (fun H locs hP hD hS => ?_)
  replace hP : va_P (dC, dI) vwCl ((kMo cI mo ot_kinds ot_illUntil ot_cells ot_sailedToday ot_today ot_hired ot_timesSailed mo_seenCount ot_seenLodger ot_seenDay ot_seenUp) ++ (kMo cI ot ot_kinds ot_illUntil ot_cells ot_sailedToday ot_today ot_hired ot_timesSailed ot_seenCount ot_seenLodger ot_seenDay ot_seenUp)) H := hP
  replace hD : va_D A ((kMo cI mo ot_kinds ot_illUntil ot_cells ot_sailedToday ot_today ot_hired ot_timesSailed mo_seenCount ot_seenLodger ot_seenDay ot_seenUp) ++ (kMo cI ot ot_kinds ot_illUntil ot_cells ot_sailedToday ot_today ot_hired ot_timesSailed ot_seenCount ot_seenLodger ot_seenDay ot_seenUp)) := hD
  refine lv_aload_n hx hb dX2_copyFrom_119 rfl (lv_at hl 0 rfl) ?_
  refine lv_aload_n hx hb dX2_copyFrom_120 rfl (lv_at hl 1 rfl) ?_
  refine va_get (D := (dC, dI)) (ci := 2) (v := .int ot_seenCount) (C := RX2) (T := TX2) (N := 11) hx hb hts in_X2 hown hK hP 7 rfl rfl 7 (by decide) t_fieldLink_RX2_59_FourLodgers_Moment_seenCount_I (fun _ h9 => h9) rfl dX2_copyFrom_121 ?_
  refine va_put (D := (dC, dI)) (ci := 2) (v := .int ot_seenCount) (ty := .int) (C := RX2) (T := TX2) (N := 11) hx hb hts in_X2 tyX2 tyX2_ok nmX2 hown hK hP hD hS 0 rfl rfl 7 (by decide) t_fieldLink_RX2_59_FourLodgers_Moment_seenCount_I (fun _ h9 => h9) rfl (by decide +kernel) rfl rfl (Nat.le_of_ble_eq_true rfl) dX2_copyFrom_124 (fun H locs hP hD hS => ?_)
  replace hP : va_P (dC, dI) vwCl ((kMo cI mo ot_kinds ot_illUntil ot_cells ot_sailedToday ot_today ot_hired ot_timesSailed ot_seenCount ot_seenLodger ot_seenDay ot_seenUp) ++ (kMo cI ot ot_kinds ot_illUntil ot_cells ot_sailedToday ot_today ot_hired ot_timesSailed ot_seenCount ot_seenLodger ot_seenDay ot_seenUp)) H := hP
  replace hD : va_D A ((kMo cI mo ot_kinds ot_illUntil ot_cells ot_sailedToday ot_today ot_hired ot_timesSailed ot_seenCount ot_seenLodger ot_seenDay ot_seenUp) ++ (kMo cI ot ot_kinds ot_illUntil ot_cells ot_sailedToday ot_today ot_hired ot_timesSailed ot_seenCount ot_seenLodger ot_seenDay ot_seenUp)) := hD
  subst hE
  rw [← hQ]
  exact W.vret hx hb hr (fun t ht hW => ⟨⟨(), rfl, trivial, by rw [ht]; exact hP, va_K.moved hW.alike hK, hD⟩, hS.F ht⟩) hS.2.2 dX2_copyFrom_127
def fX2_keepSeen (mo_seenCount : Int32) (mo_seenLodger : Nat → Int32) (mo_seenDay : Nat → Int32) (mo_seenUp : Nat → Int32) (lodger : Int32) (day_ : Int32) (up : Int32) : Int32 × Int32 × (Nat → Int32) × (Nat → Int32) × (Nat → Int32) := (if mo_seenCount < (6 : Int32) then ((1 : Int32), (mo_seenCount + (1 : Int32)), (upd mo_seenLodger mo_seenCount.toNatClampNeg lodger), (upd mo_seenDay mo_seenCount.toNatClampNeg day_), (upd mo_seenUp mo_seenCount.toNatClampNeg (fX5_asBit up))) else ((0 : Int32), mo_seenCount, mo_seenLodger, mo_seenDay, mo_seenUp))
set_option maxHeartbeats 4000000 in
set_option maxRecDepth 100000 in
theorem kX2_keepSeen (l : Launch) (dC : Nat → ClassId) (dI : Nat → Nat → Nat) (cI cJ : ClassId) (sz : Nat) (mo : Nat → Nat) (mo_kinds : Nat → Int32) (mo_illUntil : Nat → Int32) (mo_cells : Nat → Int32) (mo_sailedToday : Int32) (mo_today : Int32) (mo_hired : Int32) (mo_timesSailed : Int32) (mo_seenCount : Int32) (mo_seenLodger : Nat → Int32) (mo_seenDay : Nat → Int32) (mo_seenUp : Nat → Int32) (lodger : Int32) (day_ : Int32) (up : Int32) (p_1 : 0 ≤ mo_seenCount.toInt) : Met l yX2_keepSeen wsX2_keepSeen ({ frames := 1, cells := 0, slots := 0, locals := 20 } : Room) (gW (dC, dI) cI cJ sz (kMo cI mo mo_kinds mo_illUntil mo_cells mo_sailedToday mo_today mo_hired mo_timesSailed mo_seenCount mo_seenLodger mo_seenDay mo_seenUp) ([.ref (mo 0), .int lodger, .int day_, .int up] : List Value)) (va_Qi (fun (r : Int32) (_ : Unit) => r = ((fX2_keepSeen mo_seenCount mo_seenLodger mo_seenDay mo_seenUp lodger day_ up).1) ∧ isB r) (fun u : Unit => gB (dC, dI) cI cJ (va_A (kMo cI mo mo_kinds mo_illUntil mo_cells mo_sailedToday mo_today mo_hired mo_timesSailed mo_seenCount mo_seenLodger mo_seenDay mo_seenUp) sz) (kMo cI mo mo_kinds mo_illUntil mo_cells mo_sailedToday mo_today mo_hired mo_timesSailed ((fX2_keepSeen mo_seenCount mo_seenLodger mo_seenDay mo_seenUp lodger day_ up).2.1) ((fX2_keepSeen mo_seenCount mo_seenLodger mo_seenDay mo_seenUp lodger day_ up).2.2.1) ((fX2_keepSeen mo_seenCount mo_seenLodger mo_seenDay mo_seenUp lodger day_ up).2.2.2.1) ((fX2_keepSeen mo_seenCount mo_seenLodger mo_seenDay mo_seenUp lodger day_ up).2.2.2.2))) (va_A (kMo cI mo mo_kinds mo_illUntil mo_cells mo_sailedToday mo_today mo_hired mo_timesSailed mo_seenCount mo_seenLodger mo_seenDay mo_seenUp) sz)) 0 0 (va_A (kMo cI mo mo_kinds mo_illUntil mo_cells mo_sailedToday mo_today mo_hired mo_timesSailed mo_seenCount mo_seenLodger mo_seenDay mo_seenUp) sz) := by
  refine Met.ofW (cc := cX2_keepSeen) (maxL := 4) (ret := (some .boolean)) (by decide) rfl ?_
  intro p e s m args below meth c s₁ B hml hv
  obtain ⟨rfl, hsz, hP, hK, hD0, hst⟩ := hv
  have hx := B.exec
  have hb := B.bytes
  have hr := B.returns
  have hts := atoms_spec (ws := wsX2_keepSeen) B.pre
  have hown : s.vm.findClass RX2 = some m.cls := findClass_of_methodNamed B.named
  have hlocks := B.notSynchronized
  subst hsz
  have hD := hD0.self (sz := s.heap.size)
  generalize hAe : va_A (kMo cI mo mo_kinds mo_illUntil mo_cells mo_sailedToday mo_today mo_hired mo_timesSailed mo_seenCount mo_seenLodger mo_seenDay mo_seenUp) s.heap.size = A at hD hst ⊢
  have hA : ∀ q : Nat, s.heap.size ≤ q → A q := fun q h => by rw [← hAe]; exact Or.inr h
  have hS : va_S A s.heap s.heap [] := va_S.rf
  generalize hE : (fX2_keepSeen mo_seenCount mo_seenLodger mo_seenDay mo_seenUp lodger day_ up) = RES
  generalize hQ : MQ below (va_Qi (fun (r : Int32) (_ : Unit) => r = (RES.1) ∧ isB r) (fun u : Unit => gB (dC, dI) cI cJ A (kMo cI mo mo_kinds mo_illUntil mo_cells mo_sailedToday mo_today mo_hired mo_timesSailed (RES.2.1) (RES.2.2.1) (RES.2.2.2.1) (RES.2.2.2.2))) A) ([.ref (mo 0), .int lodger, .int day_, .int up] : List Value).toArray s 0 0 A = Q
  have hl := lv_entry ([.ref (mo 0), .int lodger, .int day_, .int up] : List Value) (n := 4) (Nat.le_of_ble_eq_true rfl)
  rw [lg_entry_eq]
  generalize (lg_sl ([.ref (mo 0), .int lodger, .int day_, .int up] : List Value) ++ List.replicate (4 - (lg_sl ([.ref (mo 0), .int lodger, .int day_, .int up] : List Value)).length) Slot.unset).toArray = ls at hl ⊢
  have hl : lv_has ls 4 [(0, .ref (mo 0)), (1, .int lodger), (2, .int day_), (3, .int up)] := hl
  have in_X2 : ∀ w ∈ u_ws RX2 TX2 11, w ∈ wsX2_keepSeen := fun _ h => List.mem_cons_of_mem _ (List.mem_append_right _ h)
  have t_fieldLink_RX2_21_FourLodgers_Moment_seenLodger_I := hts (.fieldLink RX2 21 "FourLodgers$Moment" "seenLodger" "[I") (List.mem_of_getElem? (i := 2) rfl)
  have t_fieldLink_RX2_24_FourLodgers_Moment_seenDay_I := hts (.fieldLink RX2 24 "FourLodgers$Moment" "seenDay" "[I") (List.mem_of_getElem? (i := 3) rfl)
  have t_fieldLink_RX2_27_FourLodgers_Moment_seenUp_I := hts (.fieldLink RX2 27 "FourLodgers$Moment" "seenUp" "[I") (List.mem_of_getElem? (i := 4) rfl)
  have t_fieldLink_RX2_59_FourLodgers_Moment_seenCount_I := hts (.fieldLink RX2 59 "FourLodgers$Moment" "seenCount" "I") (List.mem_of_getElem? (i := 1) rfl)
  have t_initialized_RX5 := hts (.initialized RX5) (List.mem_of_getElem? (i := 6) rfl)
  have t_static_yX5_asBit := hts (.static yX5_asBit) (List.mem_of_getElem? (i := 5) rfl)
  have i_0 : (0 : Int32).toInt = 0 := by decide
  have i_1 : (1 : Int32).toInt = 1 := by decide
  have i_6 : (6 : Int32).toInt = 6 := by decide
  obtain ⟨⟨t1, z1, b1⟩, ⟨t2, z2, b2⟩, ⟨aK, aV, k1, k2⟩, z3, n1⟩ := id hst
  rw [fX2_keepSeen] at hE
  refine lv_aload_n hx hb dX2_keepSeen_0 rfl (lv_at hl 0 rfl) ?_
  refine va_get (D := (dC, dI)) (ci := 2) (v := .int mo_seenCount) (C := RX2) (T := TX2) (N := 11) hx hb hts in_X2 hown hK hP 0 rfl rfl 7 (by decide) t_fieldLink_RX2_59_FourLodgers_Moment_seenCount_I (fun _ h9 => h9) rfl dX2_keepSeen_1 ?_
  refine lv_bipush (v := (6 : Int32)) hx hb dX2_keepSeen_4 (by decide) ?_
  refine lv_icmp_lt (tgt := 11) hx hb dX2_keepSeen_6 (by decide) (fun c_6 => ?_) (fun c_6 => ?_)
  · have e_6 := Int32.lt_iff_toInt_lt.mp c_6
    rw [if_pos c_6] at hE
    refine lv_aload_n hx hb dX2_keepSeen_11 rfl (lv_at hl 0 rfl) ?_
    refine va_get (D := (dC, dI)) (ci := 2) (v := .ref (mo 4)) (C := RX2) (T := TX2) (N := 11) hx hb hts in_X2 hown hK hP 0 rfl rfl 8 (by decide) t_fieldLink_RX2_21_FourLodgers_Moment_seenLodger_I (fun _ h9 => h9) rfl dX2_keepSeen_12 ?_
    refine lv_aload_n hx hb dX2_keepSeen_15 rfl (lv_at hl 0 rfl) ?_
    refine va_get (D := (dC, dI)) (ci := 2) (v := .int mo_seenCount) (C := RX2) (T := TX2) (N := 11) hx hb hts in_X2 hown hK hP 0 rfl rfl 7 (by decide) t_fieldLink_RX2_59_FourLodgers_Moment_seenCount_I (fun _ h9 => h9) rfl dX2_keepSeen_16 ?_
    refine lv_iload_n hx hb dX2_keepSeen_19 rfl (lv_at hl 1 rfl) ?_
    refine va_iast hx hb hK hP hD hS 4 0 rfl rfl (i := mo_seenCount) (by first | assumption | exact vp_in_iff.mpr ⟨by omega, by omega⟩ | omega | decide) dX2_keepSeen_20 (fun H locs hP hD hS => ?_)
    replace hP : va_P (dC, dI) vwCl (kMo cI mo mo_kinds mo_illUntil mo_cells mo_sailedToday mo_today mo_hired mo_timesSailed mo_seenCount (upd mo_seenLodger mo_seenCount.toNatClampNeg lodger) mo_seenDay mo_seenUp) H := hP
    replace hD : va_D A (kMo cI mo mo_kinds mo_illUntil mo_cells mo_sailedToday mo_today mo_hired mo_timesSailed mo_seenCount (upd mo_seenLodger mo_seenCount.toNatClampNeg lodger) mo_seenDay mo_seenUp) := hD
    refine lv_aload_n hx hb dX2_keepSeen_21 rfl (lv_at hl 0 rfl) ?_
    refine va_get (D := (dC, dI)) (ci := 2) (v := .ref (mo 5)) (C := RX2) (T := TX2) (N := 11) hx hb hts in_X2 hown hK hP 0 rfl rfl 9 (by decide) t_fieldLink_RX2_24_FourLodgers_Moment_seenDay_I (fun _ h9 => h9) rfl dX2_keepSeen_22 ?_
    refine lv_aload_n hx hb dX2_keepSeen_25 rfl (lv_at hl 0 rfl) ?_
    refine va_get (D := (dC, dI)) (ci := 2) (v := .int mo_seenCount) (C := RX2) (T := TX2) (N := 11) hx hb hts in_X2 hown hK hP 0 rfl rfl 7 (by decide) t_fieldLink_RX2_59_FourLodgers_Moment_seenCount_I (fun _ h9 => h9) rfl dX2_keepSeen_26 ?_
    refine lv_iload_n hx hb dX2_keepSeen_29 rfl (lv_at hl 2 rfl) ?_
    refine va_iast hx hb hK hP hD hS 5 0 rfl rfl (i := mo_seenCount) (by first | assumption | exact vp_in_iff.mpr ⟨by omega, by omega⟩ | omega | decide) dX2_keepSeen_30 (fun H locs hP hD hS => ?_)
    replace hP : va_P (dC, dI) vwCl (kMo cI mo mo_kinds mo_illUntil mo_cells mo_sailedToday mo_today mo_hired mo_timesSailed mo_seenCount (upd mo_seenLodger mo_seenCount.toNatClampNeg lodger) (upd mo_seenDay mo_seenCount.toNatClampNeg day_) mo_seenUp) H := hP
    replace hD : va_D A (kMo cI mo mo_kinds mo_illUntil mo_cells mo_sailedToday mo_today mo_hired mo_timesSailed mo_seenCount (upd mo_seenLodger mo_seenCount.toNatClampNeg lodger) (upd mo_seenDay mo_seenCount.toNatClampNeg day_) mo_seenUp) := hD
    refine lv_aload_n hx hb dX2_keepSeen_31 rfl (lv_at hl 0 rfl) ?_
    refine va_get (D := (dC, dI)) (ci := 2) (v := .ref (mo 6)) (C := RX2) (T := TX2) (N := 11) hx hb hts in_X2 hown hK hP 0 rfl rfl 10 (by decide) t_fieldLink_RX2_27_FourLodgers_Moment_seenUp_I (fun _ h9 => h9) rfl dX2_keepSeen_32 ?_
    refine lv_aload_n hx hb dX2_keepSeen_35 rfl (lv_at hl 0 rfl) ?_
    refine va_get (D := (dC, dI)) (ci := 2) (v := .int mo_seenCount) (C := RX2) (T := TX2) (N := 11) hx hb hts in_X2 hown hK hP 0 rfl rfl 7 (by decide) t_fieldLink_RX2_59_FourLodgers_Moment_seenCount_I (fun _ h9 => h9) rfl dX2_keepSeen_36 ?_
    refine lv_iload_n hx hb dX2_keepSeen_39 rfl (lv_at hl 3 rfl) ?_
    refine rcNi (As := [.int up]) (rest := [.int mo_seenCount, .ref (mo 6)]) ⟨hx, hb, hml, hown, hts⟩ (kX5_asBit l dC dI cI cJ up) ⟨va_cnB 1 hts gX2_keepSeen_X5_asBit_n83 rfl rfl rfl n1 t_initialized_RX5 (by decide +kernel) ⟨Nat.le_of_ble_eq_true rfl, Nat.le_of_ble_eq_true rfl⟩, t_static_yX5_asBit, trivial⟩ hK hP hst hS [] rfl rfl hl.1 rfl (Nat.le_of_ble_eq_true rfl) dX2_keepSeen_40 ⟨Nat.zero_le _, Nat.zero_le _⟩ (fun r w_1 => ?_)
    subst w_1
    refine va_iast hx hb hK hP hD hS 6 0 rfl rfl (i := mo_seenCount) (by first | assumption | exact vp_in_iff.mpr ⟨by omega, by omega⟩ | omega | decide) dX2_keepSeen_43 (fun H locs hP hD hS => ?_)
    replace hP : va_P (dC, dI) vwCl (kMo cI mo mo_kinds mo_illUntil mo_cells mo_sailedToday mo_today mo_hired mo_timesSailed mo_seenCount (upd mo_seenLodger mo_seenCount.toNatClampNeg lodger) (upd mo_seenDay mo_seenCount.toNatClampNeg day_) (upd mo_seenUp mo_seenCount.toNatClampNeg (fX5_asBit up))) H := hP
    replace hD : va_D A (kMo cI mo mo_kinds mo_illUntil mo_cells mo_sailedToday mo_today mo_hired mo_timesSailed mo_seenCount (upd mo_seenLodger mo_seenCount.toNatClampNeg lodger) (upd mo_seenDay mo_seenCount.toNatClampNeg day_) (upd mo_seenUp mo_seenCount.toNatClampNeg (fX5_asBit up))) := hD
    refine lv_aload_n hx hb dX2_keepSeen_44 rfl (lv_at hl 0 rfl) ?_
    refine lv_dup hx hb dX2_keepSeen_45 rfl ?_
    refine va_get (D := (dC, dI)) (ci := 2) (v := .int mo_seenCount) (C := RX2) (T := TX2) (N := 11) hx hb hts in_X2 hown hK hP 0 rfl rfl 7 (by decide) t_fieldLink_RX2_59_FourLodgers_Moment_seenCount_I (fun _ h9 => h9) rfl dX2_keepSeen_46 ?_
    refine lv_iconst (v := (1 : Int32)) hx hb dX2_keepSeen_49 (by decide) ?_
    refine lv_iadd hx hb dX2_keepSeen_50 ?_
    refine va_put (D := (dC, dI)) (ci := 2) (v := .int (mo_seenCount + (1 : Int32))) (ty := .int) (C := RX2) (T := TX2) (N := 11) hx hb hts in_X2 tyX2 tyX2_ok nmX2 hown hK hP hD hS 0 rfl rfl 7 (by decide) t_fieldLink_RX2_59_FourLodgers_Moment_seenCount_I (fun _ h9 => h9) rfl (by decide +kernel) rfl rfl (Nat.le_of_ble_eq_true rfl) dX2_keepSeen_51 (fun H locs hP hD hS => ?_)
    replace hP : va_P (dC, dI) vwCl (kMo cI mo mo_kinds mo_illUntil mo_cells mo_sailedToday mo_today mo_hired mo_timesSailed (mo_seenCount + (1 : Int32)) (upd mo_seenLodger mo_seenCount.toNatClampNeg lodger) (upd mo_seenDay mo_seenCount.toNatClampNeg day_) (upd mo_seenUp mo_seenCount.toNatClampNeg (fX5_asBit up))) H := hP
    replace hD : va_D A (kMo cI mo mo_kinds mo_illUntil mo_cells mo_sailedToday mo_today mo_hired mo_timesSailed (mo_seenCount + (1 : Int32)) (upd mo_seenLodger mo_seenCount.toNatClampNeg lodger) (upd mo_seenDay mo_seenCount.toNatClampNeg day_) (upd mo_seenUp mo_seenCount.toNatClampNeg (fX5_asBit up))) := hD
    refine lv_iconst (v := (1 : Int32)) hx hb dX2_keepSeen_54 (by decide) ?_
    subst hE
    rw [← hQ]
    exact W.zret hx hb hr (isB.n nb_1) (fun t ht hW => ⟨⟨_, (), rfl, ⟨rfl, nb_1⟩, by rw [ht]; exact hP, va_K.moved hW.alike hK, hD⟩, hS.F ht⟩) hS.2.2 dX2_keepSeen_55
  · have e_6 := mt Int32.lt_iff_toInt_lt.mpr c_6
    rw [if_neg c_6] at hE
    refine lv_iconst (v := (0 : Int32)) hx hb dX2_keepSeen_9 (by decide) ?_
    subst hE
    rw [← hQ]
    exact W.zret hx hb hr (isB.n nb_0) (fun t ht hW => ⟨⟨_, (), rfl, ⟨rfl, nb_0⟩, by rw [ht]; exact hP, va_K.moved hW.alike hK, hD⟩, hS.F ht⟩) hS.2.2 dX2_keepSeen_10
