def fX0_hasRock (ch_rocks : Int64) (cell : Int32) : Int32 := (if ((ch_rocks >>> (cell.toInt64 &&& 63)) &&& (1 : Int64)) = (0 : Int64) then (0 : Int32) else (1 : Int32))
set_option maxHeartbeats 4000000 in
set_option maxRecDepth 100000 in
theorem kX0_hasRock (l : Launch) (dC : Nat → ClassId) (dI : Nat → Nat → Nat) (cI cJ : ClassId) (ch : Nat → Nat) (ch_drawn : Int32) (ch_rocks : Int64) (ch_rockCount : Int32) (ch_shipCount : Int32) (cell : Int32) : Met l yX0_hasRock wsX0_hasRock ({ frames := 0, cells := 0, slots := 0, locals := 0 } : Room) (gR (dC, dI) cI cJ (kCh ch ch_drawn ch_rocks ch_rockCount ch_shipCount) ([.ref (ch 0), .int cell] : List Value)) (vp_Si (fun r => r = (fX0_hasRock ch_rocks cell) ∧ isB r)) 0 0 (fun _ => False) := by
  refine Met.ofW (cc := cX0_hasRock) (maxL := 2) (ret := (some .boolean)) (by decide) rfl ?_
  intro p e s m args below meth c s₁ B hml hv
  obtain ⟨rfl, hP, hK, hst⟩ := hv
  have hx := B.exec
  have hb := B.bytes
  have hr := B.returns
  have hts := atoms_spec (ws := wsX0_hasRock) B.pre
  have hown : s.vm.findClass RX0 = some m.cls := findClass_of_methodNamed B.named
  have hlocks := B.notSynchronized
  have hS : va_S (fun _ => False) s.heap s.heap [] := va_S.rf
  generalize hE : (fX0_hasRock ch_rocks cell) = RES
  generalize hQ : MQ below (vp_Si (fun r => r = RES ∧ isB r)) ([.ref (ch 0), .int cell] : List Value).toArray s 0 0 (fun _ => False) = Q
  have hl := lv_entry ([.ref (ch 0), .int cell] : List Value) (n := 2) (Nat.le_of_ble_eq_true rfl)
  rw [lg_entry_eq]
  generalize (lg_sl ([.ref (ch 0), .int cell] : List Value) ++ List.replicate (2 - (lg_sl ([.ref (ch 0), .int cell] : List Value)).length) Slot.unset).toArray = ls at hl ⊢
  have hl : lv_has ls 2 [(0, .ref (ch 0)), (1, .int cell)] := hl
  have in_X0 : ∀ w ∈ u_ws RX0 TX0 4, w ∈ wsX0_hasRock := fun _ h => List.mem_cons_of_mem _ (List.mem_append_right _ h)
  have t_fieldLink_RX0_15_FourLodgers_Chart_rocks_J := hts (.fieldLink RX0 15 "FourLodgers$Chart" "rocks" "J") (List.mem_of_getElem? (i := 1) rfl)
  have i_0 : (0 : Int32).toInt = 0 := by decide
  have i_1 : (1 : Int32).toInt = 1 := by decide
  rw [fX0_hasRock] at hE
  refine lv_aload_n hx hb dX0_hasRock_0 rfl (lv_at hl 0 rfl) ?_
  refine va_get (D := (dC, dI)) (ci := 0) (v := .long ch_rocks) (C := RX0) (T := TX0) (N := 4) hx hb hts in_X0 hown hK hP 0 rfl rfl 1 (by decide) t_fieldLink_RX0_15_FourLodgers_Chart_rocks_J (fun _ h9 => h9) rfl dX0_hasRock_1 ?_
  refine lv_iload_n hx hb dX0_hasRock_4 rfl (lv_at hl 1 rfl) ?_
  refine lv_lshr hx hb dX0_hasRock_5 rfl ?_
  refine lv_lconst (v := (1 : Int64)) hx hb dX0_hasRock_6 (by decide) ?_
  refine lv_land hx hb dX0_hasRock_7 ?_
  refine lv_lconst (v := (0 : Int64)) hx hb dX0_hasRock_8 (by decide) ?_
  refine W.lcmp hx hb dX0_hasRock_9 ?_
  refine lv_if_eq (tgt := 17) hx hb dX0_hasRock_10 (by decide) (fun c_10 => ?_) (fun c_10 => ?_)
  · replace c_10 : ((ch_rocks >>> (cell.toInt64 &&& 63)) &&& (1 : Int64)) = (0 : Int64) := (lg_cmp_eq _ _).mp c_10
    rw [if_pos c_10] at hE
    refine lv_iconst (v := (0 : Int32)) hx hb dX0_hasRock_17 (by decide) ?_
    subst hE
    rw [← hQ]
    exact W.zret hx hb hr (isB.n nb_0) (fun t ht hW => ⟨_, rfl, ⟨rfl, nb_0⟩, ht⟩) (fun q h => absurd h List.not_mem_nil) dX0_hasRock_18
  · replace c_10 : ¬ ((ch_rocks >>> (cell.toInt64 &&& 63)) &&& (1 : Int64)) = (0 : Int64) := fun q => c_10 ((lg_cmp_eq _ _).mpr q)
    rw [if_neg c_10] at hE
    refine lv_iconst (v := (1 : Int32)) hx hb dX0_hasRock_13 (by decide) ?_
    refine lv_goto (tgt := 18) hx hb dX0_hasRock_14 (by decide) ?_
    subst hE
    rw [← hQ]
    exact W.zret hx hb hr (isB.n nb_1) (fun t ht hW => ⟨_, rfl, ⟨rfl, nb_1⟩, ht⟩) (fun q h => absurd h List.not_mem_nil) dX0_hasRock_18
def fX0_movedBy (ch_rocks : Int64) (places : Int64) (by_ : Int32) : Int64 := (if (0 : Int32) ≤ (st_steps by_.toNatClampNeg) then (((places &&& (st_leaves by_.toNatClampNeg)) <<< ((st_steps by_.toNatClampNeg).toInt64 &&& 63)) &&& (ch_rocks ^^^ (-1 : Int64))) else (((places &&& (st_leaves by_.toNatClampNeg)).toUInt64 >>> ((-(st_steps by_.toNatClampNeg)).toInt64.toUInt64 &&& Int64.toUInt64 63)).toInt64 &&& (ch_rocks ^^^ (-1 : Int64))))
set_option maxHeartbeats 4000000 in
set_option maxRecDepth 100000 in
theorem kX0_movedBy (l : Launch) (dC : Nat → ClassId) (dI : Nat → Nat → Nat) (cI cJ : ClassId) (ch : Nat → Nat) (ch_drawn : Int32) (ch_rocks : Int64) (ch_rockCount : Int32) (ch_shipCount : Int32) (places : Int64) (by_ : Int32) (p_1 : vp_in by_ 5) : Met l yX0_movedBy wsX0_movedBy ({ frames := 0, cells := 0, slots := 0, locals := 0 } : Room) (gR (dC, dI) cI cJ (kCh ch ch_drawn ch_rocks ch_rockCount ch_shipCount) ([.ref (ch 0), .long places, .int by_] : List Value)) (vp_Sl (fun r => r = (fX0_movedBy ch_rocks places by_))) 0 0 (fun _ => False) := by
  refine Met.ofW (cc := cX0_movedBy) (maxL := 7) (ret := (some .long)) (by decide) rfl ?_
  intro p e s m args below meth c s₁ B hml hv
  obtain ⟨rfl, hP, hK, hst⟩ := hv
  have hx := B.exec
  have hb := B.bytes
  have hr := B.returns
  have hts := atoms_spec (ws := wsX0_movedBy) B.pre
  have hown : s.vm.findClass RX0 = some m.cls := findClass_of_methodNamed B.named
  have hlocks := B.notSynchronized
  have hS : va_S (fun _ => False) s.heap s.heap [] := va_S.rf
  generalize hE : (fX0_movedBy ch_rocks places by_) = RES
  generalize hQ : MQ below (vp_Sl (fun r => r = RES)) ([.ref (ch 0), .long places, .int by_] : List Value).toArray s 0 0 (fun _ => False) = Q
  have hl := lv_entry ([.ref (ch 0), .long places, .int by_] : List Value) (n := 7) (Nat.le_of_ble_eq_true rfl)
  rw [lg_entry_eq]
  generalize (lg_sl ([.ref (ch 0), .long places, .int by_] : List Value) ++ List.replicate (7 - (lg_sl ([.ref (ch 0), .long places, .int by_] : List Value)).length) Slot.unset).toArray = ls at hl ⊢
  have hl : lv_has ls 7 [(0, .ref (ch 0)), (1, .long places), (3, .int by_)] := hl
  have in_X0 : ∀ w ∈ u_ws RX0 TX0 4, w ∈ wsX0_movedBy := fun _ h => List.mem_cons_of_mem _ (List.mem_append_right _ h)
  have t_constantLong_RX0_43_1 := hts (.constantLong RX0 43 (-1)) (List.mem_of_getElem? (i := 4) rfl)
  have t_fieldLink_RX0_15_FourLodgers_Chart_rocks_J := hts (.fieldLink RX0 15 "FourLodgers$Chart" "rocks" "J") (List.mem_of_getElem? (i := 3) rfl)
  have t_fieldLink_RX0_35_FourLodgers_Chart_STEPS_I := hts (.fieldLink RX0 35 "FourLodgers$Chart" "STEPS" "[I") (List.mem_of_getElem? (i := 1) rfl)
  have t_fieldLink_RX0_39_FourLodgers_Chart_LEAVES_J := hts (.fieldLink RX0 39 "FourLodgers$Chart" "LEAVES" "[J") (List.mem_of_getElem? (i := 2) rfl)
  have i_0 : (0 : Int32).toInt = 0 := by decide
  have p_1' := vp_in_iff.mp p_1
  obtain ⟨⟨t1, z1, b1⟩, ⟨t2, z2, b2⟩, ⟨aK, aV, k1, k2⟩, z3, n1⟩ := id hst
  rw [fX0_movedBy] at hE
  refine va_gets hx hb z1 hS hown t_fieldLink_RX0_35_FourLodgers_Chart_STEPS_I (fun _ h9 => h9) dX0_movedBy_0 ?_
  refine lv_iload_n hx hb dX0_movedBy_3 rfl (lv_at hl 2 rfl) ?_
  refine va_ti hx hb b1 hS (i := by_) (by first | assumption | exact vp_in_iff.mpr ⟨by omega, by omega⟩ | omega | decide) (v := .int (st_steps by_.toNatClampNeg)) rfl dX0_movedBy_4 ?_
  refine lv_istore (lv' := [(4, .int (st_steps by_.toNatClampNeg)), (0, .ref (ch 0)), (1, .long places), (3, .int by_)]) hx hb dX0_movedBy_5 hl (by decide) rfl (fun ls hl => ?_)
  refine lv_lload_n hx hb dX0_movedBy_7 rfl (lv_at hl 2 rfl) ?_
  refine va_gets hx hb z2 hS hown t_fieldLink_RX0_39_FourLodgers_Chart_LEAVES_J (fun _ h9 => h9) dX0_movedBy_8 ?_
  refine lv_iload_n hx hb dX0_movedBy_11 rfl (lv_at hl 3 rfl) ?_
  refine va_tl hx hb b2 hS (i := by_) (by first | assumption | exact vp_in_iff.mpr ⟨by omega, by omega⟩ | omega | decide) (v := .long (st_leaves by_.toNatClampNeg)) rfl dX0_movedBy_12 ?_
  refine lv_land hx hb dX0_movedBy_13 ?_
  refine lv_lstore (lv' := [(5, .long (places &&& (st_leaves by_.toNatClampNeg))), (4, .int (st_steps by_.toNatClampNeg)), (0, .ref (ch 0)), (1, .long places), (3, .int by_)]) hx hb dX0_movedBy_14 hl (by decide) rfl (fun ls hl => ?_)
  refine lv_iload hx hb dX0_movedBy_16 (lv_at hl 1 rfl) ?_
  refine lv_if_ge (tgt := 30) hx hb dX0_movedBy_18 (by decide) (fun c_18 => ?_) (fun c_18 => ?_)
  · have e_18 := Int32.le_iff_toInt_le.mp c_18
    rw [if_pos c_18] at hE
    refine lv_lload hx hb dX0_movedBy_30 (lv_at hl 0 rfl) ?_
    refine lv_iload hx hb dX0_movedBy_32 (lv_at hl 1 rfl) ?_
    refine lv_lshl hx hb dX0_movedBy_34 rfl ?_
    refine lv_aload_n hx hb dX0_movedBy_35 rfl (lv_at hl 2 rfl) ?_
    refine va_get (D := (dC, dI)) (ci := 0) (v := .long ch_rocks) (C := RX0) (T := TX0) (N := 4) hx hb hts in_X0 hown hK hP 0 rfl rfl 1 (by decide) t_fieldLink_RX0_15_FourLodgers_Chart_rocks_J (fun _ h9 => h9) rfl dX0_movedBy_36 ?_
    refine lv_ldc2 hx hb hown t_constantLong_RX0_43_1 dX0_movedBy_39 ?_
    refine lv_lxor hx hb dX0_movedBy_42 ?_
    refine lv_land hx hb dX0_movedBy_43 ?_
    subst hE
    rw [← hQ]
    exact W.lret hx hb hr (fun t ht hW => ⟨_, rfl, rfl, ht⟩) (fun q h => absurd h List.not_mem_nil) dX0_movedBy_44
  · have e_18 := mt Int32.le_iff_toInt_le.mpr c_18
    rw [if_neg c_18] at hE
    refine lv_lload hx hb dX0_movedBy_21 (lv_at hl 0 rfl) ?_
    refine lv_iload hx hb dX0_movedBy_23 (lv_at hl 1 rfl) ?_
    refine lv_ineg hx hb dX0_movedBy_25 ?_
    refine lv_lushr hx hb dX0_movedBy_26 rfl ?_
    refine lv_goto (tgt := 35) hx hb dX0_movedBy_27 (by decide) ?_
    refine lv_aload_n hx hb dX0_movedBy_35 rfl (lv_at hl 2 rfl) ?_
    refine va_get (D := (dC, dI)) (ci := 0) (v := .long ch_rocks) (C := RX0) (T := TX0) (N := 4) hx hb hts in_X0 hown hK hP 0 rfl rfl 1 (by decide) t_fieldLink_RX0_15_FourLodgers_Chart_rocks_J (fun _ h9 => h9) rfl dX0_movedBy_36 ?_
    refine lv_ldc2 hx hb hown t_constantLong_RX0_43_1 dX0_movedBy_39 ?_
    refine lv_lxor hx hb dX0_movedBy_42 ?_
    refine lv_land hx hb dX0_movedBy_43 ?_
    subst hE
    rw [← hQ]
    exact W.lret hx hb hr (fun t ht hW => ⟨_, rfl, rfl, ht⟩) (fun q h => absurd h List.not_mem_nil) dX0_movedBy_44
def fX0_broughtBy (ch_rocks : Int64) (places : Int64) (by_ : Int32) : Int64 := (if (0 : Int32) ≤ (st_steps by_.toNatClampNeg) then (((places &&& (ch_rocks ^^^ (-1 : Int64))).toUInt64 >>> ((st_steps by_.toNatClampNeg).toInt64.toUInt64 &&& Int64.toUInt64 63)).toInt64 &&& (st_leaves by_.toNatClampNeg)) else (((places &&& (ch_rocks ^^^ (-1 : Int64))) <<< ((-(st_steps by_.toNatClampNeg)).toInt64 &&& 63)) &&& (st_leaves by_.toNatClampNeg)))
set_option maxHeartbeats 4000000 in
set_option maxRecDepth 100000 in
theorem kX0_broughtBy (l : Launch) (dC : Nat → ClassId) (dI : Nat → Nat → Nat) (cI cJ : ClassId) (ch : Nat → Nat) (ch_drawn : Int32) (ch_rocks : Int64) (ch_rockCount : Int32) (ch_shipCount : Int32) (places : Int64) (by_ : Int32) (p_1 : vp_in by_ 5) : Met l yX0_broughtBy wsX0_broughtBy ({ frames := 0, cells := 0, slots := 0, locals := 0 } : Room) (gR (dC, dI) cI cJ (kCh ch ch_drawn ch_rocks ch_rockCount ch_shipCount) ([.ref (ch 0), .long places, .int by_] : List Value)) (vp_Sl (fun r => r = (fX0_broughtBy ch_rocks places by_))) 0 0 (fun _ => False) := by
  refine Met.ofW (cc := cX0_broughtBy) (maxL := 7) (ret := (some .long)) (by decide) rfl ?_
  intro p e s m args below meth c s₁ B hml hv
  obtain ⟨rfl, hP, hK, hst⟩ := hv
  have hx := B.exec
  have hb := B.bytes
  have hr := B.returns
  have hts := atoms_spec (ws := wsX0_broughtBy) B.pre
  have hown : s.vm.findClass RX0 = some m.cls := findClass_of_methodNamed B.named
  have hlocks := B.notSynchronized
  have hS : va_S (fun _ => False) s.heap s.heap [] := va_S.rf
  generalize hE : (fX0_broughtBy ch_rocks places by_) = RES
  generalize hQ : MQ below (vp_Sl (fun r => r = RES)) ([.ref (ch 0), .long places, .int by_] : List Value).toArray s 0 0 (fun _ => False) = Q
  have hl := lv_entry ([.ref (ch 0), .long places, .int by_] : List Value) (n := 7) (Nat.le_of_ble_eq_true rfl)
  rw [lg_entry_eq]
  generalize (lg_sl ([.ref (ch 0), .long places, .int by_] : List Value) ++ List.replicate (7 - (lg_sl ([.ref (ch 0), .long places, .int by_] : List Value)).length) Slot.unset).toArray = ls at hl ⊢
  have hl : lv_has ls 7 [(0, .ref (ch 0)), (1, .long places), (3, .int by_)] := hl
  have in_X0 : ∀ w ∈ u_ws RX0 TX0 4, w ∈ wsX0_broughtBy := fun _ h => List.mem_cons_of_mem _ (List.mem_append_right _ h)
  have t_constantLong_RX0_43_1 := hts (.constantLong RX0 43 (-1)) (List.mem_of_getElem? (i := 3) rfl)
  have t_fieldLink_RX0_15_FourLodgers_Chart_rocks_J := hts (.fieldLink RX0 15 "FourLodgers$Chart" "rocks" "J") (List.mem_of_getElem? (i := 2) rfl)
  have t_fieldLink_RX0_35_FourLodgers_Chart_STEPS_I := hts (.fieldLink RX0 35 "FourLodgers$Chart" "STEPS" "[I") (List.mem_of_getElem? (i := 1) rfl)
  have t_fieldLink_RX0_39_FourLodgers_Chart_LEAVES_J := hts (.fieldLink RX0 39 "FourLodgers$Chart" "LEAVES" "[J") (List.mem_of_getElem? (i := 4) rfl)
  have i_0 : (0 : Int32).toInt = 0 := by decide
  have p_1' := vp_in_iff.mp p_1
  obtain ⟨⟨t1, z1, b1⟩, ⟨t2, z2, b2⟩, ⟨aK, aV, k1, k2⟩, z3, n1⟩ := id hst
  rw [fX0_broughtBy] at hE
  refine va_gets hx hb z1 hS hown t_fieldLink_RX0_35_FourLodgers_Chart_STEPS_I (fun _ h9 => h9) dX0_broughtBy_0 ?_
  refine lv_iload_n hx hb dX0_broughtBy_3 rfl (lv_at hl 2 rfl) ?_
  refine va_ti hx hb b1 hS (i := by_) (by first | assumption | exact vp_in_iff.mpr ⟨by omega, by omega⟩ | omega | decide) (v := .int (st_steps by_.toNatClampNeg)) rfl dX0_broughtBy_4 ?_
  refine lv_istore (lv' := [(4, .int (st_steps by_.toNatClampNeg)), (0, .ref (ch 0)), (1, .long places), (3, .int by_)]) hx hb dX0_broughtBy_5 hl (by decide) rfl (fun ls hl => ?_)
  refine lv_lload_n hx hb dX0_broughtBy_7 rfl (lv_at hl 2 rfl) ?_
  refine lv_aload_n hx hb dX0_broughtBy_8 rfl (lv_at hl 1 rfl) ?_
  refine va_get (D := (dC, dI)) (ci := 0) (v := .long ch_rocks) (C := RX0) (T := TX0) (N := 4) hx hb hts in_X0 hown hK hP 0 rfl rfl 1 (by decide) t_fieldLink_RX0_15_FourLodgers_Chart_rocks_J (fun _ h9 => h9) rfl dX0_broughtBy_9 ?_
  refine lv_ldc2 hx hb hown t_constantLong_RX0_43_1 dX0_broughtBy_12 ?_
  refine lv_lxor hx hb dX0_broughtBy_15 ?_
  refine lv_land hx hb dX0_broughtBy_16 ?_
  refine lv_lstore (lv' := [(5, .long (places &&& (ch_rocks ^^^ (-1 : Int64)))), (4, .int (st_steps by_.toNatClampNeg)), (0, .ref (ch 0)), (1, .long places), (3, .int by_)]) hx hb dX0_broughtBy_17 hl (by decide) rfl (fun ls hl => ?_)
  refine lv_iload hx hb dX0_broughtBy_19 (lv_at hl 1 rfl) ?_
  refine lv_if_ge (tgt := 33) hx hb dX0_broughtBy_21 (by decide) (fun c_21 => ?_) (fun c_21 => ?_)
  · have e_21 := Int32.le_iff_toInt_le.mp c_21
    rw [if_pos c_21] at hE
    refine lv_lload hx hb dX0_broughtBy_33 (lv_at hl 0 rfl) ?_
    refine lv_iload hx hb dX0_broughtBy_35 (lv_at hl 1 rfl) ?_
    refine lv_lushr hx hb dX0_broughtBy_37 rfl ?_
    refine va_gets hx hb z2 hS hown t_fieldLink_RX0_39_FourLodgers_Chart_LEAVES_J (fun _ h9 => h9) dX0_broughtBy_38 ?_
    refine lv_iload_n hx hb dX0_broughtBy_41 rfl (lv_at hl 4 rfl) ?_
    refine va_tl hx hb b2 hS (i := by_) (by first | assumption | exact vp_in_iff.mpr ⟨by omega, by omega⟩ | omega | decide) (v := .long (st_leaves by_.toNatClampNeg)) rfl dX0_broughtBy_42 ?_
    refine lv_land hx hb dX0_broughtBy_43 ?_
    subst hE
    rw [← hQ]
    exact W.lret hx hb hr (fun t ht hW => ⟨_, rfl, rfl, ht⟩) (fun q h => absurd h List.not_mem_nil) dX0_broughtBy_44
  · have e_21 := mt Int32.le_iff_toInt_le.mpr c_21
    rw [if_neg c_21] at hE
    refine lv_lload hx hb dX0_broughtBy_24 (lv_at hl 0 rfl) ?_
    refine lv_iload hx hb dX0_broughtBy_26 (lv_at hl 1 rfl) ?_
    refine lv_ineg hx hb dX0_broughtBy_28 ?_
    refine lv_lshl hx hb dX0_broughtBy_29 rfl ?_
    refine lv_goto (tgt := 38) hx hb dX0_broughtBy_30 (by decide) ?_
    refine va_gets hx hb z2 hS hown t_fieldLink_RX0_39_FourLodgers_Chart_LEAVES_J (fun _ h9 => h9) dX0_broughtBy_38 ?_
    refine lv_iload_n hx hb dX0_broughtBy_41 rfl (lv_at hl 4 rfl) ?_
    refine va_tl hx hb b2 hS (i := by_) (by first | assumption | exact vp_in_iff.mpr ⟨by omega, by omega⟩ | omega | decide) (v := .long (st_leaves by_.toNatClampNeg)) rfl dX0_broughtBy_42 ?_
    refine lv_land hx hb dX0_broughtBy_43 ?_
    subst hE
    rw [← hQ]
    exact W.lret hx hb hr (fun t ht hW => ⟨_, rfl, rfl, ht⟩) (fun q h => absurd h List.not_mem_nil) dX0_broughtBy_44
def fX0_landing (ch_rocks : Int64) (cell : Int32) (by_ : Int32) : Int32 := (if (fX0_movedBy ch_rocks ((1 : Int64) <<< (cell.toInt64 &&& 63)) by_) = (0 : Int64) then (-1 : Int32) else (cell + (st_steps by_.toNatClampNeg)))
set_option maxHeartbeats 4000000 in
set_option maxRecDepth 100000 in
theorem kX0_landing (l : Launch) (dC : Nat → ClassId) (dI : Nat → Nat → Nat) (cI cJ : ClassId) (ch : Nat → Nat) (ch_drawn : Int32) (ch_rocks : Int64) (ch_rockCount : Int32) (ch_shipCount : Int32) (cell : Int32) (by_ : Int32) (p_1 : vp_in by_ 5) : Met l yX0_landing wsX0_landing ({ frames := 1, cells := 0, slots := 0, locals := 26 } : Room) (gR (dC, dI) cI cJ (kCh ch ch_drawn ch_rocks ch_rockCount ch_shipCount) ([.ref (ch 0), .int cell, .int by_] : List Value)) (vp_Si (fun r => r = (fX0_landing ch_rocks cell by_))) 0 0 (fun _ => False) := by
  refine Met.ofW (cc := cX0_landing) (maxL := 3) (ret := (some .int)) (by decide) rfl ?_
  intro p e s m args below meth c s₁ B hml hv
  obtain ⟨rfl, hP, hK, hst⟩ := hv
  have hx := B.exec
  have hb := B.bytes
  have hr := B.returns
  have hts := atoms_spec (ws := wsX0_landing) B.pre
  have hown : s.vm.findClass RX0 = some m.cls := findClass_of_methodNamed B.named
  have hlocks := B.notSynchronized
  have hS : va_S (fun _ => False) s.heap s.heap [] := va_S.rf
  generalize hE : (fX0_landing ch_rocks cell by_) = RES
  generalize hQ : MQ below (vp_Si (fun r => r = RES)) ([.ref (ch 0), .int cell, .int by_] : List Value).toArray s 0 0 (fun _ => False) = Q
  have hl := lv_entry ([.ref (ch 0), .int cell, .int by_] : List Value) (n := 3) (Nat.le_of_ble_eq_true rfl)
  rw [lg_entry_eq]
  generalize (lg_sl ([.ref (ch 0), .int cell, .int by_] : List Value) ++ List.replicate (3 - (lg_sl ([.ref (ch 0), .int cell, .int by_] : List Value)).length) Slot.unset).toArray = ls at hl ⊢
  have hl : lv_has ls 3 [(0, .ref (ch 0)), (1, .int cell), (2, .int by_)] := hl
  have t_fieldLink_RX0_35_FourLodgers_Chart_STEPS_I := hts (.fieldLink RX0 35 "FourLodgers$Chart" "STEPS" "[I") (List.mem_of_getElem? (i := 1) rfl)
  have i_m1 : (-1 : Int32).toInt = -1 := by decide
  have p_1' := vp_in_iff.mp p_1
  obtain ⟨⟨t1, z1, b1⟩, ⟨t2, z2, b2⟩, ⟨aK, aV, k1, k2⟩, z3, n1⟩ := id hst
  rw [fX0_landing] at hE
  refine lv_aload_n hx hb dX0_landing_0 rfl (lv_at hl 0 rfl) ?_
  refine lv_lconst (v := (1 : Int64)) hx hb dX0_landing_1 (by decide) ?_
  refine lv_iload_n hx hb dX0_landing_2 rfl (lv_at hl 1 rfl) ?_
  refine lv_lshl hx hb dX0_landing_3 rfl ?_
  refine lv_iload_n hx hb dX0_landing_4 rfl (lv_at hl 2 rfl) ?_
  refine rcVl (As := [.long ((1 : Int64) <<< (cell.toInt64 &&& 63)), .int by_]) (rest := []) ⟨hx, hb, hml, hown, hts⟩ (kX0_movedBy l dC dI cI cJ ch ch_drawn ch_rocks ch_rockCount ch_shipCount ((1 : Int64) <<< (cell.toInt64 &&& 63)) by_ (by first | assumption | exact vp_in_iff.mpr ⟨by omega, by omega⟩ | omega | decide)) (cwV 2 hts gX0_landing_X0_movedBy rfl rfl rfl (by decide +kernel) ⟨Nat.le_of_ble_eq_true rfl, Nat.le_of_ble_eq_true rfl⟩) hK hP hst hS [0] rfl 0 rfl rfl rfl hl.1 rfl (Nat.le_of_ble_eq_true rfl) dX0_landing_5 ⟨Nat.zero_le _, Nat.zero_le _⟩ (fun r w_1 => ?_)
  subst w_1
  refine lv_lconst (v := (0 : Int64)) hx hb dX0_landing_8 (by decide) ?_
  refine W.lcmp hx hb dX0_landing_9 ?_
  refine lv_if_ne (tgt := 17) hx hb dX0_landing_10 (by decide) (fun c_10 => ?_) (fun c_10 => ?_)
  · replace c_10 : ¬ (fX0_movedBy ch_rocks ((1 : Int64) <<< (cell.toInt64 &&& 63)) by_) = (0 : Int64) := fun q => c_10 ((lg_cmp_eq _ _).mpr q)
    rw [if_neg c_10] at hE
    refine lv_iload_n hx hb dX0_landing_17 rfl (lv_at hl 1 rfl) ?_
    refine va_gets hx hb z1 hS hown t_fieldLink_RX0_35_FourLodgers_Chart_STEPS_I (fun _ h9 => h9) dX0_landing_18 ?_
    refine lv_iload_n hx hb dX0_landing_21 rfl (lv_at hl 2 rfl) ?_
    refine va_ti hx hb b1 hS (i := by_) (by first | assumption | exact vp_in_iff.mpr ⟨by omega, by omega⟩ | omega | decide) (v := .int (st_steps by_.toNatClampNeg)) rfl dX0_landing_22 ?_
    refine lv_iadd hx hb dX0_landing_23 ?_
    subst hE
    rw [← hQ]
    exact W.iret hx hb hr (fun t ht hW => ⟨_, rfl, rfl, ht⟩) (fun q h => absurd h List.not_mem_nil) dX0_landing_24
  · replace c_10 : (fX0_movedBy ch_rocks ((1 : Int64) <<< (cell.toInt64 &&& 63)) by_) = (0 : Int64) := (lg_cmp_eq _ _).mp c_10
    rw [if_pos c_10] at hE
    refine lv_iconst (v := (-1 : Int32)) hx hb dX0_landing_13 (by decide) ?_
    refine lv_goto (tgt := 24) hx hb dX0_landing_14 (by decide) ?_
    subst hE
    rw [← hQ]
    exact W.iret hx hb hr (fun t ht hW => ⟨_, rfl, rfl, ht⟩) (fun q h => absurd h List.not_mem_nil) dX0_landing_24
def fX0_spread_6 (ch_rocks : Int64) (places : Int64) (up : Int32) : Nat → Int64 → Nat → Int64
  | 0, _, _ => 0
  | n_ + 1, x4, i => (if (4 : Int32) < (nI i) then x4 else (if ((up >>> ((nI i) &&& 31)) &&& (1 : Int32)) = (0 : Int32) then (fX0_spread_6 ch_rocks places up n_ x4 ((i + 1))) else (fX0_spread_6 ch_rocks places up n_ (x4 ||| (fX0_movedBy ch_rocks places (nI i))) ((i + 1)))))
def fX0_spread (ch_rocks : Int64) (places : Int64) (up : Int32) : Int64 := (fX0_spread_6 ch_rocks places up 6 places (0))
set_option maxHeartbeats 4000000 in
set_option maxRecDepth 100000 in
theorem kX0_spread (l : Launch) (dC : Nat → ClassId) (dI : Nat → Nat → Nat) (cI cJ : ClassId) (ch : Nat → Nat) (ch_drawn : Int32) (ch_rocks : Int64) (ch_rockCount : Int32) (ch_shipCount : Int32) (places : Int64) (up : Int32) : Met l yX0_spread wsX0_spread ({ frames := 1, cells := 0, slots := 0, locals := 26 } : Room) (gR (dC, dI) cI cJ (kCh ch ch_drawn ch_rocks ch_rockCount ch_shipCount) ([.ref (ch 0), .long places, .int up] : List Value)) (vp_Sl (fun r => r = (fX0_spread ch_rocks places up))) 0 0 (fun _ => False) := by
  refine Met.ofW (cc := cX0_spread) (maxL := 7) (ret := (some .long)) (by decide) rfl ?_
  intro p e s m args below meth c s₁ B hml hv
  obtain ⟨rfl, hP, hK, hst⟩ := hv
  have hx := B.exec
  have hb := B.bytes
  have hr := B.returns
  have hts := atoms_spec (ws := wsX0_spread) B.pre
  have hown : s.vm.findClass RX0 = some m.cls := findClass_of_methodNamed B.named
  have hlocks := B.notSynchronized
  have hS : va_S (fun _ => False) s.heap s.heap [] := va_S.rf
  generalize hE : (fX0_spread ch_rocks places up) = RES
  generalize hQ : MQ below (vp_Sl (fun r => r = RES)) ([.ref (ch 0), .long places, .int up] : List Value).toArray s 0 0 (fun _ => False) = Q
  have hl := lv_entry ([.ref (ch 0), .long places, .int up] : List Value) (n := 7) (Nat.le_of_ble_eq_true rfl)
  rw [lg_entry_eq]
  generalize (lg_sl ([.ref (ch 0), .long places, .int up] : List Value) ++ List.replicate (7 - (lg_sl ([.ref (ch 0), .long places, .int up] : List Value)).length) Slot.unset).toArray = ls at hl ⊢
  have hl : lv_has ls 7 [(0, .ref (ch 0)), (1, .long places), (3, .int up)] := hl
  have i_0 : (0 : Int32).toInt = 0 := by decide
  have i_1 : (1 : Int32).toInt = 1 := by decide
  have i_4 : (4 : Int32).toInt = 4 := by decide
  rw [fX0_spread] at hE
  refine lv_lload_n hx hb dX0_spread_0 rfl (lv_at hl 1 rfl) ?_
  refine lv_lstore (lv' := [(4, .long places), (0, .ref (ch 0)), (1, .long places), (3, .int up)]) hx hb dX0_spread_1 hl (by decide) rfl (fun ls hl => ?_)
  refine lv_iconst (v := (0 : Int32)) hx hb dX0_spread_3 (by decide) ?_
  refine lv_istore (lv' := [(6, .int (0 : Int32)), (4, .long places), (0, .ref (ch 0)), (1, .long places), (3, .int up)]) hx hb dX0_spread_4 hl (by decide) rfl (fun ls hl => ?_)
  have L6 : ∀ (n_ : Nat) (x4 : Int64) (i : Nat) , (i ≤ 5) → 5 - i < n_ → (fX0_spread_6 ch_rocks places up n_ x4 i) = RES → ∀ ls : Array Slot, lv_has ls 7 [(0, .ref (ch 0)), (1, .long places), (3, .int up), (4, .long x4), (6, .int (nI i))] → W p l e (headSpec wsX0_spread ({ frames := 1, cells := 0, slots := 0, locals := 26 } : Room)).room s m ([.ref (ch 0), .long places, .int up] : List Value).toArray below meth c s.heap [] 0 0 Q (F0 m 6 ls []) := by
    intro n_
    induction n_ with
    | zero => intro x4 i  hi hn; exact absurd hn (Nat.not_lt_zero _)
    | succ n_ ih =>
      intro x4 i  hi hn hE ls hl
      rw [fX0_spread_6] at hE
      have tn_i : (nI i).toInt = (i : Int) := nI_toInt (by omega)
      refine lv_iload hx hb dX0_spread_6 (lv_at hl 4 rfl) ?_
      refine lv_iconst (v := (4 : Int32)) hx hb dX0_spread_8 (by decide) ?_
      refine lv_icmp_gt (tgt := 39) hx hb dX0_spread_9 (by decide) (fun c_9 => ?_) (fun c_9 => ?_)
      · have e_9 := Int32.lt_iff_toInt_lt.mp c_9
        rw [if_pos c_9] at hE
        refine lv_lload hx hb dX0_spread_39 (lv_at hl 3 rfl) ?_
        subst hE
        rw [← hQ]
        exact W.lret hx hb hr (fun t ht hW => ⟨_, rfl, rfl, ht⟩) (fun q h => absurd h List.not_mem_nil) dX0_spread_41
      · have e_9 := mt Int32.lt_iff_toInt_lt.mpr c_9
        rw [if_neg c_9] at hE
        refine lv_iload_n hx hb dX0_spread_12 rfl (lv_at hl 2 rfl) ?_
        refine lv_iload hx hb dX0_spread_13 (lv_at hl 4 rfl) ?_
        refine lv_ishr hx hb dX0_spread_15 ?_
        refine lv_iconst (v := (1 : Int32)) hx hb dX0_spread_16 (by decide) ?_
        refine lv_iand hx hb dX0_spread_17 ?_
        refine lv_if_eq (tgt := 33) hx hb dX0_spread_18 (by decide) (fun c_18 => ?_) (fun c_18 => ?_)
        · rw [if_pos c_18] at hE
          refine lv_iinc (v := (nI (i + 1))) (lv' := [(6, .int (nI (i + 1))), (0, .ref (ch 0)), (1, .long places), (3, .int up), (4, .long x4)]) hx hb dX0_spread_33 hl (k := 4) rfl (by rw [show Int32.ofInt 1 = nI 1 from rfl, nI_add]) (by decide) rfl (fun ls hl => ?_)
          refine lv_goto (tgt := 6) hx hb dX0_spread_36 (by decide) ?_
          exact ih x4 ((i + 1))  (by omega) (by omega) hE ls (lv_sub hl [1, 2, 3, 4, 0] rfl)
        · rw [if_neg c_18] at hE
          refine lv_lload hx hb dX0_spread_21 (lv_at hl 3 rfl) ?_
          refine lv_aload_n hx hb dX0_spread_23 rfl (lv_at hl 0 rfl) ?_
          refine lv_lload_n hx hb dX0_spread_24 rfl (lv_at hl 1 rfl) ?_
          refine lv_iload hx hb dX0_spread_25 (lv_at hl 4 rfl) ?_
          refine rcVl (As := [.long places, .int (nI i)]) (rest := [.long x4]) ⟨hx, hb, hml, hown, hts⟩ (kX0_movedBy l dC dI cI cJ ch ch_drawn ch_rocks ch_rockCount ch_shipCount places (nI i) (by first | assumption | exact vp_in_iff.mpr ⟨by omega, by omega⟩ | omega | decide)) (cwV 2 hts gX0_spread_X0_movedBy rfl rfl rfl (by decide +kernel) ⟨Nat.le_of_ble_eq_true rfl, Nat.le_of_ble_eq_true rfl⟩) hK hP hst hS [0] rfl 0 rfl rfl rfl hl.1 rfl (Nat.le_of_ble_eq_true rfl) dX0_spread_27 ⟨Nat.zero_le _, Nat.zero_le _⟩ (fun r w_1 => ?_)
          subst w_1
          refine lv_lor hx hb dX0_spread_30 ?_
          refine lv_lstore (lv' := [(4, .long (x4 ||| (fX0_movedBy ch_rocks places (nI i)))), (0, .ref (ch 0)), (1, .long places), (3, .int up), (6, .int (nI i))]) hx hb dX0_spread_31 hl (by decide) rfl (fun ls hl => ?_)
          refine lv_iinc (v := (nI (i + 1))) (lv' := [(6, .int (nI (i + 1))), (4, .long (x4 ||| (fX0_movedBy ch_rocks places (nI i)))), (0, .ref (ch 0)), (1, .long places), (3, .int up)]) hx hb dX0_spread_33 hl (k := 4) rfl (by rw [show Int32.ofInt 1 = nI 1 from rfl, nI_add]) (by decide) rfl (fun ls hl => ?_)
          refine lv_goto (tgt := 6) hx hb dX0_spread_36 (by decide) ?_
          exact ih (x4 ||| (fX0_movedBy ch_rocks places (nI i))) ((i + 1))  (by omega) (by omega) hE ls (lv_sub hl [2, 3, 4, 1, 0] rfl)
  exact L6 6 places (0)  (by omega) (by omega) hE ls (lv_sub hl [2, 3, 4, 1, 0] rfl)
def fX0_spreadBack_6 (ch_rocks : Int64) (places : Int64) (up : Int32) : Nat → Int64 → Nat → Int64
  | 0, _, _ => 0
  | n_ + 1, x4, i => (if (4 : Int32) < (nI i) then x4 else (if ((up >>> ((nI i) &&& 31)) &&& (1 : Int32)) = (0 : Int32) then (fX0_spreadBack_6 ch_rocks places up n_ x4 ((i + 1))) else (fX0_spreadBack_6 ch_rocks places up n_ (x4 ||| (fX0_broughtBy ch_rocks places (nI i))) ((i + 1)))))
def fX0_spreadBack (ch_rocks : Int64) (places : Int64) (up : Int32) : Int64 := (fX0_spreadBack_6 ch_rocks places up 6 places (0))
set_option maxHeartbeats 4000000 in
set_option maxRecDepth 100000 in
theorem kX0_spreadBack (l : Launch) (dC : Nat → ClassId) (dI : Nat → Nat → Nat) (cI cJ : ClassId) (ch : Nat → Nat) (ch_drawn : Int32) (ch_rocks : Int64) (ch_rockCount : Int32) (ch_shipCount : Int32) (places : Int64) (up : Int32) : Met l yX0_spreadBack wsX0_spreadBack ({ frames := 1, cells := 0, slots := 0, locals := 26 } : Room) (gR (dC, dI) cI cJ (kCh ch ch_drawn ch_rocks ch_rockCount ch_shipCount) ([.ref (ch 0), .long places, .int up] : List Value)) (vp_Sl (fun r => r = (fX0_spreadBack ch_rocks places up))) 0 0 (fun _ => False) := by
  refine Met.ofW (cc := cX0_spreadBack) (maxL := 7) (ret := (some .long)) (by decide) rfl ?_
  intro p e s m args below meth c s₁ B hml hv
  obtain ⟨rfl, hP, hK, hst⟩ := hv
  have hx := B.exec
  have hb := B.bytes
  have hr := B.returns
  have hts := atoms_spec (ws := wsX0_spreadBack) B.pre
  have hown : s.vm.findClass RX0 = some m.cls := findClass_of_methodNamed B.named
  have hlocks := B.notSynchronized
  have hS : va_S (fun _ => False) s.heap s.heap [] := va_S.rf
  generalize hE : (fX0_spreadBack ch_rocks places up) = RES
  generalize hQ : MQ below (vp_Sl (fun r => r = RES)) ([.ref (ch 0), .long places, .int up] : List Value).toArray s 0 0 (fun _ => False) = Q
  have hl := lv_entry ([.ref (ch 0), .long places, .int up] : List Value) (n := 7) (Nat.le_of_ble_eq_true rfl)
  rw [lg_entry_eq]
  generalize (lg_sl ([.ref (ch 0), .long places, .int up] : List Value) ++ List.replicate (7 - (lg_sl ([.ref (ch 0), .long places, .int up] : List Value)).length) Slot.unset).toArray = ls at hl ⊢
  have hl : lv_has ls 7 [(0, .ref (ch 0)), (1, .long places), (3, .int up)] := hl
  have i_0 : (0 : Int32).toInt = 0 := by decide
  have i_1 : (1 : Int32).toInt = 1 := by decide
  have i_4 : (4 : Int32).toInt = 4 := by decide
  rw [fX0_spreadBack] at hE
  refine lv_lload_n hx hb dX0_spreadBack_0 rfl (lv_at hl 1 rfl) ?_
  refine lv_lstore (lv' := [(4, .long places), (0, .ref (ch 0)), (1, .long places), (3, .int up)]) hx hb dX0_spreadBack_1 hl (by decide) rfl (fun ls hl => ?_)
  refine lv_iconst (v := (0 : Int32)) hx hb dX0_spreadBack_3 (by decide) ?_
  refine lv_istore (lv' := [(6, .int (0 : Int32)), (4, .long places), (0, .ref (ch 0)), (1, .long places), (3, .int up)]) hx hb dX0_spreadBack_4 hl (by decide) rfl (fun ls hl => ?_)
  have L6 : ∀ (n_ : Nat) (x4 : Int64) (i : Nat) , (i ≤ 5) → 5 - i < n_ → (fX0_spreadBack_6 ch_rocks places up n_ x4 i) = RES → ∀ ls : Array Slot, lv_has ls 7 [(0, .ref (ch 0)), (1, .long places), (3, .int up), (4, .long x4), (6, .int (nI i))] → W p l e (headSpec wsX0_spreadBack ({ frames := 1, cells := 0, slots := 0, locals := 26 } : Room)).room s m ([.ref (ch 0), .long places, .int up] : List Value).toArray below meth c s.heap [] 0 0 Q (F0 m 6 ls []) := by
    intro n_
    induction n_ with
    | zero => intro x4 i  hi hn; exact absurd hn (Nat.not_lt_zero _)
    | succ n_ ih =>
      intro x4 i  hi hn hE ls hl
      rw [fX0_spreadBack_6] at hE
      have tn_i : (nI i).toInt = (i : Int) := nI_toInt (by omega)
      refine lv_iload hx hb dX0_spreadBack_6 (lv_at hl 4 rfl) ?_
      refine lv_iconst (v := (4 : Int32)) hx hb dX0_spreadBack_8 (by decide) ?_
      refine lv_icmp_gt (tgt := 39) hx hb dX0_spreadBack_9 (by decide) (fun c_9 => ?_) (fun c_9 => ?_)
      · have e_9 := Int32.lt_iff_toInt_lt.mp c_9
        rw [if_pos c_9] at hE
        refine lv_lload hx hb dX0_spreadBack_39 (lv_at hl 3 rfl) ?_
        subst hE
        rw [← hQ]
        exact W.lret hx hb hr (fun t ht hW => ⟨_, rfl, rfl, ht⟩) (fun q h => absurd h List.not_mem_nil) dX0_spreadBack_41
      · have e_9 := mt Int32.lt_iff_toInt_lt.mpr c_9
        rw [if_neg c_9] at hE
        refine lv_iload_n hx hb dX0_spreadBack_12 rfl (lv_at hl 2 rfl) ?_
        refine lv_iload hx hb dX0_spreadBack_13 (lv_at hl 4 rfl) ?_
        refine lv_ishr hx hb dX0_spreadBack_15 ?_
        refine lv_iconst (v := (1 : Int32)) hx hb dX0_spreadBack_16 (by decide) ?_
        refine lv_iand hx hb dX0_spreadBack_17 ?_
        refine lv_if_eq (tgt := 33) hx hb dX0_spreadBack_18 (by decide) (fun c_18 => ?_) (fun c_18 => ?_)
        · rw [if_pos c_18] at hE
          refine lv_iinc (v := (nI (i + 1))) (lv' := [(6, .int (nI (i + 1))), (0, .ref (ch 0)), (1, .long places), (3, .int up), (4, .long x4)]) hx hb dX0_spreadBack_33 hl (k := 4) rfl (by rw [show Int32.ofInt 1 = nI 1 from rfl, nI_add]) (by decide) rfl (fun ls hl => ?_)
          refine lv_goto (tgt := 6) hx hb dX0_spreadBack_36 (by decide) ?_
          exact ih x4 ((i + 1))  (by omega) (by omega) hE ls (lv_sub hl [1, 2, 3, 4, 0] rfl)
        · rw [if_neg c_18] at hE
          refine lv_lload hx hb dX0_spreadBack_21 (lv_at hl 3 rfl) ?_
          refine lv_aload_n hx hb dX0_spreadBack_23 rfl (lv_at hl 0 rfl) ?_
          refine lv_lload_n hx hb dX0_spreadBack_24 rfl (lv_at hl 1 rfl) ?_
          refine lv_iload hx hb dX0_spreadBack_25 (lv_at hl 4 rfl) ?_
          refine rcVl (As := [.long places, .int (nI i)]) (rest := [.long x4]) ⟨hx, hb, hml, hown, hts⟩ (kX0_broughtBy l dC dI cI cJ ch ch_drawn ch_rocks ch_rockCount ch_shipCount places (nI i) (by first | assumption | exact vp_in_iff.mpr ⟨by omega, by omega⟩ | omega | decide)) (cwV 2 hts gX0_spreadBack_X0_broughtBy rfl rfl rfl (by decide +kernel) ⟨Nat.le_of_ble_eq_true rfl, Nat.le_of_ble_eq_true rfl⟩) hK hP hst hS [0] rfl 0 rfl rfl rfl hl.1 rfl (Nat.le_of_ble_eq_true rfl) dX0_spreadBack_27 ⟨Nat.zero_le _, Nat.zero_le _⟩ (fun r w_1 => ?_)
          subst w_1
          refine lv_lor hx hb dX0_spreadBack_30 ?_
          refine lv_lstore (lv' := [(4, .long (x4 ||| (fX0_broughtBy ch_rocks places (nI i)))), (0, .ref (ch 0)), (1, .long places), (3, .int up), (6, .int (nI i))]) hx hb dX0_spreadBack_31 hl (by decide) rfl (fun ls hl => ?_)
          refine lv_iinc (v := (nI (i + 1))) (lv' := [(6, .int (nI (i + 1))), (4, .long (x4 ||| (fX0_broughtBy ch_rocks places (nI i)))), (0, .ref (ch 0)), (1, .long places), (3, .int up)]) hx hb dX0_spreadBack_33 hl (k := 4) rfl (by rw [show Int32.ofInt 1 = nI 1 from rfl, nI_add]) (by decide) rfl (fun ls hl => ?_)
          refine lv_goto (tgt := 6) hx hb dX0_spreadBack_36 (by decide) ?_
          exact ih (x4 ||| (fX0_broughtBy ch_rocks places (nI i))) ((i + 1))  (by omega) (by omega) hE ls (lv_sub hl [2, 3, 4, 1, 0] rfl)
  exact L6 6 places (0)  (by omega) (by omega) hE ls (lv_sub hl [2, 3, 4, 1, 0] rfl)
def fX0_draw (dr_shipCount : Int32) (dr_rocks : Int64) (dr_rockCount : Int32) : Int32 × Int64 × Int32 × Int32 := ((1 : Int32), dr_rocks, dr_rockCount, dr_shipCount)
set_option maxHeartbeats 4000000 in
set_option maxRecDepth 100000 in
theorem kX0_draw (l : Launch) (dC : Nat → ClassId) (dI : Nat → Nat → Nat) (cI cJ : ClassId) (sz : Nat) (ch : Nat → Nat) (dr : Nat → Nat) (ch_drawn : Int32) (ch_rocks : Int64) (ch_rockCount : Int32) (ch_shipCount : Int32) (dr_kinds : Nat → Int32) (dr_ills : Nat → Int32) (dr_ships : Nat → Int32) (dr_shipCount : Int32) (dr_rocks : Int64) (dr_rockCount : Int32) (dr_amongRocks : Int32) (dr_row : Int32) (dr_whole : Int32) : Met l yX0_draw wsX0_draw ({ frames := 0, cells := 0, slots := 0, locals := 0 } : Room) (gW (dC, dI) cI cJ sz ((kCh ch ch_drawn ch_rocks ch_rockCount ch_shipCount) ++ (kDr cI dr dr_kinds dr_ills dr_ships dr_shipCount dr_rocks dr_rockCount dr_amongRocks dr_row dr_whole)) ([.ref (ch 0), .ref (dr 0)] : List Value)) (va_Qv (fun _ : Unit => True) (fun u : Unit => gB (dC, dI) cI cJ (va_A ((kCh ch ch_drawn ch_rocks ch_rockCount ch_shipCount) ++ (kDr cI dr dr_kinds dr_ills dr_ships dr_shipCount dr_rocks dr_rockCount dr_amongRocks dr_row dr_whole)) sz) ((kCh ch ((fX0_draw dr_shipCount dr_rocks dr_rockCount).1) ((fX0_draw dr_shipCount dr_rocks dr_rockCount).2.1) ((fX0_draw dr_shipCount dr_rocks dr_rockCount).2.2.1) ((fX0_draw dr_shipCount dr_rocks dr_rockCount).2.2.2)) ++ (kDr cI dr dr_kinds dr_ills dr_ships dr_shipCount dr_rocks dr_rockCount dr_amongRocks dr_row dr_whole))) (va_A ((kCh ch ch_drawn ch_rocks ch_rockCount ch_shipCount) ++ (kDr cI dr dr_kinds dr_ills dr_ships dr_shipCount dr_rocks dr_rockCount dr_amongRocks dr_row dr_whole)) sz)) 0 0 (va_A ((kCh ch ch_drawn ch_rocks ch_rockCount ch_shipCount) ++ (kDr cI dr dr_kinds dr_ills dr_ships dr_shipCount dr_rocks dr_rockCount dr_amongRocks dr_row dr_whole)) sz) := by
  refine Met.ofW (cc := cX0_draw) (maxL := 2) (ret := none) (by decide) rfl ?_
  intro p e s m args below meth c s₁ B hml hv
  obtain ⟨rfl, hsz, hP, hK, hD0, hst⟩ := hv
  have hx := B.exec
  have hb := B.bytes
  have hr := B.returns
  have hts := atoms_spec (ws := wsX0_draw) B.pre
  have hown : s.vm.findClass RX0 = some m.cls := findClass_of_methodNamed B.named
  have hlocks := B.notSynchronized
  subst hsz
  have hD := hD0.self (sz := s.heap.size)
  generalize hAe : va_A ((kCh ch ch_drawn ch_rocks ch_rockCount ch_shipCount) ++ (kDr cI dr dr_kinds dr_ills dr_ships dr_shipCount dr_rocks dr_rockCount dr_amongRocks dr_row dr_whole)) s.heap.size = A at hD hst ⊢
  have hA : ∀ q : Nat, s.heap.size ≤ q → A q := fun q h => by rw [← hAe]; exact Or.inr h
  have hS : va_S A s.heap s.heap [] := va_S.rf
  generalize hE : (fX0_draw dr_shipCount dr_rocks dr_rockCount) = RES
  generalize hQ : MQ below (va_Qv (fun _ : Unit => True) (fun u : Unit => gB (dC, dI) cI cJ A ((kCh ch (RES.1) (RES.2.1) (RES.2.2.1) (RES.2.2.2)) ++ (kDr cI dr dr_kinds dr_ills dr_ships dr_shipCount dr_rocks dr_rockCount dr_amongRocks dr_row dr_whole))) A) ([.ref (ch 0), .ref (dr 0)] : List Value).toArray s 0 0 A = Q
  have hl := lv_entry ([.ref (ch 0), .ref (dr 0)] : List Value) (n := 2) (Nat.le_of_ble_eq_true rfl)
  rw [lg_entry_eq]
  generalize (lg_sl ([.ref (ch 0), .ref (dr 0)] : List Value) ++ List.replicate (2 - (lg_sl ([.ref (ch 0), .ref (dr 0)] : List Value)).length) Slot.unset).toArray = ls at hl ⊢
  have hl : lv_has ls 2 [(0, .ref (ch 0)), (1, .ref (dr 0))] := hl
  have in_X0 : ∀ w ∈ u_ws RX0 TX0 4, w ∈ wsX0_draw := fun _ h => List.mem_cons_of_mem _ (List.mem_append_left _ (List.mem_append_right _ h))
  have in_X1 : ∀ w ∈ u_ws RX1 TX1 9, w ∈ wsX0_draw := fun _ h => List.mem_cons_of_mem _ (List.mem_append_right _ h)
  have t_fieldLink_RX0_15_FourLodgers_Chart_rocks_J := hts (.fieldLink RX0 15 "FourLodgers$Chart" "rocks" "J") (List.mem_of_getElem? (i := 3) rfl)
  have t_fieldLink_RX0_19_FourLodgers_Chart_rockCount_I := hts (.fieldLink RX0 19 "FourLodgers$Chart" "rockCount" "I") (List.mem_of_getElem? (i := 5) rfl)
  have t_fieldLink_RX0_23_FourLodgers_Chart_shipCount_I := hts (.fieldLink RX0 23 "FourLodgers$Chart" "shipCount" "I") (List.mem_of_getElem? (i := 7) rfl)
  have t_fieldLink_RX0_26_FourLodgers_Draft_rocks_J := hts (.fieldLink RX0 26 "FourLodgers$Draft" "rocks" "J") (List.mem_of_getElem? (i := 2) rfl)
  have t_fieldLink_RX0_29_FourLodgers_Draft_rockCount_I := hts (.fieldLink RX0 29 "FourLodgers$Draft" "rockCount" "I") (List.mem_of_getElem? (i := 4) rfl)
  have t_fieldLink_RX0_30_FourLodgers_Draft_shipCount_I := hts (.fieldLink RX0 30 "FourLodgers$Draft" "shipCount" "I") (List.mem_of_getElem? (i := 6) rfl)
  have t_fieldLink_RX0_9_FourLodgers_Chart_drawn_Z := hts (.fieldLink RX0 9 "FourLodgers$Chart" "drawn" "Z") (List.mem_of_getElem? (i := 1) rfl)
  have i_1 : (1 : Int32).toInt = 1 := by decide
  rw [fX0_draw] at hE
  refine lv_aload_n hx hb dX0_draw_0 rfl (lv_at hl 0 rfl) ?_
  refine lv_iconst (v := (1 : Int32)) hx hb dX0_draw_1 (by decide) ?_
  refine va_put (D := (dC, dI)) (ci := 0) (v := .int (1 : Int32)) (ty := .boolean) (C := RX0) (T := TX0) (N := 4) hx hb hts in_X0 tyX0 tyX0_ok nmX0 hown hK hP hD hS 0 rfl rfl 0 (by decide) t_fieldLink_RX0_9_FourLodgers_Chart_drawn_Z (fun _ h9 => h9) rfl (by decide +kernel) (by decide +kernel) (by decide +kernel) (Nat.le_of_ble_eq_true rfl) dX0_draw_2 (fun H locs hP hD hS => ?_)
  replace hP : va_P (dC, dI) vwCl ((kCh ch (1 : Int32) ch_rocks ch_rockCount ch_shipCount) ++ (kDr cI dr dr_kinds dr_ills dr_ships dr_shipCount dr_rocks dr_rockCount dr_amongRocks dr_row dr_whole)) H := hP
  replace hD : va_D A ((kCh ch (1 : Int32) ch_rocks ch_rockCount ch_shipCount) ++ (kDr cI dr dr_kinds dr_ills dr_ships dr_shipCount dr_rocks dr_rockCount dr_amongRocks dr_row dr_whole)) := hD
  refine lv_aload_n hx hb dX0_draw_5 rfl (lv_at hl 0 rfl) ?_
  refine lv_aload_n hx hb dX0_draw_6 rfl (lv_at hl 1 rfl) ?_
  refine va_get (D := (dC, dI)) (ci := 1) (v := .long dr_rocks) (C := RX1) (T := TX1) (N := 9) hx hb hts in_X1 hown hK hP 1 rfl rfl 4 (by decide) t_fieldLink_RX0_26_FourLodgers_Draft_rocks_J (fun _ h9 => h9) rfl dX0_draw_7 ?_
  refine va_put (D := (dC, dI)) (ci := 0) (v := .long dr_rocks) (ty := .long) (C := RX0) (T := TX0) (N := 4) hx hb hts in_X0 tyX0 tyX0_ok nmX0 hown hK hP hD hS 0 rfl rfl 1 (by decide) t_fieldLink_RX0_15_FourLodgers_Chart_rocks_J (fun _ h9 => h9) rfl (by decide +kernel) rfl rfl (Nat.le_of_ble_eq_true rfl) dX0_draw_10 (fun H locs hP hD hS => ?_)
  replace hP : va_P (dC, dI) vwCl ((kCh ch (1 : Int32) dr_rocks ch_rockCount ch_shipCount) ++ (kDr cI dr dr_kinds dr_ills dr_ships dr_shipCount dr_rocks dr_rockCount dr_amongRocks dr_row dr_whole)) H := hP
  replace hD : va_D A ((kCh ch (1 : Int32) dr_rocks ch_rockCount ch_shipCount) ++ (kDr cI dr dr_kinds dr_ills dr_ships dr_shipCount dr_rocks dr_rockCount dr_amongRocks dr_row dr_whole)) := hD
  refine lv_aload_n hx hb dX0_draw_13 rfl (lv_at hl 0 rfl) ?_
  refine lv_aload_n hx hb dX0_draw_14 rfl (lv_at hl 1 rfl) ?_
  refine va_get (D := (dC, dI)) (ci := 1) (v := .int dr_rockCount) (C := RX1) (T := TX1) (N := 9) hx hb hts in_X1 hown hK hP 1 rfl rfl 5 (by decide) t_fieldLink_RX0_29_FourLodgers_Draft_rockCount_I (fun _ h9 => h9) rfl dX0_draw_15 ?_
  refine va_put (D := (dC, dI)) (ci := 0) (v := .int dr_rockCount) (ty := .int) (C := RX0) (T := TX0) (N := 4) hx hb hts in_X0 tyX0 tyX0_ok nmX0 hown hK hP hD hS 0 rfl rfl 2 (by decide) t_fieldLink_RX0_19_FourLodgers_Chart_rockCount_I (fun _ h9 => h9) rfl (by decide +kernel) rfl rfl (Nat.le_of_ble_eq_true rfl) dX0_draw_18 (fun H locs hP hD hS => ?_)
  replace hP : va_P (dC, dI) vwCl ((kCh ch (1 : Int32) dr_rocks dr_rockCount ch_shipCount) ++ (kDr cI dr dr_kinds dr_ills dr_ships dr_shipCount dr_rocks dr_rockCount dr_amongRocks dr_row dr_whole)) H := hP
  replace hD : va_D A ((kCh ch (1 : Int32) dr_rocks dr_rockCount ch_shipCount) ++ (kDr cI dr dr_kinds dr_ills dr_ships dr_shipCount dr_rocks dr_rockCount dr_amongRocks dr_row dr_whole)) := hD
  refine lv_aload_n hx hb dX0_draw_21 rfl (lv_at hl 0 rfl) ?_
  refine lv_aload_n hx hb dX0_draw_22 rfl (lv_at hl 1 rfl) ?_
  refine va_get (D := (dC, dI)) (ci := 1) (v := .int dr_shipCount) (C := RX1) (T := TX1) (N := 9) hx hb hts in_X1 hown hK hP 1 rfl rfl 3 (by decide) t_fieldLink_RX0_30_FourLodgers_Draft_shipCount_I (fun _ h9 => h9) rfl dX0_draw_23 ?_
  refine va_put (D := (dC, dI)) (ci := 0) (v := .int dr_shipCount) (ty := .int) (C := RX0) (T := TX0) (N := 4) hx hb hts in_X0 tyX0 tyX0_ok nmX0 hown hK hP hD hS 0 rfl rfl 3 (by decide) t_fieldLink_RX0_23_FourLodgers_Chart_shipCount_I (fun _ h9 => h9) rfl (by decide +kernel) rfl rfl (Nat.le_of_ble_eq_true rfl) dX0_draw_26 (fun H locs hP hD hS => ?_)
  replace hP : va_P (dC, dI) vwCl ((kCh ch (1 : Int32) dr_rocks dr_rockCount dr_shipCount) ++ (kDr cI dr dr_kinds dr_ills dr_ships dr_shipCount dr_rocks dr_rockCount dr_amongRocks dr_row dr_whole)) H := hP
  replace hD : va_D A ((kCh ch (1 : Int32) dr_rocks dr_rockCount dr_shipCount) ++ (kDr cI dr dr_kinds dr_ills dr_ships dr_shipCount dr_rocks dr_rockCount dr_amongRocks dr_row dr_whole)) := hD
  subst hE
  rw [← hQ]
  exact W.vret hx hb hr (fun t ht hW => ⟨⟨(), rfl, trivial, by rw [ht]; exact hP, va_K.moved hW.alike hK, hD⟩, hS.F ht⟩) hS.2.2 dX0_draw_29
