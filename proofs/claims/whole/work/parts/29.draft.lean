def fX1_clear  : Int32 × Int64 × Int32 × Int32 × Int32 × Int32 := ((0 : Int32), (0 : Int64), (0 : Int32), (0 : Int32), (0 : Int32), (0 : Int32))
set_option maxHeartbeats 4000000 in
set_option maxRecDepth 100000 in
theorem kX1_clear (l : Launch) (dC : Nat → ClassId) (dI : Nat → Nat → Nat) (cI cJ : ClassId) (sz : Nat) (dr : Nat → Nat) (dr_kinds : Nat → Int32) (dr_ills : Nat → Int32) (dr_ships : Nat → Int32) (dr_shipCount : Int32) (dr_rocks : Int64) (dr_rockCount : Int32) (dr_amongRocks : Int32) (dr_row : Int32) (dr_whole : Int32) : Met l yX1_clear wsX1_clear ({ frames := 0, cells := 0, slots := 0, locals := 0 } : Room) (gW (dC, dI) cI cJ sz (kDr cI dr dr_kinds dr_ills dr_ships dr_shipCount dr_rocks dr_rockCount dr_amongRocks dr_row dr_whole) ([.ref (dr 0)] : List Value)) (va_Qv (fun _ : Unit => True) (fun u : Unit => gB (dC, dI) cI cJ (va_A (kDr cI dr dr_kinds dr_ills dr_ships dr_shipCount dr_rocks dr_rockCount dr_amongRocks dr_row dr_whole) sz) (kDr cI dr dr_kinds dr_ills dr_ships ((fX1_clear).1) ((fX1_clear).2.1) ((fX1_clear).2.2.1) ((fX1_clear).2.2.2.1) ((fX1_clear).2.2.2.2.1) ((fX1_clear).2.2.2.2.2))) (va_A (kDr cI dr dr_kinds dr_ills dr_ships dr_shipCount dr_rocks dr_rockCount dr_amongRocks dr_row dr_whole) sz)) 0 0 (va_A (kDr cI dr dr_kinds dr_ills dr_ships dr_shipCount dr_rocks dr_rockCount dr_amongRocks dr_row dr_whole) sz) := by
  refine Met.ofW (cc := cX1_clear) (maxL := 1) (ret := none) (by decide) rfl ?_
  intro p e s m args below meth c s₁ B hml hv
  obtain ⟨rfl, hsz, hP, hK, hD0, hst⟩ := hv
  have hx := B.exec
  have hb := B.bytes
  have hr := B.returns
  have hts := atoms_spec (ws := wsX1_clear) B.pre
  have hown : s.vm.findClass RX1 = some m.cls := findClass_of_methodNamed B.named
  have hlocks := B.notSynchronized
  subst hsz
  have hD := hD0.self (sz := s.heap.size)
  generalize hAe : va_A (kDr cI dr dr_kinds dr_ills dr_ships dr_shipCount dr_rocks dr_rockCount dr_amongRocks dr_row dr_whole) s.heap.size = A at hD hst ⊢
  have hA : ∀ q : Nat, s.heap.size ≤ q → A q := fun q h => by rw [← hAe]; exact Or.inr h
  have hS : va_S A s.heap s.heap [] := va_S.rf
  generalize hE : (fX1_clear) = RES
  generalize hQ : MQ below (va_Qv (fun _ : Unit => True) (fun u : Unit => gB (dC, dI) cI cJ A (kDr cI dr dr_kinds dr_ills dr_ships (RES.1) (RES.2.1) (RES.2.2.1) (RES.2.2.2.1) (RES.2.2.2.2.1) (RES.2.2.2.2.2))) A) ([.ref (dr 0)] : List Value).toArray s 0 0 A = Q
  have hl := lv_entry ([.ref (dr 0)] : List Value) (n := 1) (Nat.le_of_ble_eq_true rfl)
  rw [lg_entry_eq]
  generalize (lg_sl ([.ref (dr 0)] : List Value) ++ List.replicate (1 - (lg_sl ([.ref (dr 0)] : List Value)).length) Slot.unset).toArray = ls at hl ⊢
  have hl : lv_has ls 1 [(0, .ref (dr 0))] := hl
  have in_X1 : ∀ w ∈ u_ws RX1 TX1 9, w ∈ wsX1_clear := fun _ h => List.mem_cons_of_mem _ (List.mem_append_right _ h)
  have t_fieldLink_RX1_24_FourLodgers_Draft_shipCount_I := hts (.fieldLink RX1 24 "FourLodgers$Draft" "shipCount" "I") (List.mem_of_getElem? (i := 1) rfl)
  have t_fieldLink_RX1_28_FourLodgers_Draft_rocks_J := hts (.fieldLink RX1 28 "FourLodgers$Draft" "rocks" "J") (List.mem_of_getElem? (i := 2) rfl)
  have t_fieldLink_RX1_32_FourLodgers_Draft_rockCount_I := hts (.fieldLink RX1 32 "FourLodgers$Draft" "rockCount" "I") (List.mem_of_getElem? (i := 3) rfl)
  have t_fieldLink_RX1_35_FourLodgers_Draft_amongRocks_Z := hts (.fieldLink RX1 35 "FourLodgers$Draft" "amongRocks" "Z") (List.mem_of_getElem? (i := 4) rfl)
  have t_fieldLink_RX1_39_FourLodgers_Draft_row_I := hts (.fieldLink RX1 39 "FourLodgers$Draft" "row" "I") (List.mem_of_getElem? (i := 5) rfl)
  have t_fieldLink_RX1_42_FourLodgers_Draft_whole_Z := hts (.fieldLink RX1 42 "FourLodgers$Draft" "whole" "Z") (List.mem_of_getElem? (i := 6) rfl)
  have i_0 : (0 : Int32).toInt = 0 := by decide
  rw [fX1_clear] at hE
  refine lv_aload_n hx hb dX1_clear_0 rfl (lv_at hl 0 rfl) ?_
  refine lv_iconst (v := (0 : Int32)) hx hb dX1_clear_1 (by decide) ?_
  refine va_put (D := (dC, dI)) (ci := 1) (v := .int (0 : Int32)) (ty := .int) (C := RX1) (T := TX1) (N := 9) hx hb hts in_X1 tyX1 tyX1_ok nmX1 hown hK hP hD hS 0 rfl rfl 3 (by decide) t_fieldLink_RX1_24_FourLodgers_Draft_shipCount_I (fun _ h9 => h9) rfl (by decide +kernel) rfl rfl (Nat.le_of_ble_eq_true rfl) dX1_clear_2 (fun H locs hP hD hS => ?_)
  replace hP : va_P (dC, dI) vwCl (kDr cI dr dr_kinds dr_ills dr_ships (0 : Int32) dr_rocks dr_rockCount dr_amongRocks dr_row dr_whole) H := hP
  replace hD : va_D A (kDr cI dr dr_kinds dr_ills dr_ships (0 : Int32) dr_rocks dr_rockCount dr_amongRocks dr_row dr_whole) := hD
  refine lv_aload_n hx hb dX1_clear_5 rfl (lv_at hl 0 rfl) ?_
  refine lv_lconst (v := (0 : Int64)) hx hb dX1_clear_6 (by decide) ?_
  refine va_put (D := (dC, dI)) (ci := 1) (v := .long (0 : Int64)) (ty := .long) (C := RX1) (T := TX1) (N := 9) hx hb hts in_X1 tyX1 tyX1_ok nmX1 hown hK hP hD hS 0 rfl rfl 4 (by decide) t_fieldLink_RX1_28_FourLodgers_Draft_rocks_J (fun _ h9 => h9) rfl (by decide +kernel) rfl rfl (Nat.le_of_ble_eq_true rfl) dX1_clear_7 (fun H locs hP hD hS => ?_)
  replace hP : va_P (dC, dI) vwCl (kDr cI dr dr_kinds dr_ills dr_ships (0 : Int32) (0 : Int64) dr_rockCount dr_amongRocks dr_row dr_whole) H := hP
  replace hD : va_D A (kDr cI dr dr_kinds dr_ills dr_ships (0 : Int32) (0 : Int64) dr_rockCount dr_amongRocks dr_row dr_whole) := hD
  refine lv_aload_n hx hb dX1_clear_10 rfl (lv_at hl 0 rfl) ?_
  refine lv_iconst (v := (0 : Int32)) hx hb dX1_clear_11 (by decide) ?_
  refine va_put (D := (dC, dI)) (ci := 1) (v := .int (0 : Int32)) (ty := .int) (C := RX1) (T := TX1) (N := 9) hx hb hts in_X1 tyX1 tyX1_ok nmX1 hown hK hP hD hS 0 rfl rfl 5 (by decide) t_fieldLink_RX1_32_FourLodgers_Draft_rockCount_I (fun _ h9 => h9) rfl (by decide +kernel) rfl rfl (Nat.le_of_ble_eq_true rfl) dX1_clear_12 (fun H locs hP hD hS => ?_)
  replace hP : va_P (dC, dI) vwCl (kDr cI dr dr_kinds dr_ills dr_ships (0 : Int32) (0 : Int64) (0 : Int32) dr_amongRocks dr_row dr_whole) H := hP
  replace hD : va_D A (kDr cI dr dr_kinds dr_ills dr_ships (0 : Int32) (0 : Int64) (0 : Int32) dr_amongRocks dr_row dr_whole) := hD
  refine lv_aload_n hx hb dX1_clear_15 rfl (lv_at hl 0 rfl) ?_
  refine lv_iconst (v := (0 : Int32)) hx hb dX1_clear_16 (by decide) ?_
  refine va_put (D := (dC, dI)) (ci := 1) (v := .int (0 : Int32)) (ty := .boolean) (C := RX1) (T := TX1) (N := 9) hx hb hts in_X1 tyX1 tyX1_ok nmX1 hown hK hP hD hS 0 rfl rfl 6 (by decide) t_fieldLink_RX1_35_FourLodgers_Draft_amongRocks_Z (fun _ h9 => h9) rfl (by decide +kernel) (by decide +kernel) (by decide +kernel) (Nat.le_of_ble_eq_true rfl) dX1_clear_17 (fun H locs hP hD hS => ?_)
  replace hP : va_P (dC, dI) vwCl (kDr cI dr dr_kinds dr_ills dr_ships (0 : Int32) (0 : Int64) (0 : Int32) (0 : Int32) dr_row dr_whole) H := hP
  replace hD : va_D A (kDr cI dr dr_kinds dr_ills dr_ships (0 : Int32) (0 : Int64) (0 : Int32) (0 : Int32) dr_row dr_whole) := hD
  refine lv_aload_n hx hb dX1_clear_20 rfl (lv_at hl 0 rfl) ?_
  refine lv_iconst (v := (0 : Int32)) hx hb dX1_clear_21 (by decide) ?_
  refine va_put (D := (dC, dI)) (ci := 1) (v := .int (0 : Int32)) (ty := .int) (C := RX1) (T := TX1) (N := 9) hx hb hts in_X1 tyX1 tyX1_ok nmX1 hown hK hP hD hS 0 rfl rfl 7 (by decide) t_fieldLink_RX1_39_FourLodgers_Draft_row_I (fun _ h9 => h9) rfl (by decide +kernel) rfl rfl (Nat.le_of_ble_eq_true rfl) dX1_clear_22 (fun H locs hP hD hS => ?_)
  replace hP : va_P (dC, dI) vwCl (kDr cI dr dr_kinds dr_ills dr_ships (0 : Int32) (0 : Int64) (0 : Int32) (0 : Int32) (0 : Int32) dr_whole) H := hP
  replace hD : va_D A (kDr cI dr dr_kinds dr_ills dr_ships (0 : Int32) (0 : Int64) (0 : Int32) (0 : Int32) (0 : Int32) dr_whole) := hD
  refine lv_aload_n hx hb dX1_clear_25 rfl (lv_at hl 0 rfl) ?_
  refine lv_iconst (v := (0 : Int32)) hx hb dX1_clear_26 (by decide) ?_
  refine va_put (D := (dC, dI)) (ci := 1) (v := .int (0 : Int32)) (ty := .boolean) (C := RX1) (T := TX1) (N := 9) hx hb hts in_X1 tyX1 tyX1_ok nmX1 hown hK hP hD hS 0 rfl rfl 8 (by decide) t_fieldLink_RX1_42_FourLodgers_Draft_whole_Z (fun _ h9 => h9) rfl (by decide +kernel) (by decide +kernel) (by decide +kernel) (Nat.le_of_ble_eq_true rfl) dX1_clear_27 (fun H locs hP hD hS => ?_)
  replace hP : va_P (dC, dI) vwCl (kDr cI dr dr_kinds dr_ills dr_ships (0 : Int32) (0 : Int64) (0 : Int32) (0 : Int32) (0 : Int32) (0 : Int32)) H := hP
  replace hD : va_D A (kDr cI dr dr_kinds dr_ills dr_ships (0 : Int32) (0 : Int64) (0 : Int32) (0 : Int32) (0 : Int32) (0 : Int32)) := hD
  subst hE
  rw [← hQ]
  exact W.vret hx hb hr (fun t ht hW => ⟨⟨(), rfl, trivial, by rw [ht]; exact hP, va_K.moved hW.alike hK, hD⟩, hS.F ht⟩) hS.2.2 dX1_clear_30
def fX1_isSide (code_ : Int32) : Int32 := (if code_ < (48 : Int32) then (0 : Int32) else (if (54 : Int32) ≤ code_ then (0 : Int32) else (1 : Int32)))
set_option maxHeartbeats 4000000 in
set_option maxRecDepth 100000 in
theorem kX1_isSide (l : Launch) (dC : Nat → ClassId) (dI : Nat → Nat → Nat) (cI cJ : ClassId) (code_ : Int32) : Met l yX1_isSide wsX1_isSide ({ frames := 0, cells := 0, slots := 0, locals := 0 } : Room) (gR (dC, dI) cI cJ ([] : va_W) ([.int code_] : List Value)) (vp_Si (fun r => r = (fX1_isSide code_) ∧ isB r)) 0 0 (fun _ => False) := by
  refine Met.ofW (cc := cX1_isSide) (maxL := 1) (ret := (some .boolean)) (by decide) rfl ?_
  intro p e s m args below meth c s₁ B hml hv
  obtain ⟨rfl, hP, hK, hst⟩ := hv
  have hx := B.exec
  have hb := B.bytes
  have hr := B.returns
  have hts := atoms_spec (ws := wsX1_isSide) B.pre
  have hown : s.vm.findClass RX1 = some m.cls := findClass_of_methodNamed B.named
  have hlocks := B.notSynchronized
  have hS : va_S (fun _ => False) s.heap s.heap [] := va_S.rf
  generalize hE : (fX1_isSide code_) = RES
  generalize hQ : MQ below (vp_Si (fun r => r = RES ∧ isB r)) ([.int code_] : List Value).toArray s 0 0 (fun _ => False) = Q
  have hl := lv_entry ([.int code_] : List Value) (n := 1) (Nat.le_of_ble_eq_true rfl)
  rw [lg_entry_eq]
  generalize (lg_sl ([.int code_] : List Value) ++ List.replicate (1 - (lg_sl ([.int code_] : List Value)).length) Slot.unset).toArray = ls at hl ⊢
  have hl : lv_has ls 1 [(0, .int code_)] := hl
  have i_0 : (0 : Int32).toInt = 0 := by decide
  have i_1 : (1 : Int32).toInt = 1 := by decide
  have i_48 : (48 : Int32).toInt = 48 := by decide
  have i_54 : (54 : Int32).toInt = 54 := by decide
  rw [fX1_isSide] at hE
  refine lv_iload_n hx hb dX1_isSide_0 rfl (lv_at hl 0 rfl) ?_
  refine lv_bipush (v := (48 : Int32)) hx hb dX1_isSide_1 (by decide) ?_
  refine lv_icmp_lt (tgt := 16) hx hb dX1_isSide_3 (by decide) (fun c_3 => ?_) (fun c_3 => ?_)
  · have e_3 := Int32.lt_iff_toInt_lt.mp c_3
    rw [if_pos c_3] at hE
    refine lv_iconst (v := (0 : Int32)) hx hb dX1_isSide_16 (by decide) ?_
    subst hE
    rw [← hQ]
    exact W.zret hx hb hr (isB.n nb_0) (fun t ht hW => ⟨_, rfl, ⟨rfl, nb_0⟩, ht⟩) (fun q h => absurd h List.not_mem_nil) dX1_isSide_17
  · have e_3 := mt Int32.lt_iff_toInt_lt.mpr c_3
    rw [if_neg c_3] at hE
    refine lv_iload_n hx hb dX1_isSide_6 rfl (lv_at hl 0 rfl) ?_
    refine lv_bipush (v := (54 : Int32)) hx hb dX1_isSide_7 (by decide) ?_
    refine lv_icmp_ge (tgt := 16) hx hb dX1_isSide_9 (by decide) (fun c_9 => ?_) (fun c_9 => ?_)
    · have e_9 := Int32.le_iff_toInt_le.mp c_9
      rw [if_pos c_9] at hE
      refine lv_iconst (v := (0 : Int32)) hx hb dX1_isSide_16 (by decide) ?_
      subst hE
      rw [← hQ]
      exact W.zret hx hb hr (isB.n nb_0) (fun t ht hW => ⟨_, rfl, ⟨rfl, nb_0⟩, ht⟩) (fun q h => absurd h List.not_mem_nil) dX1_isSide_17
    · have e_9 := mt Int32.le_iff_toInt_le.mpr c_9
      rw [if_neg c_9] at hE
      refine lv_iconst (v := (1 : Int32)) hx hb dX1_isSide_12 (by decide) ?_
      refine lv_goto (tgt := 17) hx hb dX1_isSide_13 (by decide) ?_
      subst hE
      rw [← hQ]
      exact W.zret hx hb hr (isB.n nb_1) (fun t ht hW => ⟨_, rfl, ⟨rfl, nb_1⟩, ht⟩) (fun q h => absurd h List.not_mem_nil) dX1_isSide_17
def fX1_takesKind (dr_kinds : Nat → Int32) (lodger : Int32) (code_ : Int32) : Int32 × (Nat → Int32) := (if (0 : Int32) ≤ (fJ0_indexOf_0f7a4 (code_.toUInt32 % 65536).toInt32) then ((1 : Int32), (upd dr_kinds lodger.toNatClampNeg (fJ0_indexOf_0f7a4 (code_.toUInt32 % 65536).toInt32))) else ((0 : Int32), dr_kinds))
set_option maxHeartbeats 4000000 in
set_option maxRecDepth 100000 in
theorem kX1_takesKind (l : Launch) (dC : Nat → ClassId) (dI : Nat → Nat → Nat) (cI cJ : ClassId) (sz : Nat) (dr : Nat → Nat) (dr_kinds : Nat → Int32) (dr_ills : Nat → Int32) (dr_ships : Nat → Int32) (dr_shipCount : Int32) (dr_rocks : Int64) (dr_rockCount : Int32) (dr_amongRocks : Int32) (dr_row : Int32) (dr_whole : Int32) (lodger : Int32) (code_ : Int32) (p_1 : vp_in lodger 4) : Met l yX1_takesKind wsX1_takesKind ({ frames := 4, cells := 0, slots := 0, locals := 91 } : Room) (gW (dC, dI) cI cJ sz (kDr cI dr dr_kinds dr_ills dr_ships dr_shipCount dr_rocks dr_rockCount dr_amongRocks dr_row dr_whole) ([.ref (dr 0), .int lodger, .int code_] : List Value)) (va_Qi (fun (r : Int32) (_ : Unit) => r = ((fX1_takesKind dr_kinds lodger code_).1) ∧ isB r) (fun u : Unit => gB (dC, dI) cI cJ (va_A (kDr cI dr dr_kinds dr_ills dr_ships dr_shipCount dr_rocks dr_rockCount dr_amongRocks dr_row dr_whole) sz) (kDr cI dr ((fX1_takesKind dr_kinds lodger code_).2) dr_ills dr_ships dr_shipCount dr_rocks dr_rockCount dr_amongRocks dr_row dr_whole)) (va_A (kDr cI dr dr_kinds dr_ills dr_ships dr_shipCount dr_rocks dr_rockCount dr_amongRocks dr_row dr_whole) sz)) 0 0 (va_A (kDr cI dr dr_kinds dr_ills dr_ships dr_shipCount dr_rocks dr_rockCount dr_amongRocks dr_row dr_whole) sz) := by
  refine Met.ofW (cc := cX1_takesKind) (maxL := 4) (ret := (some .boolean)) (by decide) rfl ?_
  intro p e s m args below meth c s₁ B hml hv
  obtain ⟨rfl, hsz, hP, hK, hD0, hst⟩ := hv
  have hx := B.exec
  have hb := B.bytes
  have hr := B.returns
  have hts := atoms_spec (ws := wsX1_takesKind) B.pre
  have hown : s.vm.findClass RX1 = some m.cls := findClass_of_methodNamed B.named
  have hlocks := B.notSynchronized
  subst hsz
  have hD := hD0.self (sz := s.heap.size)
  generalize hAe : va_A (kDr cI dr dr_kinds dr_ills dr_ships dr_shipCount dr_rocks dr_rockCount dr_amongRocks dr_row dr_whole) s.heap.size = A at hD hst ⊢
  have hA : ∀ q : Nat, s.heap.size ≤ q → A q := fun q h => by rw [← hAe]; exact Or.inr h
  have hS : va_S A s.heap s.heap [] := va_S.rf
  generalize hE : (fX1_takesKind dr_kinds lodger code_) = RES
  generalize hQ : MQ below (va_Qi (fun (r : Int32) (_ : Unit) => r = (RES.1) ∧ isB r) (fun u : Unit => gB (dC, dI) cI cJ A (kDr cI dr (RES.2) dr_ills dr_ships dr_shipCount dr_rocks dr_rockCount dr_amongRocks dr_row dr_whole)) A) ([.ref (dr 0), .int lodger, .int code_] : List Value).toArray s 0 0 A = Q
  have hl := lv_entry ([.ref (dr 0), .int lodger, .int code_] : List Value) (n := 4) (Nat.le_of_ble_eq_true rfl)
  rw [lg_entry_eq]
  generalize (lg_sl ([.ref (dr 0), .int lodger, .int code_] : List Value) ++ List.replicate (4 - (lg_sl ([.ref (dr 0), .int lodger, .int code_] : List Value)).length) Slot.unset).toArray = ls at hl ⊢
  have hl : lv_has ls 4 [(0, .ref (dr 0)), (1, .int lodger), (2, .int code_)] := hl
  have in_X1 : ∀ w ∈ u_ws RX1 TX1 9, w ∈ wsX1_takesKind := fun _ h => List.mem_cons_of_mem _ (List.mem_append_right _ h)
  have t_fieldLink_RX1_9_FourLodgers_Draft_kinds_I := hts (.fieldLink RX1 9 "FourLodgers$Draft" "kinds" "[I") (List.mem_of_getElem? (i := 1) rfl)
  have i_0 : (0 : Int32).toInt = 0 := by decide
  have i_1 : (1 : Int32).toInt = 1 := by decide
  have p_1' := vp_in_iff.mp p_1
  obtain ⟨⟨t1, z1, b1⟩, ⟨t2, z2, b2⟩, ⟨aK, aV, k1, k2⟩, z3, n1⟩ := id hst
  rw [fX1_takesKind] at hE
  refine va_ldcS hx hb hown k1 dX1_takesKind_0 ?_
  refine lv_iload_n hx hb dX1_takesKind_2 rfl (lv_at hl 2 rfl) ?_
  refine lv_i2c hx hb dX1_takesKind_3 rfl ?_
  refine rcVs (As := [.int (code_.toUInt32 % 65536).toInt32]) (rest := []) ⟨hx, hb, hml, hown, hts⟩ (kJ0_indexOf_0f7a4 l dC dI cI cJ (code_.toUInt32 % 65536).toInt32 aK aV) (cwV 1 hts gX1_takesKind_J0_indexOf_0f7a4 rfl rfl rfl (by decide +kernel) ⟨Nat.le_of_ble_eq_true rfl, Nat.le_of_ble_eq_true rfl⟩) hK hst hS k2 rfl hl.1 rfl (Nat.le_of_ble_eq_true rfl) dX1_takesKind_4 ⟨Nat.zero_le _, Nat.zero_le _⟩ (fun r w_1 => ?_)
  subst w_1
  refine lv_istore_n (lv' := [(3, .int (fJ0_indexOf_0f7a4 (code_.toUInt32 % 65536).toInt32)), (0, .ref (dr 0)), (1, .int lodger), (2, .int code_)]) hx hb dX1_takesKind_7 rfl hl (by decide) rfl (fun ls hl => ?_)
  refine lv_iload_n hx hb dX1_takesKind_8 rfl (lv_at hl 0 rfl) ?_
  refine lv_if_ge (tgt := 14) hx hb dX1_takesKind_9 (by decide) (fun c_9 => ?_) (fun c_9 => ?_)
  · rw [if_pos c_9] at hE
    refine lv_aload_n hx hb dX1_takesKind_14 rfl (lv_at hl 1 rfl) ?_
    refine va_get (D := (dC, dI)) (ci := 1) (v := .ref (dr 1)) (C := RX1) (T := TX1) (N := 9) hx hb hts in_X1 hown hK hP 0 rfl rfl 0 (by decide) t_fieldLink_RX1_9_FourLodgers_Draft_kinds_I (fun _ h9 => h9) rfl dX1_takesKind_15 ?_
    refine lv_iload_n hx hb dX1_takesKind_18 rfl (lv_at hl 2 rfl) ?_
    refine lv_iload_n hx hb dX1_takesKind_19 rfl (lv_at hl 0 rfl) ?_
    refine va_iast hx hb hK hP hD hS 1 0 rfl rfl (i := lodger) (by first | assumption | exact vp_in_iff.mpr ⟨by omega, by omega⟩ | omega | decide) dX1_takesKind_20 (fun H locs hP hD hS => ?_)
    replace hP : va_P (dC, dI) vwCl (kDr cI dr (upd dr_kinds lodger.toNatClampNeg (fJ0_indexOf_0f7a4 (code_.toUInt32 % 65536).toInt32)) dr_ills dr_ships dr_shipCount dr_rocks dr_rockCount dr_amongRocks dr_row dr_whole) H := hP
    replace hD : va_D A (kDr cI dr (upd dr_kinds lodger.toNatClampNeg (fJ0_indexOf_0f7a4 (code_.toUInt32 % 65536).toInt32)) dr_ills dr_ships dr_shipCount dr_rocks dr_rockCount dr_amongRocks dr_row dr_whole) := hD
    refine lv_iconst (v := (1 : Int32)) hx hb dX1_takesKind_21 (by decide) ?_
    subst hE
    rw [← hQ]
    exact W.zret hx hb hr (isB.n nb_1) (fun t ht hW => ⟨⟨_, (), rfl, ⟨rfl, nb_1⟩, by rw [ht]; exact hP, va_K.moved hW.alike hK, hD⟩, hS.F ht⟩) hS.2.2 dX1_takesKind_22
  · rw [if_neg c_9] at hE
    refine lv_iconst (v := (0 : Int32)) hx hb dX1_takesKind_12 (by decide) ?_
    subst hE
    rw [← hQ]
    exact W.zret hx hb hr (isB.n nb_0) (fun t ht hW => ⟨⟨_, (), rfl, ⟨rfl, nb_0⟩, by rw [ht]; exact hP, va_K.moved hW.alike hK, hD⟩, hS.F ht⟩) hS.2.2 dX1_takesKind_13
def fX1_takesIll (dr_ills : Nat → Int32) (lodger : Int32) (code_ : Int32) : Int32 × (Nat → Int32) := (if code_ < (48 : Int32) then ((0 : Int32), dr_ills) else (if code_ ≤ (57 : Int32) then ((1 : Int32), (upd dr_ills lodger.toNatClampNeg (code_ - (48 : Int32)))) else ((0 : Int32), dr_ills)))
set_option maxHeartbeats 4000000 in
set_option maxRecDepth 100000 in
theorem kX1_takesIll (l : Launch) (dC : Nat → ClassId) (dI : Nat → Nat → Nat) (cI cJ : ClassId) (sz : Nat) (dr : Nat → Nat) (dr_kinds : Nat → Int32) (dr_ills : Nat → Int32) (dr_ships : Nat → Int32) (dr_shipCount : Int32) (dr_rocks : Int64) (dr_rockCount : Int32) (dr_amongRocks : Int32) (dr_row : Int32) (dr_whole : Int32) (lodger : Int32) (code_ : Int32) (p_1 : vp_in lodger 4) : Met l yX1_takesIll wsX1_takesIll ({ frames := 0, cells := 0, slots := 0, locals := 0 } : Room) (gW (dC, dI) cI cJ sz (kDr cI dr dr_kinds dr_ills dr_ships dr_shipCount dr_rocks dr_rockCount dr_amongRocks dr_row dr_whole) ([.ref (dr 0), .int lodger, .int code_] : List Value)) (va_Qi (fun (r : Int32) (_ : Unit) => r = ((fX1_takesIll dr_ills lodger code_).1) ∧ isB r) (fun u : Unit => gB (dC, dI) cI cJ (va_A (kDr cI dr dr_kinds dr_ills dr_ships dr_shipCount dr_rocks dr_rockCount dr_amongRocks dr_row dr_whole) sz) (kDr cI dr dr_kinds ((fX1_takesIll dr_ills lodger code_).2) dr_ships dr_shipCount dr_rocks dr_rockCount dr_amongRocks dr_row dr_whole)) (va_A (kDr cI dr dr_kinds dr_ills dr_ships dr_shipCount dr_rocks dr_rockCount dr_amongRocks dr_row dr_whole) sz)) 0 0 (va_A (kDr cI dr dr_kinds dr_ills dr_ships dr_shipCount dr_rocks dr_rockCount dr_amongRocks dr_row dr_whole) sz) := by
  refine Met.ofW (cc := cX1_takesIll) (maxL := 3) (ret := (some .boolean)) (by decide) rfl ?_
  intro p e s m args below meth c s₁ B hml hv
  obtain ⟨rfl, hsz, hP, hK, hD0, hst⟩ := hv
  have hx := B.exec
  have hb := B.bytes
  have hr := B.returns
  have hts := atoms_spec (ws := wsX1_takesIll) B.pre
  have hown : s.vm.findClass RX1 = some m.cls := findClass_of_methodNamed B.named
  have hlocks := B.notSynchronized
  subst hsz
  have hD := hD0.self (sz := s.heap.size)
  generalize hAe : va_A (kDr cI dr dr_kinds dr_ills dr_ships dr_shipCount dr_rocks dr_rockCount dr_amongRocks dr_row dr_whole) s.heap.size = A at hD hst ⊢
  have hA : ∀ q : Nat, s.heap.size ≤ q → A q := fun q h => by rw [← hAe]; exact Or.inr h
  have hS : va_S A s.heap s.heap [] := va_S.rf
  generalize hE : (fX1_takesIll dr_ills lodger code_) = RES
  generalize hQ : MQ below (va_Qi (fun (r : Int32) (_ : Unit) => r = (RES.1) ∧ isB r) (fun u : Unit => gB (dC, dI) cI cJ A (kDr cI dr dr_kinds (RES.2) dr_ships dr_shipCount dr_rocks dr_rockCount dr_amongRocks dr_row dr_whole)) A) ([.ref (dr 0), .int lodger, .int code_] : List Value).toArray s 0 0 A = Q
  have hl := lv_entry ([.ref (dr 0), .int lodger, .int code_] : List Value) (n := 3) (Nat.le_of_ble_eq_true rfl)
  rw [lg_entry_eq]
  generalize (lg_sl ([.ref (dr 0), .int lodger, .int code_] : List Value) ++ List.replicate (3 - (lg_sl ([.ref (dr 0), .int lodger, .int code_] : List Value)).length) Slot.unset).toArray = ls at hl ⊢
  have hl : lv_has ls 3 [(0, .ref (dr 0)), (1, .int lodger), (2, .int code_)] := hl
  have in_X1 : ∀ w ∈ u_ws RX1 TX1 9, w ∈ wsX1_takesIll := fun _ h => List.mem_cons_of_mem _ (List.mem_append_right _ h)
  have t_fieldLink_RX1_15_FourLodgers_Draft_ills_I := hts (.fieldLink RX1 15 "FourLodgers$Draft" "ills" "[I") (List.mem_of_getElem? (i := 1) rfl)
  have i_0 : (0 : Int32).toInt = 0 := by decide
  have i_1 : (1 : Int32).toInt = 1 := by decide
  have i_48 : (48 : Int32).toInt = 48 := by decide
  have i_57 : (57 : Int32).toInt = 57 := by decide
  have p_1' := vp_in_iff.mp p_1
  rw [fX1_takesIll] at hE
  refine lv_iload_n hx hb dX1_takesIll_0 rfl (lv_at hl 2 rfl) ?_
  refine lv_bipush (v := (48 : Int32)) hx hb dX1_takesIll_1 (by decide) ?_
  refine lv_icmp_lt (tgt := 12) hx hb dX1_takesIll_3 (by decide) (fun c_3 => ?_) (fun c_3 => ?_)
  · have e_3 := Int32.lt_iff_toInt_lt.mp c_3
    rw [if_pos c_3] at hE
    refine lv_iconst (v := (0 : Int32)) hx hb dX1_takesIll_12 (by decide) ?_
    subst hE
    rw [← hQ]
    exact W.zret hx hb hr (isB.n nb_0) (fun t ht hW => ⟨⟨_, (), rfl, ⟨rfl, nb_0⟩, by rw [ht]; exact hP, va_K.moved hW.alike hK, hD⟩, hS.F ht⟩) hS.2.2 dX1_takesIll_13
  · have e_3 := mt Int32.lt_iff_toInt_lt.mpr c_3
    rw [if_neg c_3] at hE
    refine lv_iload_n hx hb dX1_takesIll_6 rfl (lv_at hl 2 rfl) ?_
    refine lv_bipush (v := (57 : Int32)) hx hb dX1_takesIll_7 (by decide) ?_
    refine lv_icmp_le (tgt := 14) hx hb dX1_takesIll_9 (by decide) (fun c_9 => ?_) (fun c_9 => ?_)
    · have e_9 := Int32.le_iff_toInt_le.mp c_9
      rw [if_pos c_9] at hE
      refine lv_aload_n hx hb dX1_takesIll_14 rfl (lv_at hl 0 rfl) ?_
      refine va_get (D := (dC, dI)) (ci := 1) (v := .ref (dr 2)) (C := RX1) (T := TX1) (N := 9) hx hb hts in_X1 hown hK hP 0 rfl rfl 1 (by decide) t_fieldLink_RX1_15_FourLodgers_Draft_ills_I (fun _ h9 => h9) rfl dX1_takesIll_15 ?_
      refine lv_iload_n hx hb dX1_takesIll_18 rfl (lv_at hl 1 rfl) ?_
      refine lv_iload_n hx hb dX1_takesIll_19 rfl (lv_at hl 2 rfl) ?_
      refine lv_bipush (v := (48 : Int32)) hx hb dX1_takesIll_20 (by decide) ?_
      refine lv_isub hx hb dX1_takesIll_22 ?_
      refine va_iast hx hb hK hP hD hS 2 0 rfl rfl (i := lodger) (by first | assumption | exact vp_in_iff.mpr ⟨by omega, by omega⟩ | omega | decide) dX1_takesIll_23 (fun H locs hP hD hS => ?_)
      replace hP : va_P (dC, dI) vwCl (kDr cI dr dr_kinds (upd dr_ills lodger.toNatClampNeg (code_ - (48 : Int32))) dr_ships dr_shipCount dr_rocks dr_rockCount dr_amongRocks dr_row dr_whole) H := hP
      replace hD : va_D A (kDr cI dr dr_kinds (upd dr_ills lodger.toNatClampNeg (code_ - (48 : Int32))) dr_ships dr_shipCount dr_rocks dr_rockCount dr_amongRocks dr_row dr_whole) := hD
      refine lv_iconst (v := (1 : Int32)) hx hb dX1_takesIll_24 (by decide) ?_
      subst hE
      rw [← hQ]
      exact W.zret hx hb hr (isB.n nb_1) (fun t ht hW => ⟨⟨_, (), rfl, ⟨rfl, nb_1⟩, by rw [ht]; exact hP, va_K.moved hW.alike hK, hD⟩, hS.F ht⟩) hS.2.2 dX1_takesIll_25
    · have e_9 := mt Int32.le_iff_toInt_le.mpr c_9
      rw [if_neg c_9] at hE
      refine lv_iconst (v := (0 : Int32)) hx hb dX1_takesIll_12 (by decide) ?_
      subst hE
      rw [← hQ]
      exact W.zret hx hb hr (isB.n nb_0) (fun t ht hW => ⟨⟨_, (), rfl, ⟨rfl, nb_0⟩, by rw [ht]; exact hP, va_K.moved hW.alike hK, hD⟩, hS.F ht⟩) hS.2.2 dX1_takesIll_13
def fX1_takesRow (dr_row : Int32) (code_ : Int32) : Int32 × Int32 := (if (fX1_isSide code_) = (0 : Int32) then ((0 : Int32), dr_row) else ((1 : Int32), (code_ - (48 : Int32))))
set_option maxHeartbeats 4000000 in
set_option maxRecDepth 100000 in
theorem kX1_takesRow (l : Launch) (dC : Nat → ClassId) (dI : Nat → Nat → Nat) (cI cJ : ClassId) (sz : Nat) (dr : Nat → Nat) (dr_kinds : Nat → Int32) (dr_ills : Nat → Int32) (dr_ships : Nat → Int32) (dr_shipCount : Int32) (dr_rocks : Int64) (dr_rockCount : Int32) (dr_amongRocks : Int32) (dr_row : Int32) (dr_whole : Int32) (code_ : Int32) : Met l yX1_takesRow wsX1_takesRow ({ frames := 1, cells := 0, slots := 0, locals := 20 } : Room) (gW (dC, dI) cI cJ sz (kDr cI dr dr_kinds dr_ills dr_ships dr_shipCount dr_rocks dr_rockCount dr_amongRocks dr_row dr_whole) ([.ref (dr 0), .int code_] : List Value)) (va_Qi (fun (r : Int32) (_ : Unit) => r = ((fX1_takesRow dr_row code_).1) ∧ isB r) (fun u : Unit => gB (dC, dI) cI cJ (va_A (kDr cI dr dr_kinds dr_ills dr_ships dr_shipCount dr_rocks dr_rockCount dr_amongRocks dr_row dr_whole) sz) (kDr cI dr dr_kinds dr_ills dr_ships dr_shipCount dr_rocks dr_rockCount dr_amongRocks ((fX1_takesRow dr_row code_).2) dr_whole)) (va_A (kDr cI dr dr_kinds dr_ills dr_ships dr_shipCount dr_rocks dr_rockCount dr_amongRocks dr_row dr_whole) sz)) 0 0 (va_A (kDr cI dr dr_kinds dr_ills dr_ships dr_shipCount dr_rocks dr_rockCount dr_amongRocks dr_row dr_whole) sz) := by
  refine Met.ofW (cc := cX1_takesRow) (maxL := 2) (ret := (some .boolean)) (by decide) rfl ?_
  intro p e s m args below meth c s₁ B hml hv
  obtain ⟨rfl, hsz, hP, hK, hD0, hst⟩ := hv
  have hx := B.exec
  have hb := B.bytes
  have hr := B.returns
  have hts := atoms_spec (ws := wsX1_takesRow) B.pre
  have hown : s.vm.findClass RX1 = some m.cls := findClass_of_methodNamed B.named
  have hlocks := B.notSynchronized
  subst hsz
  have hD := hD0.self (sz := s.heap.size)
  generalize hAe : va_A (kDr cI dr dr_kinds dr_ills dr_ships dr_shipCount dr_rocks dr_rockCount dr_amongRocks dr_row dr_whole) s.heap.size = A at hD hst ⊢
  have hA : ∀ q : Nat, s.heap.size ≤ q → A q := fun q h => by rw [← hAe]; exact Or.inr h
  have hS : va_S A s.heap s.heap [] := va_S.rf
  generalize hE : (fX1_takesRow dr_row code_) = RES
  generalize hQ : MQ below (va_Qi (fun (r : Int32) (_ : Unit) => r = (RES.1) ∧ isB r) (fun u : Unit => gB (dC, dI) cI cJ A (kDr cI dr dr_kinds dr_ills dr_ships dr_shipCount dr_rocks dr_rockCount dr_amongRocks (RES.2) dr_whole)) A) ([.ref (dr 0), .int code_] : List Value).toArray s 0 0 A = Q
  have hl := lv_entry ([.ref (dr 0), .int code_] : List Value) (n := 2) (Nat.le_of_ble_eq_true rfl)
  rw [lg_entry_eq]
  generalize (lg_sl ([.ref (dr 0), .int code_] : List Value) ++ List.replicate (2 - (lg_sl ([.ref (dr 0), .int code_] : List Value)).length) Slot.unset).toArray = ls at hl ⊢
  have hl : lv_has ls 2 [(0, .ref (dr 0)), (1, .int code_)] := hl
  have in_X1 : ∀ w ∈ u_ws RX1 TX1 9, w ∈ wsX1_takesRow := fun _ h => List.mem_cons_of_mem _ (List.mem_append_right _ h)
  have t_fieldLink_RX1_39_FourLodgers_Draft_row_I := hts (.fieldLink RX1 39 "FourLodgers$Draft" "row" "I") (List.mem_of_getElem? (i := 1) rfl)
  have i_0 : (0 : Int32).toInt = 0 := by decide
  have i_1 : (1 : Int32).toInt = 1 := by decide
  have i_48 : (48 : Int32).toInt = 48 := by decide
  rw [fX1_takesRow] at hE
  refine lv_iload_n hx hb dX1_takesRow_0 rfl (lv_at hl 1 rfl) ?_
  refine rcSi (As := [.int code_]) (rest := []) ⟨hx, hb, hml, hown, hts⟩ (kX1_isSide l dC dI cI cJ code_) (va_cwS 1 hts gX1_takesRow_X1_isSide rfl rfl rfl (by decide +kernel) ⟨Nat.le_of_ble_eq_true rfl, Nat.le_of_ble_eq_true rfl⟩) hK hP hst hS [] rfl rfl hl.1 rfl (Nat.le_of_ble_eq_true rfl) dX1_takesRow_1 ⟨Nat.zero_le _, Nat.zero_le _⟩ (fun r w_1 => ?_)
  obtain ⟨rfl, nb_2⟩ := w_1
  refine lv_if_ne (tgt := 9) hx hb dX1_takesRow_4 (by decide) (fun c_4 => ?_) (fun c_4 => ?_)
  · rw [if_neg c_4] at hE
    refine lv_aload_n hx hb dX1_takesRow_9 rfl (lv_at hl 0 rfl) ?_
    refine lv_iload_n hx hb dX1_takesRow_10 rfl (lv_at hl 1 rfl) ?_
    refine lv_bipush (v := (48 : Int32)) hx hb dX1_takesRow_11 (by decide) ?_
    refine lv_isub hx hb dX1_takesRow_13 ?_
    refine va_put (D := (dC, dI)) (ci := 1) (v := .int (code_ - (48 : Int32))) (ty := .int) (C := RX1) (T := TX1) (N := 9) hx hb hts in_X1 tyX1 tyX1_ok nmX1 hown hK hP hD hS 0 rfl rfl 7 (by decide) t_fieldLink_RX1_39_FourLodgers_Draft_row_I (fun _ h9 => h9) rfl (by decide +kernel) rfl rfl (Nat.le_of_ble_eq_true rfl) dX1_takesRow_14 (fun H locs hP hD hS => ?_)
    replace hP : va_P (dC, dI) vwCl (kDr cI dr dr_kinds dr_ills dr_ships dr_shipCount dr_rocks dr_rockCount dr_amongRocks (code_ - (48 : Int32)) dr_whole) H := hP
    replace hD : va_D A (kDr cI dr dr_kinds dr_ills dr_ships dr_shipCount dr_rocks dr_rockCount dr_amongRocks (code_ - (48 : Int32)) dr_whole) := hD
    refine lv_iconst (v := (1 : Int32)) hx hb dX1_takesRow_17 (by decide) ?_
    subst hE
    rw [← hQ]
    exact W.zret hx hb hr (isB.n nb_1) (fun t ht hW => ⟨⟨_, (), rfl, ⟨rfl, nb_1⟩, by rw [ht]; exact hP, va_K.moved hW.alike hK, hD⟩, hS.F ht⟩) hS.2.2 dX1_takesRow_18
  · rw [if_pos c_4] at hE
    refine lv_iconst (v := (0 : Int32)) hx hb dX1_takesRow_7 (by decide) ?_
    subst hE
    rw [← hQ]
    exact W.zret hx hb hr (isB.n nb_0) (fun t ht hW => ⟨⟨_, (), rfl, ⟨rfl, nb_0⟩, by rw [ht]; exact hP, va_K.moved hW.alike hK, hD⟩, hS.F ht⟩) hS.2.2 dX1_takesRow_8
def fX1_takesShip (dr_ships : Nat → Int32) (dr_shipCount : Int32) (cell : Int32) : Int32 × (Nat → Int32) × Int32 := (if dr_shipCount < (3 : Int32) then ((1 : Int32), (upd dr_ships dr_shipCount.toNatClampNeg cell), (dr_shipCount + (1 : Int32))) else ((0 : Int32), dr_ships, dr_shipCount))
set_option maxHeartbeats 4000000 in
set_option maxRecDepth 100000 in
theorem kX1_takesShip (l : Launch) (dC : Nat → ClassId) (dI : Nat → Nat → Nat) (cI cJ : ClassId) (sz : Nat) (dr : Nat → Nat) (dr_kinds : Nat → Int32) (dr_ills : Nat → Int32) (dr_ships : Nat → Int32) (dr_shipCount : Int32) (dr_rocks : Int64) (dr_rockCount : Int32) (dr_amongRocks : Int32) (dr_row : Int32) (dr_whole : Int32) (cell : Int32) (p_s : 0 ≤ dr_shipCount.toInt) : Met l yX1_takesShip wsX1_takesShip ({ frames := 0, cells := 0, slots := 0, locals := 0 } : Room) (gW (dC, dI) cI cJ sz (kDr cI dr dr_kinds dr_ills dr_ships dr_shipCount dr_rocks dr_rockCount dr_amongRocks dr_row dr_whole) ([.ref (dr 0), .int cell] : List Value)) (va_Qi (fun (r : Int32) (_ : Unit) => r = ((fX1_takesShip dr_ships dr_shipCount cell).1) ∧ isB r) (fun u : Unit => gB (dC, dI) cI cJ (va_A (kDr cI dr dr_kinds dr_ills dr_ships dr_shipCount dr_rocks dr_rockCount dr_amongRocks dr_row dr_whole) sz) (kDr cI dr dr_kinds dr_ills ((fX1_takesShip dr_ships dr_shipCount cell).2.1) ((fX1_takesShip dr_ships dr_shipCount cell).2.2) dr_rocks dr_rockCount dr_amongRocks dr_row dr_whole)) (va_A (kDr cI dr dr_kinds dr_ills dr_ships dr_shipCount dr_rocks dr_rockCount dr_amongRocks dr_row dr_whole) sz)) 0 0 (va_A (kDr cI dr dr_kinds dr_ills dr_ships dr_shipCount dr_rocks dr_rockCount dr_amongRocks dr_row dr_whole) sz) := by
  refine Met.ofW (cc := cX1_takesShip) (maxL := 2) (ret := (some .boolean)) (by decide) rfl ?_
  intro p e s m args below meth c s₁ B hml hv
  obtain ⟨rfl, hsz, hP, hK, hD0, hst⟩ := hv
  have hx := B.exec
  have hb := B.bytes
  have hr := B.returns
  have hts := atoms_spec (ws := wsX1_takesShip) B.pre
  have hown : s.vm.findClass RX1 = some m.cls := findClass_of_methodNamed B.named
  have hlocks := B.notSynchronized
  subst hsz
  have hD := hD0.self (sz := s.heap.size)
  generalize hAe : va_A (kDr cI dr dr_kinds dr_ills dr_ships dr_shipCount dr_rocks dr_rockCount dr_amongRocks dr_row dr_whole) s.heap.size = A at hD hst ⊢
  have hA : ∀ q : Nat, s.heap.size ≤ q → A q := fun q h => by rw [← hAe]; exact Or.inr h
  have hS : va_S A s.heap s.heap [] := va_S.rf
  generalize hE : (fX1_takesShip dr_ships dr_shipCount cell) = RES
  generalize hQ : MQ below (va_Qi (fun (r : Int32) (_ : Unit) => r = (RES.1) ∧ isB r) (fun u : Unit => gB (dC, dI) cI cJ A (kDr cI dr dr_kinds dr_ills (RES.2.1) (RES.2.2) dr_rocks dr_rockCount dr_amongRocks dr_row dr_whole)) A) ([.ref (dr 0), .int cell] : List Value).toArray s 0 0 A = Q
  have hl := lv_entry ([.ref (dr 0), .int cell] : List Value) (n := 2) (Nat.le_of_ble_eq_true rfl)
  rw [lg_entry_eq]
  generalize (lg_sl ([.ref (dr 0), .int cell] : List Value) ++ List.replicate (2 - (lg_sl ([.ref (dr 0), .int cell] : List Value)).length) Slot.unset).toArray = ls at hl ⊢
  have hl : lv_has ls 2 [(0, .ref (dr 0)), (1, .int cell)] := hl
  have in_X1 : ∀ w ∈ u_ws RX1 TX1 9, w ∈ wsX1_takesShip := fun _ h => List.mem_cons_of_mem _ (List.mem_append_right _ h)
  have t_fieldLink_RX1_18_FourLodgers_Draft_ships_I := hts (.fieldLink RX1 18 "FourLodgers$Draft" "ships" "[I") (List.mem_of_getElem? (i := 2) rfl)
  have t_fieldLink_RX1_24_FourLodgers_Draft_shipCount_I := hts (.fieldLink RX1 24 "FourLodgers$Draft" "shipCount" "I") (List.mem_of_getElem? (i := 1) rfl)
  have i_0 : (0 : Int32).toInt = 0 := by decide
  have i_1 : (1 : Int32).toInt = 1 := by decide
  have i_3 : (3 : Int32).toInt = 3 := by decide
  rw [fX1_takesShip] at hE
  refine lv_aload_n hx hb dX1_takesShip_0 rfl (lv_at hl 0 rfl) ?_
  refine va_get (D := (dC, dI)) (ci := 1) (v := .int dr_shipCount) (C := RX1) (T := TX1) (N := 9) hx hb hts in_X1 hown hK hP 0 rfl rfl 3 (by decide) t_fieldLink_RX1_24_FourLodgers_Draft_shipCount_I (fun _ h9 => h9) rfl dX1_takesShip_1 ?_
  refine lv_iconst (v := (3 : Int32)) hx hb dX1_takesShip_4 (by decide) ?_
  refine lv_icmp_lt (tgt := 10) hx hb dX1_takesShip_5 (by decide) (fun c_5 => ?_) (fun c_5 => ?_)
  · have e_5 := Int32.lt_iff_toInt_lt.mp c_5
    rw [if_pos c_5] at hE
    refine lv_aload_n hx hb dX1_takesShip_10 rfl (lv_at hl 0 rfl) ?_
    refine va_get (D := (dC, dI)) (ci := 1) (v := .ref (dr 3)) (C := RX1) (T := TX1) (N := 9) hx hb hts in_X1 hown hK hP 0 rfl rfl 2 (by decide) t_fieldLink_RX1_18_FourLodgers_Draft_ships_I (fun _ h9 => h9) rfl dX1_takesShip_11 ?_
    refine lv_aload_n hx hb dX1_takesShip_14 rfl (lv_at hl 0 rfl) ?_
    refine va_get (D := (dC, dI)) (ci := 1) (v := .int dr_shipCount) (C := RX1) (T := TX1) (N := 9) hx hb hts in_X1 hown hK hP 0 rfl rfl 3 (by decide) t_fieldLink_RX1_24_FourLodgers_Draft_shipCount_I (fun _ h9 => h9) rfl dX1_takesShip_15 ?_
    refine lv_iload_n hx hb dX1_takesShip_18 rfl (lv_at hl 1 rfl) ?_
    refine va_iast hx hb hK hP hD hS 3 0 rfl rfl (i := dr_shipCount) (by first | assumption | exact vp_in_iff.mpr ⟨by omega, by omega⟩ | omega | decide) dX1_takesShip_19 (fun H locs hP hD hS => ?_)
    replace hP : va_P (dC, dI) vwCl (kDr cI dr dr_kinds dr_ills (upd dr_ships dr_shipCount.toNatClampNeg cell) dr_shipCount dr_rocks dr_rockCount dr_amongRocks dr_row dr_whole) H := hP
    replace hD : va_D A (kDr cI dr dr_kinds dr_ills (upd dr_ships dr_shipCount.toNatClampNeg cell) dr_shipCount dr_rocks dr_rockCount dr_amongRocks dr_row dr_whole) := hD
    refine lv_aload_n hx hb dX1_takesShip_20 rfl (lv_at hl 0 rfl) ?_
    refine lv_dup hx hb dX1_takesShip_21 rfl ?_
    refine va_get (D := (dC, dI)) (ci := 1) (v := .int dr_shipCount) (C := RX1) (T := TX1) (N := 9) hx hb hts in_X1 hown hK hP 0 rfl rfl 3 (by decide) t_fieldLink_RX1_24_FourLodgers_Draft_shipCount_I (fun _ h9 => h9) rfl dX1_takesShip_22 ?_
    refine lv_iconst (v := (1 : Int32)) hx hb dX1_takesShip_25 (by decide) ?_
    refine lv_iadd hx hb dX1_takesShip_26 ?_
    refine va_put (D := (dC, dI)) (ci := 1) (v := .int (dr_shipCount + (1 : Int32))) (ty := .int) (C := RX1) (T := TX1) (N := 9) hx hb hts in_X1 tyX1 tyX1_ok nmX1 hown hK hP hD hS 0 rfl rfl 3 (by decide) t_fieldLink_RX1_24_FourLodgers_Draft_shipCount_I (fun _ h9 => h9) rfl (by decide +kernel) rfl rfl (Nat.le_of_ble_eq_true rfl) dX1_takesShip_27 (fun H locs hP hD hS => ?_)
    replace hP : va_P (dC, dI) vwCl (kDr cI dr dr_kinds dr_ills (upd dr_ships dr_shipCount.toNatClampNeg cell) (dr_shipCount + (1 : Int32)) dr_rocks dr_rockCount dr_amongRocks dr_row dr_whole) H := hP
    replace hD : va_D A (kDr cI dr dr_kinds dr_ills (upd dr_ships dr_shipCount.toNatClampNeg cell) (dr_shipCount + (1 : Int32)) dr_rocks dr_rockCount dr_amongRocks dr_row dr_whole) := hD
    refine lv_iconst (v := (1 : Int32)) hx hb dX1_takesShip_30 (by decide) ?_
    subst hE
    rw [← hQ]
    exact W.zret hx hb hr (isB.n nb_1) (fun t ht hW => ⟨⟨_, (), rfl, ⟨rfl, nb_1⟩, by rw [ht]; exact hP, va_K.moved hW.alike hK, hD⟩, hS.F ht⟩) hS.2.2 dX1_takesShip_31
  · have e_5 := mt Int32.lt_iff_toInt_lt.mpr c_5
    rw [if_neg c_5] at hE
    refine lv_iconst (v := (0 : Int32)) hx hb dX1_takesShip_8 (by decide) ?_
    subst hE
    rw [← hQ]
    exact W.zret hx hb hr (isB.n nb_0) (fun t ht hW => ⟨⟨_, (), rfl, ⟨rfl, nb_0⟩, by rw [ht]; exact hP, va_K.moved hW.alike hK, hD⟩, hS.F ht⟩) hS.2.2 dX1_takesShip_9
def fX1_hasShip_2 (dr_ships : Nat → Int32) (dr_shipCount : Int32) (cell : Int32) : Nat → Nat → Int32
  | 0, _ => 0
  | n_ + 1, i => (if dr_shipCount ≤ (nI i) then (0 : Int32) else (if (dr_ships (nI i).toNatClampNeg) = cell then (1 : Int32) else (fX1_hasShip_2 dr_ships dr_shipCount cell n_ ((i + 1)))))
def fX1_hasShip (dr_ships : Nat → Int32) (dr_shipCount : Int32) (cell : Int32) : Int32 := (fX1_hasShip_2 dr_ships dr_shipCount cell 4 (0))
set_option maxHeartbeats 4000000 in
set_option maxRecDepth 100000 in
theorem kX1_hasShip (l : Launch) (dC : Nat → ClassId) (dI : Nat → Nat → Nat) (cI cJ : ClassId) (dr : Nat → Nat) (dr_kinds : Nat → Int32) (dr_ills : Nat → Int32) (dr_ships : Nat → Int32) (dr_shipCount : Int32) (dr_rocks : Int64) (dr_rockCount : Int32) (dr_amongRocks : Int32) (dr_row : Int32) (dr_whole : Int32) (cell : Int32) (p_t : dr_shipCount.toInt ≤ 3) : Met l yX1_hasShip wsX1_hasShip ({ frames := 0, cells := 0, slots := 0, locals := 0 } : Room) (gR (dC, dI) cI cJ (kDr cI dr dr_kinds dr_ills dr_ships dr_shipCount dr_rocks dr_rockCount dr_amongRocks dr_row dr_whole) ([.ref (dr 0), .int cell] : List Value)) (vp_Si (fun r => r = (fX1_hasShip dr_ships dr_shipCount cell) ∧ isB r)) 0 0 (fun _ => False) := by
  refine Met.ofW (cc := cX1_hasShip) (maxL := 3) (ret := (some .boolean)) (by decide) rfl ?_
  intro p e s m args below meth c s₁ B hml hv
  obtain ⟨rfl, hP, hK, hst⟩ := hv
  have hx := B.exec
  have hb := B.bytes
  have hr := B.returns
  have hts := atoms_spec (ws := wsX1_hasShip) B.pre
  have hown : s.vm.findClass RX1 = some m.cls := findClass_of_methodNamed B.named
  have hlocks := B.notSynchronized
  have hS : va_S (fun _ => False) s.heap s.heap [] := va_S.rf
  generalize hE : (fX1_hasShip dr_ships dr_shipCount cell) = RES
  generalize hQ : MQ below (vp_Si (fun r => r = RES ∧ isB r)) ([.ref (dr 0), .int cell] : List Value).toArray s 0 0 (fun _ => False) = Q
  have hl := lv_entry ([.ref (dr 0), .int cell] : List Value) (n := 3) (Nat.le_of_ble_eq_true rfl)
  rw [lg_entry_eq]
  generalize (lg_sl ([.ref (dr 0), .int cell] : List Value) ++ List.replicate (3 - (lg_sl ([.ref (dr 0), .int cell] : List Value)).length) Slot.unset).toArray = ls at hl ⊢
  have hl : lv_has ls 3 [(0, .ref (dr 0)), (1, .int cell)] := hl
  have in_X1 : ∀ w ∈ u_ws RX1 TX1 9, w ∈ wsX1_hasShip := fun _ h => List.mem_cons_of_mem _ (List.mem_append_right _ h)
  have t_fieldLink_RX1_18_FourLodgers_Draft_ships_I := hts (.fieldLink RX1 18 "FourLodgers$Draft" "ships" "[I") (List.mem_of_getElem? (i := 2) rfl)
  have t_fieldLink_RX1_24_FourLodgers_Draft_shipCount_I := hts (.fieldLink RX1 24 "FourLodgers$Draft" "shipCount" "I") (List.mem_of_getElem? (i := 1) rfl)
  have i_0 : (0 : Int32).toInt = 0 := by decide
  have i_1 : (1 : Int32).toInt = 1 := by decide
  rw [fX1_hasShip] at hE
  refine lv_iconst (v := (0 : Int32)) hx hb dX1_hasShip_0 (by decide) ?_
  refine lv_istore_n (lv' := [(2, .int (0 : Int32)), (0, .ref (dr 0)), (1, .int cell)]) hx hb dX1_hasShip_1 rfl hl (by decide) rfl (fun ls hl => ?_)
  have L2 : ∀ (n_ : Nat) (i : Nat) , (i ≤ 3) → 3 - i < n_ → (fX1_hasShip_2 dr_ships dr_shipCount cell n_ i) = RES → ∀ ls : Array Slot, lv_has ls 3 [(0, .ref (dr 0)), (1, .int cell), (2, .int (nI i))] → W p l e (headSpec wsX1_hasShip ({ frames := 0, cells := 0, slots := 0, locals := 0 } : Room)).room s m ([.ref (dr 0), .int cell] : List Value).toArray below meth c s.heap [] 0 0 Q (F0 m 2 ls []) := by
    intro n_
    induction n_ with
    | zero => intro i  hi hn; exact absurd hn (Nat.not_lt_zero _)
    | succ n_ ih =>
      intro i  hi hn hE ls hl
      rw [fX1_hasShip_2] at hE
      have tn_i : (nI i).toInt = (i : Int) := nI_toInt (by omega)
      refine lv_iload_n hx hb dX1_hasShip_2 rfl (lv_at hl 2 rfl) ?_
      refine lv_aload_n hx hb dX1_hasShip_3 rfl (lv_at hl 0 rfl) ?_
      refine va_get (D := (dC, dI)) (ci := 1) (v := .int dr_shipCount) (C := RX1) (T := TX1) (N := 9) hx hb hts in_X1 hown hK hP 0 rfl rfl 3 (by decide) t_fieldLink_RX1_24_FourLodgers_Draft_shipCount_I (fun _ h9 => h9) rfl dX1_hasShip_4 ?_
      refine lv_icmp_ge (tgt := 28) hx hb dX1_hasShip_7 (by decide) (fun c_7 => ?_) (fun c_7 => ?_)
      · have e_7 := Int32.le_iff_toInt_le.mp c_7
        rw [if_pos c_7] at hE
        refine lv_iconst (v := (0 : Int32)) hx hb dX1_hasShip_28 (by decide) ?_
        subst hE
        rw [← hQ]
        exact W.zret hx hb hr (isB.n nb_0) (fun t ht hW => ⟨_, rfl, ⟨rfl, nb_0⟩, ht⟩) (fun q h => absurd h List.not_mem_nil) dX1_hasShip_29
      · have e_7 := mt Int32.le_iff_toInt_le.mpr c_7
        rw [if_neg c_7] at hE
        refine lv_aload_n hx hb dX1_hasShip_10 rfl (lv_at hl 0 rfl) ?_
        refine va_get (D := (dC, dI)) (ci := 1) (v := .ref (dr 3)) (C := RX1) (T := TX1) (N := 9) hx hb hts in_X1 hown hK hP 0 rfl rfl 2 (by decide) t_fieldLink_RX1_18_FourLodgers_Draft_ships_I (fun _ h9 => h9) rfl dX1_hasShip_11 ?_
        refine lv_iload_n hx hb dX1_hasShip_14 rfl (lv_at hl 2 rfl) ?_
        refine va_iald hx hb hK hP 3 0 rfl rfl (i := (nI i)) (by first | assumption | exact vp_in_iff.mpr ⟨by omega, by omega⟩ | omega | decide) dX1_hasShip_15 ?_
        refine lv_iload_n hx hb dX1_hasShip_16 rfl (lv_at hl 1 rfl) ?_
        refine lv_icmp_ne (tgt := 22) hx hb dX1_hasShip_17 (by decide) (fun c_17 => ?_) (fun c_17 => ?_)
        · have e_17 := mt Int32.toInt_inj.mp c_17
          rw [if_neg c_17] at hE
          refine lv_iinc (v := (nI (i + 1))) (lv' := [(2, .int (nI (i + 1))), (0, .ref (dr 0)), (1, .int cell)]) hx hb dX1_hasShip_22 hl (k := 2) rfl (by rw [show Int32.ofInt 1 = nI 1 from rfl, nI_add]) (by decide) rfl (fun ls hl => ?_)
          refine lv_goto (tgt := 2) hx hb dX1_hasShip_25 (by decide) ?_
          exact ih ((i + 1))  (by omega) (by omega) hE ls (lv_sub hl [1, 2, 0] rfl)
        · have e_17 := congrArg Int32.toInt c_17
          rw [if_pos c_17] at hE
          refine lv_iconst (v := (1 : Int32)) hx hb dX1_hasShip_20 (by decide) ?_
          subst hE
          rw [← hQ]
          exact W.zret hx hb hr (isB.n nb_1) (fun t ht hW => ⟨_, rfl, ⟨rfl, nb_1⟩, ht⟩) (fun q h => absurd h List.not_mem_nil) dX1_hasShip_21
  exact L2 4 (0)  (by omega) (by omega) hE ls (lv_sub hl [1, 2, 0] rfl)
def fX1_takesRock (dr_ships : Nat → Int32) (dr_shipCount : Int32) (dr_rocks : Int64) (dr_rockCount : Int32) (dr_whole : Int32) (cell : Int32) : Int32 × Int64 × Int32 × Int32 := (if (6 : Int32) ≤ dr_rockCount then ((0 : Int32), dr_rocks, dr_rockCount, dr_whole) else (if ((dr_rocks >>> (cell.toInt64 &&& 63)) &&& (1 : Int64)) = (0 : Int64) then (if (fX1_hasShip dr_ships dr_shipCount cell) = (0 : Int32) then ((1 : Int32), (dr_rocks ||| ((1 : Int64) <<< (cell.toInt64 &&& 63))), (dr_rockCount + (1 : Int32)), (1 : Int32)) else ((0 : Int32), dr_rocks, dr_rockCount, dr_whole)) else ((0 : Int32), dr_rocks, dr_rockCount, dr_whole)))
set_option maxHeartbeats 4000000 in
set_option maxRecDepth 100000 in
theorem kX1_takesRock (l : Launch) (dC : Nat → ClassId) (dI : Nat → Nat → Nat) (cI cJ : ClassId) (sz : Nat) (dr : Nat → Nat) (dr_kinds : Nat → Int32) (dr_ills : Nat → Int32) (dr_ships : Nat → Int32) (dr_shipCount : Int32) (dr_rocks : Int64) (dr_rockCount : Int32) (dr_amongRocks : Int32) (dr_row : Int32) (dr_whole : Int32) (cell : Int32) (p_t : dr_shipCount.toInt ≤ 3) : Met l yX1_takesRock wsX1_takesRock ({ frames := 1, cells := 0, slots := 0, locals := 22 } : Room) (gW (dC, dI) cI cJ sz (kDr cI dr dr_kinds dr_ills dr_ships dr_shipCount dr_rocks dr_rockCount dr_amongRocks dr_row dr_whole) ([.ref (dr 0), .int cell] : List Value)) (va_Qi (fun (r : Int32) (_ : Unit) => r = ((fX1_takesRock dr_ships dr_shipCount dr_rocks dr_rockCount dr_whole cell).1) ∧ isB r) (fun u : Unit => gB (dC, dI) cI cJ (va_A (kDr cI dr dr_kinds dr_ills dr_ships dr_shipCount dr_rocks dr_rockCount dr_amongRocks dr_row dr_whole) sz) (kDr cI dr dr_kinds dr_ills dr_ships dr_shipCount ((fX1_takesRock dr_ships dr_shipCount dr_rocks dr_rockCount dr_whole cell).2.1) ((fX1_takesRock dr_ships dr_shipCount dr_rocks dr_rockCount dr_whole cell).2.2.1) dr_amongRocks dr_row ((fX1_takesRock dr_ships dr_shipCount dr_rocks dr_rockCount dr_whole cell).2.2.2))) (va_A (kDr cI dr dr_kinds dr_ills dr_ships dr_shipCount dr_rocks dr_rockCount dr_amongRocks dr_row dr_whole) sz)) 0 0 (va_A (kDr cI dr dr_kinds dr_ills dr_ships dr_shipCount dr_rocks dr_rockCount dr_amongRocks dr_row dr_whole) sz) := by
  refine Met.ofW (cc := cX1_takesRock) (maxL := 2) (ret := (some .boolean)) (by decide) rfl ?_
  intro p e s m args below meth c s₁ B hml hv
  obtain ⟨rfl, hsz, hP, hK, hD0, hst⟩ := hv
  have hx := B.exec
  have hb := B.bytes
  have hr := B.returns
  have hts := atoms_spec (ws := wsX1_takesRock) B.pre
  have hown : s.vm.findClass RX1 = some m.cls := findClass_of_methodNamed B.named
  have hlocks := B.notSynchronized
  subst hsz
  have hD := hD0.self (sz := s.heap.size)
  generalize hAe : va_A (kDr cI dr dr_kinds dr_ills dr_ships dr_shipCount dr_rocks dr_rockCount dr_amongRocks dr_row dr_whole) s.heap.size = A at hD hst ⊢
  have hA : ∀ q : Nat, s.heap.size ≤ q → A q := fun q h => by rw [← hAe]; exact Or.inr h
  have hS : va_S A s.heap s.heap [] := va_S.rf
  generalize hE : (fX1_takesRock dr_ships dr_shipCount dr_rocks dr_rockCount dr_whole cell) = RES
  generalize hQ : MQ below (va_Qi (fun (r : Int32) (_ : Unit) => r = (RES.1) ∧ isB r) (fun u : Unit => gB (dC, dI) cI cJ A (kDr cI dr dr_kinds dr_ills dr_ships dr_shipCount (RES.2.1) (RES.2.2.1) dr_amongRocks dr_row (RES.2.2.2))) A) ([.ref (dr 0), .int cell] : List Value).toArray s 0 0 A = Q
  have hl := lv_entry ([.ref (dr 0), .int cell] : List Value) (n := 2) (Nat.le_of_ble_eq_true rfl)
  rw [lg_entry_eq]
  generalize (lg_sl ([.ref (dr 0), .int cell] : List Value) ++ List.replicate (2 - (lg_sl ([.ref (dr 0), .int cell] : List Value)).length) Slot.unset).toArray = ls at hl ⊢
  have hl : lv_has ls 2 [(0, .ref (dr 0)), (1, .int cell)] := hl
  have in_X1 : ∀ w ∈ u_ws RX1 TX1 9, w ∈ wsX1_takesRock := fun _ h => List.mem_cons_of_mem _ (List.mem_append_right _ h)
  have t_fieldLink_RX1_28_FourLodgers_Draft_rocks_J := hts (.fieldLink RX1 28 "FourLodgers$Draft" "rocks" "J") (List.mem_of_getElem? (i := 2) rfl)
  have t_fieldLink_RX1_32_FourLodgers_Draft_rockCount_I := hts (.fieldLink RX1 32 "FourLodgers$Draft" "rockCount" "I") (List.mem_of_getElem? (i := 1) rfl)
  have t_fieldLink_RX1_42_FourLodgers_Draft_whole_Z := hts (.fieldLink RX1 42 "FourLodgers$Draft" "whole" "Z") (List.mem_of_getElem? (i := 3) rfl)
  have i_0 : (0 : Int32).toInt = 0 := by decide
  have i_1 : (1 : Int32).toInt = 1 := by decide
  have i_6 : (6 : Int32).toInt = 6 := by decide
  rw [fX1_takesRock] at hE
  refine lv_aload_n hx hb dX1_takesRock_0 rfl (lv_at hl 0 rfl) ?_
  refine va_get (D := (dC, dI)) (ci := 1) (v := .int dr_rockCount) (C := RX1) (T := TX1) (N := 9) hx hb hts in_X1 hown hK hP 0 rfl rfl 5 (by decide) t_fieldLink_RX1_32_FourLodgers_Draft_rockCount_I (fun _ h9 => h9) rfl dX1_takesRock_1 ?_
  refine lv_bipush (v := (6 : Int32)) hx hb dX1_takesRock_4 (by decide) ?_
  refine lv_icmp_ge (tgt := 30) hx hb dX1_takesRock_6 (by decide) (fun c_6 => ?_) (fun c_6 => ?_)
  · have e_6 := Int32.le_iff_toInt_le.mp c_6
    rw [if_pos c_6] at hE
    refine lv_iconst (v := (0 : Int32)) hx hb dX1_takesRock_30 (by decide) ?_
    subst hE
    rw [← hQ]
    exact W.zret hx hb hr (isB.n nb_0) (fun t ht hW => ⟨⟨_, (), rfl, ⟨rfl, nb_0⟩, by rw [ht]; exact hP, va_K.moved hW.alike hK, hD⟩, hS.F ht⟩) hS.2.2 dX1_takesRock_31
  · have e_6 := mt Int32.le_iff_toInt_le.mpr c_6
    rw [if_neg c_6] at hE
    refine lv_aload_n hx hb dX1_takesRock_9 rfl (lv_at hl 0 rfl) ?_
    refine va_get (D := (dC, dI)) (ci := 1) (v := .long dr_rocks) (C := RX1) (T := TX1) (N := 9) hx hb hts in_X1 hown hK hP 0 rfl rfl 4 (by decide) t_fieldLink_RX1_28_FourLodgers_Draft_rocks_J (fun _ h9 => h9) rfl dX1_takesRock_10 ?_
    refine lv_iload_n hx hb dX1_takesRock_13 rfl (lv_at hl 1 rfl) ?_
    refine lv_lshr hx hb dX1_takesRock_14 rfl ?_
    refine lv_lconst (v := (1 : Int64)) hx hb dX1_takesRock_15 (by decide) ?_
    refine lv_land hx hb dX1_takesRock_16 ?_
    refine lv_lconst (v := (0 : Int64)) hx hb dX1_takesRock_17 (by decide) ?_
    refine W.lcmp hx hb dX1_takesRock_18 ?_
    refine lv_if_ne (tgt := 30) hx hb dX1_takesRock_19 (by decide) (fun c_19 => ?_) (fun c_19 => ?_)
    · replace c_19 : ¬ ((dr_rocks >>> (cell.toInt64 &&& 63)) &&& (1 : Int64)) = (0 : Int64) := fun q => c_19 ((lg_cmp_eq _ _).mpr q)
      rw [if_neg c_19] at hE
      refine lv_iconst (v := (0 : Int32)) hx hb dX1_takesRock_30 (by decide) ?_
      subst hE
      rw [← hQ]
      exact W.zret hx hb hr (isB.n nb_0) (fun t ht hW => ⟨⟨_, (), rfl, ⟨rfl, nb_0⟩, by rw [ht]; exact hP, va_K.moved hW.alike hK, hD⟩, hS.F ht⟩) hS.2.2 dX1_takesRock_31
    · replace c_19 : ((dr_rocks >>> (cell.toInt64 &&& 63)) &&& (1 : Int64)) = (0 : Int64) := (lg_cmp_eq _ _).mp c_19
      rw [if_pos c_19] at hE
      refine lv_aload_n hx hb dX1_takesRock_22 rfl (lv_at hl 0 rfl) ?_
      refine lv_iload_n hx hb dX1_takesRock_23 rfl (lv_at hl 1 rfl) ?_
      refine rcVi (As := [.int cell]) (rest := []) ⟨hx, hb, hml, hown, hts⟩ (kX1_hasShip l dC dI cI cJ dr dr_kinds dr_ills dr_ships dr_shipCount dr_rocks dr_rockCount dr_amongRocks dr_row dr_whole cell (by first | assumption | exact vp_in_iff.mpr ⟨by omega, by omega⟩ | omega | decide)) (cwV 1 hts gX1_takesRock_X1_hasShip rfl rfl rfl (by decide +kernel) ⟨Nat.le_of_ble_eq_true rfl, Nat.le_of_ble_eq_true rfl⟩) hK hP hst hS [0, 1, 2, 3] rfl 0 rfl rfl rfl hl.1 rfl (Nat.le_of_ble_eq_true rfl) dX1_takesRock_24 ⟨Nat.zero_le _, Nat.zero_le _⟩ (fun r w_1 => ?_)
      obtain ⟨rfl, nb_2⟩ := w_1
      refine lv_if_eq (tgt := 32) hx hb dX1_takesRock_27 (by decide) (fun c_27 => ?_) (fun c_27 => ?_)
      · rw [if_pos c_27] at hE
        refine lv_aload_n hx hb dX1_takesRock_32 rfl (lv_at hl 0 rfl) ?_
        refine lv_dup hx hb dX1_takesRock_33 rfl ?_
        refine va_get (D := (dC, dI)) (ci := 1) (v := .long dr_rocks) (C := RX1) (T := TX1) (N := 9) hx hb hts in_X1 hown hK hP 0 rfl rfl 4 (by decide) t_fieldLink_RX1_28_FourLodgers_Draft_rocks_J (fun _ h9 => h9) rfl dX1_takesRock_34 ?_
        refine lv_lconst (v := (1 : Int64)) hx hb dX1_takesRock_37 (by decide) ?_
        refine lv_iload_n hx hb dX1_takesRock_38 rfl (lv_at hl 1 rfl) ?_
        refine lv_lshl hx hb dX1_takesRock_39 rfl ?_
        refine lv_lor hx hb dX1_takesRock_40 ?_
        refine va_put (D := (dC, dI)) (ci := 1) (v := .long (dr_rocks ||| ((1 : Int64) <<< (cell.toInt64 &&& 63)))) (ty := .long) (C := RX1) (T := TX1) (N := 9) hx hb hts in_X1 tyX1 tyX1_ok nmX1 hown hK hP hD hS 0 rfl rfl 4 (by decide) t_fieldLink_RX1_28_FourLodgers_Draft_rocks_J (fun _ h9 => h9) rfl (by decide +kernel) rfl rfl (Nat.le_of_ble_eq_true rfl) dX1_takesRock_41 (fun H locs hP hD hS => ?_)
        replace hP : va_P (dC, dI) vwCl (kDr cI dr dr_kinds dr_ills dr_ships dr_shipCount (dr_rocks ||| ((1 : Int64) <<< (cell.toInt64 &&& 63))) dr_rockCount dr_amongRocks dr_row dr_whole) H := hP
        replace hD : va_D A (kDr cI dr dr_kinds dr_ills dr_ships dr_shipCount (dr_rocks ||| ((1 : Int64) <<< (cell.toInt64 &&& 63))) dr_rockCount dr_amongRocks dr_row dr_whole) := hD
        refine lv_aload_n hx hb dX1_takesRock_44 rfl (lv_at hl 0 rfl) ?_
        refine lv_dup hx hb dX1_takesRock_45 rfl ?_
        refine va_get (D := (dC, dI)) (ci := 1) (v := .int dr_rockCount) (C := RX1) (T := TX1) (N := 9) hx hb hts in_X1 hown hK hP 0 rfl rfl 5 (by decide) t_fieldLink_RX1_32_FourLodgers_Draft_rockCount_I (fun _ h9 => h9) rfl dX1_takesRock_46 ?_
        refine lv_iconst (v := (1 : Int32)) hx hb dX1_takesRock_49 (by decide) ?_
        refine lv_iadd hx hb dX1_takesRock_50 ?_
        refine va_put (D := (dC, dI)) (ci := 1) (v := .int (dr_rockCount + (1 : Int32))) (ty := .int) (C := RX1) (T := TX1) (N := 9) hx hb hts in_X1 tyX1 tyX1_ok nmX1 hown hK hP hD hS 0 rfl rfl 5 (by decide) t_fieldLink_RX1_32_FourLodgers_Draft_rockCount_I (fun _ h9 => h9) rfl (by decide +kernel) rfl rfl (Nat.le_of_ble_eq_true rfl) dX1_takesRock_51 (fun H locs hP hD hS => ?_)
        replace hP : va_P (dC, dI) vwCl (kDr cI dr dr_kinds dr_ills dr_ships dr_shipCount (dr_rocks ||| ((1 : Int64) <<< (cell.toInt64 &&& 63))) (dr_rockCount + (1 : Int32)) dr_amongRocks dr_row dr_whole) H := hP
        replace hD : va_D A (kDr cI dr dr_kinds dr_ills dr_ships dr_shipCount (dr_rocks ||| ((1 : Int64) <<< (cell.toInt64 &&& 63))) (dr_rockCount + (1 : Int32)) dr_amongRocks dr_row dr_whole) := hD
        refine lv_aload_n hx hb dX1_takesRock_54 rfl (lv_at hl 0 rfl) ?_
        refine lv_iconst (v := (1 : Int32)) hx hb dX1_takesRock_55 (by decide) ?_
        refine va_put (D := (dC, dI)) (ci := 1) (v := .int (1 : Int32)) (ty := .boolean) (C := RX1) (T := TX1) (N := 9) hx hb hts in_X1 tyX1 tyX1_ok nmX1 hown hK hP hD hS 0 rfl rfl 8 (by decide) t_fieldLink_RX1_42_FourLodgers_Draft_whole_Z (fun _ h9 => h9) rfl (by decide +kernel) (by decide +kernel) (by decide +kernel) (Nat.le_of_ble_eq_true rfl) dX1_takesRock_56 (fun H locs hP hD hS => ?_)
        replace hP : va_P (dC, dI) vwCl (kDr cI dr dr_kinds dr_ills dr_ships dr_shipCount (dr_rocks ||| ((1 : Int64) <<< (cell.toInt64 &&& 63))) (dr_rockCount + (1 : Int32)) dr_amongRocks dr_row (1 : Int32)) H := hP
        replace hD : va_D A (kDr cI dr dr_kinds dr_ills dr_ships dr_shipCount (dr_rocks ||| ((1 : Int64) <<< (cell.toInt64 &&& 63))) (dr_rockCount + (1 : Int32)) dr_amongRocks dr_row (1 : Int32)) := hD
        refine lv_iconst (v := (1 : Int32)) hx hb dX1_takesRock_59 (by decide) ?_
        subst hE
        rw [← hQ]
        exact W.zret hx hb hr (isB.n nb_1) (fun t ht hW => ⟨⟨_, (), rfl, ⟨rfl, nb_1⟩, by rw [ht]; exact hP, va_K.moved hW.alike hK, hD⟩, hS.F ht⟩) hS.2.2 dX1_takesRock_60
      · rw [if_neg c_27] at hE
        refine lv_iconst (v := (0 : Int32)) hx hb dX1_takesRock_30 (by decide) ?_
        subst hE
        rw [← hQ]
        exact W.zret hx hb hr (isB.n nb_0) (fun t ht hW => ⟨⟨_, (), rfl, ⟨rfl, nb_0⟩, by rw [ht]; exact hP, va_K.moved hW.alike hK, hD⟩, hS.F ht⟩) hS.2.2 dX1_takesRock_31
def fX1_takesColumn (dr_ships : Nat → Int32) (dr_shipCount : Int32) (dr_rocks : Int64) (dr_rockCount : Int32) (dr_amongRocks : Int32) (dr_row : Int32) (dr_whole : Int32) (code_ : Int32) : Int32 × (Nat → Int32) × Int32 × Int64 × Int32 × Int32 := (if (fX1_isSide code_) = (0 : Int32) then ((0 : Int32), dr_ships, dr_shipCount, dr_rocks, dr_rockCount, dr_whole) else (if dr_amongRocks = (0 : Int32) then (((fX1_takesShip dr_ships dr_shipCount ((((6 : Int32) * dr_row) + code_) - (48 : Int32))).1), ((fX1_takesShip dr_ships dr_shipCount ((((6 : Int32) * dr_row) + code_) - (48 : Int32))).2.1), ((fX1_takesShip dr_ships dr_shipCount ((((6 : Int32) * dr_row) + code_) - (48 : Int32))).2.2), dr_rocks, dr_rockCount, dr_whole) else (((fX1_takesRock dr_ships dr_shipCount dr_rocks dr_rockCount dr_whole ((((6 : Int32) * dr_row) + code_) - (48 : Int32))).1), dr_ships, dr_shipCount, ((fX1_takesRock dr_ships dr_shipCount dr_rocks dr_rockCount dr_whole ((((6 : Int32) * dr_row) + code_) - (48 : Int32))).2.1), ((fX1_takesRock dr_ships dr_shipCount dr_rocks dr_rockCount dr_whole ((((6 : Int32) * dr_row) + code_) - (48 : Int32))).2.2.1), ((fX1_takesRock dr_ships dr_shipCount dr_rocks dr_rockCount dr_whole ((((6 : Int32) * dr_row) + code_) - (48 : Int32))).2.2.2))))
set_option maxHeartbeats 4000000 in
set_option maxRecDepth 100000 in
theorem kX1_takesColumn (l : Launch) (dC : Nat → ClassId) (dI : Nat → Nat → Nat) (cI cJ : ClassId) (sz : Nat) (dr : Nat → Nat) (dr_kinds : Nat → Int32) (dr_ills : Nat → Int32) (dr_ships : Nat → Int32) (dr_shipCount : Int32) (dr_rocks : Int64) (dr_rockCount : Int32) (dr_amongRocks : Int32) (dr_row : Int32) (dr_whole : Int32) (code_ : Int32) (p_s : 0 ≤ dr_shipCount.toInt) (p_t : dr_shipCount.toInt ≤ 3) : Met l yX1_takesColumn wsX1_takesColumn ({ frames := 2, cells := 0, slots := 0, locals := 43 } : Room) (gW (dC, dI) cI cJ sz (kDr cI dr dr_kinds dr_ills dr_ships dr_shipCount dr_rocks dr_rockCount dr_amongRocks dr_row dr_whole) ([.ref (dr 0), .int code_] : List Value)) (va_Qi (fun (r : Int32) (_ : Unit) => r = ((fX1_takesColumn dr_ships dr_shipCount dr_rocks dr_rockCount dr_amongRocks dr_row dr_whole code_).1) ∧ isB r) (fun u : Unit => gB (dC, dI) cI cJ (va_A (kDr cI dr dr_kinds dr_ills dr_ships dr_shipCount dr_rocks dr_rockCount dr_amongRocks dr_row dr_whole) sz) (kDr cI dr dr_kinds dr_ills ((fX1_takesColumn dr_ships dr_shipCount dr_rocks dr_rockCount dr_amongRocks dr_row dr_whole code_).2.1) ((fX1_takesColumn dr_ships dr_shipCount dr_rocks dr_rockCount dr_amongRocks dr_row dr_whole code_).2.2.1) ((fX1_takesColumn dr_ships dr_shipCount dr_rocks dr_rockCount dr_amongRocks dr_row dr_whole code_).2.2.2.1) ((fX1_takesColumn dr_ships dr_shipCount dr_rocks dr_rockCount dr_amongRocks dr_row dr_whole code_).2.2.2.2.1) dr_amongRocks dr_row ((fX1_takesColumn dr_ships dr_shipCount dr_rocks dr_rockCount dr_amongRocks dr_row dr_whole code_).2.2.2.2.2))) (va_A (kDr cI dr dr_kinds dr_ills dr_ships dr_shipCount dr_rocks dr_rockCount dr_amongRocks dr_row dr_whole) sz)) 0 0 (va_A (kDr cI dr dr_kinds dr_ills dr_ships dr_shipCount dr_rocks dr_rockCount dr_amongRocks dr_row dr_whole) sz) := by
  refine Met.ofW (cc := cX1_takesColumn) (maxL := 3) (ret := (some .boolean)) (by decide) rfl ?_
  intro p e s m args below meth c s₁ B hml hv
  obtain ⟨rfl, hsz, hP, hK, hD0, hst⟩ := hv
  have hx := B.exec
  have hb := B.bytes
  have hr := B.returns
  have hts := atoms_spec (ws := wsX1_takesColumn) B.pre
  have hown : s.vm.findClass RX1 = some m.cls := findClass_of_methodNamed B.named
  have hlocks := B.notSynchronized
  subst hsz
  have hD := hD0.self (sz := s.heap.size)
  generalize hAe : va_A (kDr cI dr dr_kinds dr_ills dr_ships dr_shipCount dr_rocks dr_rockCount dr_amongRocks dr_row dr_whole) s.heap.size = A at hD hst ⊢
  have hA : ∀ q : Nat, s.heap.size ≤ q → A q := fun q h => by rw [← hAe]; exact Or.inr h
  have hS : va_S A s.heap s.heap [] := va_S.rf
  generalize hE : (fX1_takesColumn dr_ships dr_shipCount dr_rocks dr_rockCount dr_amongRocks dr_row dr_whole code_) = RES
  generalize hQ : MQ below (va_Qi (fun (r : Int32) (_ : Unit) => r = (RES.1) ∧ isB r) (fun u : Unit => gB (dC, dI) cI cJ A (kDr cI dr dr_kinds dr_ills (RES.2.1) (RES.2.2.1) (RES.2.2.2.1) (RES.2.2.2.2.1) dr_amongRocks dr_row (RES.2.2.2.2.2))) A) ([.ref (dr 0), .int code_] : List Value).toArray s 0 0 A = Q
  have hl := lv_entry ([.ref (dr 0), .int code_] : List Value) (n := 3) (Nat.le_of_ble_eq_true rfl)
  rw [lg_entry_eq]
  generalize (lg_sl ([.ref (dr 0), .int code_] : List Value) ++ List.replicate (3 - (lg_sl ([.ref (dr 0), .int code_] : List Value)).length) Slot.unset).toArray = ls at hl ⊢
  have hl : lv_has ls 3 [(0, .ref (dr 0)), (1, .int code_)] := hl
  have in_X1 : ∀ w ∈ u_ws RX1 TX1 9, w ∈ wsX1_takesColumn := fun _ h => List.mem_cons_of_mem _ (List.mem_append_right _ h)
  have t_fieldLink_RX1_35_FourLodgers_Draft_amongRocks_Z := hts (.fieldLink RX1 35 "FourLodgers$Draft" "amongRocks" "Z") (List.mem_of_getElem? (i := 2) rfl)
  have t_fieldLink_RX1_39_FourLodgers_Draft_row_I := hts (.fieldLink RX1 39 "FourLodgers$Draft" "row" "I") (List.mem_of_getElem? (i := 1) rfl)
  have i_0 : (0 : Int32).toInt = 0 := by decide
  have i_6 : (6 : Int32).toInt = 6 := by decide
  have i_48 : (48 : Int32).toInt = 48 := by decide
  rw [fX1_takesColumn] at hE
  refine lv_iload_n hx hb dX1_takesColumn_0 rfl (lv_at hl 1 rfl) ?_
  refine rcSi (As := [.int code_]) (rest := []) ⟨hx, hb, hml, hown, hts⟩ (kX1_isSide l dC dI cI cJ code_) (va_cwS 1 hts gX1_takesColumn_X1_isSide rfl rfl rfl (by decide +kernel) ⟨Nat.le_of_ble_eq_true rfl, Nat.le_of_ble_eq_true rfl⟩) hK hP hst hS [] rfl rfl hl.1 rfl (Nat.le_of_ble_eq_true rfl) dX1_takesColumn_1 ⟨Nat.zero_le _, Nat.zero_le _⟩ (fun r w_1 => ?_)
  obtain ⟨rfl, nb_2⟩ := w_1
  refine lv_if_ne (tgt := 9) hx hb dX1_takesColumn_4 (by decide) (fun c_4 => ?_) (fun c_4 => ?_)
  · rw [if_neg c_4] at hE
    refine lv_bipush (v := (6 : Int32)) hx hb dX1_takesColumn_9 (by decide) ?_
    refine lv_aload_n hx hb dX1_takesColumn_11 rfl (lv_at hl 0 rfl) ?_
    refine va_get (D := (dC, dI)) (ci := 1) (v := .int dr_row) (C := RX1) (T := TX1) (N := 9) hx hb hts in_X1 hown hK hP 0 rfl rfl 7 (by decide) t_fieldLink_RX1_39_FourLodgers_Draft_row_I (fun _ h9 => h9) rfl dX1_takesColumn_12 ?_
    refine lv_imul hx hb dX1_takesColumn_15 ?_
    refine lv_iload_n hx hb dX1_takesColumn_16 rfl (lv_at hl 1 rfl) ?_
    refine lv_iadd hx hb dX1_takesColumn_17 ?_
    refine lv_bipush (v := (48 : Int32)) hx hb dX1_takesColumn_18 (by decide) ?_
    refine lv_isub hx hb dX1_takesColumn_20 ?_
    refine lv_istore_n (lv' := [(2, .int ((((6 : Int32) * dr_row) + code_) - (48 : Int32))), (0, .ref (dr 0)), (1, .int code_)]) hx hb dX1_takesColumn_21 rfl hl (by decide) rfl (fun ls hl => ?_)
    refine lv_aload_n hx hb dX1_takesColumn_22 rfl (lv_at hl 1 rfl) ?_
    refine va_get (D := (dC, dI)) (ci := 1) (v := .int dr_amongRocks) (C := RX1) (T := TX1) (N := 9) hx hb hts in_X1 hown hK hP 0 rfl rfl 6 (by decide) t_fieldLink_RX1_35_FourLodgers_Draft_amongRocks_Z (fun _ h9 => h9) rfl dX1_takesColumn_23 ?_
    refine lv_if_eq (tgt := 37) hx hb dX1_takesColumn_26 (by decide) (fun c_26 => ?_) (fun c_26 => ?_)
    · have e_26 := congrArg Int32.toInt c_26
      rw [if_pos c_26] at hE
      refine lv_aload_n hx hb dX1_takesColumn_37 rfl (lv_at hl 1 rfl) ?_
      refine lv_iload_n hx hb dX1_takesColumn_38 rfl (lv_at hl 0 rfl) ?_
      refine wcVi (As := [.int ((((6 : Int32) * dr_row) + code_) - (48 : Int32))]) (rest := []) (wr := ([] : va_W)) (wn := (fun u : Unit => (kDr cI dr dr_kinds dr_ills ((fX1_takesShip dr_ships dr_shipCount ((((6 : Int32) * dr_row) + code_) - (48 : Int32))).2.1) ((fX1_takesShip dr_ships dr_shipCount ((((6 : Int32) * dr_row) + code_) - (48 : Int32))).2.2) dr_rocks dr_rockCount dr_amongRocks dr_row dr_whole))) (ws' := (fun u : Unit => (kDr cI dr dr_kinds dr_ills ((fX1_takesShip dr_ships dr_shipCount ((((6 : Int32) * dr_row) + code_) - (48 : Int32))).2.1) ((fX1_takesShip dr_ships dr_shipCount ((((6 : Int32) * dr_row) + code_) - (48 : Int32))).2.2) dr_rocks dr_rockCount dr_amongRocks dr_row dr_whole))) ⟨hx, hb, hml, hown, hts⟩ (kX1_takesShip l dC dI cI cJ s.heap.size dr dr_kinds dr_ills dr_ships dr_shipCount dr_rocks dr_rockCount dr_amongRocks dr_row dr_whole ((((6 : Int32) * dr_row) + code_) - (48 : Int32)) (by first | assumption | exact vp_in_iff.mpr ⟨by omega, by omega⟩ | omega | decide)) (cwV 1 hts gX1_takesColumn_X1_takesShip rfl rfl rfl (by decide +kernel) ⟨Nat.le_of_ble_eq_true rfl, Nat.le_of_ble_eq_true rfl⟩) hK hP hD hst hS hA [0, 1, 2, 3] [] [0, 1, 2, 3] rfl (by decide) rfl (by decide) (by decide) (by decide) (fun _ => rfl) 0 rfl rfl rfl hl.1 rfl (Nat.le_of_ble_eq_true rfl) dX1_takesColumn_39 ⟨Nat.zero_le _, Nat.zero_le _⟩ (fun r u_4 H locs w_3 hP hD hS => ?_)
      replace hP : va_P (dC, dI) vwCl (kDr cI dr dr_kinds dr_ills ((fX1_takesShip dr_ships dr_shipCount ((((6 : Int32) * dr_row) + code_) - (48 : Int32))).2.1) ((fX1_takesShip dr_ships dr_shipCount ((((6 : Int32) * dr_row) + code_) - (48 : Int32))).2.2) dr_rocks dr_rockCount dr_amongRocks dr_row dr_whole) H := hP
      replace hD : va_D A (kDr cI dr dr_kinds dr_ills ((fX1_takesShip dr_ships dr_shipCount ((((6 : Int32) * dr_row) + code_) - (48 : Int32))).2.1) ((fX1_takesShip dr_ships dr_shipCount ((((6 : Int32) * dr_row) + code_) - (48 : Int32))).2.2) dr_rocks dr_rockCount dr_amongRocks dr_row dr_whole) := hD
      obtain ⟨rfl, nb_5⟩ := w_3
      subst hE
      rw [← hQ]
      exact W.zret hx hb hr (isB.n nb_5) (fun t ht hW => ⟨⟨_, (), rfl, ⟨rfl, nb_5⟩, by rw [ht]; exact hP, va_K.moved hW.alike hK, hD⟩, hS.F ht⟩) hS.2.2 dX1_takesColumn_42
    · have e_26 := mt Int32.toInt_inj.mp c_26
      rw [if_neg c_26] at hE
      refine lv_aload_n hx hb dX1_takesColumn_29 rfl (lv_at hl 1 rfl) ?_
      refine lv_iload_n hx hb dX1_takesColumn_30 rfl (lv_at hl 0 rfl) ?_
      refine wcVi (As := [.int ((((6 : Int32) * dr_row) + code_) - (48 : Int32))]) (rest := []) (wr := ([] : va_W)) (wn := (fun u : Unit => (kDr cI dr dr_kinds dr_ills dr_ships dr_shipCount ((fX1_takesRock dr_ships dr_shipCount dr_rocks dr_rockCount dr_whole ((((6 : Int32) * dr_row) + code_) - (48 : Int32))).2.1) ((fX1_takesRock dr_ships dr_shipCount dr_rocks dr_rockCount dr_whole ((((6 : Int32) * dr_row) + code_) - (48 : Int32))).2.2.1) dr_amongRocks dr_row ((fX1_takesRock dr_ships dr_shipCount dr_rocks dr_rockCount dr_whole ((((6 : Int32) * dr_row) + code_) - (48 : Int32))).2.2.2)))) (ws' := (fun u : Unit => (kDr cI dr dr_kinds dr_ills dr_ships dr_shipCount ((fX1_takesRock dr_ships dr_shipCount dr_rocks dr_rockCount dr_whole ((((6 : Int32) * dr_row) + code_) - (48 : Int32))).2.1) ((fX1_takesRock dr_ships dr_shipCount dr_rocks dr_rockCount dr_whole ((((6 : Int32) * dr_row) + code_) - (48 : Int32))).2.2.1) dr_amongRocks dr_row ((fX1_takesRock dr_ships dr_shipCount dr_rocks dr_rockCount dr_whole ((((6 : Int32) * dr_row) + code_) - (48 : Int32))).2.2.2)))) ⟨hx, hb, hml, hown, hts⟩ (kX1_takesRock l dC dI cI cJ s.heap.size dr dr_kinds dr_ills dr_ships dr_shipCount dr_rocks dr_rockCount dr_amongRocks dr_row dr_whole ((((6 : Int32) * dr_row) + code_) - (48 : Int32)) (by first | assumption | exact vp_in_iff.mpr ⟨by omega, by omega⟩ | omega | decide)) (cwV 1 hts gX1_takesColumn_X1_takesRock rfl rfl rfl (by decide +kernel) ⟨Nat.le_of_ble_eq_true rfl, Nat.le_of_ble_eq_true rfl⟩) hK hP hD hst hS hA [0, 1, 2, 3] [] [0, 1, 2, 3] rfl (by decide) rfl (by decide) (by decide) (by decide) (fun _ => rfl) 0 rfl rfl rfl hl.1 rfl (Nat.le_of_ble_eq_true rfl) dX1_takesColumn_31 ⟨Nat.zero_le _, Nat.zero_le _⟩ (fun r u_7 H locs w_6 hP hD hS => ?_)
      replace hP : va_P (dC, dI) vwCl (kDr cI dr dr_kinds dr_ills dr_ships dr_shipCount ((fX1_takesRock dr_ships dr_shipCount dr_rocks dr_rockCount dr_whole ((((6 : Int32) * dr_row) + code_) - (48 : Int32))).2.1) ((fX1_takesRock dr_ships dr_shipCount dr_rocks dr_rockCount dr_whole ((((6 : Int32) * dr_row) + code_) - (48 : Int32))).2.2.1) dr_amongRocks dr_row ((fX1_takesRock dr_ships dr_shipCount dr_rocks dr_rockCount dr_whole ((((6 : Int32) * dr_row) + code_) - (48 : Int32))).2.2.2)) H := hP
      replace hD : va_D A (kDr cI dr dr_kinds dr_ills dr_ships dr_shipCount ((fX1_takesRock dr_ships dr_shipCount dr_rocks dr_rockCount dr_whole ((((6 : Int32) * dr_row) + code_) - (48 : Int32))).2.1) ((fX1_takesRock dr_ships dr_shipCount dr_rocks dr_rockCount dr_whole ((((6 : Int32) * dr_row) + code_) - (48 : Int32))).2.2.1) dr_amongRocks dr_row ((fX1_takesRock dr_ships dr_shipCount dr_rocks dr_rockCount dr_whole ((((6 : Int32) * dr_row) + code_) - (48 : Int32))).2.2.2)) := hD
      obtain ⟨rfl, nb_8⟩ := w_6
      refine lv_goto (tgt := 42) hx hb dX1_takesColumn_34 (by decide) ?_
      subst hE
      rw [← hQ]
      exact W.zret hx hb hr (isB.n nb_8) (fun t ht hW => ⟨⟨_, (), rfl, ⟨rfl, nb_8⟩, by rw [ht]; exact hP, va_K.moved hW.alike hK, hD⟩, hS.F ht⟩) hS.2.2 dX1_takesColumn_42
  · rw [if_pos c_4] at hE
    refine lv_iconst (v := (0 : Int32)) hx hb dX1_takesColumn_7 (by decide) ?_
    subst hE
    rw [← hQ]
    exact W.zret hx hb hr (isB.n nb_0) (fun t ht hW => ⟨⟨_, (), rfl, ⟨rfl, nb_0⟩, by rw [ht]; exact hP, va_K.moved hW.alike hK, hD⟩, hS.F ht⟩) hS.2.2 dX1_takesColumn_8
def fX1_takesMark (dr_shipCount : Int32) (dr_rockCount : Int32) (dr_amongRocks : Int32) (code_ : Int32) : Int32 × Int32 × Int32 := (if code_ = (44 : Int32) then (if dr_amongRocks = (0 : Int32) then (if (3 : Int32) ≤ dr_shipCount then ((0 : Int32), dr_amongRocks, (0 : Int32)) else ((1 : Int32), dr_amongRocks, (0 : Int32))) else (if (6 : Int32) ≤ dr_rockCount then ((0 : Int32), dr_amongRocks, (0 : Int32)) else ((1 : Int32), dr_amongRocks, (0 : Int32)))) else (if code_ = (59 : Int32) then (if dr_amongRocks = (0 : Int32) then ((1 : Int32), (1 : Int32), (0 : Int32)) else ((0 : Int32), dr_amongRocks, (0 : Int32))) else ((0 : Int32), dr_amongRocks, (0 : Int32))))
set_option maxHeartbeats 4000000 in
set_option maxRecDepth 100000 in
theorem kX1_takesMark (l : Launch) (dC : Nat → ClassId) (dI : Nat → Nat → Nat) (cI cJ : ClassId) (sz : Nat) (dr : Nat → Nat) (dr_kinds : Nat → Int32) (dr_ills : Nat → Int32) (dr_ships : Nat → Int32) (dr_shipCount : Int32) (dr_rocks : Int64) (dr_rockCount : Int32) (dr_amongRocks : Int32) (dr_row : Int32) (dr_whole : Int32) (code_ : Int32) : Met l yX1_takesMark wsX1_takesMark ({ frames := 0, cells := 0, slots := 0, locals := 0 } : Room) (gW (dC, dI) cI cJ sz (kDr cI dr dr_kinds dr_ills dr_ships dr_shipCount dr_rocks dr_rockCount dr_amongRocks dr_row dr_whole) ([.ref (dr 0), .int code_] : List Value)) (va_Qi (fun (r : Int32) (_ : Unit) => r = ((fX1_takesMark dr_shipCount dr_rockCount dr_amongRocks code_).1) ∧ isB r) (fun u : Unit => gB (dC, dI) cI cJ (va_A (kDr cI dr dr_kinds dr_ills dr_ships dr_shipCount dr_rocks dr_rockCount dr_amongRocks dr_row dr_whole) sz) (kDr cI dr dr_kinds dr_ills dr_ships dr_shipCount dr_rocks dr_rockCount ((fX1_takesMark dr_shipCount dr_rockCount dr_amongRocks code_).2.1) dr_row ((fX1_takesMark dr_shipCount dr_rockCount dr_amongRocks code_).2.2))) (va_A (kDr cI dr dr_kinds dr_ills dr_ships dr_shipCount dr_rocks dr_rockCount dr_amongRocks dr_row dr_whole) sz)) 0 0 (va_A (kDr cI dr dr_kinds dr_ills dr_ships dr_shipCount dr_rocks dr_rockCount dr_amongRocks dr_row dr_whole) sz) := by
  refine Met.ofW (cc := cX1_takesMark) (maxL := 2) (ret := (some .boolean)) (by decide) rfl ?_
  intro p e s m args below meth c s₁ B hml hv
  obtain ⟨rfl, hsz, hP, hK, hD0, hst⟩ := hv
  have hx := B.exec
  have hb := B.bytes
  have hr := B.returns
  have hts := atoms_spec (ws := wsX1_takesMark) B.pre
  have hown : s.vm.findClass RX1 = some m.cls := findClass_of_methodNamed B.named
  have hlocks := B.notSynchronized
  subst hsz
  have hD := hD0.self (sz := s.heap.size)
  generalize hAe : va_A (kDr cI dr dr_kinds dr_ills dr_ships dr_shipCount dr_rocks dr_rockCount dr_amongRocks dr_row dr_whole) s.heap.size = A at hD hst ⊢
  have hA : ∀ q : Nat, s.heap.size ≤ q → A q := fun q h => by rw [← hAe]; exact Or.inr h
  have hS : va_S A s.heap s.heap [] := va_S.rf
  generalize hE : (fX1_takesMark dr_shipCount dr_rockCount dr_amongRocks code_) = RES
  generalize hQ : MQ below (va_Qi (fun (r : Int32) (_ : Unit) => r = (RES.1) ∧ isB r) (fun u : Unit => gB (dC, dI) cI cJ A (kDr cI dr dr_kinds dr_ills dr_ships dr_shipCount dr_rocks dr_rockCount (RES.2.1) dr_row (RES.2.2))) A) ([.ref (dr 0), .int code_] : List Value).toArray s 0 0 A = Q
  have hl := lv_entry ([.ref (dr 0), .int code_] : List Value) (n := 2) (Nat.le_of_ble_eq_true rfl)
  rw [lg_entry_eq]
  generalize (lg_sl ([.ref (dr 0), .int code_] : List Value) ++ List.replicate (2 - (lg_sl ([.ref (dr 0), .int code_] : List Value)).length) Slot.unset).toArray = ls at hl ⊢
  have hl : lv_has ls 2 [(0, .ref (dr 0)), (1, .int code_)] := hl
  have in_X1 : ∀ w ∈ u_ws RX1 TX1 9, w ∈ wsX1_takesMark := fun _ h => List.mem_cons_of_mem _ (List.mem_append_right _ h)
  have t_fieldLink_RX1_24_FourLodgers_Draft_shipCount_I := hts (.fieldLink RX1 24 "FourLodgers$Draft" "shipCount" "I") (List.mem_of_getElem? (i := 4) rfl)
  have t_fieldLink_RX1_32_FourLodgers_Draft_rockCount_I := hts (.fieldLink RX1 32 "FourLodgers$Draft" "rockCount" "I") (List.mem_of_getElem? (i := 3) rfl)
  have t_fieldLink_RX1_35_FourLodgers_Draft_amongRocks_Z := hts (.fieldLink RX1 35 "FourLodgers$Draft" "amongRocks" "Z") (List.mem_of_getElem? (i := 2) rfl)
  have t_fieldLink_RX1_42_FourLodgers_Draft_whole_Z := hts (.fieldLink RX1 42 "FourLodgers$Draft" "whole" "Z") (List.mem_of_getElem? (i := 1) rfl)
  have i_0 : (0 : Int32).toInt = 0 := by decide
  have i_1 : (1 : Int32).toInt = 1 := by decide
  have i_3 : (3 : Int32).toInt = 3 := by decide
  have i_6 : (6 : Int32).toInt = 6 := by decide
  have i_44 : (44 : Int32).toInt = 44 := by decide
  have i_59 : (59 : Int32).toInt = 59 := by decide
  rw [fX1_takesMark] at hE
  refine lv_aload_n hx hb dX1_takesMark_0 rfl (lv_at hl 0 rfl) ?_
  refine lv_iconst (v := (0 : Int32)) hx hb dX1_takesMark_1 (by decide) ?_
  refine va_put (D := (dC, dI)) (ci := 1) (v := .int (0 : Int32)) (ty := .boolean) (C := RX1) (T := TX1) (N := 9) hx hb hts in_X1 tyX1 tyX1_ok nmX1 hown hK hP hD hS 0 rfl rfl 8 (by decide) t_fieldLink_RX1_42_FourLodgers_Draft_whole_Z (fun _ h9 => h9) rfl (by decide +kernel) (by decide +kernel) (by decide +kernel) (Nat.le_of_ble_eq_true rfl) dX1_takesMark_2 (fun H locs hP hD hS => ?_)
  replace hP : va_P (dC, dI) vwCl (kDr cI dr dr_kinds dr_ills dr_ships dr_shipCount dr_rocks dr_rockCount dr_amongRocks dr_row (0 : Int32)) H := hP
  replace hD : va_D A (kDr cI dr dr_kinds dr_ills dr_ships dr_shipCount dr_rocks dr_rockCount dr_amongRocks dr_row (0 : Int32)) := hD
  refine lv_iload_n hx hb dX1_takesMark_5 rfl (lv_at hl 1 rfl) ?_
  refine lv_bipush (v := (44 : Int32)) hx hb dX1_takesMark_6 (by decide) ?_
  refine lv_icmp_ne (tgt := 49) hx hb dX1_takesMark_8 (by decide) (fun c_8 => ?_) (fun c_8 => ?_)
  · have e_8 := mt Int32.toInt_inj.mp c_8
    rw [if_neg c_8] at hE
    refine lv_iload_n hx hb dX1_takesMark_49 rfl (lv_at hl 1 rfl) ?_
    refine lv_bipush (v := (59 : Int32)) hx hb dX1_takesMark_50 (by decide) ?_
    refine lv_icmp_ne (tgt := 69) hx hb dX1_takesMark_52 (by decide) (fun c_52 => ?_) (fun c_52 => ?_)
    · have e_52 := mt Int32.toInt_inj.mp c_52
      rw [if_neg c_52] at hE
      refine lv_iconst (v := (0 : Int32)) hx hb dX1_takesMark_69 (by decide) ?_
      subst hE
      rw [← hQ]
      exact W.zret hx hb hr (isB.n nb_0) (fun t ht hW => ⟨⟨_, (), rfl, ⟨rfl, nb_0⟩, by rw [ht]; exact hP, va_K.moved hW.alike hK, hD⟩, hS.F ht⟩) hS.2.2 dX1_takesMark_70
    · have e_52 := congrArg Int32.toInt c_52
      rw [if_pos c_52] at hE
      refine lv_aload_n hx hb dX1_takesMark_55 rfl (lv_at hl 0 rfl) ?_
      refine va_get (D := (dC, dI)) (ci := 1) (v := .int dr_amongRocks) (C := RX1) (T := TX1) (N := 9) hx hb hts in_X1 hown hK hP 0 rfl rfl 6 (by decide) t_fieldLink_RX1_35_FourLodgers_Draft_amongRocks_Z (fun _ h9 => h9) rfl dX1_takesMark_56 ?_
      refine lv_if_ne (tgt := 69) hx hb dX1_takesMark_59 (by decide) (fun c_59 => ?_) (fun c_59 => ?_)
      · have e_59 := mt Int32.toInt_inj.mp c_59
        rw [if_neg c_59] at hE
        refine lv_iconst (v := (0 : Int32)) hx hb dX1_takesMark_69 (by decide) ?_
        subst hE
        rw [← hQ]
        exact W.zret hx hb hr (isB.n nb_0) (fun t ht hW => ⟨⟨_, (), rfl, ⟨rfl, nb_0⟩, by rw [ht]; exact hP, va_K.moved hW.alike hK, hD⟩, hS.F ht⟩) hS.2.2 dX1_takesMark_70
      · have e_59 := congrArg Int32.toInt c_59
        rw [if_pos c_59] at hE
        refine lv_aload_n hx hb dX1_takesMark_62 rfl (lv_at hl 0 rfl) ?_
        refine lv_iconst (v := (1 : Int32)) hx hb dX1_takesMark_63 (by decide) ?_
        refine va_put (D := (dC, dI)) (ci := 1) (v := .int (1 : Int32)) (ty := .boolean) (C := RX1) (T := TX1) (N := 9) hx hb hts in_X1 tyX1 tyX1_ok nmX1 hown hK hP hD hS 0 rfl rfl 6 (by decide) t_fieldLink_RX1_35_FourLodgers_Draft_amongRocks_Z (fun _ h9 => h9) rfl (by decide +kernel) (by decide +kernel) (by decide +kernel) (Nat.le_of_ble_eq_true rfl) dX1_takesMark_64 (fun H locs hP hD hS => ?_)
        replace hP : va_P (dC, dI) vwCl (kDr cI dr dr_kinds dr_ills dr_ships dr_shipCount dr_rocks dr_rockCount (1 : Int32) dr_row (0 : Int32)) H := hP
        replace hD : va_D A (kDr cI dr dr_kinds dr_ills dr_ships dr_shipCount dr_rocks dr_rockCount (1 : Int32) dr_row (0 : Int32)) := hD
        refine lv_iconst (v := (1 : Int32)) hx hb dX1_takesMark_67 (by decide) ?_
        subst hE
        rw [← hQ]
        exact W.zret hx hb hr (isB.n nb_1) (fun t ht hW => ⟨⟨_, (), rfl, ⟨rfl, nb_1⟩, by rw [ht]; exact hP, va_K.moved hW.alike hK, hD⟩, hS.F ht⟩) hS.2.2 dX1_takesMark_68
  · have e_8 := congrArg Int32.toInt c_8
    rw [if_pos c_8] at hE
    refine lv_aload_n hx hb dX1_takesMark_11 rfl (lv_at hl 0 rfl) ?_
    refine va_get (D := (dC, dI)) (ci := 1) (v := .int dr_amongRocks) (C := RX1) (T := TX1) (N := 9) hx hb hts in_X1 hown hK hP 0 rfl rfl 6 (by decide) t_fieldLink_RX1_35_FourLodgers_Draft_amongRocks_Z (fun _ h9 => h9) rfl dX1_takesMark_12 ?_
    refine lv_if_eq (tgt := 35) hx hb dX1_takesMark_15 (by decide) (fun c_15 => ?_) (fun c_15 => ?_)
    · have e_15 := congrArg Int32.toInt c_15
      rw [if_pos c_15] at hE
      refine lv_aload_n hx hb dX1_takesMark_35 rfl (lv_at hl 0 rfl) ?_
      refine va_get (D := (dC, dI)) (ci := 1) (v := .int dr_shipCount) (C := RX1) (T := TX1) (N := 9) hx hb hts in_X1 hown hK hP 0 rfl rfl 3 (by decide) t_fieldLink_RX1_24_FourLodgers_Draft_shipCount_I (fun _ h9 => h9) rfl dX1_takesMark_36 ?_
      refine lv_iconst (v := (3 : Int32)) hx hb dX1_takesMark_39 (by decide) ?_
      refine lv_icmp_ge (tgt := 47) hx hb dX1_takesMark_40 (by decide) (fun c_40 => ?_) (fun c_40 => ?_)
      · have e_40 := Int32.le_iff_toInt_le.mp c_40
        rw [if_pos c_40] at hE
        refine lv_iconst (v := (0 : Int32)) hx hb dX1_takesMark_47 (by decide) ?_
        subst hE
        rw [← hQ]
        exact W.zret hx hb hr (isB.n nb_0) (fun t ht hW => ⟨⟨_, (), rfl, ⟨rfl, nb_0⟩, by rw [ht]; exact hP, va_K.moved hW.alike hK, hD⟩, hS.F ht⟩) hS.2.2 dX1_takesMark_48
      · have e_40 := mt Int32.le_iff_toInt_le.mpr c_40
        rw [if_neg c_40] at hE
        refine lv_iconst (v := (1 : Int32)) hx hb dX1_takesMark_43 (by decide) ?_
        refine lv_goto (tgt := 48) hx hb dX1_takesMark_44 (by decide) ?_
        subst hE
        rw [← hQ]
        exact W.zret hx hb hr (isB.n nb_1) (fun t ht hW => ⟨⟨_, (), rfl, ⟨rfl, nb_1⟩, by rw [ht]; exact hP, va_K.moved hW.alike hK, hD⟩, hS.F ht⟩) hS.2.2 dX1_takesMark_48
    · have e_15 := mt Int32.toInt_inj.mp c_15
      rw [if_neg c_15] at hE
      refine lv_aload_n hx hb dX1_takesMark_18 rfl (lv_at hl 0 rfl) ?_
      refine va_get (D := (dC, dI)) (ci := 1) (v := .int dr_rockCount) (C := RX1) (T := TX1) (N := 9) hx hb hts in_X1 hown hK hP 0 rfl rfl 5 (by decide) t_fieldLink_RX1_32_FourLodgers_Draft_rockCount_I (fun _ h9 => h9) rfl dX1_takesMark_19 ?_
      refine lv_bipush (v := (6 : Int32)) hx hb dX1_takesMark_22 (by decide) ?_
      refine lv_icmp_ge (tgt := 31) hx hb dX1_takesMark_24 (by decide) (fun c_24 => ?_) (fun c_24 => ?_)
      · have e_24 := Int32.le_iff_toInt_le.mp c_24
        rw [if_pos c_24] at hE
        refine lv_iconst (v := (0 : Int32)) hx hb dX1_takesMark_31 (by decide) ?_
        refine lv_goto (tgt := 48) hx hb dX1_takesMark_32 (by decide) ?_
        subst hE
        rw [← hQ]
        exact W.zret hx hb hr (isB.n nb_0) (fun t ht hW => ⟨⟨_, (), rfl, ⟨rfl, nb_0⟩, by rw [ht]; exact hP, va_K.moved hW.alike hK, hD⟩, hS.F ht⟩) hS.2.2 dX1_takesMark_48
      · have e_24 := mt Int32.le_iff_toInt_le.mpr c_24
        rw [if_neg c_24] at hE
        refine lv_iconst (v := (1 : Int32)) hx hb dX1_takesMark_27 (by decide) ?_
        refine lv_goto (tgt := 48) hx hb dX1_takesMark_28 (by decide) ?_
        subst hE
        rw [← hQ]
        exact W.zret hx hb hr (isB.n nb_1) (fun t ht hW => ⟨⟨_, (), rfl, ⟨rfl, nb_1⟩, by rw [ht]; exact hP, va_K.moved hW.alike hK, hD⟩, hS.F ht⟩) hS.2.2 dX1_takesMark_48
def fX1_takes (dr_kinds : Nat → Int32) (dr_ills : Nat → Int32) (dr_ships : Nat → Int32) (dr_shipCount : Int32) (dr_rocks : Int64) (dr_rockCount : Int32) (dr_amongRocks : Int32) (dr_row : Int32) (dr_whole : Int32) (place : Int32) (code_ : Int32) : Int32 × (Nat → Int32) × (Nat → Int32) × (Nat → Int32) × Int32 × Int64 × Int32 × Int32 × Int32 × Int32 := (if (8 : Int32) ≤ place then (if place = (8 : Int32) then (if code_ = (59 : Int32) then ((1 : Int32), dr_kinds, dr_ills, dr_ships, dr_shipCount, dr_rocks, dr_rockCount, dr_amongRocks, dr_row, dr_whole) else ((0 : Int32), dr_kinds, dr_ills, dr_ships, dr_shipCount, dr_rocks, dr_rockCount, dr_amongRocks, dr_row, dr_whole)) else (if (((place - (8 : Int32)) - (1 : Int32)) - ((place - (8 : Int32)) - (1 : Int32)) / (3 : Int32) * (3 : Int32)) = (0 : Int32) then (((fX1_takesRow dr_row code_).1), dr_kinds, dr_ills, dr_ships, dr_shipCount, dr_rocks, dr_rockCount, dr_amongRocks, ((fX1_takesRow dr_row code_).2), dr_whole) else (if (((place - (8 : Int32)) - (1 : Int32)) - ((place - (8 : Int32)) - (1 : Int32)) / (3 : Int32) * (3 : Int32)) = (1 : Int32) then (((fX1_takesColumn dr_ships dr_shipCount dr_rocks dr_rockCount dr_amongRocks dr_row dr_whole code_).1), dr_kinds, dr_ills, ((fX1_takesColumn dr_ships dr_shipCount dr_rocks dr_rockCount dr_amongRocks dr_row dr_whole code_).2.1), ((fX1_takesColumn dr_ships dr_shipCount dr_rocks dr_rockCount dr_amongRocks dr_row dr_whole code_).2.2.1), ((fX1_takesColumn dr_ships dr_shipCount dr_rocks dr_rockCount dr_amongRocks dr_row dr_whole code_).2.2.2.1), ((fX1_takesColumn dr_ships dr_shipCount dr_rocks dr_rockCount dr_amongRocks dr_row dr_whole code_).2.2.2.2.1), dr_amongRocks, dr_row, ((fX1_takesColumn dr_ships dr_shipCount dr_rocks dr_rockCount dr_amongRocks dr_row dr_whole code_).2.2.2.2.2)) else (((fX1_takesMark dr_shipCount dr_rockCount dr_amongRocks code_).1), dr_kinds, dr_ills, dr_ships, dr_shipCount, dr_rocks, dr_rockCount, ((fX1_takesMark dr_shipCount dr_rockCount dr_amongRocks code_).2.1), dr_row, ((fX1_takesMark dr_shipCount dr_rockCount dr_amongRocks code_).2.2))))) else (if (place - place / (2 : Int32) * (2 : Int32)) = (0 : Int32) then (((fX1_takesKind dr_kinds (place / (2 : Int32)) code_).1), ((fX1_takesKind dr_kinds (place / (2 : Int32)) code_).2), dr_ills, dr_ships, dr_shipCount, dr_rocks, dr_rockCount, dr_amongRocks, dr_row, dr_whole) else (((fX1_takesIll dr_ills (place / (2 : Int32)) code_).1), dr_kinds, ((fX1_takesIll dr_ills (place / (2 : Int32)) code_).2), dr_ships, dr_shipCount, dr_rocks, dr_rockCount, dr_amongRocks, dr_row, dr_whole)))
set_option maxHeartbeats 4000000 in
set_option maxRecDepth 100000 in
theorem kX1_takes (l : Launch) (dC : Nat → ClassId) (dI : Nat → Nat → Nat) (cI cJ : ClassId) (sz : Nat) (dr : Nat → Nat) (dr_kinds : Nat → Int32) (dr_ills : Nat → Int32) (dr_ships : Nat → Int32) (dr_shipCount : Int32) (dr_rocks : Int64) (dr_rockCount : Int32) (dr_amongRocks : Int32) (dr_row : Int32) (dr_whole : Int32) (place : Int32) (code_ : Int32) (p_1 : 0 ≤ place.toInt) (p_s : 0 ≤ dr_shipCount.toInt) (p_t : dr_shipCount.toInt ≤ 3) : Met l yX1_takes wsX1_takes ({ frames := 5, cells := 0, slots := 0, locals := 114 } : Room) (gW (dC, dI) cI cJ sz (kDr cI dr dr_kinds dr_ills dr_ships dr_shipCount dr_rocks dr_rockCount dr_amongRocks dr_row dr_whole) ([.ref (dr 0), .int place, .int code_] : List Value)) (va_Qi (fun (r : Int32) (_ : Unit) => r = ((fX1_takes dr_kinds dr_ills dr_ships dr_shipCount dr_rocks dr_rockCount dr_amongRocks dr_row dr_whole place code_).1) ∧ isB r) (fun u : Unit => gB (dC, dI) cI cJ (va_A (kDr cI dr dr_kinds dr_ills dr_ships dr_shipCount dr_rocks dr_rockCount dr_amongRocks dr_row dr_whole) sz) (kDr cI dr ((fX1_takes dr_kinds dr_ills dr_ships dr_shipCount dr_rocks dr_rockCount dr_amongRocks dr_row dr_whole place code_).2.1) ((fX1_takes dr_kinds dr_ills dr_ships dr_shipCount dr_rocks dr_rockCount dr_amongRocks dr_row dr_whole place code_).2.2.1) ((fX1_takes dr_kinds dr_ills dr_ships dr_shipCount dr_rocks dr_rockCount dr_amongRocks dr_row dr_whole place code_).2.2.2.1) ((fX1_takes dr_kinds dr_ills dr_ships dr_shipCount dr_rocks dr_rockCount dr_amongRocks dr_row dr_whole place code_).2.2.2.2.1) ((fX1_takes dr_kinds dr_ills dr_ships dr_shipCount dr_rocks dr_rockCount dr_amongRocks dr_row dr_whole place code_).2.2.2.2.2.1) ((fX1_takes dr_kinds dr_ills dr_ships dr_shipCount dr_rocks dr_rockCount dr_amongRocks dr_row dr_whole place code_).2.2.2.2.2.2.1) ((fX1_takes dr_kinds dr_ills dr_ships dr_shipCount dr_rocks dr_rockCount dr_amongRocks dr_row dr_whole place code_).2.2.2.2.2.2.2.1) ((fX1_takes dr_kinds dr_ills dr_ships dr_shipCount dr_rocks dr_rockCount dr_amongRocks dr_row dr_whole place code_).2.2.2.2.2.2.2.2.1) ((fX1_takes dr_kinds dr_ills dr_ships dr_shipCount dr_rocks dr_rockCount dr_amongRocks dr_row dr_whole place code_).2.2.2.2.2.2.2.2.2))) (va_A (kDr cI dr dr_kinds dr_ills dr_ships dr_shipCount dr_rocks dr_rockCount dr_amongRocks dr_row dr_whole) sz)) 0 0 (va_A (kDr cI dr dr_kinds dr_ills dr_ships dr_shipCount dr_rocks dr_rockCount dr_amongRocks dr_row dr_whole) sz) := by
  refine Met.ofW (cc := cX1_takes) (maxL := 3) (ret := (some .boolean)) (by decide) rfl ?_
  intro p e s m args below meth c s₁ B hml hv
  obtain ⟨rfl, hsz, hP, hK, hD0, hst⟩ := hv
  have hx := B.exec
  have hb := B.bytes
  have hr := B.returns
  have hts := atoms_spec (ws := wsX1_takes) B.pre
  have hown : s.vm.findClass RX1 = some m.cls := findClass_of_methodNamed B.named
  have hlocks := B.notSynchronized
  subst hsz
  have hD := hD0.self (sz := s.heap.size)
  generalize hAe : va_A (kDr cI dr dr_kinds dr_ills dr_ships dr_shipCount dr_rocks dr_rockCount dr_amongRocks dr_row dr_whole) s.heap.size = A at hD hst ⊢
  have hA : ∀ q : Nat, s.heap.size ≤ q → A q := fun q h => by rw [← hAe]; exact Or.inr h
  have hS : va_S A s.heap s.heap [] := va_S.rf
  generalize hE : (fX1_takes dr_kinds dr_ills dr_ships dr_shipCount dr_rocks dr_rockCount dr_amongRocks dr_row dr_whole place code_) = RES
  generalize hQ : MQ below (va_Qi (fun (r : Int32) (_ : Unit) => r = (RES.1) ∧ isB r) (fun u : Unit => gB (dC, dI) cI cJ A (kDr cI dr (RES.2.1) (RES.2.2.1) (RES.2.2.2.1) (RES.2.2.2.2.1) (RES.2.2.2.2.2.1) (RES.2.2.2.2.2.2.1) (RES.2.2.2.2.2.2.2.1) (RES.2.2.2.2.2.2.2.2.1) (RES.2.2.2.2.2.2.2.2.2))) A) ([.ref (dr 0), .int place, .int code_] : List Value).toArray s 0 0 A = Q
  have hl := lv_entry ([.ref (dr 0), .int place, .int code_] : List Value) (n := 3) (Nat.le_of_ble_eq_true rfl)
  rw [lg_entry_eq]
  generalize (lg_sl ([.ref (dr 0), .int place, .int code_] : List Value) ++ List.replicate (3 - (lg_sl ([.ref (dr 0), .int place, .int code_] : List Value)).length) Slot.unset).toArray = ls at hl ⊢
  have hl : lv_has ls 3 [(0, .ref (dr 0)), (1, .int place), (2, .int code_)] := hl
  have i_0 : (0 : Int32).toInt = 0 := by decide
  have i_1 : (1 : Int32).toInt = 1 := by decide
  have i_2 : (2 : Int32).toInt = 2 := by decide
  have i_3 : (3 : Int32).toInt = 3 := by decide
  have i_8 : (8 : Int32).toInt = 8 := by decide
  have i_59 : (59 : Int32).toInt = 59 := by decide
  rw [fX1_takes] at hE
  refine lv_iload_n hx hb dX1_takes_0 rfl (lv_at hl 1 rfl) ?_
  refine lv_bipush (v := (8 : Int32)) hx hb dX1_takes_1 (by decide) ?_
  refine lv_icmp_ge (tgt := 32) hx hb dX1_takes_3 (by decide) (fun c_3 => ?_) (fun c_3 => ?_)
  · have e_3 := Int32.le_iff_toInt_le.mp c_3
    rw [if_pos c_3] at hE
    refine lv_iload_n hx hb dX1_takes_32 rfl (lv_at hl 1 rfl) ?_
    refine lv_bipush (v := (8 : Int32)) hx hb dX1_takes_33 (by decide) ?_
    refine lv_icmp_ne (tgt := 50) hx hb dX1_takes_35 (by decide) (fun c_35 => ?_) (fun c_35 => ?_)
    · have e_35 := mt Int32.toInt_inj.mp c_35
      rw [if_neg c_35] at hE
      refine lv_iload_n hx hb dX1_takes_50 rfl (lv_at hl 1 rfl) ?_
      refine lv_bipush (v := (8 : Int32)) hx hb dX1_takes_51 (by decide) ?_
      refine lv_isub hx hb dX1_takes_53 ?_
      refine lv_iconst (v := (1 : Int32)) hx hb dX1_takes_54 (by decide) ?_
      refine lv_isub hx hb dX1_takes_55 ?_
      refine lv_iconst (v := (3 : Int32)) hx hb dX1_takes_56 (by decide) ?_
      refine lv_irem hx hb dX1_takes_57 (by decide) ?_
      by_cases c_58_0 : (((place - (8 : Int32)) - (1 : Int32)) - ((place - (8 : Int32)) - (1 : Int32)) / (3 : Int32) * (3 : Int32)) = (0 : Int32)
      · rw [if_pos c_58_0] at hE
        refine lv_lookup (off := 26) (tgt := 84) hx hb dX1_takes_58 (by decide) (by rw [c_58_0]; decide) (by decide) ?_
        refine lv_aload_n hx hb dX1_takes_84 rfl (lv_at hl 0 rfl) ?_
        refine lv_iload_n hx hb dX1_takes_85 rfl (lv_at hl 2 rfl) ?_
        refine wcVi (As := [.int code_]) (rest := []) (wr := ([] : va_W)) (wn := (fun u : Unit => (kDr cI dr dr_kinds dr_ills dr_ships dr_shipCount dr_rocks dr_rockCount dr_amongRocks ((fX1_takesRow dr_row code_).2) dr_whole))) (ws' := (fun u : Unit => (kDr cI dr dr_kinds dr_ills dr_ships dr_shipCount dr_rocks dr_rockCount dr_amongRocks ((fX1_takesRow dr_row code_).2) dr_whole))) ⟨hx, hb, hml, hown, hts⟩ (kX1_takesRow l dC dI cI cJ s.heap.size dr dr_kinds dr_ills dr_ships dr_shipCount dr_rocks dr_rockCount dr_amongRocks dr_row dr_whole code_) (cwV 1 hts gX1_takes_X1_takesRow rfl rfl rfl (by decide +kernel) ⟨Nat.le_of_ble_eq_true rfl, Nat.le_of_ble_eq_true rfl⟩) hK hP hD hst hS hA [0, 1, 2, 3] [] [0, 1, 2, 3] rfl (by decide) rfl (by decide) (by decide) (by decide) (fun _ => rfl) 0 rfl rfl rfl hl.1 rfl (Nat.le_of_ble_eq_true rfl) dX1_takes_86 ⟨Nat.zero_le _, Nat.zero_le _⟩ (fun r u_2 H locs w_1 hP hD hS => ?_)
        replace hP : va_P (dC, dI) vwCl (kDr cI dr dr_kinds dr_ills dr_ships dr_shipCount dr_rocks dr_rockCount dr_amongRocks ((fX1_takesRow dr_row code_).2) dr_whole) H := hP
        replace hD : va_D A (kDr cI dr dr_kinds dr_ills dr_ships dr_shipCount dr_rocks dr_rockCount dr_amongRocks ((fX1_takesRow dr_row code_).2) dr_whole) := hD
        obtain ⟨rfl, nb_3⟩ := w_1
        subst hE
        rw [← hQ]
        exact W.zret hx hb hr (isB.n nb_3) (fun t ht hW => ⟨⟨_, (), rfl, ⟨rfl, nb_3⟩, by rw [ht]; exact hP, va_K.moved hW.alike hK, hD⟩, hS.F ht⟩) hS.2.2 dX1_takes_89
      · rw [if_neg c_58_0] at hE
        by_cases c_58_1 : (((place - (8 : Int32)) - (1 : Int32)) - ((place - (8 : Int32)) - (1 : Int32)) / (3 : Int32) * (3 : Int32)) = (1 : Int32)
        · rw [if_pos c_58_1] at hE
          refine lv_lookup (off := 32) (tgt := 90) hx hb dX1_takes_58 (by decide) (by rw [c_58_1]; decide) (by decide) ?_
          refine lv_aload_n hx hb dX1_takes_90 rfl (lv_at hl 0 rfl) ?_
          refine lv_iload_n hx hb dX1_takes_91 rfl (lv_at hl 2 rfl) ?_
          refine wcVi (As := [.int code_]) (rest := []) (wr := ([] : va_W)) (wn := (fun u : Unit => (kDr cI dr dr_kinds dr_ills ((fX1_takesColumn dr_ships dr_shipCount dr_rocks dr_rockCount dr_amongRocks dr_row dr_whole code_).2.1) ((fX1_takesColumn dr_ships dr_shipCount dr_rocks dr_rockCount dr_amongRocks dr_row dr_whole code_).2.2.1) ((fX1_takesColumn dr_ships dr_shipCount dr_rocks dr_rockCount dr_amongRocks dr_row dr_whole code_).2.2.2.1) ((fX1_takesColumn dr_ships dr_shipCount dr_rocks dr_rockCount dr_amongRocks dr_row dr_whole code_).2.2.2.2.1) dr_amongRocks dr_row ((fX1_takesColumn dr_ships dr_shipCount dr_rocks dr_rockCount dr_amongRocks dr_row dr_whole code_).2.2.2.2.2)))) (ws' := (fun u : Unit => (kDr cI dr dr_kinds dr_ills ((fX1_takesColumn dr_ships dr_shipCount dr_rocks dr_rockCount dr_amongRocks dr_row dr_whole code_).2.1) ((fX1_takesColumn dr_ships dr_shipCount dr_rocks dr_rockCount dr_amongRocks dr_row dr_whole code_).2.2.1) ((fX1_takesColumn dr_ships dr_shipCount dr_rocks dr_rockCount dr_amongRocks dr_row dr_whole code_).2.2.2.1) ((fX1_takesColumn dr_ships dr_shipCount dr_rocks dr_rockCount dr_amongRocks dr_row dr_whole code_).2.2.2.2.1) dr_amongRocks dr_row ((fX1_takesColumn dr_ships dr_shipCount dr_rocks dr_rockCount dr_amongRocks dr_row dr_whole code_).2.2.2.2.2)))) ⟨hx, hb, hml, hown, hts⟩ (kX1_takesColumn l dC dI cI cJ s.heap.size dr dr_kinds dr_ills dr_ships dr_shipCount dr_rocks dr_rockCount dr_amongRocks dr_row dr_whole code_ (by first | assumption | exact vp_in_iff.mpr ⟨by omega, by omega⟩ | omega | decide) (by first | assumption | exact vp_in_iff.mpr ⟨by omega, by omega⟩ | omega | decide)) (cwV 1 hts gX1_takes_X1_takesColumn rfl rfl rfl (by decide +kernel) ⟨Nat.le_of_ble_eq_true rfl, Nat.le_of_ble_eq_true rfl⟩) hK hP hD hst hS hA [0, 1, 2, 3] [] [0, 1, 2, 3] rfl (by decide) rfl (by decide) (by decide) (by decide) (fun _ => rfl) 0 rfl rfl rfl hl.1 rfl (Nat.le_of_ble_eq_true rfl) dX1_takes_92 ⟨Nat.zero_le _, Nat.zero_le _⟩ (fun r u_5 H locs w_4 hP hD hS => ?_)
          replace hP : va_P (dC, dI) vwCl (kDr cI dr dr_kinds dr_ills ((fX1_takesColumn dr_ships dr_shipCount dr_rocks dr_rockCount dr_amongRocks dr_row dr_whole code_).2.1) ((fX1_takesColumn dr_ships dr_shipCount dr_rocks dr_rockCount dr_amongRocks dr_row dr_whole code_).2.2.1) ((fX1_takesColumn dr_ships dr_shipCount dr_rocks dr_rockCount dr_amongRocks dr_row dr_whole code_).2.2.2.1) ((fX1_takesColumn dr_ships dr_shipCount dr_rocks dr_rockCount dr_amongRocks dr_row dr_whole code_).2.2.2.2.1) dr_amongRocks dr_row ((fX1_takesColumn dr_ships dr_shipCount dr_rocks dr_rockCount dr_amongRocks dr_row dr_whole code_).2.2.2.2.2)) H := hP
          replace hD : va_D A (kDr cI dr dr_kinds dr_ills ((fX1_takesColumn dr_ships dr_shipCount dr_rocks dr_rockCount dr_amongRocks dr_row dr_whole code_).2.1) ((fX1_takesColumn dr_ships dr_shipCount dr_rocks dr_rockCount dr_amongRocks dr_row dr_whole code_).2.2.1) ((fX1_takesColumn dr_ships dr_shipCount dr_rocks dr_rockCount dr_amongRocks dr_row dr_whole code_).2.2.2.1) ((fX1_takesColumn dr_ships dr_shipCount dr_rocks dr_rockCount dr_amongRocks dr_row dr_whole code_).2.2.2.2.1) dr_amongRocks dr_row ((fX1_takesColumn dr_ships dr_shipCount dr_rocks dr_rockCount dr_amongRocks dr_row dr_whole code_).2.2.2.2.2)) := hD
          obtain ⟨rfl, nb_6⟩ := w_4
          subst hE
          rw [← hQ]
          exact W.zret hx hb hr (isB.n nb_6) (fun t ht hW => ⟨⟨_, (), rfl, ⟨rfl, nb_6⟩, by rw [ht]; exact hP, va_K.moved hW.alike hK, hD⟩, hS.F ht⟩) hS.2.2 dX1_takes_95
        · rw [if_neg c_58_1] at hE
          refine lv_lookup (off := 38) (tgt := 96) hx hb dX1_takes_58 (by decide) (by show Op.lookupswitch.offset [(0, 26), (1, 32)] 38 _ = 38; rw [lv_osw c_58_0 (show (0 : Int32).toInt = 0 by decide), lv_osw c_58_1 (show (1 : Int32).toInt = 1 by decide)]; rfl) (by decide) ?_
          refine lv_aload_n hx hb dX1_takes_96 rfl (lv_at hl 0 rfl) ?_
          refine lv_iload_n hx hb dX1_takes_97 rfl (lv_at hl 2 rfl) ?_
          refine wcVi (As := [.int code_]) (rest := []) (wr := ([] : va_W)) (wn := (fun u : Unit => (kDr cI dr dr_kinds dr_ills dr_ships dr_shipCount dr_rocks dr_rockCount ((fX1_takesMark dr_shipCount dr_rockCount dr_amongRocks code_).2.1) dr_row ((fX1_takesMark dr_shipCount dr_rockCount dr_amongRocks code_).2.2)))) (ws' := (fun u : Unit => (kDr cI dr dr_kinds dr_ills dr_ships dr_shipCount dr_rocks dr_rockCount ((fX1_takesMark dr_shipCount dr_rockCount dr_amongRocks code_).2.1) dr_row ((fX1_takesMark dr_shipCount dr_rockCount dr_amongRocks code_).2.2)))) ⟨hx, hb, hml, hown, hts⟩ (kX1_takesMark l dC dI cI cJ s.heap.size dr dr_kinds dr_ills dr_ships dr_shipCount dr_rocks dr_rockCount dr_amongRocks dr_row dr_whole code_) (cwV 1 hts gX1_takes_X1_takesMark rfl rfl rfl (by decide +kernel) ⟨Nat.le_of_ble_eq_true rfl, Nat.le_of_ble_eq_true rfl⟩) hK hP hD hst hS hA [0, 1, 2, 3] [] [0, 1, 2, 3] rfl (by decide) rfl (by decide) (by decide) (by decide) (fun _ => rfl) 0 rfl rfl rfl hl.1 rfl (Nat.le_of_ble_eq_true rfl) dX1_takes_98 ⟨Nat.zero_le _, Nat.zero_le _⟩ (fun r u_8 H locs w_7 hP hD hS => ?_)
          replace hP : va_P (dC, dI) vwCl (kDr cI dr dr_kinds dr_ills dr_ships dr_shipCount dr_rocks dr_rockCount ((fX1_takesMark dr_shipCount dr_rockCount dr_amongRocks code_).2.1) dr_row ((fX1_takesMark dr_shipCount dr_rockCount dr_amongRocks code_).2.2)) H := hP
          replace hD : va_D A (kDr cI dr dr_kinds dr_ills dr_ships dr_shipCount dr_rocks dr_rockCount ((fX1_takesMark dr_shipCount dr_rockCount dr_amongRocks code_).2.1) dr_row ((fX1_takesMark dr_shipCount dr_rockCount dr_amongRocks code_).2.2)) := hD
          obtain ⟨rfl, nb_9⟩ := w_7
          subst hE
          rw [← hQ]
          exact W.zret hx hb hr (isB.n nb_9) (fun t ht hW => ⟨⟨_, (), rfl, ⟨rfl, nb_9⟩, by rw [ht]; exact hP, va_K.moved hW.alike hK, hD⟩, hS.F ht⟩) hS.2.2 dX1_takes_101
    · have e_35 := congrArg Int32.toInt c_35
      rw [if_pos c_35] at hE
      refine lv_iload_n hx hb dX1_takes_38 rfl (lv_at hl 2 rfl) ?_
      refine lv_bipush (v := (59 : Int32)) hx hb dX1_takes_39 (by decide) ?_
      refine lv_icmp_ne (tgt := 48) hx hb dX1_takes_41 (by decide) (fun c_41 => ?_) (fun c_41 => ?_)
      · have e_41 := mt Int32.toInt_inj.mp c_41
        rw [if_neg c_41] at hE
        refine lv_iconst (v := (0 : Int32)) hx hb dX1_takes_48 (by decide) ?_
        subst hE
        rw [← hQ]
        exact W.zret hx hb hr (isB.n nb_0) (fun t ht hW => ⟨⟨_, (), rfl, ⟨rfl, nb_0⟩, by rw [ht]; exact hP, va_K.moved hW.alike hK, hD⟩, hS.F ht⟩) hS.2.2 dX1_takes_49
      · have e_41 := congrArg Int32.toInt c_41
        rw [if_pos c_41] at hE
        refine lv_iconst (v := (1 : Int32)) hx hb dX1_takes_44 (by decide) ?_
        refine lv_goto (tgt := 49) hx hb dX1_takes_45 (by decide) ?_
        subst hE
        rw [← hQ]
        exact W.zret hx hb hr (isB.n nb_1) (fun t ht hW => ⟨⟨_, (), rfl, ⟨rfl, nb_1⟩, by rw [ht]; exact hP, va_K.moved hW.alike hK, hD⟩, hS.F ht⟩) hS.2.2 dX1_takes_49
  · have e_3 := mt Int32.le_iff_toInt_le.mpr c_3
    rw [if_neg c_3] at hE
    refine lv_iload_n hx hb dX1_takes_6 rfl (lv_at hl 1 rfl) ?_
    refine lv_iconst (v := (2 : Int32)) hx hb dX1_takes_7 (by decide) ?_
    refine lv_irem hx hb dX1_takes_8 (by decide) ?_
    refine lv_if_ne (tgt := 23) hx hb dX1_takes_9 (by decide) (fun c_9 => ?_) (fun c_9 => ?_)
    · rw [if_neg c_9] at hE
      refine lv_aload_n hx hb dX1_takes_23 rfl (lv_at hl 0 rfl) ?_
      refine lv_iload_n hx hb dX1_takes_24 rfl (lv_at hl 1 rfl) ?_
      refine lv_iconst (v := (2 : Int32)) hx hb dX1_takes_25 (by decide) ?_
      refine lv_idiv hx hb dX1_takes_26 (by decide) ?_
      refine lv_iload_n hx hb dX1_takes_27 rfl (lv_at hl 2 rfl) ?_
      refine wcVi (As := [.int (place / (2 : Int32)), .int code_]) (rest := []) (wr := ([] : va_W)) (wn := (fun u : Unit => (kDr cI dr dr_kinds ((fX1_takesIll dr_ills (place / (2 : Int32)) code_).2) dr_ships dr_shipCount dr_rocks dr_rockCount dr_amongRocks dr_row dr_whole))) (ws' := (fun u : Unit => (kDr cI dr dr_kinds ((fX1_takesIll dr_ills (place / (2 : Int32)) code_).2) dr_ships dr_shipCount dr_rocks dr_rockCount dr_amongRocks dr_row dr_whole))) ⟨hx, hb, hml, hown, hts⟩ (kX1_takesIll l dC dI cI cJ s.heap.size dr dr_kinds dr_ills dr_ships dr_shipCount dr_rocks dr_rockCount dr_amongRocks dr_row dr_whole (place / (2 : Int32)) code_ (half_in p_1 (by omega))) (cwV 2 hts gX1_takes_X1_takesIll rfl rfl rfl (by decide +kernel) ⟨Nat.le_of_ble_eq_true rfl, Nat.le_of_ble_eq_true rfl⟩) hK hP hD hst hS hA [0, 1, 2, 3] [] [0, 1, 2, 3] rfl (by decide) rfl (by decide) (by decide) (by decide) (fun _ => rfl) 0 rfl rfl rfl hl.1 rfl (Nat.le_of_ble_eq_true rfl) dX1_takes_28 ⟨Nat.zero_le _, Nat.zero_le _⟩ (fun r u_11 H locs w_10 hP hD hS => ?_)
      replace hP : va_P (dC, dI) vwCl (kDr cI dr dr_kinds ((fX1_takesIll dr_ills (place / (2 : Int32)) code_).2) dr_ships dr_shipCount dr_rocks dr_rockCount dr_amongRocks dr_row dr_whole) H := hP
      replace hD : va_D A (kDr cI dr dr_kinds ((fX1_takesIll dr_ills (place / (2 : Int32)) code_).2) dr_ships dr_shipCount dr_rocks dr_rockCount dr_amongRocks dr_row dr_whole) := hD
      obtain ⟨rfl, nb_12⟩ := w_10
      subst hE
      rw [← hQ]
      exact W.zret hx hb hr (isB.n nb_12) (fun t ht hW => ⟨⟨_, (), rfl, ⟨rfl, nb_12⟩, by rw [ht]; exact hP, va_K.moved hW.alike hK, hD⟩, hS.F ht⟩) hS.2.2 dX1_takes_31
    · rw [if_pos c_9] at hE
      refine lv_aload_n hx hb dX1_takes_12 rfl (lv_at hl 0 rfl) ?_
      refine lv_iload_n hx hb dX1_takes_13 rfl (lv_at hl 1 rfl) ?_
      refine lv_iconst (v := (2 : Int32)) hx hb dX1_takes_14 (by decide) ?_
      refine lv_idiv hx hb dX1_takes_15 (by decide) ?_
      refine lv_iload_n hx hb dX1_takes_16 rfl (lv_at hl 2 rfl) ?_
      refine wcVi (As := [.int (place / (2 : Int32)), .int code_]) (rest := []) (wr := ([] : va_W)) (wn := (fun u : Unit => (kDr cI dr ((fX1_takesKind dr_kinds (place / (2 : Int32)) code_).2) dr_ills dr_ships dr_shipCount dr_rocks dr_rockCount dr_amongRocks dr_row dr_whole))) (ws' := (fun u : Unit => (kDr cI dr ((fX1_takesKind dr_kinds (place / (2 : Int32)) code_).2) dr_ills dr_ships dr_shipCount dr_rocks dr_rockCount dr_amongRocks dr_row dr_whole))) ⟨hx, hb, hml, hown, hts⟩ (kX1_takesKind l dC dI cI cJ s.heap.size dr dr_kinds dr_ills dr_ships dr_shipCount dr_rocks dr_rockCount dr_amongRocks dr_row dr_whole (place / (2 : Int32)) code_ (half_in p_1 (by omega))) (cwV 2 hts gX1_takes_X1_takesKind rfl rfl rfl (by decide +kernel) ⟨Nat.le_of_ble_eq_true rfl, Nat.le_of_ble_eq_true rfl⟩) hK hP hD hst hS hA [0, 1, 2, 3] [] [0, 1, 2, 3] rfl (by decide) rfl (by decide) (by decide) (by decide) (fun _ => rfl) 0 rfl rfl rfl hl.1 rfl (Nat.le_of_ble_eq_true rfl) dX1_takes_17 ⟨Nat.zero_le _, Nat.zero_le _⟩ (fun r u_14 H locs w_13 hP hD hS => ?_)
      replace hP : va_P (dC, dI) vwCl (kDr cI dr ((fX1_takesKind dr_kinds (place / (2 : Int32)) code_).2) dr_ills dr_ships dr_shipCount dr_rocks dr_rockCount dr_amongRocks dr_row dr_whole) H := hP
      replace hD : va_D A (kDr cI dr ((fX1_takesKind dr_kinds (place / (2 : Int32)) code_).2) dr_ills dr_ships dr_shipCount dr_rocks dr_rockCount dr_amongRocks dr_row dr_whole) := hD
      obtain ⟨rfl, nb_15⟩ := w_13
      refine lv_goto (tgt := 31) hx hb dX1_takes_20 (by decide) ?_
      subst hE
      rw [← hQ]
      exact W.zret hx hb hr (isB.n nb_15) (fun t ht hW => ⟨⟨_, (), rfl, ⟨rfl, nb_15⟩, by rw [ht]; exact hP, va_K.moved hW.alike hK, hD⟩, hS.F ht⟩) hS.2.2 dX1_takes_31
