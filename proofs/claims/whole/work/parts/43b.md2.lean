def fX6_soonIf (md_rockBits : Int64) (md_day : Int32) (md_isHired : Int32) (md_kinds : Nat → Int32) (md_ills : Nat → Int32) (md_cells : Nat → Int32) (md_sailed : Nat → Int32) (k_ : Int32) (till_ : Int32) (s_ : Int32) (c_ : Int32) : Int32 := (if (fX6_soonOf md_rockBits md_day md_isHired md_kinds (upd md_ills k_.toNatClampNeg till_) md_cells md_sailed s_ c_) = (-1 : Int32) then (99 : Int32) else (fX6_soonOf md_rockBits md_day md_isHired md_kinds (upd md_ills k_.toNatClampNeg till_) md_cells md_sailed s_ c_))
set_option maxHeartbeats 4000000 in
set_option maxRecDepth 100000 in
theorem kX6_soonIf (l : Launch) (dC : Nat → ClassId) (dI : Nat → Nat → Nat) (cI cJ : ClassId) (sz : Nat) (md : Nat → Nat) (md_page : Nat → Int32) (md_pageMany : Int32) (md_end : Int32) (md_ships : Int32) (md_rocks : Int32) (md_rockBits : Int64) (md_day : Int32) (md_isHired : Int32) (md_sails : Int32) (md_seasRead : Int32) (md_kinds : Nat → Int32) (md_ills : Nat → Int32) (md_cells : Nat → Int32) (md_sailed : Nat → Int32) (md_must : Nat → Int64) (md_seenMany : Int32) (md_sights : Nat → Int32) (md_seedNow : Int32) (md_cellsThen : Nat → Int32) (md_keptSea : Int32) (md_keptDay : Int32) (md_keptHired : Int32) (md_keptSails : Int32) (md_keptSeen : Int32) (md_keptKinds : Nat → Int32) (md_keptIlls : Nat → Int32) (md_keptCells : Nat → Int32) (md_keptSailed : Nat → Int32) (md_keptSights : Nat → Int32) (md_hash : Int64) (k_ : Int32) (till_ : Int32) (s_ : Int32) (c_ : Int32) (p_1 : vp_in k_ 4) (p_2 : vp_in s_ 3) : Met l yX6_soonIf wsX6_soonIf ({ frames := 5, cells := 0, slots := 0, locals := 126 } : Room) (gW (dC, dI) cI cJ sz (kMd cI cJ md md_page md_pageMany md_end md_ships md_rocks md_rockBits md_day md_isHired md_sails md_seasRead md_kinds md_ills md_cells md_sailed md_must md_seenMany md_sights md_seedNow md_cellsThen md_keptSea md_keptDay md_keptHired md_keptSails md_keptSeen md_keptKinds md_keptIlls md_keptCells md_keptSailed md_keptSights md_hash) ([.ref (md 0), .int k_, .int till_, .int s_, .int c_] : List Value)) (va_Qi (fun (r : Int32) (_ : Unit) => r = (fX6_soonIf md_rockBits md_day md_isHired md_kinds md_ills md_cells md_sailed k_ till_ s_ c_)) (fun u : Unit => gB (dC, dI) cI cJ (va_A (kMd cI cJ md md_page md_pageMany md_end md_ships md_rocks md_rockBits md_day md_isHired md_sails md_seasRead md_kinds md_ills md_cells md_sailed md_must md_seenMany md_sights md_seedNow md_cellsThen md_keptSea md_keptDay md_keptHired md_keptSails md_keptSeen md_keptKinds md_keptIlls md_keptCells md_keptSailed md_keptSights md_hash) sz) (kMd cI cJ md md_page md_pageMany md_end md_ships md_rocks md_rockBits md_day md_isHired md_sails md_seasRead md_kinds md_ills md_cells md_sailed md_must md_seenMany md_sights md_seedNow md_cellsThen md_keptSea md_keptDay md_keptHired md_keptSails md_keptSeen md_keptKinds md_keptIlls md_keptCells md_keptSailed md_keptSights md_hash)) (va_A (kMd cI cJ md md_page md_pageMany md_end md_ships md_rocks md_rockBits md_day md_isHired md_sails md_seasRead md_kinds md_ills md_cells md_sailed md_must md_seenMany md_sights md_seedNow md_cellsThen md_keptSea md_keptDay md_keptHired md_keptSails md_keptSeen md_keptKinds md_keptIlls md_keptCells md_keptSailed md_keptSights md_hash) sz)) 0 0 (va_A (kMd cI cJ md md_page md_pageMany md_end md_ships md_rocks md_rockBits md_day md_isHired md_sails md_seasRead md_kinds md_ills md_cells md_sailed md_must md_seenMany md_sights md_seedNow md_cellsThen md_keptSea md_keptDay md_keptHired md_keptSails md_keptSeen md_keptKinds md_keptIlls md_keptCells md_keptSailed md_keptSights md_hash) sz) := by
  refine Met.ofW (cc := cX6_soonIf) (maxL := 7) (ret := (some .int)) (by decide) rfl ?_
  intro p e s m args below meth c s₁ B hml hv
  obtain ⟨rfl, hsz, hP, hK, hD0, hst⟩ := hv
  have hx := B.exec
  have hb := B.bytes
  have hr := B.returns
  have hts := atoms_spec (ws := wsX6_soonIf) B.pre
  have hown : s.vm.findClass RX6 = some m.cls := findClass_of_methodNamed B.named
  have hlocks := B.notSynchronized
  subst hsz
  have hD := hD0.self (sz := s.heap.size)
  generalize hAe : va_A (kMd cI cJ md md_page md_pageMany md_end md_ships md_rocks md_rockBits md_day md_isHired md_sails md_seasRead md_kinds md_ills md_cells md_sailed md_must md_seenMany md_sights md_seedNow md_cellsThen md_keptSea md_keptDay md_keptHired md_keptSails md_keptSeen md_keptKinds md_keptIlls md_keptCells md_keptSailed md_keptSights md_hash) s.heap.size = A at hD hst ⊢
  have hA : ∀ q : Nat, s.heap.size ≤ q → A q := fun q h => by rw [← hAe]; exact Or.inr h
  have hS : va_S A s.heap s.heap [] := va_S.rf
  generalize hE : (fX6_soonIf md_rockBits md_day md_isHired md_kinds md_ills md_cells md_sailed k_ till_ s_ c_) = RES
  generalize hQ : MQ below (va_Qi (fun (r : Int32) (_ : Unit) => r = RES) (fun u : Unit => gB (dC, dI) cI cJ A (kMd cI cJ md md_page md_pageMany md_end md_ships md_rocks md_rockBits md_day md_isHired md_sails md_seasRead md_kinds md_ills md_cells md_sailed md_must md_seenMany md_sights md_seedNow md_cellsThen md_keptSea md_keptDay md_keptHired md_keptSails md_keptSeen md_keptKinds md_keptIlls md_keptCells md_keptSailed md_keptSights md_hash)) A) ([.ref (md 0), .int k_, .int till_, .int s_, .int c_] : List Value).toArray s 0 0 A = Q
  have hl := lv_entry ([.ref (md 0), .int k_, .int till_, .int s_, .int c_] : List Value) (n := 7) (Nat.le_of_ble_eq_true rfl)
  rw [lg_entry_eq]
  generalize (lg_sl ([.ref (md 0), .int k_, .int till_, .int s_, .int c_] : List Value) ++ List.replicate (7 - (lg_sl ([.ref (md 0), .int k_, .int till_, .int s_, .int c_] : List Value)).length) Slot.unset).toArray = ls at hl ⊢
  have hl : lv_has ls 7 [(0, .ref (md 0)), (1, .int k_), (2, .int till_), (3, .int s_), (4, .int c_)] := hl
  have in_X6 : ∀ w ∈ u_ws RX6 TX6 30, w ∈ wsX6_soonIf := fun _ h => List.mem_cons_of_mem _ (List.mem_append_right _ h)
  have t_fieldLink_RX6_16_FourLodgersModel_ills_I := hts (.fieldLink RX6 16 "FourLodgersModel" "ills" "[I") (List.mem_of_getElem? (i := 1) rfl)
  have i_m1 : (-1 : Int32).toInt = -1 := by decide
  have i_99 : (99 : Int32).toInt = 99 := by decide
  have p_1' := vp_in_iff.mp p_1
  have p_2' := vp_in_iff.mp p_2
  rw [fX6_soonIf] at hE
  refine lv_aload_n hx hb dX6_soonIf_0 rfl (lv_at hl 0 rfl) ?_
  refine va_get (D := (dC, dI)) (ci := 6) (v := .ref (md 3)) (C := RX6) (T := TX6) (N := 30) hx hb hts in_X6 hown hK hP 0 rfl rfl 11 (by decide) t_fieldLink_RX6_16_FourLodgersModel_ills_I (fun _ h9 => h9) rfl dX6_soonIf_1 ?_
  refine lv_iload_n hx hb dX6_soonIf_4 rfl (lv_at hl 1 rfl) ?_
  refine va_iald hx hb hK hP 3 0 rfl rfl (i := k_) (by first | assumption | exact vp_in_iff.mpr ⟨by omega, by omega⟩ | omega | decide) dX6_soonIf_5 ?_
  refine lv_istore (lv' := [(5, .int (md_ills k_.toNatClampNeg)), (0, .ref (md 0)), (1, .int k_), (2, .int till_), (3, .int s_), (4, .int c_)]) hx hb dX6_soonIf_6 hl (by decide) rfl (fun ls hl => ?_)
  refine lv_aload_n hx hb dX6_soonIf_8 rfl (lv_at hl 1 rfl) ?_
  refine va_get (D := (dC, dI)) (ci := 6) (v := .ref (md 3)) (C := RX6) (T := TX6) (N := 30) hx hb hts in_X6 hown hK hP 0 rfl rfl 11 (by decide) t_fieldLink_RX6_16_FourLodgersModel_ills_I (fun _ h9 => h9) rfl dX6_soonIf_9 ?_
  refine lv_iload_n hx hb dX6_soonIf_12 rfl (lv_at hl 2 rfl) ?_
  refine lv_iload_n hx hb dX6_soonIf_13 rfl (lv_at hl 3 rfl) ?_
  refine va_iast hx hb hK hP hD hS 3 0 rfl rfl (i := k_) (by first | assumption | exact vp_in_iff.mpr ⟨by omega, by omega⟩ | omega | decide) dX6_soonIf_14 (fun H locs hP hD hS => ?_)
  replace hP : va_P (dC, dI) vwCl (kMd cI cJ md md_page md_pageMany md_end md_ships md_rocks md_rockBits md_day md_isHired md_sails md_seasRead md_kinds (upd md_ills k_.toNatClampNeg till_) md_cells md_sailed md_must md_seenMany md_sights md_seedNow md_cellsThen md_keptSea md_keptDay md_keptHired md_keptSails md_keptSeen md_keptKinds md_keptIlls md_keptCells md_keptSailed md_keptSights md_hash) H := hP
  replace hD : va_D A (kMd cI cJ md md_page md_pageMany md_end md_ships md_rocks md_rockBits md_day md_isHired md_sails md_seasRead md_kinds (upd md_ills k_.toNatClampNeg till_) md_cells md_sailed md_must md_seenMany md_sights md_seedNow md_cellsThen md_keptSea md_keptDay md_keptHired md_keptSails md_keptSeen md_keptKinds md_keptIlls md_keptCells md_keptSailed md_keptSights md_hash) := hD
  refine lv_aload_n hx hb dX6_soonIf_15 rfl (lv_at hl 1 rfl) ?_
  refine lv_iload_n hx hb dX6_soonIf_16 rfl (lv_at hl 4 rfl) ?_
  refine lv_iload hx hb dX6_soonIf_17 (lv_at hl 5 rfl) ?_
  refine rcVi (As := [.int s_, .int c_]) (rest := []) ⟨hx, hb, hml, hown, hts⟩ (kX6_soonOf l dC dI cI cJ md md_page md_pageMany md_end md_ships md_rocks md_rockBits md_day md_isHired md_sails md_seasRead md_kinds (upd md_ills k_.toNatClampNeg till_) md_cells md_sailed md_must md_seenMany md_sights md_seedNow md_cellsThen md_keptSea md_keptDay md_keptHired md_keptSails md_keptSeen md_keptKinds md_keptIlls md_keptCells md_keptSailed md_keptSights md_hash s_ c_ p_2) (cwV 2 hts gX6_soonIf_X6_soonOf rfl rfl rfl (by decide +kernel) ⟨Nat.le_of_ble_eq_true rfl, Nat.le_of_ble_eq_true rfl⟩) hK hP hst hS [0, 1, 2, 3, 4, 5, 6, 7, 8, 9, 10, 11, 12, 13] rfl 0 rfl rfl rfl hl.1 rfl (Nat.le_of_ble_eq_true rfl) dX6_soonIf_19 ⟨Nat.zero_le _, Nat.zero_le _⟩ (fun r w_1 => ?_)
  subst w_1
  refine lv_istore (lv' := [(6, .int (fX6_soonOf md_rockBits md_day md_isHired md_kinds (upd md_ills k_.toNatClampNeg till_) md_cells md_sailed s_ c_)), (5, .int (md_ills k_.toNatClampNeg)), (0, .ref (md 0)), (1, .int k_), (2, .int till_), (3, .int s_), (4, .int c_)]) hx hb dX6_soonIf_22 hl (by decide) rfl (fun ls hl => ?_)
  refine lv_aload_n hx hb dX6_soonIf_24 rfl (lv_at hl 2 rfl) ?_
  refine va_get (D := (dC, dI)) (ci := 6) (v := .ref (md 3)) (C := RX6) (T := TX6) (N := 30) hx hb hts in_X6 hown hK hP 0 rfl rfl 11 (by decide) t_fieldLink_RX6_16_FourLodgersModel_ills_I (fun _ h9 => h9) rfl dX6_soonIf_25 ?_
  refine lv_iload_n hx hb dX6_soonIf_28 rfl (lv_at hl 3 rfl) ?_
  refine lv_iload hx hb dX6_soonIf_29 (lv_at hl 1 rfl) ?_
  refine va_iast hx hb hK hP hD hS 3 0 rfl rfl (i := k_) (by first | assumption | exact vp_in_iff.mpr ⟨by omega, by omega⟩ | omega | decide) dX6_soonIf_31 (fun H locs hP hD hS => ?_)
  replace hP : va_P (dC, dI) vwCl (kMd cI cJ md md_page md_pageMany md_end md_ships md_rocks md_rockBits md_day md_isHired md_sails md_seasRead md_kinds (upd (upd md_ills k_.toNatClampNeg till_) k_.toNatClampNeg (md_ills k_.toNatClampNeg)) md_cells md_sailed md_must md_seenMany md_sights md_seedNow md_cellsThen md_keptSea md_keptDay md_keptHired md_keptSails md_keptSeen md_keptKinds md_keptIlls md_keptCells md_keptSailed md_keptSights md_hash) H := hP
  replace hD : va_D A (kMd cI cJ md md_page md_pageMany md_end md_ships md_rocks md_rockBits md_day md_isHired md_sails md_seasRead md_kinds (upd (upd md_ills k_.toNatClampNeg till_) k_.toNatClampNeg (md_ills k_.toNatClampNeg)) md_cells md_sailed md_must md_seenMany md_sights md_seedNow md_cellsThen md_keptSea md_keptDay md_keptHired md_keptSails md_keptSeen md_keptKinds md_keptIlls md_keptCells md_keptSailed md_keptSights md_hash) := hD
  refine lv_iload hx hb dX6_soonIf_32 (lv_at hl 0 rfl) ?_
  refine lv_iconst (v := (-1 : Int32)) hx hb dX6_soonIf_34 (by decide) ?_
  refine lv_icmp_ne (tgt := 43) hx hb dX6_soonIf_35 (by decide) (fun c_35 => ?_) (fun c_35 => ?_)
  · rw [if_neg c_35] at hE
    refine lv_iload hx hb dX6_soonIf_43 (lv_at hl 0 rfl) ?_
    rw [upd_restore] at hP hD
    replace hP : va_P (dC, dI) vwCl (kMd cI cJ md md_page md_pageMany md_end md_ships md_rocks md_rockBits md_day md_isHired md_sails md_seasRead md_kinds md_ills md_cells md_sailed md_must md_seenMany md_sights md_seedNow md_cellsThen md_keptSea md_keptDay md_keptHired md_keptSails md_keptSeen md_keptKinds md_keptIlls md_keptCells md_keptSailed md_keptSights md_hash) H := hP
    replace hD : va_D A (kMd cI cJ md md_page md_pageMany md_end md_ships md_rocks md_rockBits md_day md_isHired md_sails md_seasRead md_kinds md_ills md_cells md_sailed md_must md_seenMany md_sights md_seedNow md_cellsThen md_keptSea md_keptDay md_keptHired md_keptSails md_keptSeen md_keptKinds md_keptIlls md_keptCells md_keptSailed md_keptSights md_hash) := hD
    subst hE
    rw [← hQ]
    exact W.iret hx hb hr (fun t ht hW => ⟨⟨_, (), rfl, rfl, by rw [ht]; exact hP, va_K.moved hW.alike hK, hD⟩, hS.F ht⟩) hS.2.2 dX6_soonIf_45
  · rw [if_pos c_35] at hE
    refine lv_bipush (v := (99 : Int32)) hx hb dX6_soonIf_38 (by decide) ?_
    refine lv_goto (tgt := 45) hx hb dX6_soonIf_40 (by decide) ?_
    rw [upd_restore] at hP hD
    replace hP : va_P (dC, dI) vwCl (kMd cI cJ md md_page md_pageMany md_end md_ships md_rocks md_rockBits md_day md_isHired md_sails md_seasRead md_kinds md_ills md_cells md_sailed md_must md_seenMany md_sights md_seedNow md_cellsThen md_keptSea md_keptDay md_keptHired md_keptSails md_keptSeen md_keptKinds md_keptIlls md_keptCells md_keptSailed md_keptSights md_hash) H := hP
    replace hD : va_D A (kMd cI cJ md md_page md_pageMany md_end md_ships md_rocks md_rockBits md_day md_isHired md_sails md_seasRead md_kinds md_ills md_cells md_sailed md_must md_seenMany md_sights md_seedNow md_cellsThen md_keptSea md_keptDay md_keptHired md_keptSails md_keptSeen md_keptKinds md_keptIlls md_keptCells md_keptSailed md_keptSights md_hash) := hD
    subst hE
    rw [← hQ]
    exact W.iret hx hb hr (fun t ht hW => ⟨⟨_, (), rfl, rfl, by rw [ht]; exact hP, va_K.moved hW.alike hK, hD⟩, hS.F ht⟩) hS.2.2 dX6_soonIf_45
def fX6_neededOf_8 (md_rockBits : Int64) (md_day : Int32) (md_isHired : Int32) (md_kinds : Nat → Int32) (md_ills : Nat → Int32) (md_cells : Nat → Int32) (md_sailed : Nat → Int32) (s_ : Int32) (c_ : Int32) : Nat → Int32 → Int32 → Nat → Int32
  | 0, _, _, _ => 0
  | n_ + 1, x3, x4, i => (if (4 : Int32) ≤ (nI i) then x3 else (if (md_ills (nI i).toNatClampNeg) ≤ (md_day + (7 : Int32)) then (if (fX6_soonIf md_rockBits md_day md_isHired md_kinds md_ills md_cells md_sailed (nI i) (md_day + (7 : Int32)) s_ c_) ≤ x4 then (if (fX6_soonIf md_rockBits md_day md_isHired md_kinds md_ills md_cells md_sailed (nI i) (md_day + (7 : Int32)) s_ c_) ≤ x4 then (fX6_neededOf_8 md_rockBits md_day md_isHired md_kinds md_ills md_cells md_sailed s_ c_ n_ x3 x4 ((i + 1))) else (fX6_neededOf_8 md_rockBits md_day md_isHired md_kinds md_ills md_cells md_sailed s_ c_ n_ x3 (fX6_soonIf md_rockBits md_day md_isHired md_kinds md_ills md_cells md_sailed (nI i) (md_day + (7 : Int32)) s_ c_) ((i + 1)))) else (if (fX6_soonIf md_rockBits md_day md_isHired md_kinds md_ills md_cells md_sailed (nI i) (md_day + (7 : Int32)) s_ c_) ≤ x4 then (fX6_neededOf_8 md_rockBits md_day md_isHired md_kinds md_ills md_cells md_sailed s_ c_ n_ (nI i) x4 ((i + 1))) else (fX6_neededOf_8 md_rockBits md_day md_isHired md_kinds md_ills md_cells md_sailed s_ c_ n_ (nI i) (fX6_soonIf md_rockBits md_day md_isHired md_kinds md_ills md_cells md_sailed (nI i) (md_day + (7 : Int32)) s_ c_) ((i + 1))))) else (if (fX6_soonIf md_rockBits md_day md_isHired md_kinds md_ills md_cells md_sailed (nI i) (md_ills (nI i).toNatClampNeg) s_ c_) ≤ x4 then (if (fX6_soonIf md_rockBits md_day md_isHired md_kinds md_ills md_cells md_sailed (nI i) (md_ills (nI i).toNatClampNeg) s_ c_) ≤ x4 then (fX6_neededOf_8 md_rockBits md_day md_isHired md_kinds md_ills md_cells md_sailed s_ c_ n_ x3 x4 ((i + 1))) else (fX6_neededOf_8 md_rockBits md_day md_isHired md_kinds md_ills md_cells md_sailed s_ c_ n_ x3 (fX6_soonIf md_rockBits md_day md_isHired md_kinds md_ills md_cells md_sailed (nI i) (md_ills (nI i).toNatClampNeg) s_ c_) ((i + 1)))) else (if (fX6_soonIf md_rockBits md_day md_isHired md_kinds md_ills md_cells md_sailed (nI i) (md_ills (nI i).toNatClampNeg) s_ c_) ≤ x4 then (fX6_neededOf_8 md_rockBits md_day md_isHired md_kinds md_ills md_cells md_sailed s_ c_ n_ (nI i) x4 ((i + 1))) else (fX6_neededOf_8 md_rockBits md_day md_isHired md_kinds md_ills md_cells md_sailed s_ c_ n_ (nI i) (fX6_soonIf md_rockBits md_day md_isHired md_kinds md_ills md_cells md_sailed (nI i) (md_ills (nI i).toNatClampNeg) s_ c_) ((i + 1)))))))
def fX6_neededOf (md_rockBits : Int64) (md_day : Int32) (md_isHired : Int32) (md_kinds : Nat → Int32) (md_ills : Nat → Int32) (md_cells : Nat → Int32) (md_sailed : Nat → Int32) (s_ : Int32) (c_ : Int32) : Int32 := (fX6_neededOf_8 md_rockBits md_day md_isHired md_kinds md_ills md_cells md_sailed s_ c_ 5 (-1 : Int32) (-1 : Int32) (0))
set_option maxHeartbeats 4000000 in
set_option maxRecDepth 100000 in
theorem kX6_neededOf (l : Launch) (dC : Nat → ClassId) (dI : Nat → Nat → Nat) (cI cJ : ClassId) (sz : Nat) (md : Nat → Nat) (md_page : Nat → Int32) (md_pageMany : Int32) (md_end : Int32) (md_ships : Int32) (md_rocks : Int32) (md_rockBits : Int64) (md_day : Int32) (md_isHired : Int32) (md_sails : Int32) (md_seasRead : Int32) (md_kinds : Nat → Int32) (md_ills : Nat → Int32) (md_cells : Nat → Int32) (md_sailed : Nat → Int32) (md_must : Nat → Int64) (md_seenMany : Int32) (md_sights : Nat → Int32) (md_seedNow : Int32) (md_cellsThen : Nat → Int32) (md_keptSea : Int32) (md_keptDay : Int32) (md_keptHired : Int32) (md_keptSails : Int32) (md_keptSeen : Int32) (md_keptKinds : Nat → Int32) (md_keptIlls : Nat → Int32) (md_keptCells : Nat → Int32) (md_keptSailed : Nat → Int32) (md_keptSights : Nat → Int32) (md_hash : Int64) (s_ : Int32) (c_ : Int32) (p_1 : vp_in s_ 3) : Met l yX6_neededOf wsX6_neededOf ({ frames := 6, cells := 0, slots := 0, locals := 152 } : Room) (gW (dC, dI) cI cJ sz (kMd cI cJ md md_page md_pageMany md_end md_ships md_rocks md_rockBits md_day md_isHired md_sails md_seasRead md_kinds md_ills md_cells md_sailed md_must md_seenMany md_sights md_seedNow md_cellsThen md_keptSea md_keptDay md_keptHired md_keptSails md_keptSeen md_keptKinds md_keptIlls md_keptCells md_keptSailed md_keptSights md_hash) ([.ref (md 0), .int s_, .int c_] : List Value)) (va_Qi (fun (r : Int32) (_ : Unit) => r = (fX6_neededOf md_rockBits md_day md_isHired md_kinds md_ills md_cells md_sailed s_ c_)) (fun u : Unit => gB (dC, dI) cI cJ (va_A (kMd cI cJ md md_page md_pageMany md_end md_ships md_rocks md_rockBits md_day md_isHired md_sails md_seasRead md_kinds md_ills md_cells md_sailed md_must md_seenMany md_sights md_seedNow md_cellsThen md_keptSea md_keptDay md_keptHired md_keptSails md_keptSeen md_keptKinds md_keptIlls md_keptCells md_keptSailed md_keptSights md_hash) sz) (kMd cI cJ md md_page md_pageMany md_end md_ships md_rocks md_rockBits md_day md_isHired md_sails md_seasRead md_kinds md_ills md_cells md_sailed md_must md_seenMany md_sights md_seedNow md_cellsThen md_keptSea md_keptDay md_keptHired md_keptSails md_keptSeen md_keptKinds md_keptIlls md_keptCells md_keptSailed md_keptSights md_hash)) (va_A (kMd cI cJ md md_page md_pageMany md_end md_ships md_rocks md_rockBits md_day md_isHired md_sails md_seasRead md_kinds md_ills md_cells md_sailed md_must md_seenMany md_sights md_seedNow md_cellsThen md_keptSea md_keptDay md_keptHired md_keptSails md_keptSeen md_keptKinds md_keptIlls md_keptCells md_keptSailed md_keptSights md_hash) sz)) 0 0 (va_A (kMd cI cJ md md_page md_pageMany md_end md_ships md_rocks md_rockBits md_day md_isHired md_sails md_seasRead md_kinds md_ills md_cells md_sailed md_must md_seenMany md_sights md_seedNow md_cellsThen md_keptSea md_keptDay md_keptHired md_keptSails md_keptSeen md_keptKinds md_keptIlls md_keptCells md_keptSailed md_keptSights md_hash) sz) := by
  refine Met.ofW (cc := cX6_neededOf) (maxL := 7) (ret := (some .int)) (by decide) rfl ?_
  intro p e s m args below meth c s₁ B hml hv
  obtain ⟨rfl, hsz, hP, hK, hD0, hst⟩ := hv
  have hx := B.exec
  have hb := B.bytes
  have hr := B.returns
  have hts := atoms_spec (ws := wsX6_neededOf) B.pre
  have hown : s.vm.findClass RX6 = some m.cls := findClass_of_methodNamed B.named
  have hlocks := B.notSynchronized
  subst hsz
  have hD := hD0.self (sz := s.heap.size)
  generalize hAe : va_A (kMd cI cJ md md_page md_pageMany md_end md_ships md_rocks md_rockBits md_day md_isHired md_sails md_seasRead md_kinds md_ills md_cells md_sailed md_must md_seenMany md_sights md_seedNow md_cellsThen md_keptSea md_keptDay md_keptHired md_keptSails md_keptSeen md_keptKinds md_keptIlls md_keptCells md_keptSailed md_keptSights md_hash) s.heap.size = A at hD hst ⊢
  have hA : ∀ q : Nat, s.heap.size ≤ q → A q := fun q h => by rw [← hAe]; exact Or.inr h
  have hS : va_S A s.heap s.heap [] := va_S.rf
  generalize hE : (fX6_neededOf md_rockBits md_day md_isHired md_kinds md_ills md_cells md_sailed s_ c_) = RES
  generalize hQ : MQ below (va_Qi (fun (r : Int32) (_ : Unit) => r = RES) (fun u : Unit => gB (dC, dI) cI cJ A (kMd cI cJ md md_page md_pageMany md_end md_ships md_rocks md_rockBits md_day md_isHired md_sails md_seasRead md_kinds md_ills md_cells md_sailed md_must md_seenMany md_sights md_seedNow md_cellsThen md_keptSea md_keptDay md_keptHired md_keptSails md_keptSeen md_keptKinds md_keptIlls md_keptCells md_keptSailed md_keptSights md_hash)) A) ([.ref (md 0), .int s_, .int c_] : List Value).toArray s 0 0 A = Q
  have hl := lv_entry ([.ref (md 0), .int s_, .int c_] : List Value) (n := 7) (Nat.le_of_ble_eq_true rfl)
  rw [lg_entry_eq]
  generalize (lg_sl ([.ref (md 0), .int s_, .int c_] : List Value) ++ List.replicate (7 - (lg_sl ([.ref (md 0), .int s_, .int c_] : List Value)).length) Slot.unset).toArray = ls at hl ⊢
  have hl : lv_has ls 7 [(0, .ref (md 0)), (1, .int s_), (2, .int c_)] := hl
  have in_X6 : ∀ w ∈ u_ws RX6 TX6 30, w ∈ wsX6_neededOf := fun _ h => List.mem_cons_of_mem _ (List.mem_append_right _ h)
  have t_fieldLink_RX6_109_FourLodgersModel_day_I := hts (.fieldLink RX6 109 "FourLodgersModel" "day" "I") (List.mem_of_getElem? (i := 2) rfl)
  have t_fieldLink_RX6_16_FourLodgersModel_ills_I := hts (.fieldLink RX6 16 "FourLodgersModel" "ills" "[I") (List.mem_of_getElem? (i := 1) rfl)
  have i_m1 : (-1 : Int32).toInt = -1 := by decide
  have i_0 : (0 : Int32).toInt = 0 := by decide
  have i_4 : (4 : Int32).toInt = 4 := by decide
  have i_7 : (7 : Int32).toInt = 7 := by decide
  have p_1' := vp_in_iff.mp p_1
  rw [fX6_neededOf] at hE
  refine lv_iconst (v := (-1 : Int32)) hx hb dX6_neededOf_0 (by decide) ?_
  refine lv_istore_n (lv' := [(3, .int (-1 : Int32)), (0, .ref (md 0)), (1, .int s_), (2, .int c_)]) hx hb dX6_neededOf_1 rfl hl (by decide) rfl (fun ls hl => ?_)
  refine lv_iconst (v := (-1 : Int32)) hx hb dX6_neededOf_2 (by decide) ?_
  refine lv_istore (lv' := [(4, .int (-1 : Int32)), (3, .int (-1 : Int32)), (0, .ref (md 0)), (1, .int s_), (2, .int c_)]) hx hb dX6_neededOf_3 hl (by decide) rfl (fun ls hl => ?_)
  refine lv_iconst (v := (0 : Int32)) hx hb dX6_neededOf_5 (by decide) ?_
  refine lv_istore (lv' := [(5, .int (0 : Int32)), (4, .int (-1 : Int32)), (3, .int (-1 : Int32)), (0, .ref (md 0)), (1, .int s_), (2, .int c_)]) hx hb dX6_neededOf_6 hl (by decide) rfl (fun ls hl => ?_)
  have L8 : ∀ (n_ : Nat) (x3 : Int32) (x4 : Int32) (i : Nat) , (i ≤ 4) → 4 - i < n_ → (fX6_neededOf_8 md_rockBits md_day md_isHired md_kinds md_ills md_cells md_sailed s_ c_ n_ x3 x4 i) = RES → ∀ (H : Heap) (locs : List Loc), va_P (dC, dI) vwCl (kMd cI cJ md md_page md_pageMany md_end md_ships md_rocks md_rockBits md_day md_isHired md_sails md_seasRead md_kinds md_ills md_cells md_sailed md_must md_seenMany md_sights md_seedNow md_cellsThen md_keptSea md_keptDay md_keptHired md_keptSails md_keptSeen md_keptKinds md_keptIlls md_keptCells md_keptSailed md_keptSights md_hash) H → va_D A (kMd cI cJ md md_page md_pageMany md_end md_ships md_rocks md_rockBits md_day md_isHired md_sails md_seasRead md_kinds md_ills md_cells md_sailed md_must md_seenMany md_sights md_seedNow md_cellsThen md_keptSea md_keptDay md_keptHired md_keptSails md_keptSeen md_keptKinds md_keptIlls md_keptCells md_keptSailed md_keptSights md_hash) → va_S A s.heap H locs → ∀ ls : Array Slot, lv_has ls 7 [(0, .ref (md 0)), (1, .int s_), (2, .int c_), (3, .int x3), (4, .int x4), (5, .int (nI i))] → W p l e (headSpec wsX6_neededOf ({ frames := 6, cells := 0, slots := 0, locals := 152 } : Room)).room s m ([.ref (md 0), .int s_, .int c_] : List Value).toArray below meth c H locs 0 0 Q (F0 m 8 ls []) := by
    intro n_
    induction n_ with
    | zero => intro x3 x4 i  hi hn; exact absurd hn (Nat.not_lt_zero _)
    | succ n_ ih =>
      intro x3 x4 i  hi hn hE H locs hP hD hS ls hl
      rw [fX6_neededOf_8] at hE
      have tn_i : (nI i).toInt = (i : Int) := nI_toInt (by omega)
      refine lv_iload hx hb dX6_neededOf_8 (lv_at hl 5 rfl) ?_
      refine lv_iconst (v := (4 : Int32)) hx hb dX6_neededOf_10 (by decide) ?_
      refine lv_icmp_ge (tgt := 94) hx hb dX6_neededOf_11 (by decide) (fun c_11 => ?_) (fun c_11 => ?_)
      · have e_11 := Int32.le_iff_toInt_le.mp c_11
        rw [if_pos c_11] at hE
        refine lv_iload_n hx hb dX6_neededOf_94 rfl (lv_at hl 3 rfl) ?_
        subst hE
        rw [← hQ]
        exact W.iret hx hb hr (fun t ht hW => ⟨⟨_, (), rfl, rfl, by rw [ht]; exact hP, va_K.moved hW.alike hK, hD⟩, hS.F ht⟩) hS.2.2 dX6_neededOf_95
      · have e_11 := mt Int32.le_iff_toInt_le.mpr c_11
        rw [if_neg c_11] at hE
        refine lv_aload_n hx hb dX6_neededOf_14 rfl (lv_at hl 0 rfl) ?_
        refine lv_iload hx hb dX6_neededOf_15 (lv_at hl 5 rfl) ?_
        refine lv_aload_n hx hb dX6_neededOf_17 rfl (lv_at hl 0 rfl) ?_
        refine va_get (D := (dC, dI)) (ci := 6) (v := .ref (md 3)) (C := RX6) (T := TX6) (N := 30) hx hb hts in_X6 hown hK hP 0 rfl rfl 11 (by decide) t_fieldLink_RX6_16_FourLodgersModel_ills_I (fun _ h9 => h9) rfl dX6_neededOf_18 ?_
        refine lv_iload hx hb dX6_neededOf_21 (lv_at hl 5 rfl) ?_
        refine va_iald hx hb hK hP 3 0 rfl rfl (i := (nI i)) (by first | assumption | exact vp_in_iff.mpr ⟨by omega, by omega⟩ | omega | decide) dX6_neededOf_23 ?_
        refine lv_aload_n hx hb dX6_neededOf_24 rfl (lv_at hl 0 rfl) ?_
        refine va_get (D := (dC, dI)) (ci := 6) (v := .int md_day) (C := RX6) (T := TX6) (N := 30) hx hb hts in_X6 hown hK hP 0 rfl rfl 6 (by decide) t_fieldLink_RX6_109_FourLodgersModel_day_I (fun _ h9 => h9) rfl dX6_neededOf_25 ?_
        refine lv_bipush (v := (7 : Int32)) hx hb dX6_neededOf_28 (by decide) ?_
        refine lv_iadd hx hb dX6_neededOf_30 ?_
        refine lv_icmp_le (tgt := 44) hx hb dX6_neededOf_31 (by decide) (fun c_31 => ?_) (fun c_31 => ?_)
        · have e_31 := Int32.le_iff_toInt_le.mp c_31
          rw [if_pos c_31] at hE
          refine lv_aload_n hx hb dX6_neededOf_44 rfl (lv_at hl 0 rfl) ?_
          refine va_get (D := (dC, dI)) (ci := 6) (v := .int md_day) (C := RX6) (T := TX6) (N := 30) hx hb hts in_X6 hown hK hP 0 rfl rfl 6 (by decide) t_fieldLink_RX6_109_FourLodgersModel_day_I (fun _ h9 => h9) rfl dX6_neededOf_45 ?_
          refine lv_bipush (v := (7 : Int32)) hx hb dX6_neededOf_48 (by decide) ?_
          refine lv_iadd hx hb dX6_neededOf_50 ?_
          refine lv_iload_n hx hb dX6_neededOf_51 rfl (lv_at hl 1 rfl) ?_
          refine lv_iload_n hx hb dX6_neededOf_52 rfl (lv_at hl 2 rfl) ?_
          refine wcVi (As := [.int (nI i), .int (md_day + (7 : Int32)), .int s_, .int c_]) (rest := []) (wr := ([] : va_W)) (wn := (fun u : Unit => (kMd cI cJ md md_page md_pageMany md_end md_ships md_rocks md_rockBits md_day md_isHired md_sails md_seasRead md_kinds md_ills md_cells md_sailed md_must md_seenMany md_sights md_seedNow md_cellsThen md_keptSea md_keptDay md_keptHired md_keptSails md_keptSeen md_keptKinds md_keptIlls md_keptCells md_keptSailed md_keptSights md_hash))) (ws' := (fun u : Unit => (kMd cI cJ md md_page md_pageMany md_end md_ships md_rocks md_rockBits md_day md_isHired md_sails md_seasRead md_kinds md_ills md_cells md_sailed md_must md_seenMany md_sights md_seedNow md_cellsThen md_keptSea md_keptDay md_keptHired md_keptSails md_keptSeen md_keptKinds md_keptIlls md_keptCells md_keptSailed md_keptSights md_hash))) ⟨hx, hb, hml, hown, hts⟩ (kX6_soonIf l dC dI cI cJ H.size md md_page md_pageMany md_end md_ships md_rocks md_rockBits md_day md_isHired md_sails md_seasRead md_kinds md_ills md_cells md_sailed md_must md_seenMany md_sights md_seedNow md_cellsThen md_keptSea md_keptDay md_keptHired md_keptSails md_keptSeen md_keptKinds md_keptIlls md_keptCells md_keptSailed md_keptSights md_hash (nI i) (md_day + (7 : Int32)) s_ c_ (by first | assumption | exact vp_in_iff.mpr ⟨by omega, by omega⟩ | omega | decide) p_1) (cwV 4 hts gX6_neededOf_X6_soonIf rfl rfl rfl (by decide +kernel) ⟨Nat.le_of_ble_eq_true rfl, Nat.le_of_ble_eq_true rfl⟩) hK hP hD hst hS hA [0, 1, 2, 3, 4, 5, 6, 7, 8, 9, 10, 11, 12, 13] [] [0, 1, 2, 3, 4, 5, 6, 7, 8, 9, 10, 11, 12, 13] rfl (by decide) rfl (by decide) (by decide) (by decide) (fun _ => rfl) 0 rfl rfl rfl hl.1 rfl (Nat.le_of_ble_eq_true rfl) dX6_neededOf_53 ⟨Nat.zero_le _, Nat.zero_le _⟩ (fun r u_2 H locs w_1 hP hD hS => ?_)
          replace hP : va_P (dC, dI) vwCl (kMd cI cJ md md_page md_pageMany md_end md_ships md_rocks md_rockBits md_day md_isHired md_sails md_seasRead md_kinds md_ills md_cells md_sailed md_must md_seenMany md_sights md_seedNow md_cellsThen md_keptSea md_keptDay md_keptHired md_keptSails md_keptSeen md_keptKinds md_keptIlls md_keptCells md_keptSailed md_keptSights md_hash) H := hP
          replace hD : va_D A (kMd cI cJ md md_page md_pageMany md_end md_ships md_rocks md_rockBits md_day md_isHired md_sails md_seasRead md_kinds md_ills md_cells md_sailed md_must md_seenMany md_sights md_seedNow md_cellsThen md_keptSea md_keptDay md_keptHired md_keptSails md_keptSeen md_keptKinds md_keptIlls md_keptCells md_keptSailed md_keptSights md_hash) := hD
          subst w_1
          refine lv_istore (lv' := [(6, .int (fX6_soonIf md_rockBits md_day md_isHired md_kinds md_ills md_cells md_sailed (nI i) (md_day + (7 : Int32)) s_ c_)), (0, .ref (md 0)), (1, .int s_), (2, .int c_), (3, .int x3), (4, .int x4), (5, .int (nI i))]) hx hb dX6_neededOf_56 hl (by decide) rfl (fun ls hl => ?_)
          refine lv_iload hx hb dX6_neededOf_58 (lv_at hl 0 rfl) ?_
          refine lv_iload hx hb dX6_neededOf_60 (lv_at hl 5 rfl) ?_
          refine lv_icmp_le (tgt := 70) hx hb dX6_neededOf_62 (by decide) (fun c_62 => ?_) (fun c_62 => ?_)
          · rw [if_pos c_62] at hE
            refine lv_iload_n hx hb dX6_neededOf_70 rfl (lv_at hl 4 rfl) ?_
            refine lv_istore_n (lv' := [(3, .int x3), (6, .int (fX6_soonIf md_rockBits md_day md_isHired md_kinds md_ills md_cells md_sailed (nI i) (md_day + (7 : Int32)) s_ c_)), (0, .ref (md 0)), (1, .int s_), (2, .int c_), (4, .int x4), (5, .int (nI i))]) hx hb dX6_neededOf_71 rfl hl (by decide) rfl (fun ls hl => ?_)
            refine lv_iload hx hb dX6_neededOf_72 (lv_at hl 1 rfl) ?_
            refine lv_iload hx hb dX6_neededOf_74 (lv_at hl 5 rfl) ?_
            refine lv_icmp_le (tgt := 84) hx hb dX6_neededOf_76 (by decide) (fun c_76 => ?_) (fun c_76 => ?_)
            · rw [if_pos c_76] at hE
              refine lv_iload hx hb dX6_neededOf_84 (lv_at hl 5 rfl) ?_
              refine lv_istore (lv' := [(4, .int x4), (3, .int x3), (6, .int (fX6_soonIf md_rockBits md_day md_isHired md_kinds md_ills md_cells md_sailed (nI i) (md_day + (7 : Int32)) s_ c_)), (0, .ref (md 0)), (1, .int s_), (2, .int c_), (5, .int (nI i))]) hx hb dX6_neededOf_86 hl (by decide) rfl (fun ls hl => ?_)
              refine lv_iinc (v := (nI (i + 1))) (lv' := [(5, .int (nI (i + 1))), (4, .int x4), (3, .int x3), (6, .int (fX6_soonIf md_rockBits md_day md_isHired md_kinds md_ills md_cells md_sailed (nI i) (md_day + (7 : Int32)) s_ c_)), (0, .ref (md 0)), (1, .int s_), (2, .int c_)]) hx hb dX6_neededOf_88 hl (k := 6) rfl (by rw [show Int32.ofInt 1 = nI 1 from rfl, nI_add]) (by decide) rfl (fun ls hl => ?_)
              refine lv_goto (tgt := 8) hx hb dX6_neededOf_91 (by decide) ?_
              exact ih x3 x4 ((i + 1))  (by omega) (by omega) hE H locs hP hD hS ls (lv_sub hl [4, 5, 6, 2, 1, 0] rfl)
            · rw [if_neg c_76] at hE
              refine lv_iload hx hb dX6_neededOf_79 (lv_at hl 1 rfl) ?_
              refine lv_goto (tgt := 86) hx hb dX6_neededOf_81 (by decide) ?_
              refine lv_istore (lv' := [(4, .int (fX6_soonIf md_rockBits md_day md_isHired md_kinds md_ills md_cells md_sailed (nI i) (md_day + (7 : Int32)) s_ c_)), (3, .int x3), (6, .int (fX6_soonIf md_rockBits md_day md_isHired md_kinds md_ills md_cells md_sailed (nI i) (md_day + (7 : Int32)) s_ c_)), (0, .ref (md 0)), (1, .int s_), (2, .int c_), (5, .int (nI i))]) hx hb dX6_neededOf_86 hl (by decide) rfl (fun ls hl => ?_)
              refine lv_iinc (v := (nI (i + 1))) (lv' := [(5, .int (nI (i + 1))), (4, .int (fX6_soonIf md_rockBits md_day md_isHired md_kinds md_ills md_cells md_sailed (nI i) (md_day + (7 : Int32)) s_ c_)), (3, .int x3), (6, .int (fX6_soonIf md_rockBits md_day md_isHired md_kinds md_ills md_cells md_sailed (nI i) (md_day + (7 : Int32)) s_ c_)), (0, .ref (md 0)), (1, .int s_), (2, .int c_)]) hx hb dX6_neededOf_88 hl (k := 6) rfl (by rw [show Int32.ofInt 1 = nI 1 from rfl, nI_add]) (by decide) rfl (fun ls hl => ?_)
              refine lv_goto (tgt := 8) hx hb dX6_neededOf_91 (by decide) ?_
              exact ih x3 (fX6_soonIf md_rockBits md_day md_isHired md_kinds md_ills md_cells md_sailed (nI i) (md_day + (7 : Int32)) s_ c_) ((i + 1))  (by omega) (by omega) hE H locs hP hD hS ls (lv_sub hl [4, 5, 6, 2, 1, 0] rfl)
          · rw [if_neg c_62] at hE
            refine lv_iload hx hb dX6_neededOf_65 (lv_at hl 6 rfl) ?_
            refine lv_goto (tgt := 71) hx hb dX6_neededOf_67 (by decide) ?_
            refine lv_istore_n (lv' := [(3, .int (nI i)), (6, .int (fX6_soonIf md_rockBits md_day md_isHired md_kinds md_ills md_cells md_sailed (nI i) (md_day + (7 : Int32)) s_ c_)), (0, .ref (md 0)), (1, .int s_), (2, .int c_), (4, .int x4), (5, .int (nI i))]) hx hb dX6_neededOf_71 rfl hl (by decide) rfl (fun ls hl => ?_)
            refine lv_iload hx hb dX6_neededOf_72 (lv_at hl 1 rfl) ?_
            refine lv_iload hx hb dX6_neededOf_74 (lv_at hl 5 rfl) ?_
            refine lv_icmp_le (tgt := 84) hx hb dX6_neededOf_76 (by decide) (fun c_76 => ?_) (fun c_76 => ?_)
            · rw [if_pos c_76] at hE
              refine lv_iload hx hb dX6_neededOf_84 (lv_at hl 5 rfl) ?_
              refine lv_istore (lv' := [(4, .int x4), (3, .int (nI i)), (6, .int (fX6_soonIf md_rockBits md_day md_isHired md_kinds md_ills md_cells md_sailed (nI i) (md_day + (7 : Int32)) s_ c_)), (0, .ref (md 0)), (1, .int s_), (2, .int c_), (5, .int (nI i))]) hx hb dX6_neededOf_86 hl (by decide) rfl (fun ls hl => ?_)
              refine lv_iinc (v := (nI (i + 1))) (lv' := [(5, .int (nI (i + 1))), (4, .int x4), (3, .int (nI i)), (6, .int (fX6_soonIf md_rockBits md_day md_isHired md_kinds md_ills md_cells md_sailed (nI i) (md_day + (7 : Int32)) s_ c_)), (0, .ref (md 0)), (1, .int s_), (2, .int c_)]) hx hb dX6_neededOf_88 hl (k := 6) rfl (by rw [show Int32.ofInt 1 = nI 1 from rfl, nI_add]) (by decide) rfl (fun ls hl => ?_)
              refine lv_goto (tgt := 8) hx hb dX6_neededOf_91 (by decide) ?_
              exact ih (nI i) x4 ((i + 1))  (by omega) (by omega) hE H locs hP hD hS ls (lv_sub hl [4, 5, 6, 2, 1, 0] rfl)
            · rw [if_neg c_76] at hE
              refine lv_iload hx hb dX6_neededOf_79 (lv_at hl 1 rfl) ?_
              refine lv_goto (tgt := 86) hx hb dX6_neededOf_81 (by decide) ?_
              refine lv_istore (lv' := [(4, .int (fX6_soonIf md_rockBits md_day md_isHired md_kinds md_ills md_cells md_sailed (nI i) (md_day + (7 : Int32)) s_ c_)), (3, .int (nI i)), (6, .int (fX6_soonIf md_rockBits md_day md_isHired md_kinds md_ills md_cells md_sailed (nI i) (md_day + (7 : Int32)) s_ c_)), (0, .ref (md 0)), (1, .int s_), (2, .int c_), (5, .int (nI i))]) hx hb dX6_neededOf_86 hl (by decide) rfl (fun ls hl => ?_)
              refine lv_iinc (v := (nI (i + 1))) (lv' := [(5, .int (nI (i + 1))), (4, .int (fX6_soonIf md_rockBits md_day md_isHired md_kinds md_ills md_cells md_sailed (nI i) (md_day + (7 : Int32)) s_ c_)), (3, .int (nI i)), (6, .int (fX6_soonIf md_rockBits md_day md_isHired md_kinds md_ills md_cells md_sailed (nI i) (md_day + (7 : Int32)) s_ c_)), (0, .ref (md 0)), (1, .int s_), (2, .int c_)]) hx hb dX6_neededOf_88 hl (k := 6) rfl (by rw [show Int32.ofInt 1 = nI 1 from rfl, nI_add]) (by decide) rfl (fun ls hl => ?_)
              refine lv_goto (tgt := 8) hx hb dX6_neededOf_91 (by decide) ?_
              exact ih (nI i) (fX6_soonIf md_rockBits md_day md_isHired md_kinds md_ills md_cells md_sailed (nI i) (md_day + (7 : Int32)) s_ c_) ((i + 1))  (by omega) (by omega) hE H locs hP hD hS ls (lv_sub hl [4, 5, 6, 2, 1, 0] rfl)
        · have e_31 := mt Int32.le_iff_toInt_le.mpr c_31
          rw [if_neg c_31] at hE
          refine lv_aload_n hx hb dX6_neededOf_34 rfl (lv_at hl 0 rfl) ?_
          refine va_get (D := (dC, dI)) (ci := 6) (v := .ref (md 3)) (C := RX6) (T := TX6) (N := 30) hx hb hts in_X6 hown hK hP 0 rfl rfl 11 (by decide) t_fieldLink_RX6_16_FourLodgersModel_ills_I (fun _ h9 => h9) rfl dX6_neededOf_35 ?_
          refine lv_iload hx hb dX6_neededOf_38 (lv_at hl 5 rfl) ?_
          refine va_iald hx hb hK hP 3 0 rfl rfl (i := (nI i)) (by first | assumption | exact vp_in_iff.mpr ⟨by omega, by omega⟩ | omega | decide) dX6_neededOf_40 ?_
          refine lv_goto (tgt := 51) hx hb dX6_neededOf_41 (by decide) ?_
          refine lv_iload_n hx hb dX6_neededOf_51 rfl (lv_at hl 1 rfl) ?_
          refine lv_iload_n hx hb dX6_neededOf_52 rfl (lv_at hl 2 rfl) ?_
          refine wcVi (As := [.int (nI i), .int (md_ills (nI i).toNatClampNeg), .int s_, .int c_]) (rest := []) (wr := ([] : va_W)) (wn := (fun u : Unit => (kMd cI cJ md md_page md_pageMany md_end md_ships md_rocks md_rockBits md_day md_isHired md_sails md_seasRead md_kinds md_ills md_cells md_sailed md_must md_seenMany md_sights md_seedNow md_cellsThen md_keptSea md_keptDay md_keptHired md_keptSails md_keptSeen md_keptKinds md_keptIlls md_keptCells md_keptSailed md_keptSights md_hash))) (ws' := (fun u : Unit => (kMd cI cJ md md_page md_pageMany md_end md_ships md_rocks md_rockBits md_day md_isHired md_sails md_seasRead md_kinds md_ills md_cells md_sailed md_must md_seenMany md_sights md_seedNow md_cellsThen md_keptSea md_keptDay md_keptHired md_keptSails md_keptSeen md_keptKinds md_keptIlls md_keptCells md_keptSailed md_keptSights md_hash))) ⟨hx, hb, hml, hown, hts⟩ (kX6_soonIf l dC dI cI cJ H.size md md_page md_pageMany md_end md_ships md_rocks md_rockBits md_day md_isHired md_sails md_seasRead md_kinds md_ills md_cells md_sailed md_must md_seenMany md_sights md_seedNow md_cellsThen md_keptSea md_keptDay md_keptHired md_keptSails md_keptSeen md_keptKinds md_keptIlls md_keptCells md_keptSailed md_keptSights md_hash (nI i) (md_ills (nI i).toNatClampNeg) s_ c_ (by first | assumption | exact vp_in_iff.mpr ⟨by omega, by omega⟩ | omega | decide) p_1) (cwV 4 hts gX6_neededOf_X6_soonIf rfl rfl rfl (by decide +kernel) ⟨Nat.le_of_ble_eq_true rfl, Nat.le_of_ble_eq_true rfl⟩) hK hP hD hst hS hA [0, 1, 2, 3, 4, 5, 6, 7, 8, 9, 10, 11, 12, 13] [] [0, 1, 2, 3, 4, 5, 6, 7, 8, 9, 10, 11, 12, 13] rfl (by decide) rfl (by decide) (by decide) (by decide) (fun _ => rfl) 0 rfl rfl rfl hl.1 rfl (Nat.le_of_ble_eq_true rfl) dX6_neededOf_53 ⟨Nat.zero_le _, Nat.zero_le _⟩ (fun r u_4 H locs w_3 hP hD hS => ?_)
          replace hP : va_P (dC, dI) vwCl (kMd cI cJ md md_page md_pageMany md_end md_ships md_rocks md_rockBits md_day md_isHired md_sails md_seasRead md_kinds md_ills md_cells md_sailed md_must md_seenMany md_sights md_seedNow md_cellsThen md_keptSea md_keptDay md_keptHired md_keptSails md_keptSeen md_keptKinds md_keptIlls md_keptCells md_keptSailed md_keptSights md_hash) H := hP
          replace hD : va_D A (kMd cI cJ md md_page md_pageMany md_end md_ships md_rocks md_rockBits md_day md_isHired md_sails md_seasRead md_kinds md_ills md_cells md_sailed md_must md_seenMany md_sights md_seedNow md_cellsThen md_keptSea md_keptDay md_keptHired md_keptSails md_keptSeen md_keptKinds md_keptIlls md_keptCells md_keptSailed md_keptSights md_hash) := hD
          subst w_3
          refine lv_istore (lv' := [(6, .int (fX6_soonIf md_rockBits md_day md_isHired md_kinds md_ills md_cells md_sailed (nI i) (md_ills (nI i).toNatClampNeg) s_ c_)), (0, .ref (md 0)), (1, .int s_), (2, .int c_), (3, .int x3), (4, .int x4), (5, .int (nI i))]) hx hb dX6_neededOf_56 hl (by decide) rfl (fun ls hl => ?_)
          refine lv_iload hx hb dX6_neededOf_58 (lv_at hl 0 rfl) ?_
          refine lv_iload hx hb dX6_neededOf_60 (lv_at hl 5 rfl) ?_
          refine lv_icmp_le (tgt := 70) hx hb dX6_neededOf_62 (by decide) (fun c_62 => ?_) (fun c_62 => ?_)
          · rw [if_pos c_62] at hE
            refine lv_iload_n hx hb dX6_neededOf_70 rfl (lv_at hl 4 rfl) ?_
            refine lv_istore_n (lv' := [(3, .int x3), (6, .int (fX6_soonIf md_rockBits md_day md_isHired md_kinds md_ills md_cells md_sailed (nI i) (md_ills (nI i).toNatClampNeg) s_ c_)), (0, .ref (md 0)), (1, .int s_), (2, .int c_), (4, .int x4), (5, .int (nI i))]) hx hb dX6_neededOf_71 rfl hl (by decide) rfl (fun ls hl => ?_)
            refine lv_iload hx hb dX6_neededOf_72 (lv_at hl 1 rfl) ?_
            refine lv_iload hx hb dX6_neededOf_74 (lv_at hl 5 rfl) ?_
            refine lv_icmp_le (tgt := 84) hx hb dX6_neededOf_76 (by decide) (fun c_76 => ?_) (fun c_76 => ?_)
            · rw [if_pos c_76] at hE
              refine lv_iload hx hb dX6_neededOf_84 (lv_at hl 5 rfl) ?_
              refine lv_istore (lv' := [(4, .int x4), (3, .int x3), (6, .int (fX6_soonIf md_rockBits md_day md_isHired md_kinds md_ills md_cells md_sailed (nI i) (md_ills (nI i).toNatClampNeg) s_ c_)), (0, .ref (md 0)), (1, .int s_), (2, .int c_), (5, .int (nI i))]) hx hb dX6_neededOf_86 hl (by decide) rfl (fun ls hl => ?_)
              refine lv_iinc (v := (nI (i + 1))) (lv' := [(5, .int (nI (i + 1))), (4, .int x4), (3, .int x3), (6, .int (fX6_soonIf md_rockBits md_day md_isHired md_kinds md_ills md_cells md_sailed (nI i) (md_ills (nI i).toNatClampNeg) s_ c_)), (0, .ref (md 0)), (1, .int s_), (2, .int c_)]) hx hb dX6_neededOf_88 hl (k := 6) rfl (by rw [show Int32.ofInt 1 = nI 1 from rfl, nI_add]) (by decide) rfl (fun ls hl => ?_)
              refine lv_goto (tgt := 8) hx hb dX6_neededOf_91 (by decide) ?_
              exact ih x3 x4 ((i + 1))  (by omega) (by omega) hE H locs hP hD hS ls (lv_sub hl [4, 5, 6, 2, 1, 0] rfl)
            · rw [if_neg c_76] at hE
              refine lv_iload hx hb dX6_neededOf_79 (lv_at hl 1 rfl) ?_
              refine lv_goto (tgt := 86) hx hb dX6_neededOf_81 (by decide) ?_
              refine lv_istore (lv' := [(4, .int (fX6_soonIf md_rockBits md_day md_isHired md_kinds md_ills md_cells md_sailed (nI i) (md_ills (nI i).toNatClampNeg) s_ c_)), (3, .int x3), (6, .int (fX6_soonIf md_rockBits md_day md_isHired md_kinds md_ills md_cells md_sailed (nI i) (md_ills (nI i).toNatClampNeg) s_ c_)), (0, .ref (md 0)), (1, .int s_), (2, .int c_), (5, .int (nI i))]) hx hb dX6_neededOf_86 hl (by decide) rfl (fun ls hl => ?_)
              refine lv_iinc (v := (nI (i + 1))) (lv' := [(5, .int (nI (i + 1))), (4, .int (fX6_soonIf md_rockBits md_day md_isHired md_kinds md_ills md_cells md_sailed (nI i) (md_ills (nI i).toNatClampNeg) s_ c_)), (3, .int x3), (6, .int (fX6_soonIf md_rockBits md_day md_isHired md_kinds md_ills md_cells md_sailed (nI i) (md_ills (nI i).toNatClampNeg) s_ c_)), (0, .ref (md 0)), (1, .int s_), (2, .int c_)]) hx hb dX6_neededOf_88 hl (k := 6) rfl (by rw [show Int32.ofInt 1 = nI 1 from rfl, nI_add]) (by decide) rfl (fun ls hl => ?_)
              refine lv_goto (tgt := 8) hx hb dX6_neededOf_91 (by decide) ?_
              exact ih x3 (fX6_soonIf md_rockBits md_day md_isHired md_kinds md_ills md_cells md_sailed (nI i) (md_ills (nI i).toNatClampNeg) s_ c_) ((i + 1))  (by omega) (by omega) hE H locs hP hD hS ls (lv_sub hl [4, 5, 6, 2, 1, 0] rfl)
          · rw [if_neg c_62] at hE
            refine lv_iload hx hb dX6_neededOf_65 (lv_at hl 6 rfl) ?_
            refine lv_goto (tgt := 71) hx hb dX6_neededOf_67 (by decide) ?_
            refine lv_istore_n (lv' := [(3, .int (nI i)), (6, .int (fX6_soonIf md_rockBits md_day md_isHired md_kinds md_ills md_cells md_sailed (nI i) (md_ills (nI i).toNatClampNeg) s_ c_)), (0, .ref (md 0)), (1, .int s_), (2, .int c_), (4, .int x4), (5, .int (nI i))]) hx hb dX6_neededOf_71 rfl hl (by decide) rfl (fun ls hl => ?_)
            refine lv_iload hx hb dX6_neededOf_72 (lv_at hl 1 rfl) ?_
            refine lv_iload hx hb dX6_neededOf_74 (lv_at hl 5 rfl) ?_
            refine lv_icmp_le (tgt := 84) hx hb dX6_neededOf_76 (by decide) (fun c_76 => ?_) (fun c_76 => ?_)
            · rw [if_pos c_76] at hE
              refine lv_iload hx hb dX6_neededOf_84 (lv_at hl 5 rfl) ?_
              refine lv_istore (lv' := [(4, .int x4), (3, .int (nI i)), (6, .int (fX6_soonIf md_rockBits md_day md_isHired md_kinds md_ills md_cells md_sailed (nI i) (md_ills (nI i).toNatClampNeg) s_ c_)), (0, .ref (md 0)), (1, .int s_), (2, .int c_), (5, .int (nI i))]) hx hb dX6_neededOf_86 hl (by decide) rfl (fun ls hl => ?_)
              refine lv_iinc (v := (nI (i + 1))) (lv' := [(5, .int (nI (i + 1))), (4, .int x4), (3, .int (nI i)), (6, .int (fX6_soonIf md_rockBits md_day md_isHired md_kinds md_ills md_cells md_sailed (nI i) (md_ills (nI i).toNatClampNeg) s_ c_)), (0, .ref (md 0)), (1, .int s_), (2, .int c_)]) hx hb dX6_neededOf_88 hl (k := 6) rfl (by rw [show Int32.ofInt 1 = nI 1 from rfl, nI_add]) (by decide) rfl (fun ls hl => ?_)
              refine lv_goto (tgt := 8) hx hb dX6_neededOf_91 (by decide) ?_
              exact ih (nI i) x4 ((i + 1))  (by omega) (by omega) hE H locs hP hD hS ls (lv_sub hl [4, 5, 6, 2, 1, 0] rfl)
            · rw [if_neg c_76] at hE
              refine lv_iload hx hb dX6_neededOf_79 (lv_at hl 1 rfl) ?_
              refine lv_goto (tgt := 86) hx hb dX6_neededOf_81 (by decide) ?_
              refine lv_istore (lv' := [(4, .int (fX6_soonIf md_rockBits md_day md_isHired md_kinds md_ills md_cells md_sailed (nI i) (md_ills (nI i).toNatClampNeg) s_ c_)), (3, .int (nI i)), (6, .int (fX6_soonIf md_rockBits md_day md_isHired md_kinds md_ills md_cells md_sailed (nI i) (md_ills (nI i).toNatClampNeg) s_ c_)), (0, .ref (md 0)), (1, .int s_), (2, .int c_), (5, .int (nI i))]) hx hb dX6_neededOf_86 hl (by decide) rfl (fun ls hl => ?_)
              refine lv_iinc (v := (nI (i + 1))) (lv' := [(5, .int (nI (i + 1))), (4, .int (fX6_soonIf md_rockBits md_day md_isHired md_kinds md_ills md_cells md_sailed (nI i) (md_ills (nI i).toNatClampNeg) s_ c_)), (3, .int (nI i)), (6, .int (fX6_soonIf md_rockBits md_day md_isHired md_kinds md_ills md_cells md_sailed (nI i) (md_ills (nI i).toNatClampNeg) s_ c_)), (0, .ref (md 0)), (1, .int s_), (2, .int c_)]) hx hb dX6_neededOf_88 hl (k := 6) rfl (by rw [show Int32.ofInt 1 = nI 1 from rfl, nI_add]) (by decide) rfl (fun ls hl => ?_)
              refine lv_goto (tgt := 8) hx hb dX6_neededOf_91 (by decide) ?_
              exact ih (nI i) (fX6_soonIf md_rockBits md_day md_isHired md_kinds md_ills md_cells md_sailed (nI i) (md_ills (nI i).toNatClampNeg) s_ c_) ((i + 1))  (by omega) (by omega) hE H locs hP hD hS ls (lv_sub hl [4, 5, 6, 2, 1, 0] rfl)
  exact L8 5 (-1 : Int32) (-1 : Int32) (0)  (by omega) (by omega) hE s.heap [] hP hD hS ls (lv_sub hl [3, 4, 5, 2, 1, 0] rfl)
def fX6_needed (md_ships : Int32) (md_rockBits : Int64) (md_day : Int32) (md_isHired : Int32) (md_kinds : Nat → Int32) (md_ills : Nat → Int32) (md_cells : Nat → Int32) (md_sailed : Nat → Int32) (s_ : Int32) (c_ : Int32) : Int32 := (if (fX6_isShip md_ships s_) = (0 : Int32) then (-101 : Int32) else (if (fX6_isCell md_ships c_) = (0 : Int32) then (-101 : Int32) else (fX6_neededOf md_rockBits md_day md_isHired md_kinds md_ills md_cells md_sailed s_ c_)))
set_option maxHeartbeats 4000000 in
set_option maxRecDepth 100000 in
theorem kX6_needed (l : Launch) (dC : Nat → ClassId) (dI : Nat → Nat → Nat) (cI cJ : ClassId) (sz : Nat) (md : Nat → Nat) (md_page : Nat → Int32) (md_pageMany : Int32) (md_end : Int32) (md_ships : Int32) (md_rocks : Int32) (md_rockBits : Int64) (md_day : Int32) (md_isHired : Int32) (md_sails : Int32) (md_seasRead : Int32) (md_kinds : Nat → Int32) (md_ills : Nat → Int32) (md_cells : Nat → Int32) (md_sailed : Nat → Int32) (md_must : Nat → Int64) (md_seenMany : Int32) (md_sights : Nat → Int32) (md_seedNow : Int32) (md_cellsThen : Nat → Int32) (md_keptSea : Int32) (md_keptDay : Int32) (md_keptHired : Int32) (md_keptSails : Int32) (md_keptSeen : Int32) (md_keptKinds : Nat → Int32) (md_keptIlls : Nat → Int32) (md_keptCells : Nat → Int32) (md_keptSailed : Nat → Int32) (md_keptSights : Nat → Int32) (md_hash : Int64) (s_ : Int32) (c_ : Int32) (p_t : md_ships.toInt ≤ 3) (p_u : 0 ≤ md_ships.toInt) : Met l yX6_needed wsX6_needed ({ frames := 7, cells := 0, slots := 0, locals := 178 } : Room) (gW (dC, dI) cI cJ sz (kMd cI cJ md md_page md_pageMany md_end md_ships md_rocks md_rockBits md_day md_isHired md_sails md_seasRead md_kinds md_ills md_cells md_sailed md_must md_seenMany md_sights md_seedNow md_cellsThen md_keptSea md_keptDay md_keptHired md_keptSails md_keptSeen md_keptKinds md_keptIlls md_keptCells md_keptSailed md_keptSights md_hash) ([.ref (md 0), .int s_, .int c_] : List Value)) (va_Qi (fun (r : Int32) (_ : Unit) => r = (fX6_needed md_ships md_rockBits md_day md_isHired md_kinds md_ills md_cells md_sailed s_ c_)) (fun u : Unit => gB (dC, dI) cI cJ (va_A (kMd cI cJ md md_page md_pageMany md_end md_ships md_rocks md_rockBits md_day md_isHired md_sails md_seasRead md_kinds md_ills md_cells md_sailed md_must md_seenMany md_sights md_seedNow md_cellsThen md_keptSea md_keptDay md_keptHired md_keptSails md_keptSeen md_keptKinds md_keptIlls md_keptCells md_keptSailed md_keptSights md_hash) sz) (kMd cI cJ md md_page md_pageMany md_end md_ships md_rocks md_rockBits md_day md_isHired md_sails md_seasRead md_kinds md_ills md_cells md_sailed md_must md_seenMany md_sights md_seedNow md_cellsThen md_keptSea md_keptDay md_keptHired md_keptSails md_keptSeen md_keptKinds md_keptIlls md_keptCells md_keptSailed md_keptSights md_hash)) (va_A (kMd cI cJ md md_page md_pageMany md_end md_ships md_rocks md_rockBits md_day md_isHired md_sails md_seasRead md_kinds md_ills md_cells md_sailed md_must md_seenMany md_sights md_seedNow md_cellsThen md_keptSea md_keptDay md_keptHired md_keptSails md_keptSeen md_keptKinds md_keptIlls md_keptCells md_keptSailed md_keptSights md_hash) sz)) 0 0 (va_A (kMd cI cJ md md_page md_pageMany md_end md_ships md_rocks md_rockBits md_day md_isHired md_sails md_seasRead md_kinds md_ills md_cells md_sailed md_must md_seenMany md_sights md_seedNow md_cellsThen md_keptSea md_keptDay md_keptHired md_keptSails md_keptSeen md_keptKinds md_keptIlls md_keptCells md_keptSailed md_keptSights md_hash) sz) := by
  refine Met.ofW (cc := cX6_needed) (maxL := 3) (ret := (some .int)) (by decide) rfl ?_
  intro p e s m args below meth c s₁ B hml hv
  obtain ⟨rfl, hsz, hP, hK, hD0, hst⟩ := hv
  have hx := B.exec
  have hb := B.bytes
  have hr := B.returns
  have hts := atoms_spec (ws := wsX6_needed) B.pre
  have hown : s.vm.findClass RX6 = some m.cls := findClass_of_methodNamed B.named
  have hlocks := B.notSynchronized
  subst hsz
  have hD := hD0.self (sz := s.heap.size)
  generalize hAe : va_A (kMd cI cJ md md_page md_pageMany md_end md_ships md_rocks md_rockBits md_day md_isHired md_sails md_seasRead md_kinds md_ills md_cells md_sailed md_must md_seenMany md_sights md_seedNow md_cellsThen md_keptSea md_keptDay md_keptHired md_keptSails md_keptSeen md_keptKinds md_keptIlls md_keptCells md_keptSailed md_keptSights md_hash) s.heap.size = A at hD hst ⊢
  have hA : ∀ q : Nat, s.heap.size ≤ q → A q := fun q h => by rw [← hAe]; exact Or.inr h
  have hS : va_S A s.heap s.heap [] := va_S.rf
  generalize hE : (fX6_needed md_ships md_rockBits md_day md_isHired md_kinds md_ills md_cells md_sailed s_ c_) = RES
  generalize hQ : MQ below (va_Qi (fun (r : Int32) (_ : Unit) => r = RES) (fun u : Unit => gB (dC, dI) cI cJ A (kMd cI cJ md md_page md_pageMany md_end md_ships md_rocks md_rockBits md_day md_isHired md_sails md_seasRead md_kinds md_ills md_cells md_sailed md_must md_seenMany md_sights md_seedNow md_cellsThen md_keptSea md_keptDay md_keptHired md_keptSails md_keptSeen md_keptKinds md_keptIlls md_keptCells md_keptSailed md_keptSights md_hash)) A) ([.ref (md 0), .int s_, .int c_] : List Value).toArray s 0 0 A = Q
  have hl := lv_entry ([.ref (md 0), .int s_, .int c_] : List Value) (n := 3) (Nat.le_of_ble_eq_true rfl)
  rw [lg_entry_eq]
  generalize (lg_sl ([.ref (md 0), .int s_, .int c_] : List Value) ++ List.replicate (3 - (lg_sl ([.ref (md 0), .int s_, .int c_] : List Value)).length) Slot.unset).toArray = ls at hl ⊢
  have hl : lv_has ls 3 [(0, .ref (md 0)), (1, .int s_), (2, .int c_)] := hl
  have i_m101 : (-101 : Int32).toInt = -101 := by decide
  have i_0 : (0 : Int32).toInt = 0 := by decide
  rw [fX6_needed] at hE
  refine lv_aload_n hx hb dX6_needed_0 rfl (lv_at hl 0 rfl) ?_
  refine lv_iload_n hx hb dX6_needed_1 rfl (lv_at hl 1 rfl) ?_
  refine rcVi (As := [.int s_]) (rest := []) ⟨hx, hb, hml, hown, hts⟩ (kX6_isShip l dC dI cI cJ md md_page md_pageMany md_end md_ships md_rocks md_rockBits md_day md_isHired md_sails md_seasRead md_kinds md_ills md_cells md_sailed md_must md_seenMany md_sights md_seedNow md_cellsThen md_keptSea md_keptDay md_keptHired md_keptSails md_keptSeen md_keptKinds md_keptIlls md_keptCells md_keptSailed md_keptSights md_hash s_) (cwV 1 hts gX6_needed_X6_isShip rfl rfl rfl (by decide +kernel) ⟨Nat.le_of_ble_eq_true rfl, Nat.le_of_ble_eq_true rfl⟩) hK hP hst hS [0, 1, 2, 3, 4, 5, 6, 7, 8, 9, 10, 11, 12, 13] rfl 0 rfl rfl rfl hl.1 rfl (Nat.le_of_ble_eq_true rfl) dX6_needed_2 ⟨Nat.zero_le _, Nat.zero_le _⟩ (fun r w_1 => ?_)
  obtain ⟨rfl, nb_2⟩ := w_1
  refine lv_if_eq (tgt := 25) hx hb dX6_needed_5 (by decide) (fun c_5 => ?_) (fun c_5 => ?_)
  · rw [if_pos c_5] at hE
    refine lv_bipush (v := (-101 : Int32)) hx hb dX6_needed_25 (by decide) ?_
    subst hE
    rw [← hQ]
    exact W.iret hx hb hr (fun t ht hW => ⟨⟨_, (), rfl, rfl, by rw [ht]; exact hP, va_K.moved hW.alike hK, hD⟩, hS.F ht⟩) hS.2.2 dX6_needed_27
  · rw [if_neg c_5] at hE
    refine lv_aload_n hx hb dX6_needed_8 rfl (lv_at hl 0 rfl) ?_
    refine lv_iload_n hx hb dX6_needed_9 rfl (lv_at hl 2 rfl) ?_
    refine rcVi (As := [.int c_]) (rest := []) ⟨hx, hb, hml, hown, hts⟩ (kX6_isCell l dC dI cI cJ md md_page md_pageMany md_end md_ships md_rocks md_rockBits md_day md_isHired md_sails md_seasRead md_kinds md_ills md_cells md_sailed md_must md_seenMany md_sights md_seedNow md_cellsThen md_keptSea md_keptDay md_keptHired md_keptSails md_keptSeen md_keptKinds md_keptIlls md_keptCells md_keptSailed md_keptSights md_hash c_) (cwV 1 hts gX6_needed_X6_isCell rfl rfl rfl (by decide +kernel) ⟨Nat.le_of_ble_eq_true rfl, Nat.le_of_ble_eq_true rfl⟩) hK hP hst hS [0, 1, 2, 3, 4, 5, 6, 7, 8, 9, 10, 11, 12, 13] rfl 0 rfl rfl rfl hl.1 rfl (Nat.le_of_ble_eq_true rfl) dX6_needed_10 ⟨Nat.zero_le _, Nat.zero_le _⟩ (fun r w_3 => ?_)
    obtain ⟨rfl, nb_4⟩ := w_3
    refine lv_if_eq (tgt := 25) hx hb dX6_needed_13 (by decide) (fun c_13 => ?_) (fun c_13 => ?_)
    · rw [if_pos c_13] at hE
      refine lv_bipush (v := (-101 : Int32)) hx hb dX6_needed_25 (by decide) ?_
      subst hE
      rw [← hQ]
      exact W.iret hx hb hr (fun t ht hW => ⟨⟨_, (), rfl, rfl, by rw [ht]; exact hP, va_K.moved hW.alike hK, hD⟩, hS.F ht⟩) hS.2.2 dX6_needed_27
    · rw [if_neg c_13] at hE
      refine lv_aload_n hx hb dX6_needed_16 rfl (lv_at hl 0 rfl) ?_
      refine lv_iload_n hx hb dX6_needed_17 rfl (lv_at hl 1 rfl) ?_
      refine lv_iload_n hx hb dX6_needed_18 rfl (lv_at hl 2 rfl) ?_
      refine wcVi (As := [.int s_, .int c_]) (rest := []) (wr := ([] : va_W)) (wn := (fun u : Unit => (kMd cI cJ md md_page md_pageMany md_end md_ships md_rocks md_rockBits md_day md_isHired md_sails md_seasRead md_kinds md_ills md_cells md_sailed md_must md_seenMany md_sights md_seedNow md_cellsThen md_keptSea md_keptDay md_keptHired md_keptSails md_keptSeen md_keptKinds md_keptIlls md_keptCells md_keptSailed md_keptSights md_hash))) (ws' := (fun u : Unit => (kMd cI cJ md md_page md_pageMany md_end md_ships md_rocks md_rockBits md_day md_isHired md_sails md_seasRead md_kinds md_ills md_cells md_sailed md_must md_seenMany md_sights md_seedNow md_cellsThen md_keptSea md_keptDay md_keptHired md_keptSails md_keptSeen md_keptKinds md_keptIlls md_keptCells md_keptSailed md_keptSights md_hash))) ⟨hx, hb, hml, hown, hts⟩ (kX6_neededOf l dC dI cI cJ s.heap.size md md_page md_pageMany md_end md_ships md_rocks md_rockBits md_day md_isHired md_sails md_seasRead md_kinds md_ills md_cells md_sailed md_must md_seenMany md_sights md_seedNow md_cellsThen md_keptSea md_keptDay md_keptHired md_keptSails md_keptSeen md_keptKinds md_keptIlls md_keptCells md_keptSailed md_keptSights md_hash s_ c_ (ms_in c_5 p_u p_t)) (cwV 2 hts gX6_needed_X6_neededOf rfl rfl rfl (by decide +kernel) ⟨Nat.le_of_ble_eq_true rfl, Nat.le_of_ble_eq_true rfl⟩) hK hP hD hst hS hA [0, 1, 2, 3, 4, 5, 6, 7, 8, 9, 10, 11, 12, 13] [] [0, 1, 2, 3, 4, 5, 6, 7, 8, 9, 10, 11, 12, 13] rfl (by decide) rfl (by decide) (by decide) (by decide) (fun _ => rfl) 0 rfl rfl rfl hl.1 rfl (Nat.le_of_ble_eq_true rfl) dX6_needed_19 ⟨Nat.zero_le _, Nat.zero_le _⟩ (fun r u_6 H locs w_5 hP hD hS => ?_)
      replace hP : va_P (dC, dI) vwCl (kMd cI cJ md md_page md_pageMany md_end md_ships md_rocks md_rockBits md_day md_isHired md_sails md_seasRead md_kinds md_ills md_cells md_sailed md_must md_seenMany md_sights md_seedNow md_cellsThen md_keptSea md_keptDay md_keptHired md_keptSails md_keptSeen md_keptKinds md_keptIlls md_keptCells md_keptSailed md_keptSights md_hash) H := hP
      replace hD : va_D A (kMd cI cJ md md_page md_pageMany md_end md_ships md_rocks md_rockBits md_day md_isHired md_sails md_seasRead md_kinds md_ills md_cells md_sailed md_must md_seenMany md_sights md_seedNow md_cellsThen md_keptSea md_keptDay md_keptHired md_keptSails md_keptSeen md_keptKinds md_keptIlls md_keptCells md_keptSailed md_keptSights md_hash) := hD
      subst w_5
      refine lv_goto (tgt := 27) hx hb dX6_needed_22 (by decide) ?_
      subst hE
      rw [← hQ]
      exact W.iret hx hb hr (fun t ht hW => ⟨⟨_, (), rfl, rfl, by rw [ht]; exact hP, va_K.moved hW.alike hK, hD⟩, hS.F ht⟩) hS.2.2 dX6_needed_27
def fX6_brickOf_20 (md_rockBits : Int64) (md_day : Int32) (md_isHired : Int32) (md_kinds : Nat → Int32) (md_ills : Nat → Int32) (md_cells : Nat → Int32) (md_sailed : Nat → Int32) (s_ : Int32) (c_ : Int32) : Nat → Int32 → Int32 → Nat → Int32
  | 0, _, _, _ => 0
  | n_ + 1, x3, x4, i => (if (4 : Int32) ≤ (nI i) then x3 else (if x4 ≤ (fX6_soonIf md_rockBits md_day md_isHired md_kinds md_ills md_cells md_sailed (nI i) (0 : Int32) s_ c_) then (if x4 ≤ (fX6_soonIf md_rockBits md_day md_isHired md_kinds md_ills md_cells md_sailed (nI i) (0 : Int32) s_ c_) then (fX6_brickOf_20 md_rockBits md_day md_isHired md_kinds md_ills md_cells md_sailed s_ c_ n_ x3 x4 ((i + 1))) else (fX6_brickOf_20 md_rockBits md_day md_isHired md_kinds md_ills md_cells md_sailed s_ c_ n_ x3 (fX6_soonIf md_rockBits md_day md_isHired md_kinds md_ills md_cells md_sailed (nI i) (0 : Int32) s_ c_) ((i + 1)))) else (if x4 ≤ (fX6_soonIf md_rockBits md_day md_isHired md_kinds md_ills md_cells md_sailed (nI i) (0 : Int32) s_ c_) then (fX6_brickOf_20 md_rockBits md_day md_isHired md_kinds md_ills md_cells md_sailed s_ c_ n_ (nI i) x4 ((i + 1))) else (fX6_brickOf_20 md_rockBits md_day md_isHired md_kinds md_ills md_cells md_sailed s_ c_ n_ (nI i) (fX6_soonIf md_rockBits md_day md_isHired md_kinds md_ills md_cells md_sailed (nI i) (0 : Int32) s_ c_) ((i + 1))))))
def fX6_brickOf (md_rockBits : Int64) (md_day : Int32) (md_isHired : Int32) (md_kinds : Nat → Int32) (md_ills : Nat → Int32) (md_cells : Nat → Int32) (md_sailed : Nat → Int32) (s_ : Int32) (c_ : Int32) : Int32 := (fX6_brickOf_20 md_rockBits md_day md_isHired md_kinds md_ills md_cells md_sailed s_ c_ 5 (-1 : Int32) (fX6_soonIf md_rockBits md_day md_isHired md_kinds md_ills md_cells md_sailed (0 : Int32) (md_ills (0 : Int32).toNatClampNeg) s_ c_) (0))
set_option maxHeartbeats 4000000 in
set_option maxRecDepth 100000 in
theorem kX6_brickOf (l : Launch) (dC : Nat → ClassId) (dI : Nat → Nat → Nat) (cI cJ : ClassId) (sz : Nat) (md : Nat → Nat) (md_page : Nat → Int32) (md_pageMany : Int32) (md_end : Int32) (md_ships : Int32) (md_rocks : Int32) (md_rockBits : Int64) (md_day : Int32) (md_isHired : Int32) (md_sails : Int32) (md_seasRead : Int32) (md_kinds : Nat → Int32) (md_ills : Nat → Int32) (md_cells : Nat → Int32) (md_sailed : Nat → Int32) (md_must : Nat → Int64) (md_seenMany : Int32) (md_sights : Nat → Int32) (md_seedNow : Int32) (md_cellsThen : Nat → Int32) (md_keptSea : Int32) (md_keptDay : Int32) (md_keptHired : Int32) (md_keptSails : Int32) (md_keptSeen : Int32) (md_keptKinds : Nat → Int32) (md_keptIlls : Nat → Int32) (md_keptCells : Nat → Int32) (md_keptSailed : Nat → Int32) (md_keptSights : Nat → Int32) (md_hash : Int64) (s_ : Int32) (c_ : Int32) (p_1 : vp_in s_ 3) : Met l yX6_brickOf wsX6_brickOf ({ frames := 6, cells := 0, slots := 0, locals := 152 } : Room) (gW (dC, dI) cI cJ sz (kMd cI cJ md md_page md_pageMany md_end md_ships md_rocks md_rockBits md_day md_isHired md_sails md_seasRead md_kinds md_ills md_cells md_sailed md_must md_seenMany md_sights md_seedNow md_cellsThen md_keptSea md_keptDay md_keptHired md_keptSails md_keptSeen md_keptKinds md_keptIlls md_keptCells md_keptSailed md_keptSights md_hash) ([.ref (md 0), .int s_, .int c_] : List Value)) (va_Qi (fun (r : Int32) (_ : Unit) => r = (fX6_brickOf md_rockBits md_day md_isHired md_kinds md_ills md_cells md_sailed s_ c_)) (fun u : Unit => gB (dC, dI) cI cJ (va_A (kMd cI cJ md md_page md_pageMany md_end md_ships md_rocks md_rockBits md_day md_isHired md_sails md_seasRead md_kinds md_ills md_cells md_sailed md_must md_seenMany md_sights md_seedNow md_cellsThen md_keptSea md_keptDay md_keptHired md_keptSails md_keptSeen md_keptKinds md_keptIlls md_keptCells md_keptSailed md_keptSights md_hash) sz) (kMd cI cJ md md_page md_pageMany md_end md_ships md_rocks md_rockBits md_day md_isHired md_sails md_seasRead md_kinds md_ills md_cells md_sailed md_must md_seenMany md_sights md_seedNow md_cellsThen md_keptSea md_keptDay md_keptHired md_keptSails md_keptSeen md_keptKinds md_keptIlls md_keptCells md_keptSailed md_keptSights md_hash)) (va_A (kMd cI cJ md md_page md_pageMany md_end md_ships md_rocks md_rockBits md_day md_isHired md_sails md_seasRead md_kinds md_ills md_cells md_sailed md_must md_seenMany md_sights md_seedNow md_cellsThen md_keptSea md_keptDay md_keptHired md_keptSails md_keptSeen md_keptKinds md_keptIlls md_keptCells md_keptSailed md_keptSights md_hash) sz)) 0 0 (va_A (kMd cI cJ md md_page md_pageMany md_end md_ships md_rocks md_rockBits md_day md_isHired md_sails md_seasRead md_kinds md_ills md_cells md_sailed md_must md_seenMany md_sights md_seedNow md_cellsThen md_keptSea md_keptDay md_keptHired md_keptSails md_keptSeen md_keptKinds md_keptIlls md_keptCells md_keptSailed md_keptSights md_hash) sz) := by
  refine Met.ofW (cc := cX6_brickOf) (maxL := 7) (ret := (some .int)) (by decide) rfl ?_
  intro p e s m args below meth c s₁ B hml hv
  obtain ⟨rfl, hsz, hP, hK, hD0, hst⟩ := hv
  have hx := B.exec
  have hb := B.bytes
  have hr := B.returns
  have hts := atoms_spec (ws := wsX6_brickOf) B.pre
  have hown : s.vm.findClass RX6 = some m.cls := findClass_of_methodNamed B.named
  have hlocks := B.notSynchronized
  subst hsz
  have hD := hD0.self (sz := s.heap.size)
  generalize hAe : va_A (kMd cI cJ md md_page md_pageMany md_end md_ships md_rocks md_rockBits md_day md_isHired md_sails md_seasRead md_kinds md_ills md_cells md_sailed md_must md_seenMany md_sights md_seedNow md_cellsThen md_keptSea md_keptDay md_keptHired md_keptSails md_keptSeen md_keptKinds md_keptIlls md_keptCells md_keptSailed md_keptSights md_hash) s.heap.size = A at hD hst ⊢
  have hA : ∀ q : Nat, s.heap.size ≤ q → A q := fun q h => by rw [← hAe]; exact Or.inr h
  have hS : va_S A s.heap s.heap [] := va_S.rf
  generalize hE : (fX6_brickOf md_rockBits md_day md_isHired md_kinds md_ills md_cells md_sailed s_ c_) = RES
  generalize hQ : MQ below (va_Qi (fun (r : Int32) (_ : Unit) => r = RES) (fun u : Unit => gB (dC, dI) cI cJ A (kMd cI cJ md md_page md_pageMany md_end md_ships md_rocks md_rockBits md_day md_isHired md_sails md_seasRead md_kinds md_ills md_cells md_sailed md_must md_seenMany md_sights md_seedNow md_cellsThen md_keptSea md_keptDay md_keptHired md_keptSails md_keptSeen md_keptKinds md_keptIlls md_keptCells md_keptSailed md_keptSights md_hash)) A) ([.ref (md 0), .int s_, .int c_] : List Value).toArray s 0 0 A = Q
  have hl := lv_entry ([.ref (md 0), .int s_, .int c_] : List Value) (n := 7) (Nat.le_of_ble_eq_true rfl)
  rw [lg_entry_eq]
  generalize (lg_sl ([.ref (md 0), .int s_, .int c_] : List Value) ++ List.replicate (7 - (lg_sl ([.ref (md 0), .int s_, .int c_] : List Value)).length) Slot.unset).toArray = ls at hl ⊢
  have hl : lv_has ls 7 [(0, .ref (md 0)), (1, .int s_), (2, .int c_)] := hl
  have in_X6 : ∀ w ∈ u_ws RX6 TX6 30, w ∈ wsX6_brickOf := fun _ h => List.mem_cons_of_mem _ (List.mem_append_right _ h)
  have t_fieldLink_RX6_16_FourLodgersModel_ills_I := hts (.fieldLink RX6 16 "FourLodgersModel" "ills" "[I") (List.mem_of_getElem? (i := 1) rfl)
  have i_m1 : (-1 : Int32).toInt = -1 := by decide
  have i_0 : (0 : Int32).toInt = 0 := by decide
  have i_4 : (4 : Int32).toInt = 4 := by decide
  have p_1' := vp_in_iff.mp p_1
  rw [fX6_brickOf] at hE
  refine lv_iconst (v := (-1 : Int32)) hx hb dX6_brickOf_0 (by decide) ?_
  refine lv_istore_n (lv' := [(3, .int (-1 : Int32)), (0, .ref (md 0)), (1, .int s_), (2, .int c_)]) hx hb dX6_brickOf_1 rfl hl (by decide) rfl (fun ls hl => ?_)
  refine lv_aload_n hx hb dX6_brickOf_2 rfl (lv_at hl 1 rfl) ?_
  refine lv_iconst (v := (0 : Int32)) hx hb dX6_brickOf_3 (by decide) ?_
  refine lv_aload_n hx hb dX6_brickOf_4 rfl (lv_at hl 1 rfl) ?_
  refine va_get (D := (dC, dI)) (ci := 6) (v := .ref (md 3)) (C := RX6) (T := TX6) (N := 30) hx hb hts in_X6 hown hK hP 0 rfl rfl 11 (by decide) t_fieldLink_RX6_16_FourLodgersModel_ills_I (fun _ h9 => h9) rfl dX6_brickOf_5 ?_
  refine lv_iconst (v := (0 : Int32)) hx hb dX6_brickOf_8 (by decide) ?_
  refine va_iald hx hb hK hP 3 0 rfl rfl (i := (0 : Int32)) (by first | assumption | exact vp_in_iff.mpr ⟨by omega, by omega⟩ | omega | decide) dX6_brickOf_9 ?_
  refine lv_iload_n hx hb dX6_brickOf_10 rfl (lv_at hl 2 rfl) ?_
  refine lv_iload_n hx hb dX6_brickOf_11 rfl (lv_at hl 3 rfl) ?_
  refine wcVi (As := [.int (0 : Int32), .int (md_ills (0 : Int32).toNatClampNeg), .int s_, .int c_]) (rest := []) (wr := ([] : va_W)) (wn := (fun u : Unit => (kMd cI cJ md md_page md_pageMany md_end md_ships md_rocks md_rockBits md_day md_isHired md_sails md_seasRead md_kinds md_ills md_cells md_sailed md_must md_seenMany md_sights md_seedNow md_cellsThen md_keptSea md_keptDay md_keptHired md_keptSails md_keptSeen md_keptKinds md_keptIlls md_keptCells md_keptSailed md_keptSights md_hash))) (ws' := (fun u : Unit => (kMd cI cJ md md_page md_pageMany md_end md_ships md_rocks md_rockBits md_day md_isHired md_sails md_seasRead md_kinds md_ills md_cells md_sailed md_must md_seenMany md_sights md_seedNow md_cellsThen md_keptSea md_keptDay md_keptHired md_keptSails md_keptSeen md_keptKinds md_keptIlls md_keptCells md_keptSailed md_keptSights md_hash))) ⟨hx, hb, hml, hown, hts⟩ (kX6_soonIf l dC dI cI cJ s.heap.size md md_page md_pageMany md_end md_ships md_rocks md_rockBits md_day md_isHired md_sails md_seasRead md_kinds md_ills md_cells md_sailed md_must md_seenMany md_sights md_seedNow md_cellsThen md_keptSea md_keptDay md_keptHired md_keptSails md_keptSeen md_keptKinds md_keptIlls md_keptCells md_keptSailed md_keptSights md_hash (0 : Int32) (md_ills (0 : Int32).toNatClampNeg) s_ c_ (by first | assumption | exact vp_in_iff.mpr ⟨by omega, by omega⟩ | omega | decide) p_1) (cwV 4 hts gX6_brickOf_X6_soonIf rfl rfl rfl (by decide +kernel) ⟨Nat.le_of_ble_eq_true rfl, Nat.le_of_ble_eq_true rfl⟩) hK hP hD hst hS hA [0, 1, 2, 3, 4, 5, 6, 7, 8, 9, 10, 11, 12, 13] [] [0, 1, 2, 3, 4, 5, 6, 7, 8, 9, 10, 11, 12, 13] rfl (by decide) rfl (by decide) (by decide) (by decide) (fun _ => rfl) 0 rfl rfl rfl hl.1 rfl (Nat.le_of_ble_eq_true rfl) dX6_brickOf_12 ⟨Nat.zero_le _, Nat.zero_le _⟩ (fun r u_2 H locs w_1 hP hD hS => ?_)
  replace hP : va_P (dC, dI) vwCl (kMd cI cJ md md_page md_pageMany md_end md_ships md_rocks md_rockBits md_day md_isHired md_sails md_seasRead md_kinds md_ills md_cells md_sailed md_must md_seenMany md_sights md_seedNow md_cellsThen md_keptSea md_keptDay md_keptHired md_keptSails md_keptSeen md_keptKinds md_keptIlls md_keptCells md_keptSailed md_keptSights md_hash) H := hP
  replace hD : va_D A (kMd cI cJ md md_page md_pageMany md_end md_ships md_rocks md_rockBits md_day md_isHired md_sails md_seasRead md_kinds md_ills md_cells md_sailed md_must md_seenMany md_sights md_seedNow md_cellsThen md_keptSea md_keptDay md_keptHired md_keptSails md_keptSeen md_keptKinds md_keptIlls md_keptCells md_keptSailed md_keptSights md_hash) := hD
  subst w_1
  refine lv_istore (lv' := [(4, .int (fX6_soonIf md_rockBits md_day md_isHired md_kinds md_ills md_cells md_sailed (0 : Int32) (md_ills (0 : Int32).toNatClampNeg) s_ c_)), (3, .int (-1 : Int32)), (0, .ref (md 0)), (1, .int s_), (2, .int c_)]) hx hb dX6_brickOf_15 hl (by decide) rfl (fun ls hl => ?_)
  refine lv_iconst (v := (0 : Int32)) hx hb dX6_brickOf_17 (by decide) ?_
  refine lv_istore (lv' := [(5, .int (0 : Int32)), (4, .int (fX6_soonIf md_rockBits md_day md_isHired md_kinds md_ills md_cells md_sailed (0 : Int32) (md_ills (0 : Int32).toNatClampNeg) s_ c_)), (3, .int (-1 : Int32)), (0, .ref (md 0)), (1, .int s_), (2, .int c_)]) hx hb dX6_brickOf_18 hl (by decide) rfl (fun ls hl => ?_)
  have L20 : ∀ (n_ : Nat) (x3 : Int32) (x4 : Int32) (i : Nat) , (i ≤ 4) → 4 - i < n_ → (fX6_brickOf_20 md_rockBits md_day md_isHired md_kinds md_ills md_cells md_sailed s_ c_ n_ x3 x4 i) = RES → ∀ (H : Heap) (locs : List Loc), va_P (dC, dI) vwCl (kMd cI cJ md md_page md_pageMany md_end md_ships md_rocks md_rockBits md_day md_isHired md_sails md_seasRead md_kinds md_ills md_cells md_sailed md_must md_seenMany md_sights md_seedNow md_cellsThen md_keptSea md_keptDay md_keptHired md_keptSails md_keptSeen md_keptKinds md_keptIlls md_keptCells md_keptSailed md_keptSights md_hash) H → va_D A (kMd cI cJ md md_page md_pageMany md_end md_ships md_rocks md_rockBits md_day md_isHired md_sails md_seasRead md_kinds md_ills md_cells md_sailed md_must md_seenMany md_sights md_seedNow md_cellsThen md_keptSea md_keptDay md_keptHired md_keptSails md_keptSeen md_keptKinds md_keptIlls md_keptCells md_keptSailed md_keptSights md_hash) → va_S A s.heap H locs → ∀ ls : Array Slot, lv_has ls 7 [(0, .ref (md 0)), (1, .int s_), (2, .int c_), (3, .int x3), (4, .int x4), (5, .int (nI i))] → W p l e (headSpec wsX6_brickOf ({ frames := 6, cells := 0, slots := 0, locals := 152 } : Room)).room s m ([.ref (md 0), .int s_, .int c_] : List Value).toArray below meth c H locs 0 0 Q (F0 m 20 ls []) := by
    intro n_
    induction n_ with
    | zero => intro x3 x4 i  hi hn; exact absurd hn (Nat.not_lt_zero _)
    | succ n_ ih =>
      intro x3 x4 i  hi hn hE H locs hP hD hS ls hl
      rw [fX6_brickOf_20] at hE
      have tn_i : (nI i).toInt = (i : Int) := nI_toInt (by omega)
      refine lv_iload hx hb dX6_brickOf_20 (lv_at hl 5 rfl) ?_
      refine lv_iconst (v := (4 : Int32)) hx hb dX6_brickOf_22 (by decide) ?_
      refine lv_icmp_ge (tgt := 73) hx hb dX6_brickOf_23 (by decide) (fun c_23 => ?_) (fun c_23 => ?_)
      · have e_23 := Int32.le_iff_toInt_le.mp c_23
        rw [if_pos c_23] at hE
        refine lv_iload_n hx hb dX6_brickOf_73 rfl (lv_at hl 3 rfl) ?_
        subst hE
        rw [← hQ]
        exact W.iret hx hb hr (fun t ht hW => ⟨⟨_, (), rfl, rfl, by rw [ht]; exact hP, va_K.moved hW.alike hK, hD⟩, hS.F ht⟩) hS.2.2 dX6_brickOf_74
      · have e_23 := mt Int32.le_iff_toInt_le.mpr c_23
        rw [if_neg c_23] at hE
        refine lv_aload_n hx hb dX6_brickOf_26 rfl (lv_at hl 0 rfl) ?_
        refine lv_iload hx hb dX6_brickOf_27 (lv_at hl 5 rfl) ?_
        refine lv_iconst (v := (0 : Int32)) hx hb dX6_brickOf_29 (by decide) ?_
        refine lv_iload_n hx hb dX6_brickOf_30 rfl (lv_at hl 1 rfl) ?_
        refine lv_iload_n hx hb dX6_brickOf_31 rfl (lv_at hl 2 rfl) ?_
        refine wcVi (As := [.int (nI i), .int (0 : Int32), .int s_, .int c_]) (rest := []) (wr := ([] : va_W)) (wn := (fun u : Unit => (kMd cI cJ md md_page md_pageMany md_end md_ships md_rocks md_rockBits md_day md_isHired md_sails md_seasRead md_kinds md_ills md_cells md_sailed md_must md_seenMany md_sights md_seedNow md_cellsThen md_keptSea md_keptDay md_keptHired md_keptSails md_keptSeen md_keptKinds md_keptIlls md_keptCells md_keptSailed md_keptSights md_hash))) (ws' := (fun u : Unit => (kMd cI cJ md md_page md_pageMany md_end md_ships md_rocks md_rockBits md_day md_isHired md_sails md_seasRead md_kinds md_ills md_cells md_sailed md_must md_seenMany md_sights md_seedNow md_cellsThen md_keptSea md_keptDay md_keptHired md_keptSails md_keptSeen md_keptKinds md_keptIlls md_keptCells md_keptSailed md_keptSights md_hash))) ⟨hx, hb, hml, hown, hts⟩ (kX6_soonIf l dC dI cI cJ H.size md md_page md_pageMany md_end md_ships md_rocks md_rockBits md_day md_isHired md_sails md_seasRead md_kinds md_ills md_cells md_sailed md_must md_seenMany md_sights md_seedNow md_cellsThen md_keptSea md_keptDay md_keptHired md_keptSails md_keptSeen md_keptKinds md_keptIlls md_keptCells md_keptSailed md_keptSights md_hash (nI i) (0 : Int32) s_ c_ (by first | assumption | exact vp_in_iff.mpr ⟨by omega, by omega⟩ | omega | decide) p_1) (cwV 4 hts gX6_brickOf_X6_soonIf rfl rfl rfl (by decide +kernel) ⟨Nat.le_of_ble_eq_true rfl, Nat.le_of_ble_eq_true rfl⟩) hK hP hD hst hS hA [0, 1, 2, 3, 4, 5, 6, 7, 8, 9, 10, 11, 12, 13] [] [0, 1, 2, 3, 4, 5, 6, 7, 8, 9, 10, 11, 12, 13] rfl (by decide) rfl (by decide) (by decide) (by decide) (fun _ => rfl) 0 rfl rfl rfl hl.1 rfl (Nat.le_of_ble_eq_true rfl) dX6_brickOf_32 ⟨Nat.zero_le _, Nat.zero_le _⟩ (fun r u_4 H locs w_3 hP hD hS => ?_)
        replace hP : va_P (dC, dI) vwCl (kMd cI cJ md md_page md_pageMany md_end md_ships md_rocks md_rockBits md_day md_isHired md_sails md_seasRead md_kinds md_ills md_cells md_sailed md_must md_seenMany md_sights md_seedNow md_cellsThen md_keptSea md_keptDay md_keptHired md_keptSails md_keptSeen md_keptKinds md_keptIlls md_keptCells md_keptSailed md_keptSights md_hash) H := hP
        replace hD : va_D A (kMd cI cJ md md_page md_pageMany md_end md_ships md_rocks md_rockBits md_day md_isHired md_sails md_seasRead md_kinds md_ills md_cells md_sailed md_must md_seenMany md_sights md_seedNow md_cellsThen md_keptSea md_keptDay md_keptHired md_keptSails md_keptSeen md_keptKinds md_keptIlls md_keptCells md_keptSailed md_keptSights md_hash) := hD
        subst w_3
        refine lv_istore (lv' := [(6, .int (fX6_soonIf md_rockBits md_day md_isHired md_kinds md_ills md_cells md_sailed (nI i) (0 : Int32) s_ c_)), (0, .ref (md 0)), (1, .int s_), (2, .int c_), (3, .int x3), (4, .int x4), (5, .int (nI i))]) hx hb dX6_brickOf_35 hl (by decide) rfl (fun ls hl => ?_)
        refine lv_iload hx hb dX6_brickOf_37 (lv_at hl 0 rfl) ?_
        refine lv_iload hx hb dX6_brickOf_39 (lv_at hl 5 rfl) ?_
        refine lv_icmp_ge (tgt := 49) hx hb dX6_brickOf_41 (by decide) (fun c_41 => ?_) (fun c_41 => ?_)
        · rw [if_pos c_41] at hE
          refine lv_iload_n hx hb dX6_brickOf_49 rfl (lv_at hl 4 rfl) ?_
          refine lv_istore_n (lv' := [(3, .int x3), (6, .int (fX6_soonIf md_rockBits md_day md_isHired md_kinds md_ills md_cells md_sailed (nI i) (0 : Int32) s_ c_)), (0, .ref (md 0)), (1, .int s_), (2, .int c_), (4, .int x4), (5, .int (nI i))]) hx hb dX6_brickOf_50 rfl hl (by decide) rfl (fun ls hl => ?_)
          refine lv_iload hx hb dX6_brickOf_51 (lv_at hl 1 rfl) ?_
          refine lv_iload hx hb dX6_brickOf_53 (lv_at hl 5 rfl) ?_
          refine lv_icmp_ge (tgt := 63) hx hb dX6_brickOf_55 (by decide) (fun c_55 => ?_) (fun c_55 => ?_)
          · rw [if_pos c_55] at hE
            refine lv_iload hx hb dX6_brickOf_63 (lv_at hl 5 rfl) ?_
            refine lv_istore (lv' := [(4, .int x4), (3, .int x3), (6, .int (fX6_soonIf md_rockBits md_day md_isHired md_kinds md_ills md_cells md_sailed (nI i) (0 : Int32) s_ c_)), (0, .ref (md 0)), (1, .int s_), (2, .int c_), (5, .int (nI i))]) hx hb dX6_brickOf_65 hl (by decide) rfl (fun ls hl => ?_)
            refine lv_iinc (v := (nI (i + 1))) (lv' := [(5, .int (nI (i + 1))), (4, .int x4), (3, .int x3), (6, .int (fX6_soonIf md_rockBits md_day md_isHired md_kinds md_ills md_cells md_sailed (nI i) (0 : Int32) s_ c_)), (0, .ref (md 0)), (1, .int s_), (2, .int c_)]) hx hb dX6_brickOf_67 hl (k := 6) rfl (by rw [show Int32.ofInt 1 = nI 1 from rfl, nI_add]) (by decide) rfl (fun ls hl => ?_)
            refine lv_goto (tgt := 20) hx hb dX6_brickOf_70 (by decide) ?_
            exact ih x3 x4 ((i + 1))  (by omega) (by omega) hE H locs hP hD hS ls (lv_sub hl [4, 5, 6, 2, 1, 0] rfl)
          · rw [if_neg c_55] at hE
            refine lv_iload hx hb dX6_brickOf_58 (lv_at hl 1 rfl) ?_
            refine lv_goto (tgt := 65) hx hb dX6_brickOf_60 (by decide) ?_
            refine lv_istore (lv' := [(4, .int (fX6_soonIf md_rockBits md_day md_isHired md_kinds md_ills md_cells md_sailed (nI i) (0 : Int32) s_ c_)), (3, .int x3), (6, .int (fX6_soonIf md_rockBits md_day md_isHired md_kinds md_ills md_cells md_sailed (nI i) (0 : Int32) s_ c_)), (0, .ref (md 0)), (1, .int s_), (2, .int c_), (5, .int (nI i))]) hx hb dX6_brickOf_65 hl (by decide) rfl (fun ls hl => ?_)
            refine lv_iinc (v := (nI (i + 1))) (lv' := [(5, .int (nI (i + 1))), (4, .int (fX6_soonIf md_rockBits md_day md_isHired md_kinds md_ills md_cells md_sailed (nI i) (0 : Int32) s_ c_)), (3, .int x3), (6, .int (fX6_soonIf md_rockBits md_day md_isHired md_kinds md_ills md_cells md_sailed (nI i) (0 : Int32) s_ c_)), (0, .ref (md 0)), (1, .int s_), (2, .int c_)]) hx hb dX6_brickOf_67 hl (k := 6) rfl (by rw [show Int32.ofInt 1 = nI 1 from rfl, nI_add]) (by decide) rfl (fun ls hl => ?_)
            refine lv_goto (tgt := 20) hx hb dX6_brickOf_70 (by decide) ?_
            exact ih x3 (fX6_soonIf md_rockBits md_day md_isHired md_kinds md_ills md_cells md_sailed (nI i) (0 : Int32) s_ c_) ((i + 1))  (by omega) (by omega) hE H locs hP hD hS ls (lv_sub hl [4, 5, 6, 2, 1, 0] rfl)
        · rw [if_neg c_41] at hE
          refine lv_iload hx hb dX6_brickOf_44 (lv_at hl 6 rfl) ?_
          refine lv_goto (tgt := 50) hx hb dX6_brickOf_46 (by decide) ?_
          refine lv_istore_n (lv' := [(3, .int (nI i)), (6, .int (fX6_soonIf md_rockBits md_day md_isHired md_kinds md_ills md_cells md_sailed (nI i) (0 : Int32) s_ c_)), (0, .ref (md 0)), (1, .int s_), (2, .int c_), (4, .int x4), (5, .int (nI i))]) hx hb dX6_brickOf_50 rfl hl (by decide) rfl (fun ls hl => ?_)
          refine lv_iload hx hb dX6_brickOf_51 (lv_at hl 1 rfl) ?_
          refine lv_iload hx hb dX6_brickOf_53 (lv_at hl 5 rfl) ?_
          refine lv_icmp_ge (tgt := 63) hx hb dX6_brickOf_55 (by decide) (fun c_55 => ?_) (fun c_55 => ?_)
          · rw [if_pos c_55] at hE
            refine lv_iload hx hb dX6_brickOf_63 (lv_at hl 5 rfl) ?_
            refine lv_istore (lv' := [(4, .int x4), (3, .int (nI i)), (6, .int (fX6_soonIf md_rockBits md_day md_isHired md_kinds md_ills md_cells md_sailed (nI i) (0 : Int32) s_ c_)), (0, .ref (md 0)), (1, .int s_), (2, .int c_), (5, .int (nI i))]) hx hb dX6_brickOf_65 hl (by decide) rfl (fun ls hl => ?_)
            refine lv_iinc (v := (nI (i + 1))) (lv' := [(5, .int (nI (i + 1))), (4, .int x4), (3, .int (nI i)), (6, .int (fX6_soonIf md_rockBits md_day md_isHired md_kinds md_ills md_cells md_sailed (nI i) (0 : Int32) s_ c_)), (0, .ref (md 0)), (1, .int s_), (2, .int c_)]) hx hb dX6_brickOf_67 hl (k := 6) rfl (by rw [show Int32.ofInt 1 = nI 1 from rfl, nI_add]) (by decide) rfl (fun ls hl => ?_)
            refine lv_goto (tgt := 20) hx hb dX6_brickOf_70 (by decide) ?_
            exact ih (nI i) x4 ((i + 1))  (by omega) (by omega) hE H locs hP hD hS ls (lv_sub hl [4, 5, 6, 2, 1, 0] rfl)
          · rw [if_neg c_55] at hE
            refine lv_iload hx hb dX6_brickOf_58 (lv_at hl 1 rfl) ?_
            refine lv_goto (tgt := 65) hx hb dX6_brickOf_60 (by decide) ?_
            refine lv_istore (lv' := [(4, .int (fX6_soonIf md_rockBits md_day md_isHired md_kinds md_ills md_cells md_sailed (nI i) (0 : Int32) s_ c_)), (3, .int (nI i)), (6, .int (fX6_soonIf md_rockBits md_day md_isHired md_kinds md_ills md_cells md_sailed (nI i) (0 : Int32) s_ c_)), (0, .ref (md 0)), (1, .int s_), (2, .int c_), (5, .int (nI i))]) hx hb dX6_brickOf_65 hl (by decide) rfl (fun ls hl => ?_)
            refine lv_iinc (v := (nI (i + 1))) (lv' := [(5, .int (nI (i + 1))), (4, .int (fX6_soonIf md_rockBits md_day md_isHired md_kinds md_ills md_cells md_sailed (nI i) (0 : Int32) s_ c_)), (3, .int (nI i)), (6, .int (fX6_soonIf md_rockBits md_day md_isHired md_kinds md_ills md_cells md_sailed (nI i) (0 : Int32) s_ c_)), (0, .ref (md 0)), (1, .int s_), (2, .int c_)]) hx hb dX6_brickOf_67 hl (k := 6) rfl (by rw [show Int32.ofInt 1 = nI 1 from rfl, nI_add]) (by decide) rfl (fun ls hl => ?_)
            refine lv_goto (tgt := 20) hx hb dX6_brickOf_70 (by decide) ?_
            exact ih (nI i) (fX6_soonIf md_rockBits md_day md_isHired md_kinds md_ills md_cells md_sailed (nI i) (0 : Int32) s_ c_) ((i + 1))  (by omega) (by omega) hE H locs hP hD hS ls (lv_sub hl [4, 5, 6, 2, 1, 0] rfl)
  exact L20 5 (-1 : Int32) (fX6_soonIf md_rockBits md_day md_isHired md_kinds md_ills md_cells md_sailed (0 : Int32) (md_ills (0 : Int32).toNatClampNeg) s_ c_) (0)  (by omega) (by omega) hE H locs hP hD hS ls (lv_sub hl [3, 4, 5, 2, 1, 0] rfl)
def fX6_brick (md_ships : Int32) (md_rockBits : Int64) (md_day : Int32) (md_isHired : Int32) (md_kinds : Nat → Int32) (md_ills : Nat → Int32) (md_cells : Nat → Int32) (md_sailed : Nat → Int32) (s_ : Int32) (c_ : Int32) : Int32 := (if (fX6_isShip md_ships s_) = (0 : Int32) then (-101 : Int32) else (if (fX6_isCell md_ships c_) = (0 : Int32) then (-101 : Int32) else (fX6_brickOf md_rockBits md_day md_isHired md_kinds md_ills md_cells md_sailed s_ c_)))
set_option maxHeartbeats 4000000 in
set_option maxRecDepth 100000 in
theorem kX6_brick (l : Launch) (dC : Nat → ClassId) (dI : Nat → Nat → Nat) (cI cJ : ClassId) (sz : Nat) (md : Nat → Nat) (md_page : Nat → Int32) (md_pageMany : Int32) (md_end : Int32) (md_ships : Int32) (md_rocks : Int32) (md_rockBits : Int64) (md_day : Int32) (md_isHired : Int32) (md_sails : Int32) (md_seasRead : Int32) (md_kinds : Nat → Int32) (md_ills : Nat → Int32) (md_cells : Nat → Int32) (md_sailed : Nat → Int32) (md_must : Nat → Int64) (md_seenMany : Int32) (md_sights : Nat → Int32) (md_seedNow : Int32) (md_cellsThen : Nat → Int32) (md_keptSea : Int32) (md_keptDay : Int32) (md_keptHired : Int32) (md_keptSails : Int32) (md_keptSeen : Int32) (md_keptKinds : Nat → Int32) (md_keptIlls : Nat → Int32) (md_keptCells : Nat → Int32) (md_keptSailed : Nat → Int32) (md_keptSights : Nat → Int32) (md_hash : Int64) (s_ : Int32) (c_ : Int32) (p_t : md_ships.toInt ≤ 3) (p_u : 0 ≤ md_ships.toInt) : Met l yX6_brick wsX6_brick ({ frames := 7, cells := 0, slots := 0, locals := 178 } : Room) (gW (dC, dI) cI cJ sz (kMd cI cJ md md_page md_pageMany md_end md_ships md_rocks md_rockBits md_day md_isHired md_sails md_seasRead md_kinds md_ills md_cells md_sailed md_must md_seenMany md_sights md_seedNow md_cellsThen md_keptSea md_keptDay md_keptHired md_keptSails md_keptSeen md_keptKinds md_keptIlls md_keptCells md_keptSailed md_keptSights md_hash) ([.ref (md 0), .int s_, .int c_] : List Value)) (va_Qi (fun (r : Int32) (_ : Unit) => r = (fX6_brick md_ships md_rockBits md_day md_isHired md_kinds md_ills md_cells md_sailed s_ c_)) (fun u : Unit => gB (dC, dI) cI cJ (va_A (kMd cI cJ md md_page md_pageMany md_end md_ships md_rocks md_rockBits md_day md_isHired md_sails md_seasRead md_kinds md_ills md_cells md_sailed md_must md_seenMany md_sights md_seedNow md_cellsThen md_keptSea md_keptDay md_keptHired md_keptSails md_keptSeen md_keptKinds md_keptIlls md_keptCells md_keptSailed md_keptSights md_hash) sz) (kMd cI cJ md md_page md_pageMany md_end md_ships md_rocks md_rockBits md_day md_isHired md_sails md_seasRead md_kinds md_ills md_cells md_sailed md_must md_seenMany md_sights md_seedNow md_cellsThen md_keptSea md_keptDay md_keptHired md_keptSails md_keptSeen md_keptKinds md_keptIlls md_keptCells md_keptSailed md_keptSights md_hash)) (va_A (kMd cI cJ md md_page md_pageMany md_end md_ships md_rocks md_rockBits md_day md_isHired md_sails md_seasRead md_kinds md_ills md_cells md_sailed md_must md_seenMany md_sights md_seedNow md_cellsThen md_keptSea md_keptDay md_keptHired md_keptSails md_keptSeen md_keptKinds md_keptIlls md_keptCells md_keptSailed md_keptSights md_hash) sz)) 0 0 (va_A (kMd cI cJ md md_page md_pageMany md_end md_ships md_rocks md_rockBits md_day md_isHired md_sails md_seasRead md_kinds md_ills md_cells md_sailed md_must md_seenMany md_sights md_seedNow md_cellsThen md_keptSea md_keptDay md_keptHired md_keptSails md_keptSeen md_keptKinds md_keptIlls md_keptCells md_keptSailed md_keptSights md_hash) sz) := by
  refine Met.ofW (cc := cX6_brick) (maxL := 3) (ret := (some .int)) (by decide) rfl ?_
  intro p e s m args below meth c s₁ B hml hv
  obtain ⟨rfl, hsz, hP, hK, hD0, hst⟩ := hv
  have hx := B.exec
  have hb := B.bytes
  have hr := B.returns
  have hts := atoms_spec (ws := wsX6_brick) B.pre
  have hown : s.vm.findClass RX6 = some m.cls := findClass_of_methodNamed B.named
  have hlocks := B.notSynchronized
  subst hsz
  have hD := hD0.self (sz := s.heap.size)
  generalize hAe : va_A (kMd cI cJ md md_page md_pageMany md_end md_ships md_rocks md_rockBits md_day md_isHired md_sails md_seasRead md_kinds md_ills md_cells md_sailed md_must md_seenMany md_sights md_seedNow md_cellsThen md_keptSea md_keptDay md_keptHired md_keptSails md_keptSeen md_keptKinds md_keptIlls md_keptCells md_keptSailed md_keptSights md_hash) s.heap.size = A at hD hst ⊢
  have hA : ∀ q : Nat, s.heap.size ≤ q → A q := fun q h => by rw [← hAe]; exact Or.inr h
  have hS : va_S A s.heap s.heap [] := va_S.rf
  generalize hE : (fX6_brick md_ships md_rockBits md_day md_isHired md_kinds md_ills md_cells md_sailed s_ c_) = RES
  generalize hQ : MQ below (va_Qi (fun (r : Int32) (_ : Unit) => r = RES) (fun u : Unit => gB (dC, dI) cI cJ A (kMd cI cJ md md_page md_pageMany md_end md_ships md_rocks md_rockBits md_day md_isHired md_sails md_seasRead md_kinds md_ills md_cells md_sailed md_must md_seenMany md_sights md_seedNow md_cellsThen md_keptSea md_keptDay md_keptHired md_keptSails md_keptSeen md_keptKinds md_keptIlls md_keptCells md_keptSailed md_keptSights md_hash)) A) ([.ref (md 0), .int s_, .int c_] : List Value).toArray s 0 0 A = Q
  have hl := lv_entry ([.ref (md 0), .int s_, .int c_] : List Value) (n := 3) (Nat.le_of_ble_eq_true rfl)
  rw [lg_entry_eq]
  generalize (lg_sl ([.ref (md 0), .int s_, .int c_] : List Value) ++ List.replicate (3 - (lg_sl ([.ref (md 0), .int s_, .int c_] : List Value)).length) Slot.unset).toArray = ls at hl ⊢
  have hl : lv_has ls 3 [(0, .ref (md 0)), (1, .int s_), (2, .int c_)] := hl
  have i_m101 : (-101 : Int32).toInt = -101 := by decide
  have i_0 : (0 : Int32).toInt = 0 := by decide
  rw [fX6_brick] at hE
  refine lv_aload_n hx hb dX6_brick_0 rfl (lv_at hl 0 rfl) ?_
  refine lv_iload_n hx hb dX6_brick_1 rfl (lv_at hl 1 rfl) ?_
  refine rcVi (As := [.int s_]) (rest := []) ⟨hx, hb, hml, hown, hts⟩ (kX6_isShip l dC dI cI cJ md md_page md_pageMany md_end md_ships md_rocks md_rockBits md_day md_isHired md_sails md_seasRead md_kinds md_ills md_cells md_sailed md_must md_seenMany md_sights md_seedNow md_cellsThen md_keptSea md_keptDay md_keptHired md_keptSails md_keptSeen md_keptKinds md_keptIlls md_keptCells md_keptSailed md_keptSights md_hash s_) (cwV 1 hts gX6_brick_X6_isShip rfl rfl rfl (by decide +kernel) ⟨Nat.le_of_ble_eq_true rfl, Nat.le_of_ble_eq_true rfl⟩) hK hP hst hS [0, 1, 2, 3, 4, 5, 6, 7, 8, 9, 10, 11, 12, 13] rfl 0 rfl rfl rfl hl.1 rfl (Nat.le_of_ble_eq_true rfl) dX6_brick_2 ⟨Nat.zero_le _, Nat.zero_le _⟩ (fun r w_1 => ?_)
  obtain ⟨rfl, nb_2⟩ := w_1
  refine lv_if_eq (tgt := 25) hx hb dX6_brick_5 (by decide) (fun c_5 => ?_) (fun c_5 => ?_)
  · rw [if_pos c_5] at hE
    refine lv_bipush (v := (-101 : Int32)) hx hb dX6_brick_25 (by decide) ?_
    subst hE
    rw [← hQ]
    exact W.iret hx hb hr (fun t ht hW => ⟨⟨_, (), rfl, rfl, by rw [ht]; exact hP, va_K.moved hW.alike hK, hD⟩, hS.F ht⟩) hS.2.2 dX6_brick_27
  · rw [if_neg c_5] at hE
    refine lv_aload_n hx hb dX6_brick_8 rfl (lv_at hl 0 rfl) ?_
    refine lv_iload_n hx hb dX6_brick_9 rfl (lv_at hl 2 rfl) ?_
    refine rcVi (As := [.int c_]) (rest := []) ⟨hx, hb, hml, hown, hts⟩ (kX6_isCell l dC dI cI cJ md md_page md_pageMany md_end md_ships md_rocks md_rockBits md_day md_isHired md_sails md_seasRead md_kinds md_ills md_cells md_sailed md_must md_seenMany md_sights md_seedNow md_cellsThen md_keptSea md_keptDay md_keptHired md_keptSails md_keptSeen md_keptKinds md_keptIlls md_keptCells md_keptSailed md_keptSights md_hash c_) (cwV 1 hts gX6_brick_X6_isCell rfl rfl rfl (by decide +kernel) ⟨Nat.le_of_ble_eq_true rfl, Nat.le_of_ble_eq_true rfl⟩) hK hP hst hS [0, 1, 2, 3, 4, 5, 6, 7, 8, 9, 10, 11, 12, 13] rfl 0 rfl rfl rfl hl.1 rfl (Nat.le_of_ble_eq_true rfl) dX6_brick_10 ⟨Nat.zero_le _, Nat.zero_le _⟩ (fun r w_3 => ?_)
    obtain ⟨rfl, nb_4⟩ := w_3
    refine lv_if_eq (tgt := 25) hx hb dX6_brick_13 (by decide) (fun c_13 => ?_) (fun c_13 => ?_)
    · rw [if_pos c_13] at hE
      refine lv_bipush (v := (-101 : Int32)) hx hb dX6_brick_25 (by decide) ?_
      subst hE
      rw [← hQ]
      exact W.iret hx hb hr (fun t ht hW => ⟨⟨_, (), rfl, rfl, by rw [ht]; exact hP, va_K.moved hW.alike hK, hD⟩, hS.F ht⟩) hS.2.2 dX6_brick_27
    · rw [if_neg c_13] at hE
      refine lv_aload_n hx hb dX6_brick_16 rfl (lv_at hl 0 rfl) ?_
      refine lv_iload_n hx hb dX6_brick_17 rfl (lv_at hl 1 rfl) ?_
      refine lv_iload_n hx hb dX6_brick_18 rfl (lv_at hl 2 rfl) ?_
      refine wcVi (As := [.int s_, .int c_]) (rest := []) (wr := ([] : va_W)) (wn := (fun u : Unit => (kMd cI cJ md md_page md_pageMany md_end md_ships md_rocks md_rockBits md_day md_isHired md_sails md_seasRead md_kinds md_ills md_cells md_sailed md_must md_seenMany md_sights md_seedNow md_cellsThen md_keptSea md_keptDay md_keptHired md_keptSails md_keptSeen md_keptKinds md_keptIlls md_keptCells md_keptSailed md_keptSights md_hash))) (ws' := (fun u : Unit => (kMd cI cJ md md_page md_pageMany md_end md_ships md_rocks md_rockBits md_day md_isHired md_sails md_seasRead md_kinds md_ills md_cells md_sailed md_must md_seenMany md_sights md_seedNow md_cellsThen md_keptSea md_keptDay md_keptHired md_keptSails md_keptSeen md_keptKinds md_keptIlls md_keptCells md_keptSailed md_keptSights md_hash))) ⟨hx, hb, hml, hown, hts⟩ (kX6_brickOf l dC dI cI cJ s.heap.size md md_page md_pageMany md_end md_ships md_rocks md_rockBits md_day md_isHired md_sails md_seasRead md_kinds md_ills md_cells md_sailed md_must md_seenMany md_sights md_seedNow md_cellsThen md_keptSea md_keptDay md_keptHired md_keptSails md_keptSeen md_keptKinds md_keptIlls md_keptCells md_keptSailed md_keptSights md_hash s_ c_ (ms_in c_5 p_u p_t)) (cwV 2 hts gX6_brick_X6_brickOf rfl rfl rfl (by decide +kernel) ⟨Nat.le_of_ble_eq_true rfl, Nat.le_of_ble_eq_true rfl⟩) hK hP hD hst hS hA [0, 1, 2, 3, 4, 5, 6, 7, 8, 9, 10, 11, 12, 13] [] [0, 1, 2, 3, 4, 5, 6, 7, 8, 9, 10, 11, 12, 13] rfl (by decide) rfl (by decide) (by decide) (by decide) (fun _ => rfl) 0 rfl rfl rfl hl.1 rfl (Nat.le_of_ble_eq_true rfl) dX6_brick_19 ⟨Nat.zero_le _, Nat.zero_le _⟩ (fun r u_6 H locs w_5 hP hD hS => ?_)
      replace hP : va_P (dC, dI) vwCl (kMd cI cJ md md_page md_pageMany md_end md_ships md_rocks md_rockBits md_day md_isHired md_sails md_seasRead md_kinds md_ills md_cells md_sailed md_must md_seenMany md_sights md_seedNow md_cellsThen md_keptSea md_keptDay md_keptHired md_keptSails md_keptSeen md_keptKinds md_keptIlls md_keptCells md_keptSailed md_keptSights md_hash) H := hP
      replace hD : va_D A (kMd cI cJ md md_page md_pageMany md_end md_ships md_rocks md_rockBits md_day md_isHired md_sails md_seasRead md_kinds md_ills md_cells md_sailed md_must md_seenMany md_sights md_seedNow md_cellsThen md_keptSea md_keptDay md_keptHired md_keptSails md_keptSeen md_keptKinds md_keptIlls md_keptCells md_keptSailed md_keptSights md_hash) := hD
      subst w_5
      refine lv_goto (tgt := 27) hx hb dX6_brick_22 (by decide) ?_
      subst hE
      rw [← hQ]
      exact W.iret hx hb hr (fun t ht hW => ⟨⟨_, (), rfl, rfl, by rw [ht]; exact hP, va_K.moved hW.alike hK, hD⟩, hS.F ht⟩) hS.2.2 dX6_brick_27
def fX6_asideOf_42 (md_rockBits : Int64) (md_day : Int32) (md_kinds : Nat → Int32) (md_ills : Nat → Int32) (md_cells : Nat → Int32) (md_sailed : Nat → Int32) (s_ : Int32) (ahead : Int32) : Nat → Int32 → Nat → Int32
  | 0, _, _ => 0
  | n_ + 1, x8, i => (if (36 : Int32) ≤ (nI i) then x8 else (fX6_asideOf_42 md_rockBits md_day md_kinds md_ills md_cells md_sailed s_ ahead n_ (x8.toInt64 + ((((fX6_reach md_rockBits md_day (1 : Int32) md_kinds md_ills md_cells md_sailed s_ ahead) &&& ((fX6_reach md_rockBits md_day (0 : Int32) md_kinds md_ills md_cells md_sailed s_ ahead) ^^^ (-1 : Int64))) >>> ((nI i).toInt64 &&& 63)) &&& (1 : Int64))).toInt32 ((i + 1))))
def fX6_asideOf (md_rockBits : Int64) (md_day : Int32) (md_kinds : Nat → Int32) (md_ills : Nat → Int32) (md_cells : Nat → Int32) (md_sailed : Nat → Int32) (s_ : Int32) (ahead : Int32) : Int32 := (fX6_asideOf_42 md_rockBits md_day md_kinds md_ills md_cells md_sailed s_ ahead 37 (0 : Int32) (0))
set_option maxHeartbeats 4000000 in
set_option maxRecDepth 100000 in
theorem kX6_asideOf (l : Launch) (dC : Nat → ClassId) (dI : Nat → Nat → Nat) (cI cJ : ClassId) (sz : Nat) (md : Nat → Nat) (md_page : Nat → Int32) (md_pageMany : Int32) (md_end : Int32) (md_ships : Int32) (md_rocks : Int32) (md_rockBits : Int64) (md_day : Int32) (md_isHired : Int32) (md_sails : Int32) (md_seasRead : Int32) (md_kinds : Nat → Int32) (md_ills : Nat → Int32) (md_cells : Nat → Int32) (md_sailed : Nat → Int32) (md_must : Nat → Int64) (md_seenMany : Int32) (md_sights : Nat → Int32) (md_seedNow : Int32) (md_cellsThen : Nat → Int32) (md_keptSea : Int32) (md_keptDay : Int32) (md_keptHired : Int32) (md_keptSails : Int32) (md_keptSeen : Int32) (md_keptKinds : Nat → Int32) (md_keptIlls : Nat → Int32) (md_keptCells : Nat → Int32) (md_keptSailed : Nat → Int32) (md_keptSights : Nat → Int32) (md_hash : Int64) (s_ : Int32) (ahead : Int32) (p_1 : vp_in s_ 3) (p_2 : ahead.toInt ≤ 40) (p_b : isB md_isHired) : Met l yX6_asideOf wsX6_asideOf ({ frames := 5, cells := 0, slots := 0, locals := 126 } : Room) (gW (dC, dI) cI cJ sz (kMd cI cJ md md_page md_pageMany md_end md_ships md_rocks md_rockBits md_day md_isHired md_sails md_seasRead md_kinds md_ills md_cells md_sailed md_must md_seenMany md_sights md_seedNow md_cellsThen md_keptSea md_keptDay md_keptHired md_keptSails md_keptSeen md_keptKinds md_keptIlls md_keptCells md_keptSailed md_keptSights md_hash) ([.ref (md 0), .int s_, .int ahead] : List Value)) (va_Qi (fun (r : Int32) (_ : Unit) => r = (fX6_asideOf md_rockBits md_day md_kinds md_ills md_cells md_sailed s_ ahead)) (fun u : Unit => gB (dC, dI) cI cJ (va_A (kMd cI cJ md md_page md_pageMany md_end md_ships md_rocks md_rockBits md_day md_isHired md_sails md_seasRead md_kinds md_ills md_cells md_sailed md_must md_seenMany md_sights md_seedNow md_cellsThen md_keptSea md_keptDay md_keptHired md_keptSails md_keptSeen md_keptKinds md_keptIlls md_keptCells md_keptSailed md_keptSights md_hash) sz) (kMd cI cJ md md_page md_pageMany md_end md_ships md_rocks md_rockBits md_day md_isHired md_sails md_seasRead md_kinds md_ills md_cells md_sailed md_must md_seenMany md_sights md_seedNow md_cellsThen md_keptSea md_keptDay md_keptHired md_keptSails md_keptSeen md_keptKinds md_keptIlls md_keptCells md_keptSailed md_keptSights md_hash)) (va_A (kMd cI cJ md md_page md_pageMany md_end md_ships md_rocks md_rockBits md_day md_isHired md_sails md_seasRead md_kinds md_ills md_cells md_sailed md_must md_seenMany md_sights md_seedNow md_cellsThen md_keptSea md_keptDay md_keptHired md_keptSails md_keptSeen md_keptKinds md_keptIlls md_keptCells md_keptSailed md_keptSights md_hash) sz)) 0 0 (va_A (kMd cI cJ md md_page md_pageMany md_end md_ships md_rocks md_rockBits md_day md_isHired md_sails md_seasRead md_kinds md_ills md_cells md_sailed md_must md_seenMany md_sights md_seedNow md_cellsThen md_keptSea md_keptDay md_keptHired md_keptSails md_keptSeen md_keptKinds md_keptIlls md_keptCells md_keptSailed md_keptSights md_hash) sz) := by
  refine Met.ofW (cc := cX6_asideOf) (maxL := 10) (ret := (some .int)) (by decide) rfl ?_
  intro p e s m args below meth c s₁ B hml hv
  obtain ⟨rfl, hsz, hP, hK, hD0, hst⟩ := hv
  have hx := B.exec
  have hb := B.bytes
  have hr := B.returns
  have hts := atoms_spec (ws := wsX6_asideOf) B.pre
  have hown : s.vm.findClass RX6 = some m.cls := findClass_of_methodNamed B.named
  have hlocks := B.notSynchronized
  subst hsz
  have hD := hD0.self (sz := s.heap.size)
  generalize hAe : va_A (kMd cI cJ md md_page md_pageMany md_end md_ships md_rocks md_rockBits md_day md_isHired md_sails md_seasRead md_kinds md_ills md_cells md_sailed md_must md_seenMany md_sights md_seedNow md_cellsThen md_keptSea md_keptDay md_keptHired md_keptSails md_keptSeen md_keptKinds md_keptIlls md_keptCells md_keptSailed md_keptSights md_hash) s.heap.size = A at hD hst ⊢
  have hA : ∀ q : Nat, s.heap.size ≤ q → A q := fun q h => by rw [← hAe]; exact Or.inr h
  have hS : va_S A s.heap s.heap [] := va_S.rf
  generalize hE : (fX6_asideOf md_rockBits md_day md_kinds md_ills md_cells md_sailed s_ ahead) = RES
  generalize hQ : MQ below (va_Qi (fun (r : Int32) (_ : Unit) => r = RES) (fun u : Unit => gB (dC, dI) cI cJ A (kMd cI cJ md md_page md_pageMany md_end md_ships md_rocks md_rockBits md_day md_isHired md_sails md_seasRead md_kinds md_ills md_cells md_sailed md_must md_seenMany md_sights md_seedNow md_cellsThen md_keptSea md_keptDay md_keptHired md_keptSails md_keptSeen md_keptKinds md_keptIlls md_keptCells md_keptSailed md_keptSights md_hash)) A) ([.ref (md 0), .int s_, .int ahead] : List Value).toArray s 0 0 A = Q
  have hl := lv_entry ([.ref (md 0), .int s_, .int ahead] : List Value) (n := 10) (Nat.le_of_ble_eq_true rfl)
  rw [lg_entry_eq]
  generalize (lg_sl ([.ref (md 0), .int s_, .int ahead] : List Value) ++ List.replicate (10 - (lg_sl ([.ref (md 0), .int s_, .int ahead] : List Value)).length) Slot.unset).toArray = ls at hl ⊢
  have hl : lv_has ls 10 [(0, .ref (md 0)), (1, .int s_), (2, .int ahead)] := hl
  have in_X6 : ∀ w ∈ u_ws RX6 TX6 30, w ∈ wsX6_asideOf := fun _ h => List.mem_cons_of_mem _ (List.mem_append_right _ h)
  have t_constantLong_RX6_223_1 := hts (.constantLong RX6 223 (-1)) (List.mem_of_getElem? (i := 2) rfl)
  have t_fieldLink_RX6_112_FourLodgersModel_isHired_Z := hts (.fieldLink RX6 112 "FourLodgersModel" "isHired" "Z") (List.mem_of_getElem? (i := 1) rfl)
  have i_0 : (0 : Int32).toInt = 0 := by decide
  have i_1 : (1 : Int32).toInt = 1 := by decide
  have i_36 : (36 : Int32).toInt = 36 := by decide
  have p_1' := vp_in_iff.mp p_1
  rw [fX6_asideOf] at hE
  refine lv_aload_n hx hb dX6_asideOf_0 rfl (lv_at hl 0 rfl) ?_
  refine va_get (D := (dC, dI)) (ci := 6) (v := .int md_isHired) (C := RX6) (T := TX6) (N := 30) hx hb hts in_X6 hown hK hP 0 rfl rfl 7 (by decide) t_fieldLink_RX6_112_FourLodgersModel_isHired_Z (fun _ h9 => h9) rfl dX6_asideOf_1 ?_
  refine lv_istore_n (lv' := [(3, .int md_isHired), (0, .ref (md 0)), (1, .int s_), (2, .int ahead)]) hx hb dX6_asideOf_4 rfl hl (by decide) rfl (fun ls hl => ?_)
  refine lv_aload_n hx hb dX6_asideOf_5 rfl (lv_at hl 1 rfl) ?_
  refine lv_iconst (v := (1 : Int32)) hx hb dX6_asideOf_6 (by decide) ?_
  refine va_put (D := (dC, dI)) (ci := 6) (v := .int (1 : Int32)) (ty := .boolean) (C := RX6) (T := TX6) (N := 30) hx hb hts in_X6 tyX6 tyX6_ok nmX6 hown hK hP hD hS 0 rfl rfl 7 (by decide) t_fieldLink_RX6_112_FourLodgersModel_isHired_Z (fun _ h9 => h9) rfl (by decide +kernel) (by decide +kernel) (by decide +kernel) (Nat.le_of_ble_eq_true rfl) dX6_asideOf_7 (fun H locs hP hD hS => ?_)
  replace hP : va_P (dC, dI) vwCl (kMd cI cJ md md_page md_pageMany md_end md_ships md_rocks md_rockBits md_day (1 : Int32) md_sails md_seasRead md_kinds md_ills md_cells md_sailed md_must md_seenMany md_sights md_seedNow md_cellsThen md_keptSea md_keptDay md_keptHired md_keptSails md_keptSeen md_keptKinds md_keptIlls md_keptCells md_keptSailed md_keptSights md_hash) H := hP
  replace hD : va_D A (kMd cI cJ md md_page md_pageMany md_end md_ships md_rocks md_rockBits md_day (1 : Int32) md_sails md_seasRead md_kinds md_ills md_cells md_sailed md_must md_seenMany md_sights md_seedNow md_cellsThen md_keptSea md_keptDay md_keptHired md_keptSails md_keptSeen md_keptKinds md_keptIlls md_keptCells md_keptSailed md_keptSights md_hash) := hD
  refine lv_aload_n hx hb dX6_asideOf_10 rfl (lv_at hl 1 rfl) ?_
  refine lv_iload_n hx hb dX6_asideOf_11 rfl (lv_at hl 2 rfl) ?_
  refine lv_iload_n hx hb dX6_asideOf_12 rfl (lv_at hl 3 rfl) ?_
  refine rcVl (As := [.int s_, .int ahead]) (rest := []) ⟨hx, hb, hml, hown, hts⟩ (kX6_reach l dC dI cI cJ md md_page md_pageMany md_end md_ships md_rocks md_rockBits md_day (1 : Int32) md_sails md_seasRead md_kinds md_ills md_cells md_sailed md_must md_seenMany md_sights md_seedNow md_cellsThen md_keptSea md_keptDay md_keptHired md_keptSails md_keptSeen md_keptKinds md_keptIlls md_keptCells md_keptSailed md_keptSights md_hash s_ ahead p_1 p_2) (cwV 2 hts gX6_asideOf_X6_reach rfl rfl rfl (by decide +kernel) ⟨Nat.le_of_ble_eq_true rfl, Nat.le_of_ble_eq_true rfl⟩) hK hP hst hS [0, 1, 2, 3, 4, 5, 6, 7, 8, 9, 10, 11, 12, 13] rfl 0 rfl rfl rfl hl.1 rfl (Nat.le_of_ble_eq_true rfl) dX6_asideOf_13 ⟨Nat.zero_le _, Nat.zero_le _⟩ (fun r w_1 => ?_)
  subst w_1
  refine lv_lstore (lv' := [(4, .long (fX6_reach md_rockBits md_day (1 : Int32) md_kinds md_ills md_cells md_sailed s_ ahead)), (3, .int md_isHired), (0, .ref (md 0)), (1, .int s_), (2, .int ahead)]) hx hb dX6_asideOf_16 hl (by decide) rfl (fun ls hl => ?_)
  refine lv_aload_n hx hb dX6_asideOf_18 rfl (lv_at hl 2 rfl) ?_
  refine lv_iconst (v := (0 : Int32)) hx hb dX6_asideOf_19 (by decide) ?_
  refine va_put (D := (dC, dI)) (ci := 6) (v := .int (0 : Int32)) (ty := .boolean) (C := RX6) (T := TX6) (N := 30) hx hb hts in_X6 tyX6 tyX6_ok nmX6 hown hK hP hD hS 0 rfl rfl 7 (by decide) t_fieldLink_RX6_112_FourLodgersModel_isHired_Z (fun _ h9 => h9) rfl (by decide +kernel) (by decide +kernel) (by decide +kernel) (Nat.le_of_ble_eq_true rfl) dX6_asideOf_20 (fun H locs hP hD hS => ?_)
  replace hP : va_P (dC, dI) vwCl (kMd cI cJ md md_page md_pageMany md_end md_ships md_rocks md_rockBits md_day (0 : Int32) md_sails md_seasRead md_kinds md_ills md_cells md_sailed md_must md_seenMany md_sights md_seedNow md_cellsThen md_keptSea md_keptDay md_keptHired md_keptSails md_keptSeen md_keptKinds md_keptIlls md_keptCells md_keptSailed md_keptSights md_hash) H := hP
  replace hD : va_D A (kMd cI cJ md md_page md_pageMany md_end md_ships md_rocks md_rockBits md_day (0 : Int32) md_sails md_seasRead md_kinds md_ills md_cells md_sailed md_must md_seenMany md_sights md_seedNow md_cellsThen md_keptSea md_keptDay md_keptHired md_keptSails md_keptSeen md_keptKinds md_keptIlls md_keptCells md_keptSailed md_keptSights md_hash) := hD
  refine lv_aload_n hx hb dX6_asideOf_23 rfl (lv_at hl 2 rfl) ?_
  refine lv_iload_n hx hb dX6_asideOf_24 rfl (lv_at hl 3 rfl) ?_
  refine lv_iload_n hx hb dX6_asideOf_25 rfl (lv_at hl 4 rfl) ?_
  refine rcVl (As := [.int s_, .int ahead]) (rest := []) ⟨hx, hb, hml, hown, hts⟩ (kX6_reach l dC dI cI cJ md md_page md_pageMany md_end md_ships md_rocks md_rockBits md_day (0 : Int32) md_sails md_seasRead md_kinds md_ills md_cells md_sailed md_must md_seenMany md_sights md_seedNow md_cellsThen md_keptSea md_keptDay md_keptHired md_keptSails md_keptSeen md_keptKinds md_keptIlls md_keptCells md_keptSailed md_keptSights md_hash s_ ahead p_1 p_2) (cwV 2 hts gX6_asideOf_X6_reach rfl rfl rfl (by decide +kernel) ⟨Nat.le_of_ble_eq_true rfl, Nat.le_of_ble_eq_true rfl⟩) hK hP hst hS [0, 1, 2, 3, 4, 5, 6, 7, 8, 9, 10, 11, 12, 13] rfl 0 rfl rfl rfl hl.1 rfl (Nat.le_of_ble_eq_true rfl) dX6_asideOf_26 ⟨Nat.zero_le _, Nat.zero_le _⟩ (fun r w_2 => ?_)
  subst w_2
  refine lv_lstore (lv' := [(6, .long (fX6_reach md_rockBits md_day (0 : Int32) md_kinds md_ills md_cells md_sailed s_ ahead)), (4, .long (fX6_reach md_rockBits md_day (1 : Int32) md_kinds md_ills md_cells md_sailed s_ ahead)), (3, .int md_isHired), (0, .ref (md 0)), (1, .int s_), (2, .int ahead)]) hx hb dX6_asideOf_29 hl (by decide) rfl (fun ls hl => ?_)
  refine lv_aload_n hx hb dX6_asideOf_31 rfl (lv_at hl 3 rfl) ?_
  refine lv_iload_n hx hb dX6_asideOf_32 rfl (lv_at hl 2 rfl) ?_
  refine va_put (D := (dC, dI)) (ci := 6) (v := .int md_isHired) (ty := .boolean) (C := RX6) (T := TX6) (N := 30) hx hb hts in_X6 tyX6 tyX6_ok nmX6 hown hK hP hD hS 0 rfl rfl 7 (by decide) t_fieldLink_RX6_112_FourLodgersModel_isHired_Z (fun _ h9 => h9) rfl (by decide +kernel) (isB.n p_b) (isB.f p_b) (Nat.le_of_ble_eq_true rfl) dX6_asideOf_33 (fun H locs hP hD hS => ?_)
  replace hP : va_P (dC, dI) vwCl (kMd cI cJ md md_page md_pageMany md_end md_ships md_rocks md_rockBits md_day md_isHired md_sails md_seasRead md_kinds md_ills md_cells md_sailed md_must md_seenMany md_sights md_seedNow md_cellsThen md_keptSea md_keptDay md_keptHired md_keptSails md_keptSeen md_keptKinds md_keptIlls md_keptCells md_keptSailed md_keptSights md_hash) H := hP
  replace hD : va_D A (kMd cI cJ md md_page md_pageMany md_end md_ships md_rocks md_rockBits md_day md_isHired md_sails md_seasRead md_kinds md_ills md_cells md_sailed md_must md_seenMany md_sights md_seedNow md_cellsThen md_keptSea md_keptDay md_keptHired md_keptSails md_keptSeen md_keptKinds md_keptIlls md_keptCells md_keptSailed md_keptSights md_hash) := hD
  refine lv_iconst (v := (0 : Int32)) hx hb dX6_asideOf_36 (by decide) ?_
  refine lv_istore (lv' := [(8, .int (0 : Int32)), (6, .long (fX6_reach md_rockBits md_day (0 : Int32) md_kinds md_ills md_cells md_sailed s_ ahead)), (4, .long (fX6_reach md_rockBits md_day (1 : Int32) md_kinds md_ills md_cells md_sailed s_ ahead)), (3, .int md_isHired), (0, .ref (md 0)), (1, .int s_), (2, .int ahead)]) hx hb dX6_asideOf_37 hl (by decide) rfl (fun ls hl => ?_)
  refine lv_iconst (v := (0 : Int32)) hx hb dX6_asideOf_39 (by decide) ?_
  refine lv_istore (lv' := [(9, .int (0 : Int32)), (8, .int (0 : Int32)), (6, .long (fX6_reach md_rockBits md_day (0 : Int32) md_kinds md_ills md_cells md_sailed s_ ahead)), (4, .long (fX6_reach md_rockBits md_day (1 : Int32) md_kinds md_ills md_cells md_sailed s_ ahead)), (3, .int md_isHired), (0, .ref (md 0)), (1, .int s_), (2, .int ahead)]) hx hb dX6_asideOf_40 hl (by decide) rfl (fun ls hl => ?_)
  have L42 : ∀ (n_ : Nat) (x8 : Int32) (i : Nat) , (i ≤ 36) → 36 - i < n_ → (fX6_asideOf_42 md_rockBits md_day md_kinds md_ills md_cells md_sailed s_ ahead n_ x8 i) = RES → ∀ (H : Heap) (locs : List Loc), va_P (dC, dI) vwCl (kMd cI cJ md md_page md_pageMany md_end md_ships md_rocks md_rockBits md_day md_isHired md_sails md_seasRead md_kinds md_ills md_cells md_sailed md_must md_seenMany md_sights md_seedNow md_cellsThen md_keptSea md_keptDay md_keptHired md_keptSails md_keptSeen md_keptKinds md_keptIlls md_keptCells md_keptSailed md_keptSights md_hash) H → va_D A (kMd cI cJ md md_page md_pageMany md_end md_ships md_rocks md_rockBits md_day md_isHired md_sails md_seasRead md_kinds md_ills md_cells md_sailed md_must md_seenMany md_sights md_seedNow md_cellsThen md_keptSea md_keptDay md_keptHired md_keptSails md_keptSeen md_keptKinds md_keptIlls md_keptCells md_keptSailed md_keptSights md_hash) → va_S A s.heap H locs → ∀ ls : Array Slot, lv_has ls 10 [(0, .ref (md 0)), (1, .int s_), (2, .int ahead), (3, .int md_isHired), (4, .long (fX6_reach md_rockBits md_day (1 : Int32) md_kinds md_ills md_cells md_sailed s_ ahead)), (6, .long (fX6_reach md_rockBits md_day (0 : Int32) md_kinds md_ills md_cells md_sailed s_ ahead)), (8, .int x8), (9, .int (nI i))] → W p l e (headSpec wsX6_asideOf ({ frames := 5, cells := 0, slots := 0, locals := 126 } : Room)).room s m ([.ref (md 0), .int s_, .int ahead] : List Value).toArray below meth c H locs 0 0 Q (F0 m 42 ls []) := by
    intro n_
    induction n_ with
    | zero => intro x8 i  hi hn; exact absurd hn (Nat.not_lt_zero _)
    | succ n_ ih =>
      intro x8 i  hi hn hE H locs hP hD hS ls hl
      rw [fX6_asideOf_42] at hE
      have tn_i : (nI i).toInt = (i : Int) := nI_toInt (by omega)
      refine lv_iload hx hb dX6_asideOf_42 (lv_at hl 7 rfl) ?_
      refine lv_bipush (v := (36 : Int32)) hx hb dX6_asideOf_44 (by decide) ?_
      refine lv_icmp_ge (tgt := 76) hx hb dX6_asideOf_46 (by decide) (fun c_46 => ?_) (fun c_46 => ?_)
      · have e_46 := Int32.le_iff_toInt_le.mp c_46
        rw [if_pos c_46] at hE
        refine lv_iload hx hb dX6_asideOf_76 (lv_at hl 6 rfl) ?_
        subst hE
        rw [← hQ]
        exact W.iret hx hb hr (fun t ht hW => ⟨⟨_, (), rfl, rfl, by rw [ht]; exact hP, va_K.moved hW.alike hK, hD⟩, hS.F ht⟩) hS.2.2 dX6_asideOf_78
      · have e_46 := mt Int32.le_iff_toInt_le.mpr c_46
        rw [if_neg c_46] at hE
        refine lv_iload hx hb dX6_asideOf_49 (lv_at hl 6 rfl) ?_
        refine lv_i2l hx hb dX6_asideOf_51 rfl ?_
        refine lv_lload hx hb dX6_asideOf_52 (lv_at hl 4 rfl) ?_
        refine lv_lload hx hb dX6_asideOf_54 (lv_at hl 5 rfl) ?_
        refine lv_ldc2 hx hb hown t_constantLong_RX6_223_1 dX6_asideOf_56 ?_
        refine lv_lxor hx hb dX6_asideOf_59 ?_
        refine lv_land hx hb dX6_asideOf_60 ?_
        refine lv_iload hx hb dX6_asideOf_61 (lv_at hl 7 rfl) ?_
        refine lv_lshr hx hb dX6_asideOf_63 rfl ?_
        refine lv_lconst (v := (1 : Int64)) hx hb dX6_asideOf_64 (by decide) ?_
        refine lv_land hx hb dX6_asideOf_65 ?_
        refine lv_ladd hx hb dX6_asideOf_66 ?_
        refine lv_l2i hx hb dX6_asideOf_67 rfl ?_
        refine lv_istore (lv' := [(8, .int (x8.toInt64 + ((((fX6_reach md_rockBits md_day (1 : Int32) md_kinds md_ills md_cells md_sailed s_ ahead) &&& ((fX6_reach md_rockBits md_day (0 : Int32) md_kinds md_ills md_cells md_sailed s_ ahead) ^^^ (-1 : Int64))) >>> ((nI i).toInt64 &&& 63)) &&& (1 : Int64))).toInt32), (0, .ref (md 0)), (1, .int s_), (2, .int ahead), (3, .int md_isHired), (4, .long (fX6_reach md_rockBits md_day (1 : Int32) md_kinds md_ills md_cells md_sailed s_ ahead)), (6, .long (fX6_reach md_rockBits md_day (0 : Int32) md_kinds md_ills md_cells md_sailed s_ ahead)), (9, .int (nI i))]) hx hb dX6_asideOf_68 hl (by decide) rfl (fun ls hl => ?_)
        refine lv_iinc (v := (nI (i + 1))) (lv' := [(9, .int (nI (i + 1))), (8, .int (x8.toInt64 + ((((fX6_reach md_rockBits md_day (1 : Int32) md_kinds md_ills md_cells md_sailed s_ ahead) &&& ((fX6_reach md_rockBits md_day (0 : Int32) md_kinds md_ills md_cells md_sailed s_ ahead) ^^^ (-1 : Int64))) >>> ((nI i).toInt64 &&& 63)) &&& (1 : Int64))).toInt32), (0, .ref (md 0)), (1, .int s_), (2, .int ahead), (3, .int md_isHired), (4, .long (fX6_reach md_rockBits md_day (1 : Int32) md_kinds md_ills md_cells md_sailed s_ ahead)), (6, .long (fX6_reach md_rockBits md_day (0 : Int32) md_kinds md_ills md_cells md_sailed s_ ahead))]) hx hb dX6_asideOf_70 hl (k := 7) rfl (by rw [show Int32.ofInt 1 = nI 1 from rfl, nI_add]) (by decide) rfl (fun ls hl => ?_)
        refine lv_goto (tgt := 42) hx hb dX6_asideOf_73 (by decide) ?_
        exact ih (x8.toInt64 + ((((fX6_reach md_rockBits md_day (1 : Int32) md_kinds md_ills md_cells md_sailed s_ ahead) &&& ((fX6_reach md_rockBits md_day (0 : Int32) md_kinds md_ills md_cells md_sailed s_ ahead) ^^^ (-1 : Int64))) >>> ((nI i).toInt64 &&& 63)) &&& (1 : Int64))).toInt32 ((i + 1))  (by omega) (by omega) hE H locs hP hD hS ls (lv_sub hl [2, 3, 4, 5, 6, 7, 1, 0] rfl)
  exact L42 37 (0 : Int32) (0)  (by omega) (by omega) hE H locs hP hD hS ls (lv_sub hl [5, 6, 7, 4, 3, 2, 1, 0] rfl)
def fX6_aside (md_ships : Int32) (md_rockBits : Int64) (md_day : Int32) (md_kinds : Nat → Int32) (md_ills : Nat → Int32) (md_cells : Nat → Int32) (md_sailed : Nat → Int32) (s_ : Int32) (ahead : Int32) : Int32 := (if (fX6_isShip md_ships s_) = (0 : Int32) then (-101 : Int32) else (if (fX6_in ahead.toInt64 (0 : Int64) (20 : Int64)) = (0 : Int32) then (-102 : Int32) else (fX6_asideOf md_rockBits md_day md_kinds md_ills md_cells md_sailed s_ ahead)))
set_option maxHeartbeats 4000000 in
set_option maxRecDepth 100000 in
theorem kX6_aside (l : Launch) (dC : Nat → ClassId) (dI : Nat → Nat → Nat) (cI cJ : ClassId) (sz : Nat) (md : Nat → Nat) (md_page : Nat → Int32) (md_pageMany : Int32) (md_end : Int32) (md_ships : Int32) (md_rocks : Int32) (md_rockBits : Int64) (md_day : Int32) (md_isHired : Int32) (md_sails : Int32) (md_seasRead : Int32) (md_kinds : Nat → Int32) (md_ills : Nat → Int32) (md_cells : Nat → Int32) (md_sailed : Nat → Int32) (md_must : Nat → Int64) (md_seenMany : Int32) (md_sights : Nat → Int32) (md_seedNow : Int32) (md_cellsThen : Nat → Int32) (md_keptSea : Int32) (md_keptDay : Int32) (md_keptHired : Int32) (md_keptSails : Int32) (md_keptSeen : Int32) (md_keptKinds : Nat → Int32) (md_keptIlls : Nat → Int32) (md_keptCells : Nat → Int32) (md_keptSailed : Nat → Int32) (md_keptSights : Nat → Int32) (md_hash : Int64) (s_ : Int32) (ahead : Int32) (p_t : md_ships.toInt ≤ 3) (p_u : 0 ≤ md_ships.toInt) (p_b : isB md_isHired) : Met l yX6_aside wsX6_aside ({ frames := 6, cells := 0, slots := 0, locals := 155 } : Room) (gW (dC, dI) cI cJ sz (kMd cI cJ md md_page md_pageMany md_end md_ships md_rocks md_rockBits md_day md_isHired md_sails md_seasRead md_kinds md_ills md_cells md_sailed md_must md_seenMany md_sights md_seedNow md_cellsThen md_keptSea md_keptDay md_keptHired md_keptSails md_keptSeen md_keptKinds md_keptIlls md_keptCells md_keptSailed md_keptSights md_hash) ([.ref (md 0), .int s_, .int ahead] : List Value)) (va_Qi (fun (r : Int32) (_ : Unit) => r = (fX6_aside md_ships md_rockBits md_day md_kinds md_ills md_cells md_sailed s_ ahead)) (fun u : Unit => gB (dC, dI) cI cJ (va_A (kMd cI cJ md md_page md_pageMany md_end md_ships md_rocks md_rockBits md_day md_isHired md_sails md_seasRead md_kinds md_ills md_cells md_sailed md_must md_seenMany md_sights md_seedNow md_cellsThen md_keptSea md_keptDay md_keptHired md_keptSails md_keptSeen md_keptKinds md_keptIlls md_keptCells md_keptSailed md_keptSights md_hash) sz) (kMd cI cJ md md_page md_pageMany md_end md_ships md_rocks md_rockBits md_day md_isHired md_sails md_seasRead md_kinds md_ills md_cells md_sailed md_must md_seenMany md_sights md_seedNow md_cellsThen md_keptSea md_keptDay md_keptHired md_keptSails md_keptSeen md_keptKinds md_keptIlls md_keptCells md_keptSailed md_keptSights md_hash)) (va_A (kMd cI cJ md md_page md_pageMany md_end md_ships md_rocks md_rockBits md_day md_isHired md_sails md_seasRead md_kinds md_ills md_cells md_sailed md_must md_seenMany md_sights md_seedNow md_cellsThen md_keptSea md_keptDay md_keptHired md_keptSails md_keptSeen md_keptKinds md_keptIlls md_keptCells md_keptSailed md_keptSights md_hash) sz)) 0 0 (va_A (kMd cI cJ md md_page md_pageMany md_end md_ships md_rocks md_rockBits md_day md_isHired md_sails md_seasRead md_kinds md_ills md_cells md_sailed md_must md_seenMany md_sights md_seedNow md_cellsThen md_keptSea md_keptDay md_keptHired md_keptSails md_keptSeen md_keptKinds md_keptIlls md_keptCells md_keptSailed md_keptSights md_hash) sz) := by
  refine Met.ofW (cc := cX6_aside) (maxL := 3) (ret := (some .int)) (by decide) rfl ?_
  intro p e s m args below meth c s₁ B hml hv
  obtain ⟨rfl, hsz, hP, hK, hD0, hst⟩ := hv
  have hx := B.exec
  have hb := B.bytes
  have hr := B.returns
  have hts := atoms_spec (ws := wsX6_aside) B.pre
  have hown : s.vm.findClass RX6 = some m.cls := findClass_of_methodNamed B.named
  have hlocks := B.notSynchronized
  subst hsz
  have hD := hD0.self (sz := s.heap.size)
  generalize hAe : va_A (kMd cI cJ md md_page md_pageMany md_end md_ships md_rocks md_rockBits md_day md_isHired md_sails md_seasRead md_kinds md_ills md_cells md_sailed md_must md_seenMany md_sights md_seedNow md_cellsThen md_keptSea md_keptDay md_keptHired md_keptSails md_keptSeen md_keptKinds md_keptIlls md_keptCells md_keptSailed md_keptSights md_hash) s.heap.size = A at hD hst ⊢
  have hA : ∀ q : Nat, s.heap.size ≤ q → A q := fun q h => by rw [← hAe]; exact Or.inr h
  have hS : va_S A s.heap s.heap [] := va_S.rf
  generalize hE : (fX6_aside md_ships md_rockBits md_day md_kinds md_ills md_cells md_sailed s_ ahead) = RES
  generalize hQ : MQ below (va_Qi (fun (r : Int32) (_ : Unit) => r = RES) (fun u : Unit => gB (dC, dI) cI cJ A (kMd cI cJ md md_page md_pageMany md_end md_ships md_rocks md_rockBits md_day md_isHired md_sails md_seasRead md_kinds md_ills md_cells md_sailed md_must md_seenMany md_sights md_seedNow md_cellsThen md_keptSea md_keptDay md_keptHired md_keptSails md_keptSeen md_keptKinds md_keptIlls md_keptCells md_keptSailed md_keptSights md_hash)) A) ([.ref (md 0), .int s_, .int ahead] : List Value).toArray s 0 0 A = Q
  have hl := lv_entry ([.ref (md 0), .int s_, .int ahead] : List Value) (n := 3) (Nat.le_of_ble_eq_true rfl)
  rw [lg_entry_eq]
  generalize (lg_sl ([.ref (md 0), .int s_, .int ahead] : List Value) ++ List.replicate (3 - (lg_sl ([.ref (md 0), .int s_, .int ahead] : List Value)).length) Slot.unset).toArray = ls at hl ⊢
  have hl : lv_has ls 3 [(0, .ref (md 0)), (1, .int s_), (2, .int ahead)] := hl
  have t_constantLong_RX6_225_20 := hts (.constantLong RX6 225 (20)) (List.mem_of_getElem? (i := 1) rfl)
  have i_m102 : (-102 : Int32).toInt = -102 := by decide
  have i_m101 : (-101 : Int32).toInt = -101 := by decide
  have i_0 : (0 : Int32).toInt = 0 := by decide
  rw [fX6_aside] at hE
  refine lv_aload_n hx hb dX6_aside_0 rfl (lv_at hl 0 rfl) ?_
  refine lv_iload_n hx hb dX6_aside_1 rfl (lv_at hl 1 rfl) ?_
  refine rcVi (As := [.int s_]) (rest := []) ⟨hx, hb, hml, hown, hts⟩ (kX6_isShip l dC dI cI cJ md md_page md_pageMany md_end md_ships md_rocks md_rockBits md_day md_isHired md_sails md_seasRead md_kinds md_ills md_cells md_sailed md_must md_seenMany md_sights md_seedNow md_cellsThen md_keptSea md_keptDay md_keptHired md_keptSails md_keptSeen md_keptKinds md_keptIlls md_keptCells md_keptSailed md_keptSights md_hash s_) (cwV 1 hts gX6_aside_X6_isShip rfl rfl rfl (by decide +kernel) ⟨Nat.le_of_ble_eq_true rfl, Nat.le_of_ble_eq_true rfl⟩) hK hP hst hS [0, 1, 2, 3, 4, 5, 6, 7, 8, 9, 10, 11, 12, 13] rfl 0 rfl rfl rfl hl.1 rfl (Nat.le_of_ble_eq_true rfl) dX6_aside_2 ⟨Nat.zero_le _, Nat.zero_le _⟩ (fun r w_1 => ?_)
  obtain ⟨rfl, nb_2⟩ := w_1
  refine lv_if_ne (tgt := 11) hx hb dX6_aside_5 (by decide) (fun c_5 => ?_) (fun c_5 => ?_)
  · rw [if_neg c_5] at hE
    refine lv_iload_n hx hb dX6_aside_11 rfl (lv_at hl 2 rfl) ?_
    refine lv_i2l hx hb dX6_aside_12 rfl ?_
    refine lv_lconst (v := (0 : Int64)) hx hb dX6_aside_13 (by decide) ?_
    refine lv_ldc2 hx hb hown t_constantLong_RX6_225_20 dX6_aside_14 ?_
    refine rcSi (As := [.long ahead.toInt64, .long (0 : Int64), .long (20 : Int64)]) (rest := []) ⟨hx, hb, hml, hown, hts⟩ (kX6_in l dC dI cI cJ ahead.toInt64 (0 : Int64) (20 : Int64)) (va_cwS 3 hts gX6_aside_X6_in rfl rfl rfl (by decide +kernel) ⟨Nat.le_of_ble_eq_true rfl, Nat.le_of_ble_eq_true rfl⟩) hK hP hst hS [] rfl rfl hl.1 rfl (Nat.le_of_ble_eq_true rfl) dX6_aside_17 ⟨Nat.zero_le _, Nat.zero_le _⟩ (fun r w_3 => ?_)
    obtain ⟨w_3, nb_4⟩ := w_3; rw [w_3] at nb_4 ⊢
    refine lv_if_eq (tgt := 32) hx hb dX6_aside_20 (by decide) (fun c_20 => ?_) (fun c_20 => ?_)
    · rw [if_pos c_20] at hE
      refine lv_bipush (v := (-102 : Int32)) hx hb dX6_aside_32 (by decide) ?_
      subst hE
      rw [← hQ]
      exact W.iret hx hb hr (fun t ht hW => ⟨⟨_, (), rfl, rfl, by rw [ht]; exact hP, va_K.moved hW.alike hK, hD⟩, hS.F ht⟩) hS.2.2 dX6_aside_34
    · rw [if_neg c_20] at hE
      refine lv_aload_n hx hb dX6_aside_23 rfl (lv_at hl 0 rfl) ?_
      refine lv_iload_n hx hb dX6_aside_24 rfl (lv_at hl 1 rfl) ?_
      refine lv_iload_n hx hb dX6_aside_25 rfl (lv_at hl 2 rfl) ?_
      refine wcVi (As := [.int s_, .int ahead]) (rest := []) (wr := ([] : va_W)) (wn := (fun u : Unit => (kMd cI cJ md md_page md_pageMany md_end md_ships md_rocks md_rockBits md_day md_isHired md_sails md_seasRead md_kinds md_ills md_cells md_sailed md_must md_seenMany md_sights md_seedNow md_cellsThen md_keptSea md_keptDay md_keptHired md_keptSails md_keptSeen md_keptKinds md_keptIlls md_keptCells md_keptSailed md_keptSights md_hash))) (ws' := (fun u : Unit => (kMd cI cJ md md_page md_pageMany md_end md_ships md_rocks md_rockBits md_day md_isHired md_sails md_seasRead md_kinds md_ills md_cells md_sailed md_must md_seenMany md_sights md_seedNow md_cellsThen md_keptSea md_keptDay md_keptHired md_keptSails md_keptSeen md_keptKinds md_keptIlls md_keptCells md_keptSailed md_keptSights md_hash))) ⟨hx, hb, hml, hown, hts⟩ (kX6_asideOf l dC dI cI cJ s.heap.size md md_page md_pageMany md_end md_ships md_rocks md_rockBits md_day md_isHired md_sails md_seasRead md_kinds md_ills md_cells md_sailed md_must md_seenMany md_sights md_seedNow md_cellsThen md_keptSea md_keptDay md_keptHired md_keptSails md_keptSeen md_keptKinds md_keptIlls md_keptCells md_keptSailed md_keptSights md_hash s_ ahead (ms_in c_5 p_u p_t) (Int.le_trans (in_pos (a := 0) (b := 20) (by decide) (by decide) c_20).2 (by decide)) p_b) (cwV 2 hts gX6_aside_X6_asideOf rfl rfl rfl (by decide +kernel) ⟨Nat.le_of_ble_eq_true rfl, Nat.le_of_ble_eq_true rfl⟩) hK hP hD hst hS hA [0, 1, 2, 3, 4, 5, 6, 7, 8, 9, 10, 11, 12, 13] [] [0, 1, 2, 3, 4, 5, 6, 7, 8, 9, 10, 11, 12, 13] rfl (by decide) rfl (by decide) (by decide) (by decide) (fun _ => rfl) 0 rfl rfl rfl hl.1 rfl (Nat.le_of_ble_eq_true rfl) dX6_aside_26 ⟨Nat.zero_le _, Nat.zero_le _⟩ (fun r u_6 H locs w_5 hP hD hS => ?_)
      replace hP : va_P (dC, dI) vwCl (kMd cI cJ md md_page md_pageMany md_end md_ships md_rocks md_rockBits md_day md_isHired md_sails md_seasRead md_kinds md_ills md_cells md_sailed md_must md_seenMany md_sights md_seedNow md_cellsThen md_keptSea md_keptDay md_keptHired md_keptSails md_keptSeen md_keptKinds md_keptIlls md_keptCells md_keptSailed md_keptSights md_hash) H := hP
      replace hD : va_D A (kMd cI cJ md md_page md_pageMany md_end md_ships md_rocks md_rockBits md_day md_isHired md_sails md_seasRead md_kinds md_ills md_cells md_sailed md_must md_seenMany md_sights md_seedNow md_cellsThen md_keptSea md_keptDay md_keptHired md_keptSails md_keptSeen md_keptKinds md_keptIlls md_keptCells md_keptSailed md_keptSights md_hash) := hD
      subst w_5
      refine lv_goto (tgt := 34) hx hb dX6_aside_29 (by decide) ?_
      subst hE
      rw [← hQ]
      exact W.iret hx hb hr (fun t ht hW => ⟨⟨_, (), rfl, rfl, by rw [ht]; exact hP, va_K.moved hW.alike hK, hD⟩, hS.F ht⟩) hS.2.2 dX6_aside_34
  · rw [if_pos c_5] at hE
    refine lv_bipush (v := (-101 : Int32)) hx hb dX6_aside_8 (by decide) ?_
    subst hE
    rw [← hQ]
    exact W.iret hx hb hr (fun t ht hW => ⟨⟨_, (), rfl, rfl, by rw [ht]; exact hP, va_K.moved hW.alike hK, hD⟩, hS.F ht⟩) hS.2.2 dX6_aside_10
