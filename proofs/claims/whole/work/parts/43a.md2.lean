def fX6_faultOf_7 (md_page : Nat → Int32) (md_pageMany : Int32) : Nat → Nat → Int32 → Int32 × Int32
  | 0, _, _ => (0, 0)
  | n_ + 1, i, md_end_7 => (if md_pageMany ≤ (nI i) then ((nI i), md_end_7) else (if ((fX6_isGood md_page md_end_7 (nI i)).1) = (0 : Int32) then ((nI i), ((fX6_isGood md_page md_end_7 (nI i)).2)) else (fX6_faultOf_7 md_page md_pageMany n_ ((i + 1)) ((fX6_isGood md_page md_end_7 (nI i)).2))))
def fX6_faultOf (md_page : Nat → Int32) (md_pageMany : Int32) : Int32 × Int32 := (fX6_faultOf_7 md_page md_pageMany 41 (0) (0 : Int32))
set_option maxHeartbeats 4000000 in
set_option maxRecDepth 100000 in
theorem kX6_faultOf (l : Launch) (dC : Nat → ClassId) (dI : Nat → Nat → Nat) (cI cJ : ClassId) (sz : Nat) (md : Nat → Nat) (md_page : Nat → Int32) (md_pageMany : Int32) (md_end : Int32) (md_ships : Int32) (md_rocks : Int32) (md_rockBits : Int64) (md_day : Int32) (md_isHired : Int32) (md_sails : Int32) (md_seasRead : Int32) (md_kinds : Nat → Int32) (md_ills : Nat → Int32) (md_cells : Nat → Int32) (md_sailed : Nat → Int32) (md_must : Nat → Int64) (md_seenMany : Int32) (md_sights : Nat → Int32) (md_seedNow : Int32) (md_cellsThen : Nat → Int32) (md_keptSea : Int32) (md_keptDay : Int32) (md_keptHired : Int32) (md_keptSails : Int32) (md_keptSeen : Int32) (md_keptKinds : Nat → Int32) (md_keptIlls : Nat → Int32) (md_keptCells : Nat → Int32) (md_keptSailed : Nat → Int32) (md_keptSights : Nat → Int32) (md_hash : Int64) (p_z : md_pageMany.toInt ≤ 40) : Met l yX6_faultOf wsX6_faultOf ({ frames := 4, cells := 0, slots := 0, locals := 88 } : Room) (gW (dC, dI) cI cJ sz (kMd cI cJ md md_page md_pageMany md_end md_ships md_rocks md_rockBits md_day md_isHired md_sails md_seasRead md_kinds md_ills md_cells md_sailed md_must md_seenMany md_sights md_seedNow md_cellsThen md_keptSea md_keptDay md_keptHired md_keptSails md_keptSeen md_keptKinds md_keptIlls md_keptCells md_keptSailed md_keptSights md_hash) ([.ref (md 0)] : List Value)) (va_Qi (fun (r : Int32) (_ : Unit) => r = ((fX6_faultOf md_page md_pageMany).1)) (fun u : Unit => gB (dC, dI) cI cJ (va_A (kMd cI cJ md md_page md_pageMany md_end md_ships md_rocks md_rockBits md_day md_isHired md_sails md_seasRead md_kinds md_ills md_cells md_sailed md_must md_seenMany md_sights md_seedNow md_cellsThen md_keptSea md_keptDay md_keptHired md_keptSails md_keptSeen md_keptKinds md_keptIlls md_keptCells md_keptSailed md_keptSights md_hash) sz) (kMd cI cJ md md_page md_pageMany ((fX6_faultOf md_page md_pageMany).2) md_ships md_rocks md_rockBits md_day md_isHired md_sails md_seasRead md_kinds md_ills md_cells md_sailed md_must md_seenMany md_sights md_seedNow md_cellsThen md_keptSea md_keptDay md_keptHired md_keptSails md_keptSeen md_keptKinds md_keptIlls md_keptCells md_keptSailed md_keptSights md_hash)) (va_A (kMd cI cJ md md_page md_pageMany md_end md_ships md_rocks md_rockBits md_day md_isHired md_sails md_seasRead md_kinds md_ills md_cells md_sailed md_must md_seenMany md_sights md_seedNow md_cellsThen md_keptSea md_keptDay md_keptHired md_keptSails md_keptSeen md_keptKinds md_keptIlls md_keptCells md_keptSailed md_keptSights md_hash) sz)) 0 0 (va_A (kMd cI cJ md md_page md_pageMany md_end md_ships md_rocks md_rockBits md_day md_isHired md_sails md_seasRead md_kinds md_ills md_cells md_sailed md_must md_seenMany md_sights md_seedNow md_cellsThen md_keptSea md_keptDay md_keptHired md_keptSails md_keptSeen md_keptKinds md_keptIlls md_keptCells md_keptSailed md_keptSights md_hash) sz) := by
  refine Met.ofW (cc := cX6_faultOf) (maxL := 2) (ret := (some .int)) (by decide) rfl ?_
  intro p e s m args below meth c s₁ B hml hv
  obtain ⟨rfl, hsz, hP, hK, hD0, hst⟩ := hv
  have hx := B.exec
  have hb := B.bytes
  have hr := B.returns
  have hts := atoms_spec (ws := wsX6_faultOf) B.pre
  have hown : s.vm.findClass RX6 = some m.cls := findClass_of_methodNamed B.named
  have hlocks := B.notSynchronized
  subst hsz
  have hD := hD0.self (sz := s.heap.size)
  generalize hAe : va_A (kMd cI cJ md md_page md_pageMany md_end md_ships md_rocks md_rockBits md_day md_isHired md_sails md_seasRead md_kinds md_ills md_cells md_sailed md_must md_seenMany md_sights md_seedNow md_cellsThen md_keptSea md_keptDay md_keptHired md_keptSails md_keptSeen md_keptKinds md_keptIlls md_keptCells md_keptSailed md_keptSights md_hash) s.heap.size = A at hD hst ⊢
  have hA : ∀ q : Nat, s.heap.size ≤ q → A q := fun q h => by rw [← hAe]; exact Or.inr h
  have hS : va_S A s.heap s.heap [] := va_S.rf
  generalize hE : (fX6_faultOf md_page md_pageMany) = RES
  generalize hQ : MQ below (va_Qi (fun (r : Int32) (_ : Unit) => r = (RES.1)) (fun u : Unit => gB (dC, dI) cI cJ A (kMd cI cJ md md_page md_pageMany (RES.2) md_ships md_rocks md_rockBits md_day md_isHired md_sails md_seasRead md_kinds md_ills md_cells md_sailed md_must md_seenMany md_sights md_seedNow md_cellsThen md_keptSea md_keptDay md_keptHired md_keptSails md_keptSeen md_keptKinds md_keptIlls md_keptCells md_keptSailed md_keptSights md_hash)) A) ([.ref (md 0)] : List Value).toArray s 0 0 A = Q
  have hl := lv_entry ([.ref (md 0)] : List Value) (n := 2) (Nat.le_of_ble_eq_true rfl)
  rw [lg_entry_eq]
  generalize (lg_sl ([.ref (md 0)] : List Value) ++ List.replicate (2 - (lg_sl ([.ref (md 0)] : List Value)).length) Slot.unset).toArray = ls at hl ⊢
  have hl : lv_has ls 2 [(0, .ref (md 0))] := hl
  have in_X6 : ∀ w ∈ u_ws RX6 TX6 30, w ∈ wsX6_faultOf := fun _ h => List.mem_cons_of_mem _ (List.mem_append_right _ h)
  have t_fieldLink_RX6_60_FourLodgersModel_pageMany_I := hts (.fieldLink RX6 60 "FourLodgersModel" "pageMany" "I") (List.mem_of_getElem? (i := 2) rfl)
  have t_fieldLink_RX6_73_FourLodgersModel_end_I := hts (.fieldLink RX6 73 "FourLodgersModel" "end" "I") (List.mem_of_getElem? (i := 1) rfl)
  have i_0 : (0 : Int32).toInt = 0 := by decide
  rw [fX6_faultOf] at hE
  refine lv_aload_n hx hb dX6_faultOf_0 rfl (lv_at hl 0 rfl) ?_
  refine lv_iconst (v := (0 : Int32)) hx hb dX6_faultOf_1 (by decide) ?_
  refine va_put (D := (dC, dI)) (ci := 6) (v := .int (0 : Int32)) (ty := .int) (C := RX6) (T := TX6) (N := 30) hx hb hts in_X6 tyX6 tyX6_ok nmX6 hown hK hP hD hS 0 rfl rfl 2 (by decide) t_fieldLink_RX6_73_FourLodgersModel_end_I (fun _ h9 => h9) rfl (by decide +kernel) rfl rfl (Nat.le_of_ble_eq_true rfl) dX6_faultOf_2 (fun H locs hP hD hS => ?_)
  replace hP : va_P (dC, dI) vwCl (kMd cI cJ md md_page md_pageMany (0 : Int32) md_ships md_rocks md_rockBits md_day md_isHired md_sails md_seasRead md_kinds md_ills md_cells md_sailed md_must md_seenMany md_sights md_seedNow md_cellsThen md_keptSea md_keptDay md_keptHired md_keptSails md_keptSeen md_keptKinds md_keptIlls md_keptCells md_keptSailed md_keptSights md_hash) H := hP
  replace hD : va_D A (kMd cI cJ md md_page md_pageMany (0 : Int32) md_ships md_rocks md_rockBits md_day md_isHired md_sails md_seasRead md_kinds md_ills md_cells md_sailed md_must md_seenMany md_sights md_seedNow md_cellsThen md_keptSea md_keptDay md_keptHired md_keptSails md_keptSeen md_keptKinds md_keptIlls md_keptCells md_keptSailed md_keptSights md_hash) := hD
  refine lv_iconst (v := (0 : Int32)) hx hb dX6_faultOf_5 (by decide) ?_
  refine lv_istore_n (lv' := [(1, .int (0 : Int32)), (0, .ref (md 0))]) hx hb dX6_faultOf_6 rfl hl (by decide) rfl (fun ls hl => ?_)
  have L7 : ∀ (n_ : Nat) (i : Nat) (md_end_7 : Int32) , (i ≤ 40 ∧ (md_end_7.toInt = 0 ∨ (9 ≤ md_end_7.toInt ∧ md_end_7.toInt < (i : Int)))) → 40 - i < n_ → (fX6_faultOf_7 md_page md_pageMany n_ i md_end_7) = RES → ∀ (H : Heap) (locs : List Loc), va_P (dC, dI) vwCl (kMd cI cJ md md_page md_pageMany md_end_7 md_ships md_rocks md_rockBits md_day md_isHired md_sails md_seasRead md_kinds md_ills md_cells md_sailed md_must md_seenMany md_sights md_seedNow md_cellsThen md_keptSea md_keptDay md_keptHired md_keptSails md_keptSeen md_keptKinds md_keptIlls md_keptCells md_keptSailed md_keptSights md_hash) H → va_D A (kMd cI cJ md md_page md_pageMany md_end_7 md_ships md_rocks md_rockBits md_day md_isHired md_sails md_seasRead md_kinds md_ills md_cells md_sailed md_must md_seenMany md_sights md_seedNow md_cellsThen md_keptSea md_keptDay md_keptHired md_keptSails md_keptSeen md_keptKinds md_keptIlls md_keptCells md_keptSailed md_keptSights md_hash) → va_S A s.heap H locs → ∀ ls : Array Slot, lv_has ls 2 [(0, .ref (md 0)), (1, .int (nI i))] → W p l e (headSpec wsX6_faultOf ({ frames := 4, cells := 0, slots := 0, locals := 88 } : Room)).room s m ([.ref (md 0)] : List Value).toArray below meth c H locs 0 0 Q (F0 m 7 ls []) := by
    intro n_
    induction n_ with
    | zero => intro i md_end_7  hi hn; exact absurd hn (Nat.not_lt_zero _)
    | succ n_ ih =>
      intro i md_end_7  hi hn hE H locs hP hD hS ls hl
      rw [fX6_faultOf_7] at hE
      have tn_i : (nI i).toInt = (i : Int) := nI_toInt (by omega)
      refine lv_iload_n hx hb dX6_faultOf_7 rfl (lv_at hl 1 rfl) ?_
      refine lv_aload_n hx hb dX6_faultOf_8 rfl (lv_at hl 0 rfl) ?_
      refine va_get (D := (dC, dI)) (ci := 6) (v := .int md_pageMany) (C := RX6) (T := TX6) (N := 30) hx hb hts in_X6 hown hK hP 0 rfl rfl 1 (by decide) t_fieldLink_RX6_60_FourLodgersModel_pageMany_I (fun _ h9 => h9) rfl dX6_faultOf_9 ?_
      refine lv_icmp_ge (tgt := 29) hx hb dX6_faultOf_12 (by decide) (fun c_12 => ?_) (fun c_12 => ?_)
      · have e_12 := Int32.le_iff_toInt_le.mp c_12
        rw [if_pos c_12] at hE
        refine lv_iload_n hx hb dX6_faultOf_29 rfl (lv_at hl 1 rfl) ?_
        subst hE
        rw [← hQ]
        exact W.iret hx hb hr (fun t ht hW => ⟨⟨_, (), rfl, rfl, by rw [ht]; exact hP, va_K.moved hW.alike hK, hD⟩, hS.F ht⟩) hS.2.2 dX6_faultOf_30
      · have e_12 := mt Int32.le_iff_toInt_le.mpr c_12
        rw [if_neg c_12] at hE
        refine lv_aload_n hx hb dX6_faultOf_15 rfl (lv_at hl 0 rfl) ?_
        refine lv_iload_n hx hb dX6_faultOf_16 rfl (lv_at hl 1 rfl) ?_
        refine wcVi (As := [.int (nI i)]) (rest := []) (wr := ([] : va_W)) (wn := (fun u : Unit => (kMd cI cJ md md_page md_pageMany ((fX6_isGood md_page md_end_7 (nI i)).2) md_ships md_rocks md_rockBits md_day md_isHired md_sails md_seasRead md_kinds md_ills md_cells md_sailed md_must md_seenMany md_sights md_seedNow md_cellsThen md_keptSea md_keptDay md_keptHired md_keptSails md_keptSeen md_keptKinds md_keptIlls md_keptCells md_keptSailed md_keptSights md_hash))) (ws' := (fun u : Unit => (kMd cI cJ md md_page md_pageMany ((fX6_isGood md_page md_end_7 (nI i)).2) md_ships md_rocks md_rockBits md_day md_isHired md_sails md_seasRead md_kinds md_ills md_cells md_sailed md_must md_seenMany md_sights md_seedNow md_cellsThen md_keptSea md_keptDay md_keptHired md_keptSails md_keptSeen md_keptKinds md_keptIlls md_keptCells md_keptSailed md_keptSights md_hash))) ⟨hx, hb, hml, hown, hts⟩ (kX6_isGood l dC dI cI cJ H.size md md_page md_pageMany md_end_7 md_ships md_rocks md_rockBits md_day md_isHired md_sails md_seasRead md_kinds md_ills md_cells md_sailed md_must md_seenMany md_sights md_seedNow md_cellsThen md_keptSea md_keptDay md_keptHired md_keptSails md_keptSeen md_keptKinds md_keptIlls md_keptCells md_keptSailed md_keptSights md_hash (nI i) (by omega) (by omega) (by rw [tn_i]; exact hi.2)) (cwV 1 hts gX6_faultOf_X6_isGood rfl rfl rfl (by decide +kernel) ⟨Nat.le_of_ble_eq_true rfl, Nat.le_of_ble_eq_true rfl⟩) hK hP hD hst hS hA [0, 1, 2, 3, 4, 5, 6, 7, 8, 9, 10, 11, 12, 13] [] [0, 1, 2, 3, 4, 5, 6, 7, 8, 9, 10, 11, 12, 13] rfl (by decide) rfl (by decide) (by decide) (by decide) (fun _ => rfl) 0 rfl rfl rfl hl.1 rfl (Nat.le_of_ble_eq_true rfl) dX6_faultOf_17 ⟨Nat.zero_le _, Nat.zero_le _⟩ (fun r u_2 H locs w_1 hP hD hS => ?_)
        replace hP : va_P (dC, dI) vwCl (kMd cI cJ md md_page md_pageMany ((fX6_isGood md_page md_end_7 (nI i)).2) md_ships md_rocks md_rockBits md_day md_isHired md_sails md_seasRead md_kinds md_ills md_cells md_sailed md_must md_seenMany md_sights md_seedNow md_cellsThen md_keptSea md_keptDay md_keptHired md_keptSails md_keptSeen md_keptKinds md_keptIlls md_keptCells md_keptSailed md_keptSights md_hash) H := hP
        replace hD : va_D A (kMd cI cJ md md_page md_pageMany ((fX6_isGood md_page md_end_7 (nI i)).2) md_ships md_rocks md_rockBits md_day md_isHired md_sails md_seasRead md_kinds md_ills md_cells md_sailed md_must md_seenMany md_sights md_seedNow md_cellsThen md_keptSea md_keptDay md_keptHired md_keptSails md_keptSeen md_keptKinds md_keptIlls md_keptCells md_keptSailed md_keptSights md_hash) := hD
        obtain ⟨rfl, nb_3⟩ := w_1
        refine lv_if_eq (tgt := 29) hx hb dX6_faultOf_20 (by decide) (fun c_20 => ?_) (fun c_20 => ?_)
        · rw [if_pos c_20] at hE
          refine lv_iload_n hx hb dX6_faultOf_29 rfl (lv_at hl 1 rfl) ?_
          subst hE
          rw [← hQ]
          exact W.iret hx hb hr (fun t ht hW => ⟨⟨_, (), rfl, rfl, by rw [ht]; exact hP, va_K.moved hW.alike hK, hD⟩, hS.F ht⟩) hS.2.2 dX6_faultOf_30
        · rw [if_neg c_20] at hE
          refine lv_iinc (v := (nI (i + 1))) (lv' := [(1, .int (nI (i + 1))), (0, .ref (md 0))]) hx hb dX6_faultOf_23 hl (k := 1) rfl (by rw [show Int32.ofInt 1 = nI 1 from rfl, nI_add]) (by decide) rfl (fun ls hl => ?_)
          refine lv_goto (tgt := 7) hx hb dX6_faultOf_26 (by decide) ?_
          exact ih ((i + 1)) ((fX6_isGood md_page md_end_7 (nI i)).2)  ⟨by omega, good_end (by omega) hi.2⟩ (by omega) hE H locs hP hD hS ls (lv_sub hl [1, 0] rfl)
  exact L7 41 (0) (0 : Int32)  ⟨by omega, Or.inl (by decide)⟩ (by omega) hE H locs hP hD hS ls (lv_sub hl [1, 0] rfl)
def fX6_fault (md_page : Nat → Int32) (md_pageMany : Int32) : Int32 × Int32 := (((fX6_faultOf md_page md_pageMany).1), ((fX6_faultOf md_page md_pageMany).2))
set_option maxHeartbeats 4000000 in
set_option maxRecDepth 100000 in
theorem kX6_fault (l : Launch) (dC : Nat → ClassId) (dI : Nat → Nat → Nat) (cI cJ : ClassId) (sz : Nat) (md : Nat → Nat) (md_page : Nat → Int32) (md_pageMany : Int32) (md_end : Int32) (md_ships : Int32) (md_rocks : Int32) (md_rockBits : Int64) (md_day : Int32) (md_isHired : Int32) (md_sails : Int32) (md_seasRead : Int32) (md_kinds : Nat → Int32) (md_ills : Nat → Int32) (md_cells : Nat → Int32) (md_sailed : Nat → Int32) (md_must : Nat → Int64) (md_seenMany : Int32) (md_sights : Nat → Int32) (md_seedNow : Int32) (md_cellsThen : Nat → Int32) (md_keptSea : Int32) (md_keptDay : Int32) (md_keptHired : Int32) (md_keptSails : Int32) (md_keptSeen : Int32) (md_keptKinds : Nat → Int32) (md_keptIlls : Nat → Int32) (md_keptCells : Nat → Int32) (md_keptSailed : Nat → Int32) (md_keptSights : Nat → Int32) (md_hash : Int64) (p_z : md_pageMany.toInt ≤ 40) : Met l yX6_fault wsX6_fault ({ frames := 5, cells := 0, slots := 0, locals := 109 } : Room) (gW (dC, dI) cI cJ sz (kMd cI cJ md md_page md_pageMany md_end md_ships md_rocks md_rockBits md_day md_isHired md_sails md_seasRead md_kinds md_ills md_cells md_sailed md_must md_seenMany md_sights md_seedNow md_cellsThen md_keptSea md_keptDay md_keptHired md_keptSails md_keptSeen md_keptKinds md_keptIlls md_keptCells md_keptSailed md_keptSights md_hash) ([.ref (md 0)] : List Value)) (va_Qi (fun (r : Int32) (_ : Unit) => r = ((fX6_fault md_page md_pageMany).1)) (fun u : Unit => gB (dC, dI) cI cJ (va_A (kMd cI cJ md md_page md_pageMany md_end md_ships md_rocks md_rockBits md_day md_isHired md_sails md_seasRead md_kinds md_ills md_cells md_sailed md_must md_seenMany md_sights md_seedNow md_cellsThen md_keptSea md_keptDay md_keptHired md_keptSails md_keptSeen md_keptKinds md_keptIlls md_keptCells md_keptSailed md_keptSights md_hash) sz) (kMd cI cJ md md_page md_pageMany ((fX6_fault md_page md_pageMany).2) md_ships md_rocks md_rockBits md_day md_isHired md_sails md_seasRead md_kinds md_ills md_cells md_sailed md_must md_seenMany md_sights md_seedNow md_cellsThen md_keptSea md_keptDay md_keptHired md_keptSails md_keptSeen md_keptKinds md_keptIlls md_keptCells md_keptSailed md_keptSights md_hash)) (va_A (kMd cI cJ md md_page md_pageMany md_end md_ships md_rocks md_rockBits md_day md_isHired md_sails md_seasRead md_kinds md_ills md_cells md_sailed md_must md_seenMany md_sights md_seedNow md_cellsThen md_keptSea md_keptDay md_keptHired md_keptSails md_keptSeen md_keptKinds md_keptIlls md_keptCells md_keptSailed md_keptSights md_hash) sz)) 0 0 (va_A (kMd cI cJ md md_page md_pageMany md_end md_ships md_rocks md_rockBits md_day md_isHired md_sails md_seasRead md_kinds md_ills md_cells md_sailed md_must md_seenMany md_sights md_seedNow md_cellsThen md_keptSea md_keptDay md_keptHired md_keptSails md_keptSeen md_keptKinds md_keptIlls md_keptCells md_keptSailed md_keptSights md_hash) sz) := by
  refine Met.ofW (cc := cX6_fault) (maxL := 1) (ret := (some .int)) (by decide) rfl ?_
  intro p e s m args below meth c s₁ B hml hv
  obtain ⟨rfl, hsz, hP, hK, hD0, hst⟩ := hv
  have hx := B.exec
  have hb := B.bytes
  have hr := B.returns
  have hts := atoms_spec (ws := wsX6_fault) B.pre
  have hown : s.vm.findClass RX6 = some m.cls := findClass_of_methodNamed B.named
  have hlocks := B.notSynchronized
  subst hsz
  have hD := hD0.self (sz := s.heap.size)
  generalize hAe : va_A (kMd cI cJ md md_page md_pageMany md_end md_ships md_rocks md_rockBits md_day md_isHired md_sails md_seasRead md_kinds md_ills md_cells md_sailed md_must md_seenMany md_sights md_seedNow md_cellsThen md_keptSea md_keptDay md_keptHired md_keptSails md_keptSeen md_keptKinds md_keptIlls md_keptCells md_keptSailed md_keptSights md_hash) s.heap.size = A at hD hst ⊢
  have hA : ∀ q : Nat, s.heap.size ≤ q → A q := fun q h => by rw [← hAe]; exact Or.inr h
  have hS : va_S A s.heap s.heap [] := va_S.rf
  generalize hE : (fX6_fault md_page md_pageMany) = RES
  generalize hQ : MQ below (va_Qi (fun (r : Int32) (_ : Unit) => r = (RES.1)) (fun u : Unit => gB (dC, dI) cI cJ A (kMd cI cJ md md_page md_pageMany (RES.2) md_ships md_rocks md_rockBits md_day md_isHired md_sails md_seasRead md_kinds md_ills md_cells md_sailed md_must md_seenMany md_sights md_seedNow md_cellsThen md_keptSea md_keptDay md_keptHired md_keptSails md_keptSeen md_keptKinds md_keptIlls md_keptCells md_keptSailed md_keptSights md_hash)) A) ([.ref (md 0)] : List Value).toArray s 0 0 A = Q
  have hl := lv_entry ([.ref (md 0)] : List Value) (n := 1) (Nat.le_of_ble_eq_true rfl)
  rw [lg_entry_eq]
  generalize (lg_sl ([.ref (md 0)] : List Value) ++ List.replicate (1 - (lg_sl ([.ref (md 0)] : List Value)).length) Slot.unset).toArray = ls at hl ⊢
  have hl : lv_has ls 1 [(0, .ref (md 0))] := hl
  rw [fX6_fault] at hE
  refine lv_aload_n hx hb dX6_fault_0 rfl (lv_at hl 0 rfl) ?_
  refine wcVi (As := []) (rest := []) (wr := ([] : va_W)) (wn := (fun u : Unit => (kMd cI cJ md md_page md_pageMany ((fX6_faultOf md_page md_pageMany).2) md_ships md_rocks md_rockBits md_day md_isHired md_sails md_seasRead md_kinds md_ills md_cells md_sailed md_must md_seenMany md_sights md_seedNow md_cellsThen md_keptSea md_keptDay md_keptHired md_keptSails md_keptSeen md_keptKinds md_keptIlls md_keptCells md_keptSailed md_keptSights md_hash))) (ws' := (fun u : Unit => (kMd cI cJ md md_page md_pageMany ((fX6_faultOf md_page md_pageMany).2) md_ships md_rocks md_rockBits md_day md_isHired md_sails md_seasRead md_kinds md_ills md_cells md_sailed md_must md_seenMany md_sights md_seedNow md_cellsThen md_keptSea md_keptDay md_keptHired md_keptSails md_keptSeen md_keptKinds md_keptIlls md_keptCells md_keptSailed md_keptSights md_hash))) ⟨hx, hb, hml, hown, hts⟩ (kX6_faultOf l dC dI cI cJ s.heap.size md md_page md_pageMany md_end md_ships md_rocks md_rockBits md_day md_isHired md_sails md_seasRead md_kinds md_ills md_cells md_sailed md_must md_seenMany md_sights md_seedNow md_cellsThen md_keptSea md_keptDay md_keptHired md_keptSails md_keptSeen md_keptKinds md_keptIlls md_keptCells md_keptSailed md_keptSights md_hash p_z) (cwV 0 hts gX6_fault_X6_faultOf rfl rfl rfl (by decide +kernel) ⟨Nat.le_of_ble_eq_true rfl, Nat.le_of_ble_eq_true rfl⟩) hK hP hD hst hS hA [0, 1, 2, 3, 4, 5, 6, 7, 8, 9, 10, 11, 12, 13] [] [0, 1, 2, 3, 4, 5, 6, 7, 8, 9, 10, 11, 12, 13] rfl (by decide) rfl (by decide) (by decide) (by decide) (fun _ => rfl) 0 rfl rfl rfl hl.1 rfl (Nat.le_of_ble_eq_true rfl) dX6_fault_1 ⟨Nat.zero_le _, Nat.zero_le _⟩ (fun r u_2 H locs w_1 hP hD hS => ?_)
  replace hP : va_P (dC, dI) vwCl (kMd cI cJ md md_page md_pageMany ((fX6_faultOf md_page md_pageMany).2) md_ships md_rocks md_rockBits md_day md_isHired md_sails md_seasRead md_kinds md_ills md_cells md_sailed md_must md_seenMany md_sights md_seedNow md_cellsThen md_keptSea md_keptDay md_keptHired md_keptSails md_keptSeen md_keptKinds md_keptIlls md_keptCells md_keptSailed md_keptSights md_hash) H := hP
  replace hD : va_D A (kMd cI cJ md md_page md_pageMany ((fX6_faultOf md_page md_pageMany).2) md_ships md_rocks md_rockBits md_day md_isHired md_sails md_seasRead md_kinds md_ills md_cells md_sailed md_must md_seenMany md_sights md_seedNow md_cellsThen md_keptSea md_keptDay md_keptHired md_keptSails md_keptSeen md_keptKinds md_keptIlls md_keptCells md_keptSailed md_keptSights md_hash) := hD
  subst w_1
  subst hE
  rw [← hQ]
  exact W.iret hx hb hr (fun t ht hW => ⟨⟨_, (), rfl, rfl, by rw [ht]; exact hP, va_K.moved hW.alike hK, hD⟩, hS.F ht⟩) hS.2.2 dX6_fault_4
def fX6_lodger (md_ships : Int32) (md_day : Int32) (md_isHired : Int32) (md_kinds : Nat → Int32) (md_ills : Nat → Int32) (md_seenMany : Int32) (md_sights : Nat → Int32) (k_ : Int32) (what_ : Int32) : Int32 := (if (fX6_isLodger md_ships k_) = (0 : Int32) then (-101 : Int32) else (fX6_tellLodger md_day md_isHired md_kinds md_ills md_seenMany md_sights k_ what_))
set_option maxHeartbeats 4000000 in
set_option maxRecDepth 100000 in
theorem kX6_lodger (l : Launch) (dC : Nat → ClassId) (dI : Nat → Nat → Nat) (cI cJ : ClassId) (md : Nat → Nat) (md_page : Nat → Int32) (md_pageMany : Int32) (md_end : Int32) (md_ships : Int32) (md_rocks : Int32) (md_rockBits : Int64) (md_day : Int32) (md_isHired : Int32) (md_sails : Int32) (md_seasRead : Int32) (md_kinds : Nat → Int32) (md_ills : Nat → Int32) (md_cells : Nat → Int32) (md_sailed : Nat → Int32) (md_must : Nat → Int64) (md_seenMany : Int32) (md_sights : Nat → Int32) (md_seedNow : Int32) (md_cellsThen : Nat → Int32) (md_keptSea : Int32) (md_keptDay : Int32) (md_keptHired : Int32) (md_keptSails : Int32) (md_keptSeen : Int32) (md_keptKinds : Nat → Int32) (md_keptIlls : Nat → Int32) (md_keptCells : Nat → Int32) (md_keptSailed : Nat → Int32) (md_keptSights : Nat → Int32) (md_hash : Int64) (k_ : Int32) (what_ : Int32) (p_2 : 0 ≤ md_seenMany.toInt) (p_3 : md_seenMany.toInt ≤ 6) : Met l yX6_lodger wsX6_lodger ({ frames := 5, cells := 0, slots := 0, locals := 121 } : Room) (gR (dC, dI) cI cJ (kMd cI cJ md md_page md_pageMany md_end md_ships md_rocks md_rockBits md_day md_isHired md_sails md_seasRead md_kinds md_ills md_cells md_sailed md_must md_seenMany md_sights md_seedNow md_cellsThen md_keptSea md_keptDay md_keptHired md_keptSails md_keptSeen md_keptKinds md_keptIlls md_keptCells md_keptSailed md_keptSights md_hash) ([.ref (md 0), .int k_, .int what_] : List Value)) (vp_Si (fun r => r = (fX6_lodger md_ships md_day md_isHired md_kinds md_ills md_seenMany md_sights k_ what_))) 0 0 (fun _ => False) := by
  refine Met.ofW (cc := cX6_lodger) (maxL := 3) (ret := (some .int)) (by decide) rfl ?_
  intro p e s m args below meth c s₁ B hml hv
  obtain ⟨rfl, hP, hK, hst⟩ := hv
  have hx := B.exec
  have hb := B.bytes
  have hr := B.returns
  have hts := atoms_spec (ws := wsX6_lodger) B.pre
  have hown : s.vm.findClass RX6 = some m.cls := findClass_of_methodNamed B.named
  have hlocks := B.notSynchronized
  have hS : va_S (fun _ => False) s.heap s.heap [] := va_S.rf
  generalize hE : (fX6_lodger md_ships md_day md_isHired md_kinds md_ills md_seenMany md_sights k_ what_) = RES
  generalize hQ : MQ below (vp_Si (fun r => r = RES)) ([.ref (md 0), .int k_, .int what_] : List Value).toArray s 0 0 (fun _ => False) = Q
  have hl := lv_entry ([.ref (md 0), .int k_, .int what_] : List Value) (n := 3) (Nat.le_of_ble_eq_true rfl)
  rw [lg_entry_eq]
  generalize (lg_sl ([.ref (md 0), .int k_, .int what_] : List Value) ++ List.replicate (3 - (lg_sl ([.ref (md 0), .int k_, .int what_] : List Value)).length) Slot.unset).toArray = ls at hl ⊢
  have hl : lv_has ls 3 [(0, .ref (md 0)), (1, .int k_), (2, .int what_)] := hl
  have i_m101 : (-101 : Int32).toInt = -101 := by decide
  have i_0 : (0 : Int32).toInt = 0 := by decide
  rw [fX6_lodger] at hE
  refine lv_aload_n hx hb dX6_lodger_0 rfl (lv_at hl 0 rfl) ?_
  refine lv_iload_n hx hb dX6_lodger_1 rfl (lv_at hl 1 rfl) ?_
  refine rcVi (As := [.int k_]) (rest := []) ⟨hx, hb, hml, hown, hts⟩ (kX6_isLodger l dC dI cI cJ md md_page md_pageMany md_end md_ships md_rocks md_rockBits md_day md_isHired md_sails md_seasRead md_kinds md_ills md_cells md_sailed md_must md_seenMany md_sights md_seedNow md_cellsThen md_keptSea md_keptDay md_keptHired md_keptSails md_keptSeen md_keptKinds md_keptIlls md_keptCells md_keptSailed md_keptSights md_hash k_) (cwV 1 hts gX6_lodger_X6_isLodger rfl rfl rfl (by decide +kernel) ⟨Nat.le_of_ble_eq_true rfl, Nat.le_of_ble_eq_true rfl⟩) hK hP hst hS [0, 1, 2, 3, 4, 5, 6, 7, 8, 9, 10, 11, 12, 13] rfl 0 rfl rfl rfl hl.1 rfl (Nat.le_of_ble_eq_true rfl) dX6_lodger_2 ⟨Nat.zero_le _, Nat.zero_le _⟩ (fun r w_1 => ?_)
  obtain ⟨rfl, nb_2⟩ := w_1
  refine lv_if_eq (tgt := 17) hx hb dX6_lodger_5 (by decide) (fun c_5 => ?_) (fun c_5 => ?_)
  · rw [if_pos c_5] at hE
    refine lv_bipush (v := (-101 : Int32)) hx hb dX6_lodger_17 (by decide) ?_
    subst hE
    rw [← hQ]
    exact W.iret hx hb hr (fun t ht hW => ⟨_, rfl, rfl, ht⟩) (fun q h => absurd h List.not_mem_nil) dX6_lodger_19
  · rw [if_neg c_5] at hE
    refine lv_aload_n hx hb dX6_lodger_8 rfl (lv_at hl 0 rfl) ?_
    refine lv_iload_n hx hb dX6_lodger_9 rfl (lv_at hl 1 rfl) ?_
    refine lv_iload_n hx hb dX6_lodger_10 rfl (lv_at hl 2 rfl) ?_
    refine rcVi (As := [.int k_, .int what_]) (rest := []) ⟨hx, hb, hml, hown, hts⟩ (kX6_tellLodger l dC dI cI cJ md md_page md_pageMany md_end md_ships md_rocks md_rockBits md_day md_isHired md_sails md_seasRead md_kinds md_ills md_cells md_sailed md_must md_seenMany md_sights md_seedNow md_cellsThen md_keptSea md_keptDay md_keptHired md_keptSails md_keptSeen md_keptKinds md_keptIlls md_keptCells md_keptSailed md_keptSights md_hash k_ what_ (ml_in c_5) p_2 p_3) (cwV 2 hts gX6_lodger_X6_tellLodger rfl rfl rfl (by decide +kernel) ⟨Nat.le_of_ble_eq_true rfl, Nat.le_of_ble_eq_true rfl⟩) hK hP hst hS [0, 1, 2, 3, 4, 5, 6, 7, 8, 9, 10, 11, 12, 13] rfl 0 rfl rfl rfl hl.1 rfl (Nat.le_of_ble_eq_true rfl) dX6_lodger_11 ⟨Nat.zero_le _, Nat.zero_le _⟩ (fun r w_3 => ?_)
    subst w_3
    refine lv_goto (tgt := 19) hx hb dX6_lodger_14 (by decide) ?_
    subst hE
    rw [← hQ]
    exact W.iret hx hb hr (fun t ht hW => ⟨_, rfl, rfl, ht⟩) (fun q h => absurd h List.not_mem_nil) dX6_lodger_19
def fX6_as (md_ships : Int32) (md_kinds : Nat → Int32) (k_ : Int32) (kind : Int32) : Int32 := (if (fX6_isLodger md_ships k_) = (0 : Int32) then (-101 : Int32) else (if (fX6_in kind.toInt64 (0 : Int64) (4 : Int64)) = (0 : Int32) then (-102 : Int32) else (if kind = (0 : Int32) then (if (1 : Int32) = (0 : Int32) then (-1 : Int32) else k_) else (if kind = (md_kinds k_.toNatClampNeg) then (if (1 : Int32) = (0 : Int32) then (-1 : Int32) else k_) else (if kind = (1 : Int32) then (if (md_kinds k_.toNatClampNeg) = (4 : Int32) then (if (1 : Int32) = (0 : Int32) then (-1 : Int32) else k_) else (if (0 : Int32) = (0 : Int32) then (-1 : Int32) else k_)) else (if (0 : Int32) = (0 : Int32) then (-1 : Int32) else k_))))))
set_option maxHeartbeats 4000000 in
set_option maxRecDepth 100000 in
theorem kX6_as (l : Launch) (dC : Nat → ClassId) (dI : Nat → Nat → Nat) (cI cJ : ClassId) (md : Nat → Nat) (md_page : Nat → Int32) (md_pageMany : Int32) (md_end : Int32) (md_ships : Int32) (md_rocks : Int32) (md_rockBits : Int64) (md_day : Int32) (md_isHired : Int32) (md_sails : Int32) (md_seasRead : Int32) (md_kinds : Nat → Int32) (md_ills : Nat → Int32) (md_cells : Nat → Int32) (md_sailed : Nat → Int32) (md_must : Nat → Int64) (md_seenMany : Int32) (md_sights : Nat → Int32) (md_seedNow : Int32) (md_cellsThen : Nat → Int32) (md_keptSea : Int32) (md_keptDay : Int32) (md_keptHired : Int32) (md_keptSails : Int32) (md_keptSeen : Int32) (md_keptKinds : Nat → Int32) (md_keptIlls : Nat → Int32) (md_keptCells : Nat → Int32) (md_keptSailed : Nat → Int32) (md_keptSights : Nat → Int32) (md_hash : Int64) (k_ : Int32) (kind : Int32) : Met l yX6_as wsX6_as ({ frames := 2, cells := 0, slots := 0, locals := 46 } : Room) (gR (dC, dI) cI cJ (kMd cI cJ md md_page md_pageMany md_end md_ships md_rocks md_rockBits md_day md_isHired md_sails md_seasRead md_kinds md_ills md_cells md_sailed md_must md_seenMany md_sights md_seedNow md_cellsThen md_keptSea md_keptDay md_keptHired md_keptSails md_keptSeen md_keptKinds md_keptIlls md_keptCells md_keptSailed md_keptSights md_hash) ([.ref (md 0), .int k_, .int kind] : List Value)) (vp_Si (fun r => r = (fX6_as md_ships md_kinds k_ kind))) 0 0 (fun _ => False) := by
  refine Met.ofW (cc := cX6_as) (maxL := 4) (ret := (some .int)) (by decide) rfl ?_
  intro p e s m args below meth c s₁ B hml hv
  obtain ⟨rfl, hP, hK, hst⟩ := hv
  have hx := B.exec
  have hb := B.bytes
  have hr := B.returns
  have hts := atoms_spec (ws := wsX6_as) B.pre
  have hown : s.vm.findClass RX6 = some m.cls := findClass_of_methodNamed B.named
  have hlocks := B.notSynchronized
  have hS : va_S (fun _ => False) s.heap s.heap [] := va_S.rf
  generalize hE : (fX6_as md_ships md_kinds k_ kind) = RES
  generalize hQ : MQ below (vp_Si (fun r => r = RES)) ([.ref (md 0), .int k_, .int kind] : List Value).toArray s 0 0 (fun _ => False) = Q
  have hl := lv_entry ([.ref (md 0), .int k_, .int kind] : List Value) (n := 4) (Nat.le_of_ble_eq_true rfl)
  rw [lg_entry_eq]
  generalize (lg_sl ([.ref (md 0), .int k_, .int kind] : List Value) ++ List.replicate (4 - (lg_sl ([.ref (md 0), .int k_, .int kind] : List Value)).length) Slot.unset).toArray = ls at hl ⊢
  have hl : lv_has ls 4 [(0, .ref (md 0)), (1, .int k_), (2, .int kind)] := hl
  have in_X6 : ∀ w ∈ u_ws RX6 TX6 30, w ∈ wsX6_as := fun _ h => List.mem_cons_of_mem _ (List.mem_append_right _ h)
  have t_constantLong_RX6_162_4 := hts (.constantLong RX6 162 (4)) (List.mem_of_getElem? (i := 1) rfl)
  have t_fieldLink_RX6_13_FourLodgersModel_kinds_I := hts (.fieldLink RX6 13 "FourLodgersModel" "kinds" "[I") (List.mem_of_getElem? (i := 2) rfl)
  have i_m102 : (-102 : Int32).toInt = -102 := by decide
  have i_m101 : (-101 : Int32).toInt = -101 := by decide
  have i_m1 : (-1 : Int32).toInt = -1 := by decide
  have i_0 : (0 : Int32).toInt = 0 := by decide
  have i_1 : (1 : Int32).toInt = 1 := by decide
  have i_4 : (4 : Int32).toInt = 4 := by decide
  rw [fX6_as] at hE
  refine lv_aload_n hx hb dX6_as_0 rfl (lv_at hl 0 rfl) ?_
  refine lv_iload_n hx hb dX6_as_1 rfl (lv_at hl 1 rfl) ?_
  refine rcVi (As := [.int k_]) (rest := []) ⟨hx, hb, hml, hown, hts⟩ (kX6_isLodger l dC dI cI cJ md md_page md_pageMany md_end md_ships md_rocks md_rockBits md_day md_isHired md_sails md_seasRead md_kinds md_ills md_cells md_sailed md_must md_seenMany md_sights md_seedNow md_cellsThen md_keptSea md_keptDay md_keptHired md_keptSails md_keptSeen md_keptKinds md_keptIlls md_keptCells md_keptSailed md_keptSights md_hash k_) (cwV 1 hts gX6_as_X6_isLodger rfl rfl rfl (by decide +kernel) ⟨Nat.le_of_ble_eq_true rfl, Nat.le_of_ble_eq_true rfl⟩) hK hP hst hS [0, 1, 2, 3, 4, 5, 6, 7, 8, 9, 10, 11, 12, 13] rfl 0 rfl rfl rfl hl.1 rfl (Nat.le_of_ble_eq_true rfl) dX6_as_2 ⟨Nat.zero_le _, Nat.zero_le _⟩ (fun r w_1 => ?_)
  obtain ⟨rfl, nb_2⟩ := w_1
  refine lv_if_ne (tgt := 11) hx hb dX6_as_5 (by decide) (fun c_5 => ?_) (fun c_5 => ?_)
  · rw [if_neg c_5] at hE
    refine lv_iload_n hx hb dX6_as_11 rfl (lv_at hl 2 rfl) ?_
    refine lv_i2l hx hb dX6_as_12 rfl ?_
    refine lv_lconst (v := (0 : Int64)) hx hb dX6_as_13 (by decide) ?_
    refine lv_ldc2 hx hb hown t_constantLong_RX6_162_4 dX6_as_14 ?_
    refine rcSi (As := [.long kind.toInt64, .long (0 : Int64), .long (4 : Int64)]) (rest := []) ⟨hx, hb, hml, hown, hts⟩ (kX6_in l dC dI cI cJ kind.toInt64 (0 : Int64) (4 : Int64)) (va_cwS 3 hts gX6_as_X6_in rfl rfl rfl (by decide +kernel) ⟨Nat.le_of_ble_eq_true rfl, Nat.le_of_ble_eq_true rfl⟩) hK hP hst hS [] rfl rfl hl.1 rfl (Nat.le_of_ble_eq_true rfl) dX6_as_17 ⟨Nat.zero_le _, Nat.zero_le _⟩ (fun r w_3 => ?_)
    obtain ⟨w_3, nb_4⟩ := w_3; rw [w_3] at nb_4 ⊢
    refine lv_if_ne (tgt := 26) hx hb dX6_as_20 (by decide) (fun c_20 => ?_) (fun c_20 => ?_)
    · rw [if_neg c_20] at hE
      refine lv_iload_n hx hb dX6_as_26 rfl (lv_at hl 2 rfl) ?_
      refine lv_if_eq (tgt := 55) hx hb dX6_as_27 (by decide) (fun c_27 => ?_) (fun c_27 => ?_)
      · have e_27 := congrArg Int32.toInt c_27
        rw [if_pos c_27] at hE
        refine lv_iconst (v := (1 : Int32)) hx hb dX6_as_55 (by decide) ?_
        refine lv_goto (tgt := 60) hx hb dX6_as_56 (by decide) ?_
        refine lv_istore_n (lv' := [(3, .int (1 : Int32)), (0, .ref (md 0)), (1, .int k_), (2, .int kind)]) hx hb dX6_as_60 rfl hl (by decide) rfl (fun ls hl => ?_)
        refine lv_iload_n hx hb dX6_as_61 rfl (lv_at hl 0 rfl) ?_
        refine lv_if_eq (tgt := 69) hx hb dX6_as_62 (by decide) (fun c_62 => ?_) (fun c_62 => ?_)
        · have e_62 := congrArg Int32.toInt c_62
          rw [if_pos c_62] at hE
          refine lv_iconst (v := (-1 : Int32)) hx hb dX6_as_69 (by decide) ?_
          subst hE
          rw [← hQ]
          exact W.iret hx hb hr (fun t ht hW => ⟨_, rfl, rfl, ht⟩) (fun q h => absurd h List.not_mem_nil) dX6_as_70
        · have e_62 := mt Int32.toInt_inj.mp c_62
          rw [if_neg c_62] at hE
          refine lv_iload_n hx hb dX6_as_65 rfl (lv_at hl 2 rfl) ?_
          refine lv_goto (tgt := 70) hx hb dX6_as_66 (by decide) ?_
          subst hE
          rw [← hQ]
          exact W.iret hx hb hr (fun t ht hW => ⟨_, rfl, rfl, ht⟩) (fun q h => absurd h List.not_mem_nil) dX6_as_70
      · have e_27 := mt Int32.toInt_inj.mp c_27
        rw [if_neg c_27] at hE
        refine lv_iload_n hx hb dX6_as_30 rfl (lv_at hl 2 rfl) ?_
        refine lv_aload_n hx hb dX6_as_31 rfl (lv_at hl 0 rfl) ?_
        refine va_get (D := (dC, dI)) (ci := 6) (v := .ref (md 2)) (C := RX6) (T := TX6) (N := 30) hx hb hts in_X6 hown hK hP 0 rfl rfl 10 (by decide) t_fieldLink_RX6_13_FourLodgersModel_kinds_I (fun _ h9 => h9) rfl dX6_as_32 ?_
        refine lv_iload_n hx hb dX6_as_35 rfl (lv_at hl 1 rfl) ?_
        refine va_iald hx hb hK hP 2 0 rfl rfl (i := k_) (ml_in c_5) dX6_as_36 ?_
        refine lv_icmp_eq (tgt := 55) hx hb dX6_as_37 (by decide) (fun c_37 => ?_) (fun c_37 => ?_)
        · have e_37 := congrArg Int32.toInt c_37
          rw [if_pos c_37] at hE
          refine lv_iconst (v := (1 : Int32)) hx hb dX6_as_55 (by decide) ?_
          refine lv_goto (tgt := 60) hx hb dX6_as_56 (by decide) ?_
          refine lv_istore_n (lv' := [(3, .int (1 : Int32)), (0, .ref (md 0)), (1, .int k_), (2, .int kind)]) hx hb dX6_as_60 rfl hl (by decide) rfl (fun ls hl => ?_)
          refine lv_iload_n hx hb dX6_as_61 rfl (lv_at hl 0 rfl) ?_
          refine lv_if_eq (tgt := 69) hx hb dX6_as_62 (by decide) (fun c_62 => ?_) (fun c_62 => ?_)
          · have e_62 := congrArg Int32.toInt c_62
            rw [if_pos c_62] at hE
            refine lv_iconst (v := (-1 : Int32)) hx hb dX6_as_69 (by decide) ?_
            subst hE
            rw [← hQ]
            exact W.iret hx hb hr (fun t ht hW => ⟨_, rfl, rfl, ht⟩) (fun q h => absurd h List.not_mem_nil) dX6_as_70
          · have e_62 := mt Int32.toInt_inj.mp c_62
            rw [if_neg c_62] at hE
            refine lv_iload_n hx hb dX6_as_65 rfl (lv_at hl 2 rfl) ?_
            refine lv_goto (tgt := 70) hx hb dX6_as_66 (by decide) ?_
            subst hE
            rw [← hQ]
            exact W.iret hx hb hr (fun t ht hW => ⟨_, rfl, rfl, ht⟩) (fun q h => absurd h List.not_mem_nil) dX6_as_70
        · have e_37 := mt Int32.toInt_inj.mp c_37
          rw [if_neg c_37] at hE
          refine lv_iload_n hx hb dX6_as_40 rfl (lv_at hl 2 rfl) ?_
          refine lv_iconst (v := (1 : Int32)) hx hb dX6_as_41 (by decide) ?_
          refine lv_icmp_ne (tgt := 59) hx hb dX6_as_42 (by decide) (fun c_42 => ?_) (fun c_42 => ?_)
          · have e_42 := mt Int32.toInt_inj.mp c_42
            rw [if_neg c_42] at hE
            refine lv_iconst (v := (0 : Int32)) hx hb dX6_as_59 (by decide) ?_
            refine lv_istore_n (lv' := [(3, .int (0 : Int32)), (0, .ref (md 0)), (1, .int k_), (2, .int kind)]) hx hb dX6_as_60 rfl hl (by decide) rfl (fun ls hl => ?_)
            refine lv_iload_n hx hb dX6_as_61 rfl (lv_at hl 0 rfl) ?_
            refine lv_if_eq (tgt := 69) hx hb dX6_as_62 (by decide) (fun c_62 => ?_) (fun c_62 => ?_)
            · have e_62 := congrArg Int32.toInt c_62
              rw [if_pos c_62] at hE
              refine lv_iconst (v := (-1 : Int32)) hx hb dX6_as_69 (by decide) ?_
              subst hE
              rw [← hQ]
              exact W.iret hx hb hr (fun t ht hW => ⟨_, rfl, rfl, ht⟩) (fun q h => absurd h List.not_mem_nil) dX6_as_70
            · have e_62 := mt Int32.toInt_inj.mp c_62
              rw [if_neg c_62] at hE
              refine lv_iload_n hx hb dX6_as_65 rfl (lv_at hl 2 rfl) ?_
              refine lv_goto (tgt := 70) hx hb dX6_as_66 (by decide) ?_
              subst hE
              rw [← hQ]
              exact W.iret hx hb hr (fun t ht hW => ⟨_, rfl, rfl, ht⟩) (fun q h => absurd h List.not_mem_nil) dX6_as_70
          · have e_42 := congrArg Int32.toInt c_42
            rw [if_pos c_42] at hE
            refine lv_aload_n hx hb dX6_as_45 rfl (lv_at hl 0 rfl) ?_
            refine va_get (D := (dC, dI)) (ci := 6) (v := .ref (md 2)) (C := RX6) (T := TX6) (N := 30) hx hb hts in_X6 hown hK hP 0 rfl rfl 10 (by decide) t_fieldLink_RX6_13_FourLodgersModel_kinds_I (fun _ h9 => h9) rfl dX6_as_46 ?_
            refine lv_iload_n hx hb dX6_as_49 rfl (lv_at hl 1 rfl) ?_
            refine va_iald hx hb hK hP 2 0 rfl rfl (i := k_) (ml_in c_5) dX6_as_50 ?_
            refine lv_iconst (v := (4 : Int32)) hx hb dX6_as_51 (by decide) ?_
            refine lv_icmp_ne (tgt := 59) hx hb dX6_as_52 (by decide) (fun c_52 => ?_) (fun c_52 => ?_)
            · have e_52 := mt Int32.toInt_inj.mp c_52
              rw [if_neg c_52] at hE
              refine lv_iconst (v := (0 : Int32)) hx hb dX6_as_59 (by decide) ?_
              refine lv_istore_n (lv' := [(3, .int (0 : Int32)), (0, .ref (md 0)), (1, .int k_), (2, .int kind)]) hx hb dX6_as_60 rfl hl (by decide) rfl (fun ls hl => ?_)
              refine lv_iload_n hx hb dX6_as_61 rfl (lv_at hl 0 rfl) ?_
              refine lv_if_eq (tgt := 69) hx hb dX6_as_62 (by decide) (fun c_62 => ?_) (fun c_62 => ?_)
              · have e_62 := congrArg Int32.toInt c_62
                rw [if_pos c_62] at hE
                refine lv_iconst (v := (-1 : Int32)) hx hb dX6_as_69 (by decide) ?_
                subst hE
                rw [← hQ]
                exact W.iret hx hb hr (fun t ht hW => ⟨_, rfl, rfl, ht⟩) (fun q h => absurd h List.not_mem_nil) dX6_as_70
              · have e_62 := mt Int32.toInt_inj.mp c_62
                rw [if_neg c_62] at hE
                refine lv_iload_n hx hb dX6_as_65 rfl (lv_at hl 2 rfl) ?_
                refine lv_goto (tgt := 70) hx hb dX6_as_66 (by decide) ?_
                subst hE
                rw [← hQ]
                exact W.iret hx hb hr (fun t ht hW => ⟨_, rfl, rfl, ht⟩) (fun q h => absurd h List.not_mem_nil) dX6_as_70
            · have e_52 := congrArg Int32.toInt c_52
              rw [if_pos c_52] at hE
              refine lv_iconst (v := (1 : Int32)) hx hb dX6_as_55 (by decide) ?_
              refine lv_goto (tgt := 60) hx hb dX6_as_56 (by decide) ?_
              refine lv_istore_n (lv' := [(3, .int (1 : Int32)), (0, .ref (md 0)), (1, .int k_), (2, .int kind)]) hx hb dX6_as_60 rfl hl (by decide) rfl (fun ls hl => ?_)
              refine lv_iload_n hx hb dX6_as_61 rfl (lv_at hl 0 rfl) ?_
              refine lv_if_eq (tgt := 69) hx hb dX6_as_62 (by decide) (fun c_62 => ?_) (fun c_62 => ?_)
              · have e_62 := congrArg Int32.toInt c_62
                rw [if_pos c_62] at hE
                refine lv_iconst (v := (-1 : Int32)) hx hb dX6_as_69 (by decide) ?_
                subst hE
                rw [← hQ]
                exact W.iret hx hb hr (fun t ht hW => ⟨_, rfl, rfl, ht⟩) (fun q h => absurd h List.not_mem_nil) dX6_as_70
              · have e_62 := mt Int32.toInt_inj.mp c_62
                rw [if_neg c_62] at hE
                refine lv_iload_n hx hb dX6_as_65 rfl (lv_at hl 2 rfl) ?_
                refine lv_goto (tgt := 70) hx hb dX6_as_66 (by decide) ?_
                subst hE
                rw [← hQ]
                exact W.iret hx hb hr (fun t ht hW => ⟨_, rfl, rfl, ht⟩) (fun q h => absurd h List.not_mem_nil) dX6_as_70
    · rw [if_pos c_20] at hE
      refine lv_bipush (v := (-102 : Int32)) hx hb dX6_as_23 (by decide) ?_
      subst hE
      rw [← hQ]
      exact W.iret hx hb hr (fun t ht hW => ⟨_, rfl, rfl, ht⟩) (fun q h => absurd h List.not_mem_nil) dX6_as_25
  · rw [if_pos c_5] at hE
    refine lv_bipush (v := (-101 : Int32)) hx hb dX6_as_8 (by decide) ?_
    subst hE
    rw [← hQ]
    exact W.iret hx hb hr (fun t ht hW => ⟨_, rfl, rfl, ht⟩) (fun q h => absurd h List.not_mem_nil) dX6_as_10
def fX6_ship (md_ships : Int32) (md_rockBits : Int64) (md_day : Int32) (md_isHired : Int32) (md_kinds : Nat → Int32) (md_ills : Nat → Int32) (md_cells : Nat → Int32) (md_sailed : Nat → Int32) (s_ : Int32) (what_ : Int32) : Int32 := (if (fX6_isShip md_ships s_) = (0 : Int32) then (-101 : Int32) else (fX6_tellShip md_rockBits md_day md_isHired md_kinds md_ills md_cells md_sailed s_ what_))
set_option maxHeartbeats 4000000 in
set_option maxRecDepth 100000 in
theorem kX6_ship (l : Launch) (dC : Nat → ClassId) (dI : Nat → Nat → Nat) (cI cJ : ClassId) (md : Nat → Nat) (md_page : Nat → Int32) (md_pageMany : Int32) (md_end : Int32) (md_ships : Int32) (md_rocks : Int32) (md_rockBits : Int64) (md_day : Int32) (md_isHired : Int32) (md_sails : Int32) (md_seasRead : Int32) (md_kinds : Nat → Int32) (md_ills : Nat → Int32) (md_cells : Nat → Int32) (md_sailed : Nat → Int32) (md_must : Nat → Int64) (md_seenMany : Int32) (md_sights : Nat → Int32) (md_seedNow : Int32) (md_cellsThen : Nat → Int32) (md_keptSea : Int32) (md_keptDay : Int32) (md_keptHired : Int32) (md_keptSails : Int32) (md_keptSeen : Int32) (md_keptKinds : Nat → Int32) (md_keptIlls : Nat → Int32) (md_keptCells : Nat → Int32) (md_keptSailed : Nat → Int32) (md_keptSights : Nat → Int32) (md_hash : Int64) (s_ : Int32) (what_ : Int32) (p_t : md_ships.toInt ≤ 3) (p_u : 0 ≤ md_ships.toInt) : Met l yX6_ship wsX6_ship ({ frames := 4, cells := 0, slots := 0, locals := 95 } : Room) (gR (dC, dI) cI cJ (kMd cI cJ md md_page md_pageMany md_end md_ships md_rocks md_rockBits md_day md_isHired md_sails md_seasRead md_kinds md_ills md_cells md_sailed md_must md_seenMany md_sights md_seedNow md_cellsThen md_keptSea md_keptDay md_keptHired md_keptSails md_keptSeen md_keptKinds md_keptIlls md_keptCells md_keptSailed md_keptSights md_hash) ([.ref (md 0), .int s_, .int what_] : List Value)) (vp_Si (fun r => r = (fX6_ship md_ships md_rockBits md_day md_isHired md_kinds md_ills md_cells md_sailed s_ what_))) 0 0 (fun _ => False) := by
  refine Met.ofW (cc := cX6_ship) (maxL := 3) (ret := (some .int)) (by decide) rfl ?_
  intro p e s m args below meth c s₁ B hml hv
  obtain ⟨rfl, hP, hK, hst⟩ := hv
  have hx := B.exec
  have hb := B.bytes
  have hr := B.returns
  have hts := atoms_spec (ws := wsX6_ship) B.pre
  have hown : s.vm.findClass RX6 = some m.cls := findClass_of_methodNamed B.named
  have hlocks := B.notSynchronized
  have hS : va_S (fun _ => False) s.heap s.heap [] := va_S.rf
  generalize hE : (fX6_ship md_ships md_rockBits md_day md_isHired md_kinds md_ills md_cells md_sailed s_ what_) = RES
  generalize hQ : MQ below (vp_Si (fun r => r = RES)) ([.ref (md 0), .int s_, .int what_] : List Value).toArray s 0 0 (fun _ => False) = Q
  have hl := lv_entry ([.ref (md 0), .int s_, .int what_] : List Value) (n := 3) (Nat.le_of_ble_eq_true rfl)
  rw [lg_entry_eq]
  generalize (lg_sl ([.ref (md 0), .int s_, .int what_] : List Value) ++ List.replicate (3 - (lg_sl ([.ref (md 0), .int s_, .int what_] : List Value)).length) Slot.unset).toArray = ls at hl ⊢
  have hl : lv_has ls 3 [(0, .ref (md 0)), (1, .int s_), (2, .int what_)] := hl
  have i_m101 : (-101 : Int32).toInt = -101 := by decide
  have i_0 : (0 : Int32).toInt = 0 := by decide
  rw [fX6_ship] at hE
  refine lv_aload_n hx hb dX6_ship_0 rfl (lv_at hl 0 rfl) ?_
  refine lv_iload_n hx hb dX6_ship_1 rfl (lv_at hl 1 rfl) ?_
  refine rcVi (As := [.int s_]) (rest := []) ⟨hx, hb, hml, hown, hts⟩ (kX6_isShip l dC dI cI cJ md md_page md_pageMany md_end md_ships md_rocks md_rockBits md_day md_isHired md_sails md_seasRead md_kinds md_ills md_cells md_sailed md_must md_seenMany md_sights md_seedNow md_cellsThen md_keptSea md_keptDay md_keptHired md_keptSails md_keptSeen md_keptKinds md_keptIlls md_keptCells md_keptSailed md_keptSights md_hash s_) (cwV 1 hts gX6_ship_X6_isShip rfl rfl rfl (by decide +kernel) ⟨Nat.le_of_ble_eq_true rfl, Nat.le_of_ble_eq_true rfl⟩) hK hP hst hS [0, 1, 2, 3, 4, 5, 6, 7, 8, 9, 10, 11, 12, 13] rfl 0 rfl rfl rfl hl.1 rfl (Nat.le_of_ble_eq_true rfl) dX6_ship_2 ⟨Nat.zero_le _, Nat.zero_le _⟩ (fun r w_1 => ?_)
  obtain ⟨rfl, nb_2⟩ := w_1
  refine lv_if_eq (tgt := 17) hx hb dX6_ship_5 (by decide) (fun c_5 => ?_) (fun c_5 => ?_)
  · rw [if_pos c_5] at hE
    refine lv_bipush (v := (-101 : Int32)) hx hb dX6_ship_17 (by decide) ?_
    subst hE
    rw [← hQ]
    exact W.iret hx hb hr (fun t ht hW => ⟨_, rfl, rfl, ht⟩) (fun q h => absurd h List.not_mem_nil) dX6_ship_19
  · rw [if_neg c_5] at hE
    refine lv_aload_n hx hb dX6_ship_8 rfl (lv_at hl 0 rfl) ?_
    refine lv_iload_n hx hb dX6_ship_9 rfl (lv_at hl 1 rfl) ?_
    refine lv_iload_n hx hb dX6_ship_10 rfl (lv_at hl 2 rfl) ?_
    refine rcVi (As := [.int s_, .int what_]) (rest := []) ⟨hx, hb, hml, hown, hts⟩ (kX6_tellShip l dC dI cI cJ md md_page md_pageMany md_end md_ships md_rocks md_rockBits md_day md_isHired md_sails md_seasRead md_kinds md_ills md_cells md_sailed md_must md_seenMany md_sights md_seedNow md_cellsThen md_keptSea md_keptDay md_keptHired md_keptSails md_keptSeen md_keptKinds md_keptIlls md_keptCells md_keptSailed md_keptSights md_hash s_ what_ (ms_in c_5 p_u p_t)) (cwV 2 hts gX6_ship_X6_tellShip rfl rfl rfl (by decide +kernel) ⟨Nat.le_of_ble_eq_true rfl, Nat.le_of_ble_eq_true rfl⟩) hK hP hst hS [0, 1, 2, 3, 4, 5, 6, 7, 8, 9, 10, 11, 12, 13] rfl 0 rfl rfl rfl hl.1 rfl (Nat.le_of_ble_eq_true rfl) dX6_ship_11 ⟨Nat.zero_le _, Nat.zero_le _⟩ (fun r w_3 => ?_)
    subst w_3
    refine lv_goto (tgt := 19) hx hb dX6_ship_14 (by decide) ?_
    subst hE
    rw [← hQ]
    exact W.iret hx hb hr (fun t ht hW => ⟨_, rfl, rfl, ht⟩) (fun q h => absurd h List.not_mem_nil) dX6_ship_19
def fX6_cell (md_ships : Int32) (md_rockBits : Int64) (md_cells : Nat → Int32) (c_ : Int32) (what_ : Int32) : Int32 := (if (fX6_isCell md_ships c_) = (0 : Int32) then (-101 : Int32) else (if (fX6_in what_.toInt64 (0 : Int64) (1 : Int64)) = (0 : Int32) then (-102 : Int32) else (if what_ = (0 : Int32) then ((md_rockBits >>> (c_.toInt64 &&& 63)) &&& (1 : Int64)).toInt32 else (fX6_shipsAt md_ships md_cells c_))))
set_option maxHeartbeats 4000000 in
set_option maxRecDepth 100000 in
theorem kX6_cell (l : Launch) (dC : Nat → ClassId) (dI : Nat → Nat → Nat) (cI cJ : ClassId) (md : Nat → Nat) (md_page : Nat → Int32) (md_pageMany : Int32) (md_end : Int32) (md_ships : Int32) (md_rocks : Int32) (md_rockBits : Int64) (md_day : Int32) (md_isHired : Int32) (md_sails : Int32) (md_seasRead : Int32) (md_kinds : Nat → Int32) (md_ills : Nat → Int32) (md_cells : Nat → Int32) (md_sailed : Nat → Int32) (md_must : Nat → Int64) (md_seenMany : Int32) (md_sights : Nat → Int32) (md_seedNow : Int32) (md_cellsThen : Nat → Int32) (md_keptSea : Int32) (md_keptDay : Int32) (md_keptHired : Int32) (md_keptSails : Int32) (md_keptSeen : Int32) (md_keptKinds : Nat → Int32) (md_keptIlls : Nat → Int32) (md_keptCells : Nat → Int32) (md_keptSailed : Nat → Int32) (md_keptSights : Nat → Int32) (md_hash : Int64) (c_ : Int32) (what_ : Int32) (p_t : md_ships.toInt ≤ 3) : Met l yX6_cell wsX6_cell ({ frames := 2, cells := 0, slots := 0, locals := 46 } : Room) (gR (dC, dI) cI cJ (kMd cI cJ md md_page md_pageMany md_end md_ships md_rocks md_rockBits md_day md_isHired md_sails md_seasRead md_kinds md_ills md_cells md_sailed md_must md_seenMany md_sights md_seedNow md_cellsThen md_keptSea md_keptDay md_keptHired md_keptSails md_keptSeen md_keptKinds md_keptIlls md_keptCells md_keptSailed md_keptSights md_hash) ([.ref (md 0), .int c_, .int what_] : List Value)) (vp_Si (fun r => r = (fX6_cell md_ships md_rockBits md_cells c_ what_))) 0 0 (fun _ => False) := by
  refine Met.ofW (cc := cX6_cell) (maxL := 3) (ret := (some .int)) (by decide) rfl ?_
  intro p e s m args below meth c s₁ B hml hv
  obtain ⟨rfl, hP, hK, hst⟩ := hv
  have hx := B.exec
  have hb := B.bytes
  have hr := B.returns
  have hts := atoms_spec (ws := wsX6_cell) B.pre
  have hown : s.vm.findClass RX6 = some m.cls := findClass_of_methodNamed B.named
  have hlocks := B.notSynchronized
  have hS : va_S (fun _ => False) s.heap s.heap [] := va_S.rf
  generalize hE : (fX6_cell md_ships md_rockBits md_cells c_ what_) = RES
  generalize hQ : MQ below (vp_Si (fun r => r = RES)) ([.ref (md 0), .int c_, .int what_] : List Value).toArray s 0 0 (fun _ => False) = Q
  have hl := lv_entry ([.ref (md 0), .int c_, .int what_] : List Value) (n := 3) (Nat.le_of_ble_eq_true rfl)
  rw [lg_entry_eq]
  generalize (lg_sl ([.ref (md 0), .int c_, .int what_] : List Value) ++ List.replicate (3 - (lg_sl ([.ref (md 0), .int c_, .int what_] : List Value)).length) Slot.unset).toArray = ls at hl ⊢
  have hl : lv_has ls 3 [(0, .ref (md 0)), (1, .int c_), (2, .int what_)] := hl
  have in_X6 : ∀ w ∈ u_ws RX6 TX6 30, w ∈ wsX6_cell := fun _ h => List.mem_cons_of_mem _ (List.mem_append_right _ h)
  have t_fieldLink_RX6_105_FourLodgersModel_rockBits_J := hts (.fieldLink RX6 105 "FourLodgersModel" "rockBits" "J") (List.mem_of_getElem? (i := 1) rfl)
  have i_m102 : (-102 : Int32).toInt = -102 := by decide
  have i_m101 : (-101 : Int32).toInt = -101 := by decide
  have i_0 : (0 : Int32).toInt = 0 := by decide
  rw [fX6_cell] at hE
  refine lv_aload_n hx hb dX6_cell_0 rfl (lv_at hl 0 rfl) ?_
  refine lv_iload_n hx hb dX6_cell_1 rfl (lv_at hl 1 rfl) ?_
  refine rcVi (As := [.int c_]) (rest := []) ⟨hx, hb, hml, hown, hts⟩ (kX6_isCell l dC dI cI cJ md md_page md_pageMany md_end md_ships md_rocks md_rockBits md_day md_isHired md_sails md_seasRead md_kinds md_ills md_cells md_sailed md_must md_seenMany md_sights md_seedNow md_cellsThen md_keptSea md_keptDay md_keptHired md_keptSails md_keptSeen md_keptKinds md_keptIlls md_keptCells md_keptSailed md_keptSights md_hash c_) (cwV 1 hts gX6_cell_X6_isCell rfl rfl rfl (by decide +kernel) ⟨Nat.le_of_ble_eq_true rfl, Nat.le_of_ble_eq_true rfl⟩) hK hP hst hS [0, 1, 2, 3, 4, 5, 6, 7, 8, 9, 10, 11, 12, 13] rfl 0 rfl rfl rfl hl.1 rfl (Nat.le_of_ble_eq_true rfl) dX6_cell_2 ⟨Nat.zero_le _, Nat.zero_le _⟩ (fun r w_1 => ?_)
  obtain ⟨rfl, nb_2⟩ := w_1
  refine lv_if_ne (tgt := 11) hx hb dX6_cell_5 (by decide) (fun c_5 => ?_) (fun c_5 => ?_)
  · rw [if_neg c_5] at hE
    refine lv_iload_n hx hb dX6_cell_11 rfl (lv_at hl 2 rfl) ?_
    refine lv_i2l hx hb dX6_cell_12 rfl ?_
    refine lv_lconst (v := (0 : Int64)) hx hb dX6_cell_13 (by decide) ?_
    refine lv_lconst (v := (1 : Int64)) hx hb dX6_cell_14 (by decide) ?_
    refine rcSi (As := [.long what_.toInt64, .long (0 : Int64), .long (1 : Int64)]) (rest := []) ⟨hx, hb, hml, hown, hts⟩ (kX6_in l dC dI cI cJ what_.toInt64 (0 : Int64) (1 : Int64)) (va_cwS 3 hts gX6_cell_X6_in rfl rfl rfl (by decide +kernel) ⟨Nat.le_of_ble_eq_true rfl, Nat.le_of_ble_eq_true rfl⟩) hK hP hst hS [] rfl rfl hl.1 rfl (Nat.le_of_ble_eq_true rfl) dX6_cell_15 ⟨Nat.zero_le _, Nat.zero_le _⟩ (fun r w_3 => ?_)
    obtain ⟨w_3, nb_4⟩ := w_3; rw [w_3] at nb_4 ⊢
    refine lv_if_ne (tgt := 24) hx hb dX6_cell_18 (by decide) (fun c_18 => ?_) (fun c_18 => ?_)
    · rw [if_neg c_18] at hE
      refine lv_iload_n hx hb dX6_cell_24 rfl (lv_at hl 2 rfl) ?_
      refine lv_if_ne (tgt := 40) hx hb dX6_cell_25 (by decide) (fun c_25 => ?_) (fun c_25 => ?_)
      · have e_25 := mt Int32.toInt_inj.mp c_25
        rw [if_neg c_25] at hE
        refine lv_aload_n hx hb dX6_cell_40 rfl (lv_at hl 0 rfl) ?_
        refine lv_iload_n hx hb dX6_cell_41 rfl (lv_at hl 1 rfl) ?_
        refine rcVi (As := [.int c_]) (rest := []) ⟨hx, hb, hml, hown, hts⟩ (kX6_shipsAt l dC dI cI cJ md md_page md_pageMany md_end md_ships md_rocks md_rockBits md_day md_isHired md_sails md_seasRead md_kinds md_ills md_cells md_sailed md_must md_seenMany md_sights md_seedNow md_cellsThen md_keptSea md_keptDay md_keptHired md_keptSails md_keptSeen md_keptKinds md_keptIlls md_keptCells md_keptSailed md_keptSights md_hash c_ p_t) (cwV 1 hts gX6_cell_X6_shipsAt rfl rfl rfl (by decide +kernel) ⟨Nat.le_of_ble_eq_true rfl, Nat.le_of_ble_eq_true rfl⟩) hK hP hst hS [0, 1, 2, 3, 4, 5, 6, 7, 8, 9, 10, 11, 12, 13] rfl 0 rfl rfl rfl hl.1 rfl (Nat.le_of_ble_eq_true rfl) dX6_cell_42 ⟨Nat.zero_le _, Nat.zero_le _⟩ (fun r w_5 => ?_)
        subst w_5
        subst hE
        rw [← hQ]
        exact W.iret hx hb hr (fun t ht hW => ⟨_, rfl, rfl, ht⟩) (fun q h => absurd h List.not_mem_nil) dX6_cell_45
      · have e_25 := congrArg Int32.toInt c_25
        rw [if_pos c_25] at hE
        refine lv_aload_n hx hb dX6_cell_28 rfl (lv_at hl 0 rfl) ?_
        refine va_get (D := (dC, dI)) (ci := 6) (v := .long md_rockBits) (C := RX6) (T := TX6) (N := 30) hx hb hts in_X6 hown hK hP 0 rfl rfl 5 (by decide) t_fieldLink_RX6_105_FourLodgersModel_rockBits_J (fun _ h9 => h9) rfl dX6_cell_29 ?_
        refine lv_iload_n hx hb dX6_cell_32 rfl (lv_at hl 1 rfl) ?_
        refine lv_lshr hx hb dX6_cell_33 rfl ?_
        refine lv_lconst (v := (1 : Int64)) hx hb dX6_cell_34 (by decide) ?_
        refine lv_land hx hb dX6_cell_35 ?_
        refine lv_l2i hx hb dX6_cell_36 rfl ?_
        refine lv_goto (tgt := 45) hx hb dX6_cell_37 (by decide) ?_
        subst hE
        rw [← hQ]
        exact W.iret hx hb hr (fun t ht hW => ⟨_, rfl, rfl, ht⟩) (fun q h => absurd h List.not_mem_nil) dX6_cell_45
    · rw [if_pos c_18] at hE
      refine lv_bipush (v := (-102 : Int32)) hx hb dX6_cell_21 (by decide) ?_
      subst hE
      rw [← hQ]
      exact W.iret hx hb hr (fun t ht hW => ⟨_, rfl, rfl, ht⟩) (fun q h => absurd h List.not_mem_nil) dX6_cell_23
  · rw [if_pos c_5] at hE
    refine lv_bipush (v := (-101 : Int32)) hx hb dX6_cell_8 (by decide) ?_
    subst hE
    rw [← hQ]
    exact W.iret hx hb hr (fun t ht hW => ⟨_, rfl, rfl, ht⟩) (fun q h => absurd h List.not_mem_nil) dX6_cell_10
def fX6_sail (md_ships : Int32) (md_rockBits : Int64) (md_day : Int32) (md_isHired : Int32) (md_sails : Int32) (md_kinds : Nat → Int32) (md_ills : Nat → Int32) (md_cells : Nat → Int32) (md_sailed : Nat → Int32) (s_ : Int32) (by_ : Int32) : Int32 × (Nat → Int32) × (Nat → Int32) × Int32 := (if (fX6_isShip md_ships s_) = (0 : Int32) then ((-101 : Int32), md_cells, md_sailed, md_sails) else (if (fX6_in by_.toInt64 (0 : Int64) (4 : Int64)) = (0 : Int32) then ((-101 : Int32), md_cells, md_sailed, md_sails) else (if (((fX6_maySail md_rockBits md_day md_isHired md_kinds md_ills md_cells md_sailed s_) >>> (by_ &&& 31)) &&& (1 : Int32)) = (0 : Int32) then ((-103 : Int32), md_cells, md_sailed, md_sails) else (if md_sails = (999 : Int32) then ((-104 : Int32), md_cells, md_sailed, md_sails) else (((upd md_cells s_.toNatClampNeg (fX6_leads md_rockBits (md_cells s_.toNatClampNeg) by_)) s_.toNatClampNeg), (upd md_cells s_.toNatClampNeg (fX6_leads md_rockBits (md_cells s_.toNatClampNeg) by_)), (upd md_sailed s_.toNatClampNeg (1 : Int32)), (md_sails + (1 : Int32)))))))
set_option maxHeartbeats 4000000 in
set_option maxRecDepth 100000 in
theorem kX6_sail (l : Launch) (dC : Nat → ClassId) (dI : Nat → Nat → Nat) (cI cJ : ClassId) (sz : Nat) (md : Nat → Nat) (md_page : Nat → Int32) (md_pageMany : Int32) (md_end : Int32) (md_ships : Int32) (md_rocks : Int32) (md_rockBits : Int64) (md_day : Int32) (md_isHired : Int32) (md_sails : Int32) (md_seasRead : Int32) (md_kinds : Nat → Int32) (md_ills : Nat → Int32) (md_cells : Nat → Int32) (md_sailed : Nat → Int32) (md_must : Nat → Int64) (md_seenMany : Int32) (md_sights : Nat → Int32) (md_seedNow : Int32) (md_cellsThen : Nat → Int32) (md_keptSea : Int32) (md_keptDay : Int32) (md_keptHired : Int32) (md_keptSails : Int32) (md_keptSeen : Int32) (md_keptKinds : Nat → Int32) (md_keptIlls : Nat → Int32) (md_keptCells : Nat → Int32) (md_keptSailed : Nat → Int32) (md_keptSights : Nat → Int32) (md_hash : Int64) (s_ : Int32) (by_ : Int32) (p_t : md_ships.toInt ≤ 3) (p_u : 0 ≤ md_ships.toInt) : Met l yX6_sail wsX6_sail ({ frames := 3, cells := 0, slots := 0, locals := 73 } : Room) (gW (dC, dI) cI cJ sz (kMd cI cJ md md_page md_pageMany md_end md_ships md_rocks md_rockBits md_day md_isHired md_sails md_seasRead md_kinds md_ills md_cells md_sailed md_must md_seenMany md_sights md_seedNow md_cellsThen md_keptSea md_keptDay md_keptHired md_keptSails md_keptSeen md_keptKinds md_keptIlls md_keptCells md_keptSailed md_keptSights md_hash) ([.ref (md 0), .int s_, .int by_] : List Value)) (va_Qi (fun (r : Int32) (_ : Unit) => r = ((fX6_sail md_ships md_rockBits md_day md_isHired md_sails md_kinds md_ills md_cells md_sailed s_ by_).1)) (fun u : Unit => gB (dC, dI) cI cJ (va_A (kMd cI cJ md md_page md_pageMany md_end md_ships md_rocks md_rockBits md_day md_isHired md_sails md_seasRead md_kinds md_ills md_cells md_sailed md_must md_seenMany md_sights md_seedNow md_cellsThen md_keptSea md_keptDay md_keptHired md_keptSails md_keptSeen md_keptKinds md_keptIlls md_keptCells md_keptSailed md_keptSights md_hash) sz) (kMd cI cJ md md_page md_pageMany md_end md_ships md_rocks md_rockBits md_day md_isHired ((fX6_sail md_ships md_rockBits md_day md_isHired md_sails md_kinds md_ills md_cells md_sailed s_ by_).2.2.2) md_seasRead md_kinds md_ills ((fX6_sail md_ships md_rockBits md_day md_isHired md_sails md_kinds md_ills md_cells md_sailed s_ by_).2.1) ((fX6_sail md_ships md_rockBits md_day md_isHired md_sails md_kinds md_ills md_cells md_sailed s_ by_).2.2.1) md_must md_seenMany md_sights md_seedNow md_cellsThen md_keptSea md_keptDay md_keptHired md_keptSails md_keptSeen md_keptKinds md_keptIlls md_keptCells md_keptSailed md_keptSights md_hash)) (va_A (kMd cI cJ md md_page md_pageMany md_end md_ships md_rocks md_rockBits md_day md_isHired md_sails md_seasRead md_kinds md_ills md_cells md_sailed md_must md_seenMany md_sights md_seedNow md_cellsThen md_keptSea md_keptDay md_keptHired md_keptSails md_keptSeen md_keptKinds md_keptIlls md_keptCells md_keptSailed md_keptSights md_hash) sz)) 0 0 (va_A (kMd cI cJ md md_page md_pageMany md_end md_ships md_rocks md_rockBits md_day md_isHired md_sails md_seasRead md_kinds md_ills md_cells md_sailed md_must md_seenMany md_sights md_seedNow md_cellsThen md_keptSea md_keptDay md_keptHired md_keptSails md_keptSeen md_keptKinds md_keptIlls md_keptCells md_keptSailed md_keptSights md_hash) sz) := by
  refine Met.ofW (cc := cX6_sail) (maxL := 3) (ret := (some .int)) (by decide) rfl ?_
  intro p e s m args below meth c s₁ B hml hv
  obtain ⟨rfl, hsz, hP, hK, hD0, hst⟩ := hv
  have hx := B.exec
  have hb := B.bytes
  have hr := B.returns
  have hts := atoms_spec (ws := wsX6_sail) B.pre
  have hown : s.vm.findClass RX6 = some m.cls := findClass_of_methodNamed B.named
  have hlocks := B.notSynchronized
  subst hsz
  have hD := hD0.self (sz := s.heap.size)
  generalize hAe : va_A (kMd cI cJ md md_page md_pageMany md_end md_ships md_rocks md_rockBits md_day md_isHired md_sails md_seasRead md_kinds md_ills md_cells md_sailed md_must md_seenMany md_sights md_seedNow md_cellsThen md_keptSea md_keptDay md_keptHired md_keptSails md_keptSeen md_keptKinds md_keptIlls md_keptCells md_keptSailed md_keptSights md_hash) s.heap.size = A at hD hst ⊢
  have hA : ∀ q : Nat, s.heap.size ≤ q → A q := fun q h => by rw [← hAe]; exact Or.inr h
  have hS : va_S A s.heap s.heap [] := va_S.rf
  generalize hE : (fX6_sail md_ships md_rockBits md_day md_isHired md_sails md_kinds md_ills md_cells md_sailed s_ by_) = RES
  generalize hQ : MQ below (va_Qi (fun (r : Int32) (_ : Unit) => r = (RES.1)) (fun u : Unit => gB (dC, dI) cI cJ A (kMd cI cJ md md_page md_pageMany md_end md_ships md_rocks md_rockBits md_day md_isHired (RES.2.2.2) md_seasRead md_kinds md_ills (RES.2.1) (RES.2.2.1) md_must md_seenMany md_sights md_seedNow md_cellsThen md_keptSea md_keptDay md_keptHired md_keptSails md_keptSeen md_keptKinds md_keptIlls md_keptCells md_keptSailed md_keptSights md_hash)) A) ([.ref (md 0), .int s_, .int by_] : List Value).toArray s 0 0 A = Q
  have hl := lv_entry ([.ref (md 0), .int s_, .int by_] : List Value) (n := 3) (Nat.le_of_ble_eq_true rfl)
  rw [lg_entry_eq]
  generalize (lg_sl ([.ref (md 0), .int s_, .int by_] : List Value) ++ List.replicate (3 - (lg_sl ([.ref (md 0), .int s_, .int by_] : List Value)).length) Slot.unset).toArray = ls at hl ⊢
  have hl : lv_has ls 3 [(0, .ref (md 0)), (1, .int s_), (2, .int by_)] := hl
  have in_X6 : ∀ w ∈ u_ws RX6 TX6 30, w ∈ wsX6_sail := fun _ h => List.mem_cons_of_mem _ (List.mem_append_right _ h)
  have t_constantLong_RX6_162_4 := hts (.constantLong RX6 162 (4)) (List.mem_of_getElem? (i := 1) rfl)
  have t_fieldLink_RX6_116_FourLodgersModel_sails_I := hts (.fieldLink RX6 116 "FourLodgersModel" "sails" "I") (List.mem_of_getElem? (i := 2) rfl)
  have t_fieldLink_RX6_19_FourLodgersModel_cells_I := hts (.fieldLink RX6 19 "FourLodgersModel" "cells" "[I") (List.mem_of_getElem? (i := 3) rfl)
  have t_fieldLink_RX6_22_FourLodgersModel_sailed_I := hts (.fieldLink RX6 22 "FourLodgersModel" "sailed" "[I") (List.mem_of_getElem? (i := 4) rfl)
  have i_m104 : (-104 : Int32).toInt = -104 := by decide
  have i_m103 : (-103 : Int32).toInt = -103 := by decide
  have i_m101 : (-101 : Int32).toInt = -101 := by decide
  have i_0 : (0 : Int32).toInt = 0 := by decide
  have i_1 : (1 : Int32).toInt = 1 := by decide
  have i_999 : (999 : Int32).toInt = 999 := by decide
  rw [fX6_sail] at hE
  refine lv_aload_n hx hb dX6_sail_0 rfl (lv_at hl 0 rfl) ?_
  refine lv_iload_n hx hb dX6_sail_1 rfl (lv_at hl 1 rfl) ?_
  refine rcVi (As := [.int s_]) (rest := []) ⟨hx, hb, hml, hown, hts⟩ (kX6_isShip l dC dI cI cJ md md_page md_pageMany md_end md_ships md_rocks md_rockBits md_day md_isHired md_sails md_seasRead md_kinds md_ills md_cells md_sailed md_must md_seenMany md_sights md_seedNow md_cellsThen md_keptSea md_keptDay md_keptHired md_keptSails md_keptSeen md_keptKinds md_keptIlls md_keptCells md_keptSailed md_keptSights md_hash s_) (cwV 1 hts gX6_sail_X6_isShip rfl rfl rfl (by decide +kernel) ⟨Nat.le_of_ble_eq_true rfl, Nat.le_of_ble_eq_true rfl⟩) hK hP hst hS [0, 1, 2, 3, 4, 5, 6, 7, 8, 9, 10, 11, 12, 13] rfl 0 rfl rfl rfl hl.1 rfl (Nat.le_of_ble_eq_true rfl) dX6_sail_2 ⟨Nat.zero_le _, Nat.zero_le _⟩ (fun r w_1 => ?_)
  obtain ⟨rfl, nb_2⟩ := w_1
  refine lv_if_eq (tgt := 20) hx hb dX6_sail_5 (by decide) (fun c_5 => ?_) (fun c_5 => ?_)
  · rw [if_pos c_5] at hE
    refine lv_bipush (v := (-101 : Int32)) hx hb dX6_sail_20 (by decide) ?_
    subst hE
    rw [← hQ]
    exact W.iret hx hb hr (fun t ht hW => ⟨⟨_, (), rfl, rfl, by rw [ht]; exact hP, va_K.moved hW.alike hK, hD⟩, hS.F ht⟩) hS.2.2 dX6_sail_22
  · rw [if_neg c_5] at hE
    refine lv_iload_n hx hb dX6_sail_8 rfl (lv_at hl 2 rfl) ?_
    refine lv_i2l hx hb dX6_sail_9 rfl ?_
    refine lv_lconst (v := (0 : Int64)) hx hb dX6_sail_10 (by decide) ?_
    refine lv_ldc2 hx hb hown t_constantLong_RX6_162_4 dX6_sail_11 ?_
    refine rcSi (As := [.long by_.toInt64, .long (0 : Int64), .long (4 : Int64)]) (rest := []) ⟨hx, hb, hml, hown, hts⟩ (kX6_in l dC dI cI cJ by_.toInt64 (0 : Int64) (4 : Int64)) (va_cwS 3 hts gX6_sail_X6_in rfl rfl rfl (by decide +kernel) ⟨Nat.le_of_ble_eq_true rfl, Nat.le_of_ble_eq_true rfl⟩) hK hP hst hS [] rfl rfl hl.1 rfl (Nat.le_of_ble_eq_true rfl) dX6_sail_14 ⟨Nat.zero_le _, Nat.zero_le _⟩ (fun r w_3 => ?_)
    obtain ⟨w_3, nb_4⟩ := w_3; rw [w_3] at nb_4 ⊢
    refine lv_if_ne (tgt := 23) hx hb dX6_sail_17 (by decide) (fun c_17 => ?_) (fun c_17 => ?_)
    · rw [if_neg c_17] at hE
      refine lv_aload_n hx hb dX6_sail_23 rfl (lv_at hl 0 rfl) ?_
      refine lv_iload_n hx hb dX6_sail_24 rfl (lv_at hl 1 rfl) ?_
      refine rcVi (As := [.int s_]) (rest := []) ⟨hx, hb, hml, hown, hts⟩ (kX6_maySail l dC dI cI cJ md md_page md_pageMany md_end md_ships md_rocks md_rockBits md_day md_isHired md_sails md_seasRead md_kinds md_ills md_cells md_sailed md_must md_seenMany md_sights md_seedNow md_cellsThen md_keptSea md_keptDay md_keptHired md_keptSails md_keptSeen md_keptKinds md_keptIlls md_keptCells md_keptSailed md_keptSights md_hash s_ (ms_in c_5 p_u p_t)) (cwV 1 hts gX6_sail_X6_maySail rfl rfl rfl (by decide +kernel) ⟨Nat.le_of_ble_eq_true rfl, Nat.le_of_ble_eq_true rfl⟩) hK hP hst hS [0, 1, 2, 3, 4, 5, 6, 7, 8, 9, 10, 11, 12, 13] rfl 0 rfl rfl rfl hl.1 rfl (Nat.le_of_ble_eq_true rfl) dX6_sail_25 ⟨Nat.zero_le _, Nat.zero_le _⟩ (fun r w_5 => ?_)
      subst w_5
      refine lv_iload_n hx hb dX6_sail_28 rfl (lv_at hl 2 rfl) ?_
      refine lv_ishr hx hb dX6_sail_29 ?_
      refine lv_iconst (v := (1 : Int32)) hx hb dX6_sail_30 (by decide) ?_
      refine lv_iand hx hb dX6_sail_31 ?_
      refine lv_if_ne (tgt := 38) hx hb dX6_sail_32 (by decide) (fun c_32 => ?_) (fun c_32 => ?_)
      · rw [if_neg c_32] at hE
        refine lv_aload_n hx hb dX6_sail_38 rfl (lv_at hl 0 rfl) ?_
        refine va_get (D := (dC, dI)) (ci := 6) (v := .int md_sails) (C := RX6) (T := TX6) (N := 30) hx hb hts in_X6 hown hK hP 0 rfl rfl 8 (by decide) t_fieldLink_RX6_116_FourLodgersModel_sails_I (fun _ h9 => h9) rfl dX6_sail_39 ?_
        refine lv_sipush (v := (999 : Int32)) hx hb dX6_sail_42 (by decide) ?_
        refine lv_icmp_ne (tgt := 51) hx hb dX6_sail_45 (by decide) (fun c_45 => ?_) (fun c_45 => ?_)
        · have e_45 := mt Int32.toInt_inj.mp c_45
          rw [if_neg c_45] at hE
          refine lv_aload_n hx hb dX6_sail_51 rfl (lv_at hl 0 rfl) ?_
          refine va_get (D := (dC, dI)) (ci := 6) (v := .ref (md 4)) (C := RX6) (T := TX6) (N := 30) hx hb hts in_X6 hown hK hP 0 rfl rfl 12 (by decide) t_fieldLink_RX6_19_FourLodgersModel_cells_I (fun _ h9 => h9) rfl dX6_sail_52 ?_
          refine lv_iload_n hx hb dX6_sail_55 rfl (lv_at hl 1 rfl) ?_
          refine lv_aload_n hx hb dX6_sail_56 rfl (lv_at hl 0 rfl) ?_
          refine lv_aload_n hx hb dX6_sail_57 rfl (lv_at hl 0 rfl) ?_
          refine va_get (D := (dC, dI)) (ci := 6) (v := .ref (md 4)) (C := RX6) (T := TX6) (N := 30) hx hb hts in_X6 hown hK hP 0 rfl rfl 12 (by decide) t_fieldLink_RX6_19_FourLodgersModel_cells_I (fun _ h9 => h9) rfl dX6_sail_58 ?_
          refine lv_iload_n hx hb dX6_sail_61 rfl (lv_at hl 1 rfl) ?_
          refine va_iald hx hb hK hP 4 0 rfl rfl (i := s_) (ms_in c_5 p_u p_t) dX6_sail_62 ?_
          refine lv_iload_n hx hb dX6_sail_63 rfl (lv_at hl 2 rfl) ?_
          refine rcVi (As := [.int (md_cells s_.toNatClampNeg), .int by_]) (rest := [.int s_, .ref (md 4)]) ⟨hx, hb, hml, hown, hts⟩ (kX6_leads l dC dI cI cJ md md_page md_pageMany md_end md_ships md_rocks md_rockBits md_day md_isHired md_sails md_seasRead md_kinds md_ills md_cells md_sailed md_must md_seenMany md_sights md_seedNow md_cellsThen md_keptSea md_keptDay md_keptHired md_keptSails md_keptSeen md_keptKinds md_keptIlls md_keptCells md_keptSailed md_keptSights md_hash (md_cells s_.toNatClampNeg) by_) (cwV 2 hts gX6_sail_X6_leads rfl rfl rfl (by decide +kernel) ⟨Nat.le_of_ble_eq_true rfl, Nat.le_of_ble_eq_true rfl⟩) hK hP hst hS [0, 1, 2, 3, 4, 5, 6, 7, 8, 9, 10, 11, 12, 13] rfl 0 rfl rfl rfl hl.1 rfl (Nat.le_of_ble_eq_true rfl) dX6_sail_64 ⟨Nat.zero_le _, Nat.zero_le _⟩ (fun r w_6 => ?_)
          subst w_6
          refine va_iast hx hb hK hP hD hS 4 0 rfl rfl (i := s_) (ms_in c_5 p_u p_t) dX6_sail_67 (fun H locs hP hD hS => ?_)
          replace hP : va_P (dC, dI) vwCl (kMd cI cJ md md_page md_pageMany md_end md_ships md_rocks md_rockBits md_day md_isHired md_sails md_seasRead md_kinds md_ills (upd md_cells s_.toNatClampNeg (fX6_leads md_rockBits (md_cells s_.toNatClampNeg) by_)) md_sailed md_must md_seenMany md_sights md_seedNow md_cellsThen md_keptSea md_keptDay md_keptHired md_keptSails md_keptSeen md_keptKinds md_keptIlls md_keptCells md_keptSailed md_keptSights md_hash) H := hP
          replace hD : va_D A (kMd cI cJ md md_page md_pageMany md_end md_ships md_rocks md_rockBits md_day md_isHired md_sails md_seasRead md_kinds md_ills (upd md_cells s_.toNatClampNeg (fX6_leads md_rockBits (md_cells s_.toNatClampNeg) by_)) md_sailed md_must md_seenMany md_sights md_seedNow md_cellsThen md_keptSea md_keptDay md_keptHired md_keptSails md_keptSeen md_keptKinds md_keptIlls md_keptCells md_keptSailed md_keptSights md_hash) := hD
          refine lv_aload_n hx hb dX6_sail_68 rfl (lv_at hl 0 rfl) ?_
          refine va_get (D := (dC, dI)) (ci := 6) (v := .ref (md 5)) (C := RX6) (T := TX6) (N := 30) hx hb hts in_X6 hown hK hP 0 rfl rfl 13 (by decide) t_fieldLink_RX6_22_FourLodgersModel_sailed_I (fun _ h9 => h9) rfl dX6_sail_69 ?_
          refine lv_iload_n hx hb dX6_sail_72 rfl (lv_at hl 1 rfl) ?_
          refine lv_iconst (v := (1 : Int32)) hx hb dX6_sail_73 (by decide) ?_
          refine va_iast hx hb hK hP hD hS 5 0 rfl rfl (i := s_) (ms_in c_5 p_u p_t) dX6_sail_74 (fun H locs hP hD hS => ?_)
          replace hP : va_P (dC, dI) vwCl (kMd cI cJ md md_page md_pageMany md_end md_ships md_rocks md_rockBits md_day md_isHired md_sails md_seasRead md_kinds md_ills (upd md_cells s_.toNatClampNeg (fX6_leads md_rockBits (md_cells s_.toNatClampNeg) by_)) (upd md_sailed s_.toNatClampNeg (1 : Int32)) md_must md_seenMany md_sights md_seedNow md_cellsThen md_keptSea md_keptDay md_keptHired md_keptSails md_keptSeen md_keptKinds md_keptIlls md_keptCells md_keptSailed md_keptSights md_hash) H := hP
          replace hD : va_D A (kMd cI cJ md md_page md_pageMany md_end md_ships md_rocks md_rockBits md_day md_isHired md_sails md_seasRead md_kinds md_ills (upd md_cells s_.toNatClampNeg (fX6_leads md_rockBits (md_cells s_.toNatClampNeg) by_)) (upd md_sailed s_.toNatClampNeg (1 : Int32)) md_must md_seenMany md_sights md_seedNow md_cellsThen md_keptSea md_keptDay md_keptHired md_keptSails md_keptSeen md_keptKinds md_keptIlls md_keptCells md_keptSailed md_keptSights md_hash) := hD
          refine lv_aload_n hx hb dX6_sail_75 rfl (lv_at hl 0 rfl) ?_
          refine lv_dup hx hb dX6_sail_76 rfl ?_
          refine va_get (D := (dC, dI)) (ci := 6) (v := .int md_sails) (C := RX6) (T := TX6) (N := 30) hx hb hts in_X6 hown hK hP 0 rfl rfl 8 (by decide) t_fieldLink_RX6_116_FourLodgersModel_sails_I (fun _ h9 => h9) rfl dX6_sail_77 ?_
          refine lv_iconst (v := (1 : Int32)) hx hb dX6_sail_80 (by decide) ?_
          refine lv_iadd hx hb dX6_sail_81 ?_
          refine va_put (D := (dC, dI)) (ci := 6) (v := .int (md_sails + (1 : Int32))) (ty := .int) (C := RX6) (T := TX6) (N := 30) hx hb hts in_X6 tyX6 tyX6_ok nmX6 hown hK hP hD hS 0 rfl rfl 8 (by decide) t_fieldLink_RX6_116_FourLodgersModel_sails_I (fun _ h9 => h9) rfl (by decide +kernel) rfl rfl (Nat.le_of_ble_eq_true rfl) dX6_sail_82 (fun H locs hP hD hS => ?_)
          replace hP : va_P (dC, dI) vwCl (kMd cI cJ md md_page md_pageMany md_end md_ships md_rocks md_rockBits md_day md_isHired (md_sails + (1 : Int32)) md_seasRead md_kinds md_ills (upd md_cells s_.toNatClampNeg (fX6_leads md_rockBits (md_cells s_.toNatClampNeg) by_)) (upd md_sailed s_.toNatClampNeg (1 : Int32)) md_must md_seenMany md_sights md_seedNow md_cellsThen md_keptSea md_keptDay md_keptHired md_keptSails md_keptSeen md_keptKinds md_keptIlls md_keptCells md_keptSailed md_keptSights md_hash) H := hP
          replace hD : va_D A (kMd cI cJ md md_page md_pageMany md_end md_ships md_rocks md_rockBits md_day md_isHired (md_sails + (1 : Int32)) md_seasRead md_kinds md_ills (upd md_cells s_.toNatClampNeg (fX6_leads md_rockBits (md_cells s_.toNatClampNeg) by_)) (upd md_sailed s_.toNatClampNeg (1 : Int32)) md_must md_seenMany md_sights md_seedNow md_cellsThen md_keptSea md_keptDay md_keptHired md_keptSails md_keptSeen md_keptKinds md_keptIlls md_keptCells md_keptSailed md_keptSights md_hash) := hD
          refine lv_aload_n hx hb dX6_sail_85 rfl (lv_at hl 0 rfl) ?_
          refine va_get (D := (dC, dI)) (ci := 6) (v := .ref (md 4)) (C := RX6) (T := TX6) (N := 30) hx hb hts in_X6 hown hK hP 0 rfl rfl 12 (by decide) t_fieldLink_RX6_19_FourLodgersModel_cells_I (fun _ h9 => h9) rfl dX6_sail_86 ?_
          refine lv_iload_n hx hb dX6_sail_89 rfl (lv_at hl 1 rfl) ?_
          refine va_iald hx hb hK hP 4 0 rfl rfl (i := s_) (ms_in c_5 p_u p_t) dX6_sail_90 ?_
          subst hE
          rw [← hQ]
          exact W.iret hx hb hr (fun t ht hW => ⟨⟨_, (), rfl, rfl, by rw [ht]; exact hP, va_K.moved hW.alike hK, hD⟩, hS.F ht⟩) hS.2.2 dX6_sail_91
        · have e_45 := congrArg Int32.toInt c_45
          rw [if_pos c_45] at hE
          refine lv_bipush (v := (-104 : Int32)) hx hb dX6_sail_48 (by decide) ?_
          subst hE
          rw [← hQ]
          exact W.iret hx hb hr (fun t ht hW => ⟨⟨_, (), rfl, rfl, by rw [ht]; exact hP, va_K.moved hW.alike hK, hD⟩, hS.F ht⟩) hS.2.2 dX6_sail_50
      · rw [if_pos c_32] at hE
        refine lv_bipush (v := (-103 : Int32)) hx hb dX6_sail_35 (by decide) ?_
        subst hE
        rw [← hQ]
        exact W.iret hx hb hr (fun t ht hW => ⟨⟨_, (), rfl, rfl, by rw [ht]; exact hP, va_K.moved hW.alike hK, hD⟩, hS.F ht⟩) hS.2.2 dX6_sail_37
    · rw [if_pos c_17] at hE
      refine lv_bipush (v := (-101 : Int32)) hx hb dX6_sail_20 (by decide) ?_
      subst hE
      rw [← hQ]
      exact W.iret hx hb hr (fun t ht hW => ⟨⟨_, (), rfl, rfl, by rw [ht]; exact hP, va_K.moved hW.alike hK, hD⟩, hS.F ht⟩) hS.2.2 dX6_sail_22
def fX6_day (md_ships : Int32) (md_day : Int32) (md_sailed : Nat → Int32) : Int32 × Int32 × (Nat → Int32) := (if (fX6_lacks md_ships) = (0 : Int32) then (if md_day = (999 : Int32) then ((-104 : Int32), md_day, md_sailed) else ((md_day + (1 : Int32)), (md_day + (1 : Int32)), (upd (upd (upd md_sailed (0 : Int32).toNatClampNeg (0 : Int32)) (1 : Int32).toNatClampNeg (0 : Int32)) (2 : Int32).toNatClampNeg (0 : Int32)))) else ((-103 : Int32), md_day, md_sailed))
set_option maxHeartbeats 4000000 in
set_option maxRecDepth 100000 in
theorem kX6_day (l : Launch) (dC : Nat → ClassId) (dI : Nat → Nat → Nat) (cI cJ : ClassId) (sz : Nat) (md : Nat → Nat) (md_page : Nat → Int32) (md_pageMany : Int32) (md_end : Int32) (md_ships : Int32) (md_rocks : Int32) (md_rockBits : Int64) (md_day : Int32) (md_isHired : Int32) (md_sails : Int32) (md_seasRead : Int32) (md_kinds : Nat → Int32) (md_ills : Nat → Int32) (md_cells : Nat → Int32) (md_sailed : Nat → Int32) (md_must : Nat → Int64) (md_seenMany : Int32) (md_sights : Nat → Int32) (md_seedNow : Int32) (md_cellsThen : Nat → Int32) (md_keptSea : Int32) (md_keptDay : Int32) (md_keptHired : Int32) (md_keptSails : Int32) (md_keptSeen : Int32) (md_keptKinds : Nat → Int32) (md_keptIlls : Nat → Int32) (md_keptCells : Nat → Int32) (md_keptSailed : Nat → Int32) (md_keptSights : Nat → Int32) (md_hash : Int64) : Met l yX6_day wsX6_day ({ frames := 1, cells := 0, slots := 0, locals := 20 } : Room) (gW (dC, dI) cI cJ sz (kMd cI cJ md md_page md_pageMany md_end md_ships md_rocks md_rockBits md_day md_isHired md_sails md_seasRead md_kinds md_ills md_cells md_sailed md_must md_seenMany md_sights md_seedNow md_cellsThen md_keptSea md_keptDay md_keptHired md_keptSails md_keptSeen md_keptKinds md_keptIlls md_keptCells md_keptSailed md_keptSights md_hash) ([.ref (md 0)] : List Value)) (va_Qi (fun (r : Int32) (_ : Unit) => r = ((fX6_day md_ships md_day md_sailed).1)) (fun u : Unit => gB (dC, dI) cI cJ (va_A (kMd cI cJ md md_page md_pageMany md_end md_ships md_rocks md_rockBits md_day md_isHired md_sails md_seasRead md_kinds md_ills md_cells md_sailed md_must md_seenMany md_sights md_seedNow md_cellsThen md_keptSea md_keptDay md_keptHired md_keptSails md_keptSeen md_keptKinds md_keptIlls md_keptCells md_keptSailed md_keptSights md_hash) sz) (kMd cI cJ md md_page md_pageMany md_end md_ships md_rocks md_rockBits ((fX6_day md_ships md_day md_sailed).2.1) md_isHired md_sails md_seasRead md_kinds md_ills md_cells ((fX6_day md_ships md_day md_sailed).2.2) md_must md_seenMany md_sights md_seedNow md_cellsThen md_keptSea md_keptDay md_keptHired md_keptSails md_keptSeen md_keptKinds md_keptIlls md_keptCells md_keptSailed md_keptSights md_hash)) (va_A (kMd cI cJ md md_page md_pageMany md_end md_ships md_rocks md_rockBits md_day md_isHired md_sails md_seasRead md_kinds md_ills md_cells md_sailed md_must md_seenMany md_sights md_seedNow md_cellsThen md_keptSea md_keptDay md_keptHired md_keptSails md_keptSeen md_keptKinds md_keptIlls md_keptCells md_keptSailed md_keptSights md_hash) sz)) 0 0 (va_A (kMd cI cJ md md_page md_pageMany md_end md_ships md_rocks md_rockBits md_day md_isHired md_sails md_seasRead md_kinds md_ills md_cells md_sailed md_must md_seenMany md_sights md_seedNow md_cellsThen md_keptSea md_keptDay md_keptHired md_keptSails md_keptSeen md_keptKinds md_keptIlls md_keptCells md_keptSailed md_keptSights md_hash) sz) := by
  refine Met.ofW (cc := cX6_day) (maxL := 1) (ret := (some .int)) (by decide) rfl ?_
  intro p e s m args below meth c s₁ B hml hv
  obtain ⟨rfl, hsz, hP, hK, hD0, hst⟩ := hv
  have hx := B.exec
  have hb := B.bytes
  have hr := B.returns
  have hts := atoms_spec (ws := wsX6_day) B.pre
  have hown : s.vm.findClass RX6 = some m.cls := findClass_of_methodNamed B.named
  have hlocks := B.notSynchronized
  subst hsz
  have hD := hD0.self (sz := s.heap.size)
  generalize hAe : va_A (kMd cI cJ md md_page md_pageMany md_end md_ships md_rocks md_rockBits md_day md_isHired md_sails md_seasRead md_kinds md_ills md_cells md_sailed md_must md_seenMany md_sights md_seedNow md_cellsThen md_keptSea md_keptDay md_keptHired md_keptSails md_keptSeen md_keptKinds md_keptIlls md_keptCells md_keptSailed md_keptSights md_hash) s.heap.size = A at hD hst ⊢
  have hA : ∀ q : Nat, s.heap.size ≤ q → A q := fun q h => by rw [← hAe]; exact Or.inr h
  have hS : va_S A s.heap s.heap [] := va_S.rf
  generalize hE : (fX6_day md_ships md_day md_sailed) = RES
  generalize hQ : MQ below (va_Qi (fun (r : Int32) (_ : Unit) => r = (RES.1)) (fun u : Unit => gB (dC, dI) cI cJ A (kMd cI cJ md md_page md_pageMany md_end md_ships md_rocks md_rockBits (RES.2.1) md_isHired md_sails md_seasRead md_kinds md_ills md_cells (RES.2.2) md_must md_seenMany md_sights md_seedNow md_cellsThen md_keptSea md_keptDay md_keptHired md_keptSails md_keptSeen md_keptKinds md_keptIlls md_keptCells md_keptSailed md_keptSights md_hash)) A) ([.ref (md 0)] : List Value).toArray s 0 0 A = Q
  have hl := lv_entry ([.ref (md 0)] : List Value) (n := 1) (Nat.le_of_ble_eq_true rfl)
  rw [lg_entry_eq]
  generalize (lg_sl ([.ref (md 0)] : List Value) ++ List.replicate (1 - (lg_sl ([.ref (md 0)] : List Value)).length) Slot.unset).toArray = ls at hl ⊢
  have hl : lv_has ls 1 [(0, .ref (md 0))] := hl
  have in_X6 : ∀ w ∈ u_ws RX6 TX6 30, w ∈ wsX6_day := fun _ h => List.mem_cons_of_mem _ (List.mem_append_right _ h)
  have t_fieldLink_RX6_109_FourLodgersModel_day_I := hts (.fieldLink RX6 109 "FourLodgersModel" "day" "I") (List.mem_of_getElem? (i := 1) rfl)
  have t_fieldLink_RX6_22_FourLodgersModel_sailed_I := hts (.fieldLink RX6 22 "FourLodgersModel" "sailed" "[I") (List.mem_of_getElem? (i := 2) rfl)
  have i_m104 : (-104 : Int32).toInt = -104 := by decide
  have i_m103 : (-103 : Int32).toInt = -103 := by decide
  have i_0 : (0 : Int32).toInt = 0 := by decide
  have i_1 : (1 : Int32).toInt = 1 := by decide
  have i_2 : (2 : Int32).toInt = 2 := by decide
  have i_999 : (999 : Int32).toInt = 999 := by decide
  rw [fX6_day] at hE
  refine lv_aload_n hx hb dX6_day_0 rfl (lv_at hl 0 rfl) ?_
  refine rcVi (As := []) (rest := []) ⟨hx, hb, hml, hown, hts⟩ (kX6_lacks l dC dI cI cJ md md_page md_pageMany md_end md_ships md_rocks md_rockBits md_day md_isHired md_sails md_seasRead md_kinds md_ills md_cells md_sailed md_must md_seenMany md_sights md_seedNow md_cellsThen md_keptSea md_keptDay md_keptHired md_keptSails md_keptSeen md_keptKinds md_keptIlls md_keptCells md_keptSailed md_keptSights md_hash) (cwV 0 hts gX6_day_X6_lacks rfl rfl rfl (by decide +kernel) ⟨Nat.le_of_ble_eq_true rfl, Nat.le_of_ble_eq_true rfl⟩) hK hP hst hS [0, 1, 2, 3, 4, 5, 6, 7, 8, 9, 10, 11, 12, 13] rfl 0 rfl rfl rfl hl.1 rfl (Nat.le_of_ble_eq_true rfl) dX6_day_1 ⟨Nat.zero_le _, Nat.zero_le _⟩ (fun r w_1 => ?_)
  obtain ⟨rfl, nb_2⟩ := w_1
  refine lv_if_eq (tgt := 10) hx hb dX6_day_4 (by decide) (fun c_4 => ?_) (fun c_4 => ?_)
  · rw [if_pos c_4] at hE
    refine lv_aload_n hx hb dX6_day_10 rfl (lv_at hl 0 rfl) ?_
    refine va_get (D := (dC, dI)) (ci := 6) (v := .int md_day) (C := RX6) (T := TX6) (N := 30) hx hb hts in_X6 hown hK hP 0 rfl rfl 6 (by decide) t_fieldLink_RX6_109_FourLodgersModel_day_I (fun _ h9 => h9) rfl dX6_day_11 ?_
    refine lv_sipush (v := (999 : Int32)) hx hb dX6_day_14 (by decide) ?_
    refine lv_icmp_ne (tgt := 23) hx hb dX6_day_17 (by decide) (fun c_17 => ?_) (fun c_17 => ?_)
    · have e_17 := mt Int32.toInt_inj.mp c_17
      rw [if_neg c_17] at hE
      refine lv_aload_n hx hb dX6_day_23 rfl (lv_at hl 0 rfl) ?_
      refine lv_dup hx hb dX6_day_24 rfl ?_
      refine va_get (D := (dC, dI)) (ci := 6) (v := .int md_day) (C := RX6) (T := TX6) (N := 30) hx hb hts in_X6 hown hK hP 0 rfl rfl 6 (by decide) t_fieldLink_RX6_109_FourLodgersModel_day_I (fun _ h9 => h9) rfl dX6_day_25 ?_
      refine lv_iconst (v := (1 : Int32)) hx hb dX6_day_28 (by decide) ?_
      refine lv_iadd hx hb dX6_day_29 ?_
      refine va_put (D := (dC, dI)) (ci := 6) (v := .int (md_day + (1 : Int32))) (ty := .int) (C := RX6) (T := TX6) (N := 30) hx hb hts in_X6 tyX6 tyX6_ok nmX6 hown hK hP hD hS 0 rfl rfl 6 (by decide) t_fieldLink_RX6_109_FourLodgersModel_day_I (fun _ h9 => h9) rfl (by decide +kernel) rfl rfl (Nat.le_of_ble_eq_true rfl) dX6_day_30 (fun H locs hP hD hS => ?_)
      replace hP : va_P (dC, dI) vwCl (kMd cI cJ md md_page md_pageMany md_end md_ships md_rocks md_rockBits (md_day + (1 : Int32)) md_isHired md_sails md_seasRead md_kinds md_ills md_cells md_sailed md_must md_seenMany md_sights md_seedNow md_cellsThen md_keptSea md_keptDay md_keptHired md_keptSails md_keptSeen md_keptKinds md_keptIlls md_keptCells md_keptSailed md_keptSights md_hash) H := hP
      replace hD : va_D A (kMd cI cJ md md_page md_pageMany md_end md_ships md_rocks md_rockBits (md_day + (1 : Int32)) md_isHired md_sails md_seasRead md_kinds md_ills md_cells md_sailed md_must md_seenMany md_sights md_seedNow md_cellsThen md_keptSea md_keptDay md_keptHired md_keptSails md_keptSeen md_keptKinds md_keptIlls md_keptCells md_keptSailed md_keptSights md_hash) := hD
      refine lv_aload_n hx hb dX6_day_33 rfl (lv_at hl 0 rfl) ?_
      refine va_get (D := (dC, dI)) (ci := 6) (v := .ref (md 5)) (C := RX6) (T := TX6) (N := 30) hx hb hts in_X6 hown hK hP 0 rfl rfl 13 (by decide) t_fieldLink_RX6_22_FourLodgersModel_sailed_I (fun _ h9 => h9) rfl dX6_day_34 ?_
      refine lv_iconst (v := (0 : Int32)) hx hb dX6_day_37 (by decide) ?_
      refine lv_iconst (v := (0 : Int32)) hx hb dX6_day_38 (by decide) ?_
      refine va_iast hx hb hK hP hD hS 5 0 rfl rfl (i := (0 : Int32)) (by first | assumption | exact vp_in_iff.mpr ⟨by omega, by omega⟩ | omega | decide) dX6_day_39 (fun H locs hP hD hS => ?_)
      replace hP : va_P (dC, dI) vwCl (kMd cI cJ md md_page md_pageMany md_end md_ships md_rocks md_rockBits (md_day + (1 : Int32)) md_isHired md_sails md_seasRead md_kinds md_ills md_cells (upd md_sailed (0 : Int32).toNatClampNeg (0 : Int32)) md_must md_seenMany md_sights md_seedNow md_cellsThen md_keptSea md_keptDay md_keptHired md_keptSails md_keptSeen md_keptKinds md_keptIlls md_keptCells md_keptSailed md_keptSights md_hash) H := hP
      replace hD : va_D A (kMd cI cJ md md_page md_pageMany md_end md_ships md_rocks md_rockBits (md_day + (1 : Int32)) md_isHired md_sails md_seasRead md_kinds md_ills md_cells (upd md_sailed (0 : Int32).toNatClampNeg (0 : Int32)) md_must md_seenMany md_sights md_seedNow md_cellsThen md_keptSea md_keptDay md_keptHired md_keptSails md_keptSeen md_keptKinds md_keptIlls md_keptCells md_keptSailed md_keptSights md_hash) := hD
      refine lv_aload_n hx hb dX6_day_40 rfl (lv_at hl 0 rfl) ?_
      refine va_get (D := (dC, dI)) (ci := 6) (v := .ref (md 5)) (C := RX6) (T := TX6) (N := 30) hx hb hts in_X6 hown hK hP 0 rfl rfl 13 (by decide) t_fieldLink_RX6_22_FourLodgersModel_sailed_I (fun _ h9 => h9) rfl dX6_day_41 ?_
      refine lv_iconst (v := (1 : Int32)) hx hb dX6_day_44 (by decide) ?_
      refine lv_iconst (v := (0 : Int32)) hx hb dX6_day_45 (by decide) ?_
      refine va_iast hx hb hK hP hD hS 5 0 rfl rfl (i := (1 : Int32)) (by first | assumption | exact vp_in_iff.mpr ⟨by omega, by omega⟩ | omega | decide) dX6_day_46 (fun H locs hP hD hS => ?_)
      replace hP : va_P (dC, dI) vwCl (kMd cI cJ md md_page md_pageMany md_end md_ships md_rocks md_rockBits (md_day + (1 : Int32)) md_isHired md_sails md_seasRead md_kinds md_ills md_cells (upd (upd md_sailed (0 : Int32).toNatClampNeg (0 : Int32)) (1 : Int32).toNatClampNeg (0 : Int32)) md_must md_seenMany md_sights md_seedNow md_cellsThen md_keptSea md_keptDay md_keptHired md_keptSails md_keptSeen md_keptKinds md_keptIlls md_keptCells md_keptSailed md_keptSights md_hash) H := hP
      replace hD : va_D A (kMd cI cJ md md_page md_pageMany md_end md_ships md_rocks md_rockBits (md_day + (1 : Int32)) md_isHired md_sails md_seasRead md_kinds md_ills md_cells (upd (upd md_sailed (0 : Int32).toNatClampNeg (0 : Int32)) (1 : Int32).toNatClampNeg (0 : Int32)) md_must md_seenMany md_sights md_seedNow md_cellsThen md_keptSea md_keptDay md_keptHired md_keptSails md_keptSeen md_keptKinds md_keptIlls md_keptCells md_keptSailed md_keptSights md_hash) := hD
      refine lv_aload_n hx hb dX6_day_47 rfl (lv_at hl 0 rfl) ?_
      refine va_get (D := (dC, dI)) (ci := 6) (v := .ref (md 5)) (C := RX6) (T := TX6) (N := 30) hx hb hts in_X6 hown hK hP 0 rfl rfl 13 (by decide) t_fieldLink_RX6_22_FourLodgersModel_sailed_I (fun _ h9 => h9) rfl dX6_day_48 ?_
      refine lv_iconst (v := (2 : Int32)) hx hb dX6_day_51 (by decide) ?_
      refine lv_iconst (v := (0 : Int32)) hx hb dX6_day_52 (by decide) ?_
      refine va_iast hx hb hK hP hD hS 5 0 rfl rfl (i := (2 : Int32)) (by first | assumption | exact vp_in_iff.mpr ⟨by omega, by omega⟩ | omega | decide) dX6_day_53 (fun H locs hP hD hS => ?_)
      replace hP : va_P (dC, dI) vwCl (kMd cI cJ md md_page md_pageMany md_end md_ships md_rocks md_rockBits (md_day + (1 : Int32)) md_isHired md_sails md_seasRead md_kinds md_ills md_cells (upd (upd (upd md_sailed (0 : Int32).toNatClampNeg (0 : Int32)) (1 : Int32).toNatClampNeg (0 : Int32)) (2 : Int32).toNatClampNeg (0 : Int32)) md_must md_seenMany md_sights md_seedNow md_cellsThen md_keptSea md_keptDay md_keptHired md_keptSails md_keptSeen md_keptKinds md_keptIlls md_keptCells md_keptSailed md_keptSights md_hash) H := hP
      replace hD : va_D A (kMd cI cJ md md_page md_pageMany md_end md_ships md_rocks md_rockBits (md_day + (1 : Int32)) md_isHired md_sails md_seasRead md_kinds md_ills md_cells (upd (upd (upd md_sailed (0 : Int32).toNatClampNeg (0 : Int32)) (1 : Int32).toNatClampNeg (0 : Int32)) (2 : Int32).toNatClampNeg (0 : Int32)) md_must md_seenMany md_sights md_seedNow md_cellsThen md_keptSea md_keptDay md_keptHired md_keptSails md_keptSeen md_keptKinds md_keptIlls md_keptCells md_keptSailed md_keptSights md_hash) := hD
      refine lv_aload_n hx hb dX6_day_54 rfl (lv_at hl 0 rfl) ?_
      refine va_get (D := (dC, dI)) (ci := 6) (v := .int (md_day + (1 : Int32))) (C := RX6) (T := TX6) (N := 30) hx hb hts in_X6 hown hK hP 0 rfl rfl 6 (by decide) t_fieldLink_RX6_109_FourLodgersModel_day_I (fun _ h9 => h9) rfl dX6_day_55 ?_
      subst hE
      rw [← hQ]
      exact W.iret hx hb hr (fun t ht hW => ⟨⟨_, (), rfl, rfl, by rw [ht]; exact hP, va_K.moved hW.alike hK, hD⟩, hS.F ht⟩) hS.2.2 dX6_day_58
    · have e_17 := congrArg Int32.toInt c_17
      rw [if_pos c_17] at hE
      refine lv_bipush (v := (-104 : Int32)) hx hb dX6_day_20 (by decide) ?_
      subst hE
      rw [← hQ]
      exact W.iret hx hb hr (fun t ht hW => ⟨⟨_, (), rfl, rfl, by rw [ht]; exact hP, va_K.moved hW.alike hK, hD⟩, hS.F ht⟩) hS.2.2 dX6_day_22
  · rw [if_neg c_4] at hE
    refine lv_bipush (v := (-103 : Int32)) hx hb dX6_day_7 (by decide) ?_
    subst hE
    rw [← hQ]
    exact W.iret hx hb hr (fun t ht hW => ⟨⟨_, (), rfl, rfl, by rw [ht]; exact hP, va_K.moved hW.alike hK, hD⟩, hS.F ht⟩) hS.2.2 dX6_day_9
def fX6_ail (md_ships : Int32) (md_day : Int32) (md_ills : Nat → Int32) (k_ : Int32) (days : Int32) : Int32 × (Nat → Int32) := (if (fX6_isLodger md_ships k_) = (0 : Int32) then ((-101 : Int32), md_ills) else (if (fX6_in days.toInt64 (0 : Int64) (40 : Int64)) = (0 : Int32) then ((-102 : Int32), md_ills) else ((fX6_illFor md_day md_ills k_), (upd md_ills k_.toNatClampNeg (md_day + days)))))
set_option maxHeartbeats 4000000 in
set_option maxRecDepth 100000 in
theorem kX6_ail (l : Launch) (dC : Nat → ClassId) (dI : Nat → Nat → Nat) (cI cJ : ClassId) (sz : Nat) (md : Nat → Nat) (md_page : Nat → Int32) (md_pageMany : Int32) (md_end : Int32) (md_ships : Int32) (md_rocks : Int32) (md_rockBits : Int64) (md_day : Int32) (md_isHired : Int32) (md_sails : Int32) (md_seasRead : Int32) (md_kinds : Nat → Int32) (md_ills : Nat → Int32) (md_cells : Nat → Int32) (md_sailed : Nat → Int32) (md_must : Nat → Int64) (md_seenMany : Int32) (md_sights : Nat → Int32) (md_seedNow : Int32) (md_cellsThen : Nat → Int32) (md_keptSea : Int32) (md_keptDay : Int32) (md_keptHired : Int32) (md_keptSails : Int32) (md_keptSeen : Int32) (md_keptKinds : Nat → Int32) (md_keptIlls : Nat → Int32) (md_keptCells : Nat → Int32) (md_keptSailed : Nat → Int32) (md_keptSights : Nat → Int32) (md_hash : Int64) (k_ : Int32) (days : Int32) : Met l yX6_ail wsX6_ail ({ frames := 2, cells := 0, slots := 0, locals := 46 } : Room) (gW (dC, dI) cI cJ sz (kMd cI cJ md md_page md_pageMany md_end md_ships md_rocks md_rockBits md_day md_isHired md_sails md_seasRead md_kinds md_ills md_cells md_sailed md_must md_seenMany md_sights md_seedNow md_cellsThen md_keptSea md_keptDay md_keptHired md_keptSails md_keptSeen md_keptKinds md_keptIlls md_keptCells md_keptSailed md_keptSights md_hash) ([.ref (md 0), .int k_, .int days] : List Value)) (va_Qi (fun (r : Int32) (_ : Unit) => r = ((fX6_ail md_ships md_day md_ills k_ days).1)) (fun u : Unit => gB (dC, dI) cI cJ (va_A (kMd cI cJ md md_page md_pageMany md_end md_ships md_rocks md_rockBits md_day md_isHired md_sails md_seasRead md_kinds md_ills md_cells md_sailed md_must md_seenMany md_sights md_seedNow md_cellsThen md_keptSea md_keptDay md_keptHired md_keptSails md_keptSeen md_keptKinds md_keptIlls md_keptCells md_keptSailed md_keptSights md_hash) sz) (kMd cI cJ md md_page md_pageMany md_end md_ships md_rocks md_rockBits md_day md_isHired md_sails md_seasRead md_kinds ((fX6_ail md_ships md_day md_ills k_ days).2) md_cells md_sailed md_must md_seenMany md_sights md_seedNow md_cellsThen md_keptSea md_keptDay md_keptHired md_keptSails md_keptSeen md_keptKinds md_keptIlls md_keptCells md_keptSailed md_keptSights md_hash)) (va_A (kMd cI cJ md md_page md_pageMany md_end md_ships md_rocks md_rockBits md_day md_isHired md_sails md_seasRead md_kinds md_ills md_cells md_sailed md_must md_seenMany md_sights md_seedNow md_cellsThen md_keptSea md_keptDay md_keptHired md_keptSails md_keptSeen md_keptKinds md_keptIlls md_keptCells md_keptSailed md_keptSights md_hash) sz)) 0 0 (va_A (kMd cI cJ md md_page md_pageMany md_end md_ships md_rocks md_rockBits md_day md_isHired md_sails md_seasRead md_kinds md_ills md_cells md_sailed md_must md_seenMany md_sights md_seedNow md_cellsThen md_keptSea md_keptDay md_keptHired md_keptSails md_keptSeen md_keptKinds md_keptIlls md_keptCells md_keptSailed md_keptSights md_hash) sz) := by
  refine Met.ofW (cc := cX6_ail) (maxL := 4) (ret := (some .int)) (by decide) rfl ?_
  intro p e s m args below meth c s₁ B hml hv
  obtain ⟨rfl, hsz, hP, hK, hD0, hst⟩ := hv
  have hx := B.exec
  have hb := B.bytes
  have hr := B.returns
  have hts := atoms_spec (ws := wsX6_ail) B.pre
  have hown : s.vm.findClass RX6 = some m.cls := findClass_of_methodNamed B.named
  have hlocks := B.notSynchronized
  subst hsz
  have hD := hD0.self (sz := s.heap.size)
  generalize hAe : va_A (kMd cI cJ md md_page md_pageMany md_end md_ships md_rocks md_rockBits md_day md_isHired md_sails md_seasRead md_kinds md_ills md_cells md_sailed md_must md_seenMany md_sights md_seedNow md_cellsThen md_keptSea md_keptDay md_keptHired md_keptSails md_keptSeen md_keptKinds md_keptIlls md_keptCells md_keptSailed md_keptSights md_hash) s.heap.size = A at hD hst ⊢
  have hA : ∀ q : Nat, s.heap.size ≤ q → A q := fun q h => by rw [← hAe]; exact Or.inr h
  have hS : va_S A s.heap s.heap [] := va_S.rf
  generalize hE : (fX6_ail md_ships md_day md_ills k_ days) = RES
  generalize hQ : MQ below (va_Qi (fun (r : Int32) (_ : Unit) => r = (RES.1)) (fun u : Unit => gB (dC, dI) cI cJ A (kMd cI cJ md md_page md_pageMany md_end md_ships md_rocks md_rockBits md_day md_isHired md_sails md_seasRead md_kinds (RES.2) md_cells md_sailed md_must md_seenMany md_sights md_seedNow md_cellsThen md_keptSea md_keptDay md_keptHired md_keptSails md_keptSeen md_keptKinds md_keptIlls md_keptCells md_keptSailed md_keptSights md_hash)) A) ([.ref (md 0), .int k_, .int days] : List Value).toArray s 0 0 A = Q
  have hl := lv_entry ([.ref (md 0), .int k_, .int days] : List Value) (n := 4) (Nat.le_of_ble_eq_true rfl)
  rw [lg_entry_eq]
  generalize (lg_sl ([.ref (md 0), .int k_, .int days] : List Value) ++ List.replicate (4 - (lg_sl ([.ref (md 0), .int k_, .int days] : List Value)).length) Slot.unset).toArray = ls at hl ⊢
  have hl : lv_has ls 4 [(0, .ref (md 0)), (1, .int k_), (2, .int days)] := hl
  have in_X6 : ∀ w ∈ u_ws RX6 TX6 30, w ∈ wsX6_ail := fun _ h => List.mem_cons_of_mem _ (List.mem_append_right _ h)
  have t_constantLong_RX6_182_40 := hts (.constantLong RX6 182 (40)) (List.mem_of_getElem? (i := 1) rfl)
  have t_fieldLink_RX6_109_FourLodgersModel_day_I := hts (.fieldLink RX6 109 "FourLodgersModel" "day" "I") (List.mem_of_getElem? (i := 3) rfl)
  have t_fieldLink_RX6_16_FourLodgersModel_ills_I := hts (.fieldLink RX6 16 "FourLodgersModel" "ills" "[I") (List.mem_of_getElem? (i := 2) rfl)
  have i_m102 : (-102 : Int32).toInt = -102 := by decide
  have i_m101 : (-101 : Int32).toInt = -101 := by decide
  have i_0 : (0 : Int32).toInt = 0 := by decide
  rw [fX6_ail] at hE
  refine lv_aload_n hx hb dX6_ail_0 rfl (lv_at hl 0 rfl) ?_
  refine lv_iload_n hx hb dX6_ail_1 rfl (lv_at hl 1 rfl) ?_
  refine rcVi (As := [.int k_]) (rest := []) ⟨hx, hb, hml, hown, hts⟩ (kX6_isLodger l dC dI cI cJ md md_page md_pageMany md_end md_ships md_rocks md_rockBits md_day md_isHired md_sails md_seasRead md_kinds md_ills md_cells md_sailed md_must md_seenMany md_sights md_seedNow md_cellsThen md_keptSea md_keptDay md_keptHired md_keptSails md_keptSeen md_keptKinds md_keptIlls md_keptCells md_keptSailed md_keptSights md_hash k_) (cwV 1 hts gX6_ail_X6_isLodger rfl rfl rfl (by decide +kernel) ⟨Nat.le_of_ble_eq_true rfl, Nat.le_of_ble_eq_true rfl⟩) hK hP hst hS [0, 1, 2, 3, 4, 5, 6, 7, 8, 9, 10, 11, 12, 13] rfl 0 rfl rfl rfl hl.1 rfl (Nat.le_of_ble_eq_true rfl) dX6_ail_2 ⟨Nat.zero_le _, Nat.zero_le _⟩ (fun r w_1 => ?_)
  obtain ⟨rfl, nb_2⟩ := w_1
  refine lv_if_ne (tgt := 11) hx hb dX6_ail_5 (by decide) (fun c_5 => ?_) (fun c_5 => ?_)
  · rw [if_neg c_5] at hE
    refine lv_iload_n hx hb dX6_ail_11 rfl (lv_at hl 2 rfl) ?_
    refine lv_i2l hx hb dX6_ail_12 rfl ?_
    refine lv_lconst (v := (0 : Int64)) hx hb dX6_ail_13 (by decide) ?_
    refine lv_ldc2 hx hb hown t_constantLong_RX6_182_40 dX6_ail_14 ?_
    refine rcSi (As := [.long days.toInt64, .long (0 : Int64), .long (40 : Int64)]) (rest := []) ⟨hx, hb, hml, hown, hts⟩ (kX6_in l dC dI cI cJ days.toInt64 (0 : Int64) (40 : Int64)) (va_cwS 3 hts gX6_ail_X6_in rfl rfl rfl (by decide +kernel) ⟨Nat.le_of_ble_eq_true rfl, Nat.le_of_ble_eq_true rfl⟩) hK hP hst hS [] rfl rfl hl.1 rfl (Nat.le_of_ble_eq_true rfl) dX6_ail_17 ⟨Nat.zero_le _, Nat.zero_le _⟩ (fun r w_3 => ?_)
    obtain ⟨w_3, nb_4⟩ := w_3; rw [w_3] at nb_4 ⊢
    refine lv_if_ne (tgt := 26) hx hb dX6_ail_20 (by decide) (fun c_20 => ?_) (fun c_20 => ?_)
    · rw [if_neg c_20] at hE
      refine lv_aload_n hx hb dX6_ail_26 rfl (lv_at hl 0 rfl) ?_
      refine lv_iload_n hx hb dX6_ail_27 rfl (lv_at hl 1 rfl) ?_
      refine rcVi (As := [.int k_]) (rest := []) ⟨hx, hb, hml, hown, hts⟩ (kX6_illFor l dC dI cI cJ md md_page md_pageMany md_end md_ships md_rocks md_rockBits md_day md_isHired md_sails md_seasRead md_kinds md_ills md_cells md_sailed md_must md_seenMany md_sights md_seedNow md_cellsThen md_keptSea md_keptDay md_keptHired md_keptSails md_keptSeen md_keptKinds md_keptIlls md_keptCells md_keptSailed md_keptSights md_hash k_ (ml_in c_5)) (cwV 1 hts gX6_ail_X6_illFor rfl rfl rfl (by decide +kernel) ⟨Nat.le_of_ble_eq_true rfl, Nat.le_of_ble_eq_true rfl⟩) hK hP hst hS [0, 1, 2, 3, 4, 5, 6, 7, 8, 9, 10, 11, 12, 13] rfl 0 rfl rfl rfl hl.1 rfl (Nat.le_of_ble_eq_true rfl) dX6_ail_28 ⟨Nat.zero_le _, Nat.zero_le _⟩ (fun r w_5 => ?_)
      subst w_5
      refine lv_istore_n (lv' := [(3, .int (fX6_illFor md_day md_ills k_)), (0, .ref (md 0)), (1, .int k_), (2, .int days)]) hx hb dX6_ail_31 rfl hl (by decide) rfl (fun ls hl => ?_)
      refine lv_aload_n hx hb dX6_ail_32 rfl (lv_at hl 1 rfl) ?_
      refine va_get (D := (dC, dI)) (ci := 6) (v := .ref (md 3)) (C := RX6) (T := TX6) (N := 30) hx hb hts in_X6 hown hK hP 0 rfl rfl 11 (by decide) t_fieldLink_RX6_16_FourLodgersModel_ills_I (fun _ h9 => h9) rfl dX6_ail_33 ?_
      refine lv_iload_n hx hb dX6_ail_36 rfl (lv_at hl 2 rfl) ?_
      refine lv_aload_n hx hb dX6_ail_37 rfl (lv_at hl 1 rfl) ?_
      refine va_get (D := (dC, dI)) (ci := 6) (v := .int md_day) (C := RX6) (T := TX6) (N := 30) hx hb hts in_X6 hown hK hP 0 rfl rfl 6 (by decide) t_fieldLink_RX6_109_FourLodgersModel_day_I (fun _ h9 => h9) rfl dX6_ail_38 ?_
      refine lv_iload_n hx hb dX6_ail_41 rfl (lv_at hl 3 rfl) ?_
      refine lv_iadd hx hb dX6_ail_42 ?_
      refine va_iast hx hb hK hP hD hS 3 0 rfl rfl (i := k_) (ml_in c_5) dX6_ail_43 (fun H locs hP hD hS => ?_)
      replace hP : va_P (dC, dI) vwCl (kMd cI cJ md md_page md_pageMany md_end md_ships md_rocks md_rockBits md_day md_isHired md_sails md_seasRead md_kinds (upd md_ills k_.toNatClampNeg (md_day + days)) md_cells md_sailed md_must md_seenMany md_sights md_seedNow md_cellsThen md_keptSea md_keptDay md_keptHired md_keptSails md_keptSeen md_keptKinds md_keptIlls md_keptCells md_keptSailed md_keptSights md_hash) H := hP
      replace hD : va_D A (kMd cI cJ md md_page md_pageMany md_end md_ships md_rocks md_rockBits md_day md_isHired md_sails md_seasRead md_kinds (upd md_ills k_.toNatClampNeg (md_day + days)) md_cells md_sailed md_must md_seenMany md_sights md_seedNow md_cellsThen md_keptSea md_keptDay md_keptHired md_keptSails md_keptSeen md_keptKinds md_keptIlls md_keptCells md_keptSailed md_keptSights md_hash) := hD
      refine lv_iload_n hx hb dX6_ail_44 rfl (lv_at hl 0 rfl) ?_
      subst hE
      rw [← hQ]
      exact W.iret hx hb hr (fun t ht hW => ⟨⟨_, (), rfl, rfl, by rw [ht]; exact hP, va_K.moved hW.alike hK, hD⟩, hS.F ht⟩) hS.2.2 dX6_ail_45
    · rw [if_pos c_20] at hE
      refine lv_bipush (v := (-102 : Int32)) hx hb dX6_ail_23 (by decide) ?_
      subst hE
      rw [← hQ]
      exact W.iret hx hb hr (fun t ht hW => ⟨⟨_, (), rfl, rfl, by rw [ht]; exact hP, va_K.moved hW.alike hK, hD⟩, hS.F ht⟩) hS.2.2 dX6_ail_25
  · rw [if_pos c_5] at hE
    refine lv_bipush (v := (-101 : Int32)) hx hb dX6_ail_8 (by decide) ?_
    subst hE
    rw [← hQ]
    exact W.iret hx hb hr (fun t ht hW => ⟨⟨_, (), rfl, rfl, by rw [ht]; exact hP, va_K.moved hW.alike hK, hD⟩, hS.F ht⟩) hS.2.2 dX6_ail_10
def fX6_let (md_ships : Int32) (md_kinds : Nat → Int32) (k_ : Int32) (kind : Int32) : Int32 × (Nat → Int32) := (if (fX6_isLodger md_ships k_) = (0 : Int32) then ((-101 : Int32), md_kinds) else (if (fX6_in kind.toInt64 (0 : Int64) (4 : Int64)) = (0 : Int32) then ((-102 : Int32), md_kinds) else ((md_kinds k_.toNatClampNeg), (upd md_kinds k_.toNatClampNeg kind))))
set_option maxHeartbeats 4000000 in
set_option maxRecDepth 100000 in
theorem kX6_let (l : Launch) (dC : Nat → ClassId) (dI : Nat → Nat → Nat) (cI cJ : ClassId) (sz : Nat) (md : Nat → Nat) (md_page : Nat → Int32) (md_pageMany : Int32) (md_end : Int32) (md_ships : Int32) (md_rocks : Int32) (md_rockBits : Int64) (md_day : Int32) (md_isHired : Int32) (md_sails : Int32) (md_seasRead : Int32) (md_kinds : Nat → Int32) (md_ills : Nat → Int32) (md_cells : Nat → Int32) (md_sailed : Nat → Int32) (md_must : Nat → Int64) (md_seenMany : Int32) (md_sights : Nat → Int32) (md_seedNow : Int32) (md_cellsThen : Nat → Int32) (md_keptSea : Int32) (md_keptDay : Int32) (md_keptHired : Int32) (md_keptSails : Int32) (md_keptSeen : Int32) (md_keptKinds : Nat → Int32) (md_keptIlls : Nat → Int32) (md_keptCells : Nat → Int32) (md_keptSailed : Nat → Int32) (md_keptSights : Nat → Int32) (md_hash : Int64) (k_ : Int32) (kind : Int32) : Met l yX6_let wsX6_let ({ frames := 2, cells := 0, slots := 0, locals := 46 } : Room) (gW (dC, dI) cI cJ sz (kMd cI cJ md md_page md_pageMany md_end md_ships md_rocks md_rockBits md_day md_isHired md_sails md_seasRead md_kinds md_ills md_cells md_sailed md_must md_seenMany md_sights md_seedNow md_cellsThen md_keptSea md_keptDay md_keptHired md_keptSails md_keptSeen md_keptKinds md_keptIlls md_keptCells md_keptSailed md_keptSights md_hash) ([.ref (md 0), .int k_, .int kind] : List Value)) (va_Qi (fun (r : Int32) (_ : Unit) => r = ((fX6_let md_ships md_kinds k_ kind).1)) (fun u : Unit => gB (dC, dI) cI cJ (va_A (kMd cI cJ md md_page md_pageMany md_end md_ships md_rocks md_rockBits md_day md_isHired md_sails md_seasRead md_kinds md_ills md_cells md_sailed md_must md_seenMany md_sights md_seedNow md_cellsThen md_keptSea md_keptDay md_keptHired md_keptSails md_keptSeen md_keptKinds md_keptIlls md_keptCells md_keptSailed md_keptSights md_hash) sz) (kMd cI cJ md md_page md_pageMany md_end md_ships md_rocks md_rockBits md_day md_isHired md_sails md_seasRead ((fX6_let md_ships md_kinds k_ kind).2) md_ills md_cells md_sailed md_must md_seenMany md_sights md_seedNow md_cellsThen md_keptSea md_keptDay md_keptHired md_keptSails md_keptSeen md_keptKinds md_keptIlls md_keptCells md_keptSailed md_keptSights md_hash)) (va_A (kMd cI cJ md md_page md_pageMany md_end md_ships md_rocks md_rockBits md_day md_isHired md_sails md_seasRead md_kinds md_ills md_cells md_sailed md_must md_seenMany md_sights md_seedNow md_cellsThen md_keptSea md_keptDay md_keptHired md_keptSails md_keptSeen md_keptKinds md_keptIlls md_keptCells md_keptSailed md_keptSights md_hash) sz)) 0 0 (va_A (kMd cI cJ md md_page md_pageMany md_end md_ships md_rocks md_rockBits md_day md_isHired md_sails md_seasRead md_kinds md_ills md_cells md_sailed md_must md_seenMany md_sights md_seedNow md_cellsThen md_keptSea md_keptDay md_keptHired md_keptSails md_keptSeen md_keptKinds md_keptIlls md_keptCells md_keptSailed md_keptSights md_hash) sz) := by
  refine Met.ofW (cc := cX6_let) (maxL := 4) (ret := (some .int)) (by decide) rfl ?_
  intro p e s m args below meth c s₁ B hml hv
  obtain ⟨rfl, hsz, hP, hK, hD0, hst⟩ := hv
  have hx := B.exec
  have hb := B.bytes
  have hr := B.returns
  have hts := atoms_spec (ws := wsX6_let) B.pre
  have hown : s.vm.findClass RX6 = some m.cls := findClass_of_methodNamed B.named
  have hlocks := B.notSynchronized
  subst hsz
  have hD := hD0.self (sz := s.heap.size)
  generalize hAe : va_A (kMd cI cJ md md_page md_pageMany md_end md_ships md_rocks md_rockBits md_day md_isHired md_sails md_seasRead md_kinds md_ills md_cells md_sailed md_must md_seenMany md_sights md_seedNow md_cellsThen md_keptSea md_keptDay md_keptHired md_keptSails md_keptSeen md_keptKinds md_keptIlls md_keptCells md_keptSailed md_keptSights md_hash) s.heap.size = A at hD hst ⊢
  have hA : ∀ q : Nat, s.heap.size ≤ q → A q := fun q h => by rw [← hAe]; exact Or.inr h
  have hS : va_S A s.heap s.heap [] := va_S.rf
  generalize hE : (fX6_let md_ships md_kinds k_ kind) = RES
  generalize hQ : MQ below (va_Qi (fun (r : Int32) (_ : Unit) => r = (RES.1)) (fun u : Unit => gB (dC, dI) cI cJ A (kMd cI cJ md md_page md_pageMany md_end md_ships md_rocks md_rockBits md_day md_isHired md_sails md_seasRead (RES.2) md_ills md_cells md_sailed md_must md_seenMany md_sights md_seedNow md_cellsThen md_keptSea md_keptDay md_keptHired md_keptSails md_keptSeen md_keptKinds md_keptIlls md_keptCells md_keptSailed md_keptSights md_hash)) A) ([.ref (md 0), .int k_, .int kind] : List Value).toArray s 0 0 A = Q
  have hl := lv_entry ([.ref (md 0), .int k_, .int kind] : List Value) (n := 4) (Nat.le_of_ble_eq_true rfl)
  rw [lg_entry_eq]
  generalize (lg_sl ([.ref (md 0), .int k_, .int kind] : List Value) ++ List.replicate (4 - (lg_sl ([.ref (md 0), .int k_, .int kind] : List Value)).length) Slot.unset).toArray = ls at hl ⊢
  have hl : lv_has ls 4 [(0, .ref (md 0)), (1, .int k_), (2, .int kind)] := hl
  have in_X6 : ∀ w ∈ u_ws RX6 TX6 30, w ∈ wsX6_let := fun _ h => List.mem_cons_of_mem _ (List.mem_append_right _ h)
  have t_constantLong_RX6_162_4 := hts (.constantLong RX6 162 (4)) (List.mem_of_getElem? (i := 1) rfl)
  have t_fieldLink_RX6_13_FourLodgersModel_kinds_I := hts (.fieldLink RX6 13 "FourLodgersModel" "kinds" "[I") (List.mem_of_getElem? (i := 2) rfl)
  have i_m102 : (-102 : Int32).toInt = -102 := by decide
  have i_m101 : (-101 : Int32).toInt = -101 := by decide
  have i_0 : (0 : Int32).toInt = 0 := by decide
  rw [fX6_let] at hE
  refine lv_aload_n hx hb dX6_let_0 rfl (lv_at hl 0 rfl) ?_
  refine lv_iload_n hx hb dX6_let_1 rfl (lv_at hl 1 rfl) ?_
  refine rcVi (As := [.int k_]) (rest := []) ⟨hx, hb, hml, hown, hts⟩ (kX6_isLodger l dC dI cI cJ md md_page md_pageMany md_end md_ships md_rocks md_rockBits md_day md_isHired md_sails md_seasRead md_kinds md_ills md_cells md_sailed md_must md_seenMany md_sights md_seedNow md_cellsThen md_keptSea md_keptDay md_keptHired md_keptSails md_keptSeen md_keptKinds md_keptIlls md_keptCells md_keptSailed md_keptSights md_hash k_) (cwV 1 hts gX6_let_X6_isLodger rfl rfl rfl (by decide +kernel) ⟨Nat.le_of_ble_eq_true rfl, Nat.le_of_ble_eq_true rfl⟩) hK hP hst hS [0, 1, 2, 3, 4, 5, 6, 7, 8, 9, 10, 11, 12, 13] rfl 0 rfl rfl rfl hl.1 rfl (Nat.le_of_ble_eq_true rfl) dX6_let_2 ⟨Nat.zero_le _, Nat.zero_le _⟩ (fun r w_1 => ?_)
  obtain ⟨rfl, nb_2⟩ := w_1
  refine lv_if_ne (tgt := 11) hx hb dX6_let_5 (by decide) (fun c_5 => ?_) (fun c_5 => ?_)
  · rw [if_neg c_5] at hE
    refine lv_iload_n hx hb dX6_let_11 rfl (lv_at hl 2 rfl) ?_
    refine lv_i2l hx hb dX6_let_12 rfl ?_
    refine lv_lconst (v := (0 : Int64)) hx hb dX6_let_13 (by decide) ?_
    refine lv_ldc2 hx hb hown t_constantLong_RX6_162_4 dX6_let_14 ?_
    refine rcSi (As := [.long kind.toInt64, .long (0 : Int64), .long (4 : Int64)]) (rest := []) ⟨hx, hb, hml, hown, hts⟩ (kX6_in l dC dI cI cJ kind.toInt64 (0 : Int64) (4 : Int64)) (va_cwS 3 hts gX6_let_X6_in rfl rfl rfl (by decide +kernel) ⟨Nat.le_of_ble_eq_true rfl, Nat.le_of_ble_eq_true rfl⟩) hK hP hst hS [] rfl rfl hl.1 rfl (Nat.le_of_ble_eq_true rfl) dX6_let_17 ⟨Nat.zero_le _, Nat.zero_le _⟩ (fun r w_3 => ?_)
    obtain ⟨w_3, nb_4⟩ := w_3; rw [w_3] at nb_4 ⊢
    refine lv_if_ne (tgt := 26) hx hb dX6_let_20 (by decide) (fun c_20 => ?_) (fun c_20 => ?_)
    · rw [if_neg c_20] at hE
      refine lv_aload_n hx hb dX6_let_26 rfl (lv_at hl 0 rfl) ?_
      refine va_get (D := (dC, dI)) (ci := 6) (v := .ref (md 2)) (C := RX6) (T := TX6) (N := 30) hx hb hts in_X6 hown hK hP 0 rfl rfl 10 (by decide) t_fieldLink_RX6_13_FourLodgersModel_kinds_I (fun _ h9 => h9) rfl dX6_let_27 ?_
      refine lv_iload_n hx hb dX6_let_30 rfl (lv_at hl 1 rfl) ?_
      refine va_iald hx hb hK hP 2 0 rfl rfl (i := k_) (ml_in c_5) dX6_let_31 ?_
      refine lv_istore_n (lv' := [(3, .int (md_kinds k_.toNatClampNeg)), (0, .ref (md 0)), (1, .int k_), (2, .int kind)]) hx hb dX6_let_32 rfl hl (by decide) rfl (fun ls hl => ?_)
      refine lv_aload_n hx hb dX6_let_33 rfl (lv_at hl 1 rfl) ?_
      refine va_get (D := (dC, dI)) (ci := 6) (v := .ref (md 2)) (C := RX6) (T := TX6) (N := 30) hx hb hts in_X6 hown hK hP 0 rfl rfl 10 (by decide) t_fieldLink_RX6_13_FourLodgersModel_kinds_I (fun _ h9 => h9) rfl dX6_let_34 ?_
      refine lv_iload_n hx hb dX6_let_37 rfl (lv_at hl 2 rfl) ?_
      refine lv_iload_n hx hb dX6_let_38 rfl (lv_at hl 3 rfl) ?_
      refine va_iast hx hb hK hP hD hS 2 0 rfl rfl (i := k_) (ml_in c_5) dX6_let_39 (fun H locs hP hD hS => ?_)
      replace hP : va_P (dC, dI) vwCl (kMd cI cJ md md_page md_pageMany md_end md_ships md_rocks md_rockBits md_day md_isHired md_sails md_seasRead (upd md_kinds k_.toNatClampNeg kind) md_ills md_cells md_sailed md_must md_seenMany md_sights md_seedNow md_cellsThen md_keptSea md_keptDay md_keptHired md_keptSails md_keptSeen md_keptKinds md_keptIlls md_keptCells md_keptSailed md_keptSights md_hash) H := hP
      replace hD : va_D A (kMd cI cJ md md_page md_pageMany md_end md_ships md_rocks md_rockBits md_day md_isHired md_sails md_seasRead (upd md_kinds k_.toNatClampNeg kind) md_ills md_cells md_sailed md_must md_seenMany md_sights md_seedNow md_cellsThen md_keptSea md_keptDay md_keptHired md_keptSails md_keptSeen md_keptKinds md_keptIlls md_keptCells md_keptSailed md_keptSights md_hash) := hD
      refine lv_iload_n hx hb dX6_let_40 rfl (lv_at hl 0 rfl) ?_
      subst hE
      rw [← hQ]
      exact W.iret hx hb hr (fun t ht hW => ⟨⟨_, (), rfl, rfl, by rw [ht]; exact hP, va_K.moved hW.alike hK, hD⟩, hS.F ht⟩) hS.2.2 dX6_let_41
    · rw [if_pos c_20] at hE
      refine lv_bipush (v := (-102 : Int32)) hx hb dX6_let_23 (by decide) ?_
      subst hE
      rw [← hQ]
      exact W.iret hx hb hr (fun t ht hW => ⟨⟨_, (), rfl, rfl, by rw [ht]; exact hP, va_K.moved hW.alike hK, hD⟩, hS.F ht⟩) hS.2.2 dX6_let_25
  · rw [if_pos c_5] at hE
    refine lv_bipush (v := (-101 : Int32)) hx hb dX6_let_8 (by decide) ?_
    subst hE
    rw [← hQ]
    exact W.iret hx hb hr (fun t ht hW => ⟨⟨_, (), rfl, rfl, by rw [ht]; exact hP, va_K.moved hW.alike hK, hD⟩, hS.F ht⟩) hS.2.2 dX6_let_10
def fX6_can (md_ships : Int32) (md_rockBits : Int64) (md_day : Int32) (md_isHired : Int32) (md_kinds : Nat → Int32) (md_ills : Nat → Int32) (md_cells : Nat → Int32) (md_sailed : Nat → Int32) (s_ : Int32) (c_ : Int32) (ahead : Int32) : Int32 := (if (fX6_isShip md_ships s_) = (0 : Int32) then (-101 : Int32) else (if (fX6_isCell md_ships c_) = (0 : Int32) then (-101 : Int32) else (if (fX6_in ahead.toInt64 (0 : Int64) (40 : Int64)) = (0 : Int32) then (-102 : Int32) else (((fX6_reach md_rockBits md_day md_isHired md_kinds md_ills md_cells md_sailed s_ ahead) >>> (c_.toInt64 &&& 63)) &&& (1 : Int64)).toInt32)))
set_option maxHeartbeats 4000000 in
set_option maxRecDepth 100000 in
theorem kX6_can (l : Launch) (dC : Nat → ClassId) (dI : Nat → Nat → Nat) (cI cJ : ClassId) (md : Nat → Nat) (md_page : Nat → Int32) (md_pageMany : Int32) (md_end : Int32) (md_ships : Int32) (md_rocks : Int32) (md_rockBits : Int64) (md_day : Int32) (md_isHired : Int32) (md_sails : Int32) (md_seasRead : Int32) (md_kinds : Nat → Int32) (md_ills : Nat → Int32) (md_cells : Nat → Int32) (md_sailed : Nat → Int32) (md_must : Nat → Int64) (md_seenMany : Int32) (md_sights : Nat → Int32) (md_seedNow : Int32) (md_cellsThen : Nat → Int32) (md_keptSea : Int32) (md_keptDay : Int32) (md_keptHired : Int32) (md_keptSails : Int32) (md_keptSeen : Int32) (md_keptKinds : Nat → Int32) (md_keptIlls : Nat → Int32) (md_keptCells : Nat → Int32) (md_keptSailed : Nat → Int32) (md_keptSights : Nat → Int32) (md_hash : Int64) (s_ : Int32) (c_ : Int32) (ahead : Int32) (p_t : md_ships.toInt ≤ 3) (p_u : 0 ≤ md_ships.toInt) : Met l yX6_can wsX6_can ({ frames := 5, cells := 0, slots := 0, locals := 126 } : Room) (gR (dC, dI) cI cJ (kMd cI cJ md md_page md_pageMany md_end md_ships md_rocks md_rockBits md_day md_isHired md_sails md_seasRead md_kinds md_ills md_cells md_sailed md_must md_seenMany md_sights md_seedNow md_cellsThen md_keptSea md_keptDay md_keptHired md_keptSails md_keptSeen md_keptKinds md_keptIlls md_keptCells md_keptSailed md_keptSights md_hash) ([.ref (md 0), .int s_, .int c_, .int ahead] : List Value)) (vp_Si (fun r => r = (fX6_can md_ships md_rockBits md_day md_isHired md_kinds md_ills md_cells md_sailed s_ c_ ahead))) 0 0 (fun _ => False) := by
  refine Met.ofW (cc := cX6_can) (maxL := 4) (ret := (some .int)) (by decide) rfl ?_
  intro p e s m args below meth c s₁ B hml hv
  obtain ⟨rfl, hP, hK, hst⟩ := hv
  have hx := B.exec
  have hb := B.bytes
  have hr := B.returns
  have hts := atoms_spec (ws := wsX6_can) B.pre
  have hown : s.vm.findClass RX6 = some m.cls := findClass_of_methodNamed B.named
  have hlocks := B.notSynchronized
  have hS : va_S (fun _ => False) s.heap s.heap [] := va_S.rf
  generalize hE : (fX6_can md_ships md_rockBits md_day md_isHired md_kinds md_ills md_cells md_sailed s_ c_ ahead) = RES
  generalize hQ : MQ below (vp_Si (fun r => r = RES)) ([.ref (md 0), .int s_, .int c_, .int ahead] : List Value).toArray s 0 0 (fun _ => False) = Q
  have hl := lv_entry ([.ref (md 0), .int s_, .int c_, .int ahead] : List Value) (n := 4) (Nat.le_of_ble_eq_true rfl)
  rw [lg_entry_eq]
  generalize (lg_sl ([.ref (md 0), .int s_, .int c_, .int ahead] : List Value) ++ List.replicate (4 - (lg_sl ([.ref (md 0), .int s_, .int c_, .int ahead] : List Value)).length) Slot.unset).toArray = ls at hl ⊢
  have hl : lv_has ls 4 [(0, .ref (md 0)), (1, .int s_), (2, .int c_), (3, .int ahead)] := hl
  have t_constantLong_RX6_182_40 := hts (.constantLong RX6 182 (40)) (List.mem_of_getElem? (i := 1) rfl)
  have i_m102 : (-102 : Int32).toInt = -102 := by decide
  have i_m101 : (-101 : Int32).toInt = -101 := by decide
  have i_0 : (0 : Int32).toInt = 0 := by decide
  rw [fX6_can] at hE
  refine lv_aload_n hx hb dX6_can_0 rfl (lv_at hl 0 rfl) ?_
  refine lv_iload_n hx hb dX6_can_1 rfl (lv_at hl 1 rfl) ?_
  refine rcVi (As := [.int s_]) (rest := []) ⟨hx, hb, hml, hown, hts⟩ (kX6_isShip l dC dI cI cJ md md_page md_pageMany md_end md_ships md_rocks md_rockBits md_day md_isHired md_sails md_seasRead md_kinds md_ills md_cells md_sailed md_must md_seenMany md_sights md_seedNow md_cellsThen md_keptSea md_keptDay md_keptHired md_keptSails md_keptSeen md_keptKinds md_keptIlls md_keptCells md_keptSailed md_keptSights md_hash s_) (cwV 1 hts gX6_can_X6_isShip rfl rfl rfl (by decide +kernel) ⟨Nat.le_of_ble_eq_true rfl, Nat.le_of_ble_eq_true rfl⟩) hK hP hst hS [0, 1, 2, 3, 4, 5, 6, 7, 8, 9, 10, 11, 12, 13] rfl 0 rfl rfl rfl hl.1 rfl (Nat.le_of_ble_eq_true rfl) dX6_can_2 ⟨Nat.zero_le _, Nat.zero_le _⟩ (fun r w_1 => ?_)
  obtain ⟨rfl, nb_2⟩ := w_1
  refine lv_if_eq (tgt := 16) hx hb dX6_can_5 (by decide) (fun c_5 => ?_) (fun c_5 => ?_)
  · rw [if_pos c_5] at hE
    refine lv_bipush (v := (-101 : Int32)) hx hb dX6_can_16 (by decide) ?_
    subst hE
    rw [← hQ]
    exact W.iret hx hb hr (fun t ht hW => ⟨_, rfl, rfl, ht⟩) (fun q h => absurd h List.not_mem_nil) dX6_can_18
  · rw [if_neg c_5] at hE
    refine lv_aload_n hx hb dX6_can_8 rfl (lv_at hl 0 rfl) ?_
    refine lv_iload_n hx hb dX6_can_9 rfl (lv_at hl 2 rfl) ?_
    refine rcVi (As := [.int c_]) (rest := []) ⟨hx, hb, hml, hown, hts⟩ (kX6_isCell l dC dI cI cJ md md_page md_pageMany md_end md_ships md_rocks md_rockBits md_day md_isHired md_sails md_seasRead md_kinds md_ills md_cells md_sailed md_must md_seenMany md_sights md_seedNow md_cellsThen md_keptSea md_keptDay md_keptHired md_keptSails md_keptSeen md_keptKinds md_keptIlls md_keptCells md_keptSailed md_keptSights md_hash c_) (cwV 1 hts gX6_can_X6_isCell rfl rfl rfl (by decide +kernel) ⟨Nat.le_of_ble_eq_true rfl, Nat.le_of_ble_eq_true rfl⟩) hK hP hst hS [0, 1, 2, 3, 4, 5, 6, 7, 8, 9, 10, 11, 12, 13] rfl 0 rfl rfl rfl hl.1 rfl (Nat.le_of_ble_eq_true rfl) dX6_can_10 ⟨Nat.zero_le _, Nat.zero_le _⟩ (fun r w_3 => ?_)
    obtain ⟨rfl, nb_4⟩ := w_3
    refine lv_if_ne (tgt := 19) hx hb dX6_can_13 (by decide) (fun c_13 => ?_) (fun c_13 => ?_)
    · rw [if_neg c_13] at hE
      refine lv_iload_n hx hb dX6_can_19 rfl (lv_at hl 3 rfl) ?_
      refine lv_i2l hx hb dX6_can_20 rfl ?_
      refine lv_lconst (v := (0 : Int64)) hx hb dX6_can_21 (by decide) ?_
      refine lv_ldc2 hx hb hown t_constantLong_RX6_182_40 dX6_can_22 ?_
      refine rcSi (As := [.long ahead.toInt64, .long (0 : Int64), .long (40 : Int64)]) (rest := []) ⟨hx, hb, hml, hown, hts⟩ (kX6_in l dC dI cI cJ ahead.toInt64 (0 : Int64) (40 : Int64)) (va_cwS 3 hts gX6_can_X6_in rfl rfl rfl (by decide +kernel) ⟨Nat.le_of_ble_eq_true rfl, Nat.le_of_ble_eq_true rfl⟩) hK hP hst hS [] rfl rfl hl.1 rfl (Nat.le_of_ble_eq_true rfl) dX6_can_25 ⟨Nat.zero_le _, Nat.zero_le _⟩ (fun r w_5 => ?_)
      obtain ⟨w_5, nb_6⟩ := w_5; rw [w_5] at nb_6 ⊢
      refine lv_if_eq (tgt := 45) hx hb dX6_can_28 (by decide) (fun c_28 => ?_) (fun c_28 => ?_)
      · rw [if_pos c_28] at hE
        refine lv_bipush (v := (-102 : Int32)) hx hb dX6_can_45 (by decide) ?_
        subst hE
        rw [← hQ]
        exact W.iret hx hb hr (fun t ht hW => ⟨_, rfl, rfl, ht⟩) (fun q h => absurd h List.not_mem_nil) dX6_can_47
      · rw [if_neg c_28] at hE
        refine lv_aload_n hx hb dX6_can_31 rfl (lv_at hl 0 rfl) ?_
        refine lv_iload_n hx hb dX6_can_32 rfl (lv_at hl 1 rfl) ?_
        refine lv_iload_n hx hb dX6_can_33 rfl (lv_at hl 3 rfl) ?_
        refine rcVl (As := [.int s_, .int ahead]) (rest := []) ⟨hx, hb, hml, hown, hts⟩ (kX6_reach l dC dI cI cJ md md_page md_pageMany md_end md_ships md_rocks md_rockBits md_day md_isHired md_sails md_seasRead md_kinds md_ills md_cells md_sailed md_must md_seenMany md_sights md_seedNow md_cellsThen md_keptSea md_keptDay md_keptHired md_keptSails md_keptSeen md_keptKinds md_keptIlls md_keptCells md_keptSailed md_keptSights md_hash s_ ahead (ms_in c_5 p_u p_t) (in_pos (a := 0) (b := 40) (by decide) (by decide) c_28).2) (cwV 2 hts gX6_can_X6_reach rfl rfl rfl (by decide +kernel) ⟨Nat.le_of_ble_eq_true rfl, Nat.le_of_ble_eq_true rfl⟩) hK hP hst hS [0, 1, 2, 3, 4, 5, 6, 7, 8, 9, 10, 11, 12, 13] rfl 0 rfl rfl rfl hl.1 rfl (Nat.le_of_ble_eq_true rfl) dX6_can_34 ⟨Nat.zero_le _, Nat.zero_le _⟩ (fun r w_7 => ?_)
        subst w_7
        refine lv_iload_n hx hb dX6_can_37 rfl (lv_at hl 2 rfl) ?_
        refine lv_lshr hx hb dX6_can_38 rfl ?_
        refine lv_lconst (v := (1 : Int64)) hx hb dX6_can_39 (by decide) ?_
        refine lv_land hx hb dX6_can_40 ?_
        refine lv_l2i hx hb dX6_can_41 rfl ?_
        refine lv_goto (tgt := 47) hx hb dX6_can_42 (by decide) ?_
        subst hE
        rw [← hQ]
        exact W.iret hx hb hr (fun t ht hW => ⟨_, rfl, rfl, ht⟩) (fun q h => absurd h List.not_mem_nil) dX6_can_47
    · rw [if_pos c_13] at hE
      refine lv_bipush (v := (-101 : Int32)) hx hb dX6_can_16 (by decide) ?_
      subst hE
      rw [← hQ]
      exact W.iret hx hb hr (fun t ht hW => ⟨_, rfl, rfl, ht⟩) (fun q h => absurd h List.not_mem_nil) dX6_can_18
def fX6_meet_57 (md_rockBits : Int64) (md_day : Int32) (md_isHired : Int32) (md_kinds : Nat → Int32) (md_ills : Nat → Int32) : Nat → Int64 → Int64 → Nat → Int32
  | 0, _, _, _ => 0
  | n_ + 1, x3, x5, i => (if (41 : Int32) ≤ (nI i) then (-1 : Int32) else (if (x3 &&& x5) = (0 : Int64) then (fX6_meet_57 md_rockBits md_day md_isHired md_kinds md_ills n_ (fX6_goOn md_rockBits md_isHired md_kinds md_ills x3 ((md_day + (nI i)) + (1 : Int32))) (fX6_goOn md_rockBits md_isHired md_kinds md_ills x5 ((md_day + (nI i)) + (1 : Int32))) ((i + 1))) else ((nI i) + (1 : Int32))))
def fX6_meet (md_ships : Int32) (md_rockBits : Int64) (md_day : Int32) (md_isHired : Int32) (md_kinds : Nat → Int32) (md_ills : Nat → Int32) (md_cells : Nat → Int32) (md_sailed : Nat → Int32) (a_ : Int32) (b_ : Int32) : Int32 := (if (fX6_isShip md_ships a_) = (0 : Int32) then (-101 : Int32) else (if (fX6_isShip md_ships b_) = (0 : Int32) then (-101 : Int32) else (if a_ = b_ then (-101 : Int32) else (if (md_cells a_.toNatClampNeg) = (md_cells b_.toNatClampNeg) then (0 : Int32) else (fX6_meet_57 md_rockBits md_day md_isHired md_kinds md_ills 42 (fX6_first md_rockBits md_day md_isHired md_kinds md_ills md_cells md_sailed a_) (fX6_first md_rockBits md_day md_isHired md_kinds md_ills md_cells md_sailed b_) (0))))))
set_option maxHeartbeats 4000000 in
set_option maxRecDepth 100000 in
theorem kX6_meet (l : Launch) (dC : Nat → ClassId) (dI : Nat → Nat → Nat) (cI cJ : ClassId) (md : Nat → Nat) (md_page : Nat → Int32) (md_pageMany : Int32) (md_end : Int32) (md_ships : Int32) (md_rocks : Int32) (md_rockBits : Int64) (md_day : Int32) (md_isHired : Int32) (md_sails : Int32) (md_seasRead : Int32) (md_kinds : Nat → Int32) (md_ills : Nat → Int32) (md_cells : Nat → Int32) (md_sailed : Nat → Int32) (md_must : Nat → Int64) (md_seenMany : Int32) (md_sights : Nat → Int32) (md_seedNow : Int32) (md_cellsThen : Nat → Int32) (md_keptSea : Int32) (md_keptDay : Int32) (md_keptHired : Int32) (md_keptSails : Int32) (md_keptSeen : Int32) (md_keptKinds : Nat → Int32) (md_keptIlls : Nat → Int32) (md_keptCells : Nat → Int32) (md_keptSailed : Nat → Int32) (md_keptSights : Nat → Int32) (md_hash : Int64) (a_ : Int32) (b_ : Int32) (p_t : md_ships.toInt ≤ 3) (p_u : 0 ≤ md_ships.toInt) : Met l yX6_meet wsX6_meet ({ frames := 4, cells := 0, slots := 0, locals := 101 } : Room) (gR (dC, dI) cI cJ (kMd cI cJ md md_page md_pageMany md_end md_ships md_rocks md_rockBits md_day md_isHired md_sails md_seasRead md_kinds md_ills md_cells md_sailed md_must md_seenMany md_sights md_seedNow md_cellsThen md_keptSea md_keptDay md_keptHired md_keptSails md_keptSeen md_keptKinds md_keptIlls md_keptCells md_keptSailed md_keptSights md_hash) ([.ref (md 0), .int a_, .int b_] : List Value)) (vp_Si (fun r => r = (fX6_meet md_ships md_rockBits md_day md_isHired md_kinds md_ills md_cells md_sailed a_ b_))) 0 0 (fun _ => False) := by
  refine Met.ofW (cc := cX6_meet) (maxL := 8) (ret := (some .int)) (by decide) rfl ?_
  intro p e s m args below meth c s₁ B hml hv
  obtain ⟨rfl, hP, hK, hst⟩ := hv
  have hx := B.exec
  have hb := B.bytes
  have hr := B.returns
  have hts := atoms_spec (ws := wsX6_meet) B.pre
  have hown : s.vm.findClass RX6 = some m.cls := findClass_of_methodNamed B.named
  have hlocks := B.notSynchronized
  have hS : va_S (fun _ => False) s.heap s.heap [] := va_S.rf
  generalize hE : (fX6_meet md_ships md_rockBits md_day md_isHired md_kinds md_ills md_cells md_sailed a_ b_) = RES
  generalize hQ : MQ below (vp_Si (fun r => r = RES)) ([.ref (md 0), .int a_, .int b_] : List Value).toArray s 0 0 (fun _ => False) = Q
  have hl := lv_entry ([.ref (md 0), .int a_, .int b_] : List Value) (n := 8) (Nat.le_of_ble_eq_true rfl)
  rw [lg_entry_eq]
  generalize (lg_sl ([.ref (md 0), .int a_, .int b_] : List Value) ++ List.replicate (8 - (lg_sl ([.ref (md 0), .int a_, .int b_] : List Value)).length) Slot.unset).toArray = ls at hl ⊢
  have hl : lv_has ls 8 [(0, .ref (md 0)), (1, .int a_), (2, .int b_)] := hl
  have in_X6 : ∀ w ∈ u_ws RX6 TX6 30, w ∈ wsX6_meet := fun _ h => List.mem_cons_of_mem _ (List.mem_append_right _ h)
  have t_fieldLink_RX6_109_FourLodgersModel_day_I := hts (.fieldLink RX6 109 "FourLodgersModel" "day" "I") (List.mem_of_getElem? (i := 2) rfl)
  have t_fieldLink_RX6_19_FourLodgersModel_cells_I := hts (.fieldLink RX6 19 "FourLodgersModel" "cells" "[I") (List.mem_of_getElem? (i := 1) rfl)
  have i_m101 : (-101 : Int32).toInt = -101 := by decide
  have i_m1 : (-1 : Int32).toInt = -1 := by decide
  have i_0 : (0 : Int32).toInt = 0 := by decide
  have i_1 : (1 : Int32).toInt = 1 := by decide
  have i_41 : (41 : Int32).toInt = 41 := by decide
  rw [fX6_meet] at hE
  refine lv_aload_n hx hb dX6_meet_0 rfl (lv_at hl 0 rfl) ?_
  refine lv_iload_n hx hb dX6_meet_1 rfl (lv_at hl 1 rfl) ?_
  refine rcVi (As := [.int a_]) (rest := []) ⟨hx, hb, hml, hown, hts⟩ (kX6_isShip l dC dI cI cJ md md_page md_pageMany md_end md_ships md_rocks md_rockBits md_day md_isHired md_sails md_seasRead md_kinds md_ills md_cells md_sailed md_must md_seenMany md_sights md_seedNow md_cellsThen md_keptSea md_keptDay md_keptHired md_keptSails md_keptSeen md_keptKinds md_keptIlls md_keptCells md_keptSailed md_keptSights md_hash a_) (cwV 1 hts gX6_meet_X6_isShip rfl rfl rfl (by decide +kernel) ⟨Nat.le_of_ble_eq_true rfl, Nat.le_of_ble_eq_true rfl⟩) hK hP hst hS [0, 1, 2, 3, 4, 5, 6, 7, 8, 9, 10, 11, 12, 13] rfl 0 rfl rfl rfl hl.1 rfl (Nat.le_of_ble_eq_true rfl) dX6_meet_2 ⟨Nat.zero_le _, Nat.zero_le _⟩ (fun r w_1 => ?_)
  obtain ⟨rfl, nb_2⟩ := w_1
  refine lv_if_eq (tgt := 21) hx hb dX6_meet_5 (by decide) (fun c_5 => ?_) (fun c_5 => ?_)
  · rw [if_pos c_5] at hE
    refine lv_bipush (v := (-101 : Int32)) hx hb dX6_meet_21 (by decide) ?_
    subst hE
    rw [← hQ]
    exact W.iret hx hb hr (fun t ht hW => ⟨_, rfl, rfl, ht⟩) (fun q h => absurd h List.not_mem_nil) dX6_meet_23
  · rw [if_neg c_5] at hE
    refine lv_aload_n hx hb dX6_meet_8 rfl (lv_at hl 0 rfl) ?_
    refine lv_iload_n hx hb dX6_meet_9 rfl (lv_at hl 2 rfl) ?_
    refine rcVi (As := [.int b_]) (rest := []) ⟨hx, hb, hml, hown, hts⟩ (kX6_isShip l dC dI cI cJ md md_page md_pageMany md_end md_ships md_rocks md_rockBits md_day md_isHired md_sails md_seasRead md_kinds md_ills md_cells md_sailed md_must md_seenMany md_sights md_seedNow md_cellsThen md_keptSea md_keptDay md_keptHired md_keptSails md_keptSeen md_keptKinds md_keptIlls md_keptCells md_keptSailed md_keptSights md_hash b_) (cwV 1 hts gX6_meet_X6_isShip rfl rfl rfl (by decide +kernel) ⟨Nat.le_of_ble_eq_true rfl, Nat.le_of_ble_eq_true rfl⟩) hK hP hst hS [0, 1, 2, 3, 4, 5, 6, 7, 8, 9, 10, 11, 12, 13] rfl 0 rfl rfl rfl hl.1 rfl (Nat.le_of_ble_eq_true rfl) dX6_meet_10 ⟨Nat.zero_le _, Nat.zero_le _⟩ (fun r w_3 => ?_)
    obtain ⟨rfl, nb_4⟩ := w_3
    refine lv_if_eq (tgt := 21) hx hb dX6_meet_13 (by decide) (fun c_13 => ?_) (fun c_13 => ?_)
    · rw [if_pos c_13] at hE
      refine lv_bipush (v := (-101 : Int32)) hx hb dX6_meet_21 (by decide) ?_
      subst hE
      rw [← hQ]
      exact W.iret hx hb hr (fun t ht hW => ⟨_, rfl, rfl, ht⟩) (fun q h => absurd h List.not_mem_nil) dX6_meet_23
    · rw [if_neg c_13] at hE
      refine lv_iload_n hx hb dX6_meet_16 rfl (lv_at hl 1 rfl) ?_
      refine lv_iload_n hx hb dX6_meet_17 rfl (lv_at hl 2 rfl) ?_
      refine lv_icmp_ne (tgt := 24) hx hb dX6_meet_18 (by decide) (fun c_18 => ?_) (fun c_18 => ?_)
      · have e_18 := mt Int32.toInt_inj.mp c_18
        rw [if_neg c_18] at hE
        refine lv_aload_n hx hb dX6_meet_24 rfl (lv_at hl 0 rfl) ?_
        refine va_get (D := (dC, dI)) (ci := 6) (v := .ref (md 4)) (C := RX6) (T := TX6) (N := 30) hx hb hts in_X6 hown hK hP 0 rfl rfl 12 (by decide) t_fieldLink_RX6_19_FourLodgersModel_cells_I (fun _ h9 => h9) rfl dX6_meet_25 ?_
        refine lv_iload_n hx hb dX6_meet_28 rfl (lv_at hl 1 rfl) ?_
        refine va_iald hx hb hK hP 4 0 rfl rfl (i := a_) (ms_in c_5 p_u p_t) dX6_meet_29 ?_
        refine lv_aload_n hx hb dX6_meet_30 rfl (lv_at hl 0 rfl) ?_
        refine va_get (D := (dC, dI)) (ci := 6) (v := .ref (md 4)) (C := RX6) (T := TX6) (N := 30) hx hb hts in_X6 hown hK hP 0 rfl rfl 12 (by decide) t_fieldLink_RX6_19_FourLodgersModel_cells_I (fun _ h9 => h9) rfl dX6_meet_31 ?_
        refine lv_iload_n hx hb dX6_meet_34 rfl (lv_at hl 2 rfl) ?_
        refine va_iald hx hb hK hP 4 0 rfl rfl (i := b_) (ms_in c_13 p_u p_t) dX6_meet_35 ?_
        refine lv_icmp_ne (tgt := 41) hx hb dX6_meet_36 (by decide) (fun c_36 => ?_) (fun c_36 => ?_)
        · have e_36 := mt Int32.toInt_inj.mp c_36
          rw [if_neg c_36] at hE
          refine lv_aload_n hx hb dX6_meet_41 rfl (lv_at hl 0 rfl) ?_
          refine lv_iload_n hx hb dX6_meet_42 rfl (lv_at hl 1 rfl) ?_
          refine rcVl (As := [.int a_]) (rest := []) ⟨hx, hb, hml, hown, hts⟩ (kX6_first l dC dI cI cJ md md_page md_pageMany md_end md_ships md_rocks md_rockBits md_day md_isHired md_sails md_seasRead md_kinds md_ills md_cells md_sailed md_must md_seenMany md_sights md_seedNow md_cellsThen md_keptSea md_keptDay md_keptHired md_keptSails md_keptSeen md_keptKinds md_keptIlls md_keptCells md_keptSailed md_keptSights md_hash a_ (ms_in c_5 p_u p_t)) (cwV 1 hts gX6_meet_X6_first rfl rfl rfl (by decide +kernel) ⟨Nat.le_of_ble_eq_true rfl, Nat.le_of_ble_eq_true rfl⟩) hK hP hst hS [0, 1, 2, 3, 4, 5, 6, 7, 8, 9, 10, 11, 12, 13] rfl 0 rfl rfl rfl hl.1 rfl (Nat.le_of_ble_eq_true rfl) dX6_meet_43 ⟨Nat.zero_le _, Nat.zero_le _⟩ (fun r w_5 => ?_)
          subst w_5
          refine lv_lstore_n (lv' := [(3, .long (fX6_first md_rockBits md_day md_isHired md_kinds md_ills md_cells md_sailed a_)), (0, .ref (md 0)), (1, .int a_), (2, .int b_)]) hx hb dX6_meet_46 rfl hl (by decide) rfl (fun ls hl => ?_)
          refine lv_aload_n hx hb dX6_meet_47 rfl (lv_at hl 1 rfl) ?_
          refine lv_iload_n hx hb dX6_meet_48 rfl (lv_at hl 3 rfl) ?_
          refine rcVl (As := [.int b_]) (rest := []) ⟨hx, hb, hml, hown, hts⟩ (kX6_first l dC dI cI cJ md md_page md_pageMany md_end md_ships md_rocks md_rockBits md_day md_isHired md_sails md_seasRead md_kinds md_ills md_cells md_sailed md_must md_seenMany md_sights md_seedNow md_cellsThen md_keptSea md_keptDay md_keptHired md_keptSails md_keptSeen md_keptKinds md_keptIlls md_keptCells md_keptSailed md_keptSights md_hash b_ (ms_in c_13 p_u p_t)) (cwV 1 hts gX6_meet_X6_first rfl rfl rfl (by decide +kernel) ⟨Nat.le_of_ble_eq_true rfl, Nat.le_of_ble_eq_true rfl⟩) hK hP hst hS [0, 1, 2, 3, 4, 5, 6, 7, 8, 9, 10, 11, 12, 13] rfl 0 rfl rfl rfl hl.1 rfl (Nat.le_of_ble_eq_true rfl) dX6_meet_49 ⟨Nat.zero_le _, Nat.zero_le _⟩ (fun r w_6 => ?_)
          subst w_6
          refine lv_lstore (lv' := [(5, .long (fX6_first md_rockBits md_day md_isHired md_kinds md_ills md_cells md_sailed b_)), (3, .long (fX6_first md_rockBits md_day md_isHired md_kinds md_ills md_cells md_sailed a_)), (0, .ref (md 0)), (1, .int a_), (2, .int b_)]) hx hb dX6_meet_52 hl (by decide) rfl (fun ls hl => ?_)
          refine lv_iconst (v := (0 : Int32)) hx hb dX6_meet_54 (by decide) ?_
          refine lv_istore (lv' := [(7, .int (0 : Int32)), (5, .long (fX6_first md_rockBits md_day md_isHired md_kinds md_ills md_cells md_sailed b_)), (3, .long (fX6_first md_rockBits md_day md_isHired md_kinds md_ills md_cells md_sailed a_)), (0, .ref (md 0)), (1, .int a_), (2, .int b_)]) hx hb dX6_meet_55 hl (by decide) rfl (fun ls hl => ?_)
          have L57 : ∀ (n_ : Nat) (x3 : Int64) (x5 : Int64) (i : Nat) , (i ≤ 41) → 41 - i < n_ → (fX6_meet_57 md_rockBits md_day md_isHired md_kinds md_ills n_ x3 x5 i) = RES → ∀ ls : Array Slot, lv_has ls 8 [(0, .ref (md 0)), (1, .int a_), (2, .int b_), (3, .long x3), (5, .long x5), (7, .int (nI i))] → W p l e (headSpec wsX6_meet ({ frames := 4, cells := 0, slots := 0, locals := 101 } : Room)).room s m ([.ref (md 0), .int a_, .int b_] : List Value).toArray below meth c s.heap [] 0 0 Q (F0 m 57 ls []) := by
            intro n_
            induction n_ with
            | zero => intro x3 x5 i  hi hn; exact absurd hn (Nat.not_lt_zero _)
            | succ n_ ih =>
              intro x3 x5 i  hi hn hE ls hl
              rw [fX6_meet_57] at hE
              have tn_i : (nI i).toInt = (i : Int) := nI_toInt (by omega)
              refine lv_iload hx hb dX6_meet_57 (lv_at hl 5 rfl) ?_
              refine lv_bipush (v := (41 : Int32)) hx hb dX6_meet_59 (by decide) ?_
              refine lv_icmp_ge (tgt := 116) hx hb dX6_meet_61 (by decide) (fun c_61 => ?_) (fun c_61 => ?_)
              · have e_61 := Int32.le_iff_toInt_le.mp c_61
                rw [if_pos c_61] at hE
                refine lv_iconst (v := (-1 : Int32)) hx hb dX6_meet_116 (by decide) ?_
                subst hE
                rw [← hQ]
                exact W.iret hx hb hr (fun t ht hW => ⟨_, rfl, rfl, ht⟩) (fun q h => absurd h List.not_mem_nil) dX6_meet_117
              · have e_61 := mt Int32.le_iff_toInt_le.mpr c_61
                rw [if_neg c_61] at hE
                refine lv_lload_n hx hb dX6_meet_64 rfl (lv_at hl 3 rfl) ?_
                refine lv_lload hx hb dX6_meet_65 (lv_at hl 4 rfl) ?_
                refine lv_land hx hb dX6_meet_67 ?_
                refine lv_lconst (v := (0 : Int64)) hx hb dX6_meet_68 (by decide) ?_
                refine W.lcmp hx hb dX6_meet_69 ?_
                refine lv_if_eq (tgt := 78) hx hb dX6_meet_70 (by decide) (fun c_70 => ?_) (fun c_70 => ?_)
                · replace c_70 : (x3 &&& x5) = (0 : Int64) := (lg_cmp_eq _ _).mp c_70
                  rw [if_pos c_70] at hE
                  refine lv_aload_n hx hb dX6_meet_78 rfl (lv_at hl 0 rfl) ?_
                  refine lv_lload_n hx hb dX6_meet_79 rfl (lv_at hl 3 rfl) ?_
                  refine lv_aload_n hx hb dX6_meet_80 rfl (lv_at hl 0 rfl) ?_
                  refine va_get (D := (dC, dI)) (ci := 6) (v := .int md_day) (C := RX6) (T := TX6) (N := 30) hx hb hts in_X6 hown hK hP 0 rfl rfl 6 (by decide) t_fieldLink_RX6_109_FourLodgersModel_day_I (fun _ h9 => h9) rfl dX6_meet_81 ?_
                  refine lv_iload hx hb dX6_meet_84 (lv_at hl 5 rfl) ?_
                  refine lv_iadd hx hb dX6_meet_86 ?_
                  refine lv_iconst (v := (1 : Int32)) hx hb dX6_meet_87 (by decide) ?_
                  refine lv_iadd hx hb dX6_meet_88 ?_
                  refine rcVl (As := [.long x3, .int ((md_day + (nI i)) + (1 : Int32))]) (rest := []) ⟨hx, hb, hml, hown, hts⟩ (kX6_goOn l dC dI cI cJ md md_page md_pageMany md_end md_ships md_rocks md_rockBits md_day md_isHired md_sails md_seasRead md_kinds md_ills md_cells md_sailed md_must md_seenMany md_sights md_seedNow md_cellsThen md_keptSea md_keptDay md_keptHired md_keptSails md_keptSeen md_keptKinds md_keptIlls md_keptCells md_keptSailed md_keptSights md_hash x3 ((md_day + (nI i)) + (1 : Int32))) (cwV 2 hts gX6_meet_X6_goOn rfl rfl rfl (by decide +kernel) ⟨Nat.le_of_ble_eq_true rfl, Nat.le_of_ble_eq_true rfl⟩) hK hP hst hS [0, 1, 2, 3, 4, 5, 6, 7, 8, 9, 10, 11, 12, 13] rfl 0 rfl rfl rfl hl.1 rfl (Nat.le_of_ble_eq_true rfl) dX6_meet_89 ⟨Nat.zero_le _, Nat.zero_le _⟩ (fun r w_7 => ?_)
                  subst w_7
                  refine lv_lstore_n (lv' := [(3, .long (fX6_goOn md_rockBits md_isHired md_kinds md_ills x3 ((md_day + (nI i)) + (1 : Int32)))), (0, .ref (md 0)), (1, .int a_), (2, .int b_), (5, .long x5), (7, .int (nI i))]) hx hb dX6_meet_92 rfl hl (by decide) rfl (fun ls hl => ?_)
                  refine lv_aload_n hx hb dX6_meet_93 rfl (lv_at hl 1 rfl) ?_
                  refine lv_lload hx hb dX6_meet_94 (lv_at hl 4 rfl) ?_
                  refine lv_aload_n hx hb dX6_meet_96 rfl (lv_at hl 1 rfl) ?_
                  refine va_get (D := (dC, dI)) (ci := 6) (v := .int md_day) (C := RX6) (T := TX6) (N := 30) hx hb hts in_X6 hown hK hP 0 rfl rfl 6 (by decide) t_fieldLink_RX6_109_FourLodgersModel_day_I (fun _ h9 => h9) rfl dX6_meet_97 ?_
                  refine lv_iload hx hb dX6_meet_100 (lv_at hl 5 rfl) ?_
                  refine lv_iadd hx hb dX6_meet_102 ?_
                  refine lv_iconst (v := (1 : Int32)) hx hb dX6_meet_103 (by decide) ?_
                  refine lv_iadd hx hb dX6_meet_104 ?_
                  refine rcVl (As := [.long x5, .int ((md_day + (nI i)) + (1 : Int32))]) (rest := []) ⟨hx, hb, hml, hown, hts⟩ (kX6_goOn l dC dI cI cJ md md_page md_pageMany md_end md_ships md_rocks md_rockBits md_day md_isHired md_sails md_seasRead md_kinds md_ills md_cells md_sailed md_must md_seenMany md_sights md_seedNow md_cellsThen md_keptSea md_keptDay md_keptHired md_keptSails md_keptSeen md_keptKinds md_keptIlls md_keptCells md_keptSailed md_keptSights md_hash x5 ((md_day + (nI i)) + (1 : Int32))) (cwV 2 hts gX6_meet_X6_goOn rfl rfl rfl (by decide +kernel) ⟨Nat.le_of_ble_eq_true rfl, Nat.le_of_ble_eq_true rfl⟩) hK hP hst hS [0, 1, 2, 3, 4, 5, 6, 7, 8, 9, 10, 11, 12, 13] rfl 0 rfl rfl rfl hl.1 rfl (Nat.le_of_ble_eq_true rfl) dX6_meet_105 ⟨Nat.zero_le _, Nat.zero_le _⟩ (fun r w_8 => ?_)
                  subst w_8
                  refine lv_lstore (lv' := [(5, .long (fX6_goOn md_rockBits md_isHired md_kinds md_ills x5 ((md_day + (nI i)) + (1 : Int32)))), (3, .long (fX6_goOn md_rockBits md_isHired md_kinds md_ills x3 ((md_day + (nI i)) + (1 : Int32)))), (0, .ref (md 0)), (1, .int a_), (2, .int b_), (7, .int (nI i))]) hx hb dX6_meet_108 hl (by decide) rfl (fun ls hl => ?_)
                  refine lv_iinc (v := (nI (i + 1))) (lv' := [(7, .int (nI (i + 1))), (5, .long (fX6_goOn md_rockBits md_isHired md_kinds md_ills x5 ((md_day + (nI i)) + (1 : Int32)))), (3, .long (fX6_goOn md_rockBits md_isHired md_kinds md_ills x3 ((md_day + (nI i)) + (1 : Int32)))), (0, .ref (md 0)), (1, .int a_), (2, .int b_)]) hx hb dX6_meet_110 hl (k := 5) rfl (by rw [show Int32.ofInt 1 = nI 1 from rfl, nI_add]) (by decide) rfl (fun ls hl => ?_)
                  refine lv_goto (tgt := 57) hx hb dX6_meet_113 (by decide) ?_
                  exact ih (fX6_goOn md_rockBits md_isHired md_kinds md_ills x3 ((md_day + (nI i)) + (1 : Int32))) (fX6_goOn md_rockBits md_isHired md_kinds md_ills x5 ((md_day + (nI i)) + (1 : Int32))) ((i + 1))  (by omega) (by omega) hE ls (lv_sub hl [3, 4, 5, 2, 1, 0] rfl)
                · replace c_70 : ¬ (x3 &&& x5) = (0 : Int64) := fun q => c_70 ((lg_cmp_eq _ _).mpr q)
                  rw [if_neg c_70] at hE
                  refine lv_iload hx hb dX6_meet_73 (lv_at hl 5 rfl) ?_
                  refine lv_iconst (v := (1 : Int32)) hx hb dX6_meet_75 (by decide) ?_
                  refine lv_iadd hx hb dX6_meet_76 ?_
                  subst hE
                  rw [← hQ]
                  exact W.iret hx hb hr (fun t ht hW => ⟨_, rfl, rfl, ht⟩) (fun q h => absurd h List.not_mem_nil) dX6_meet_77
          exact L57 42 (fX6_first md_rockBits md_day md_isHired md_kinds md_ills md_cells md_sailed a_) (fX6_first md_rockBits md_day md_isHired md_kinds md_ills md_cells md_sailed b_) (0)  (by omega) (by omega) hE ls (lv_sub hl [3, 4, 5, 2, 1, 0] rfl)
        · have e_36 := congrArg Int32.toInt c_36
          rw [if_pos c_36] at hE
          refine lv_iconst (v := (0 : Int32)) hx hb dX6_meet_39 (by decide) ?_
          subst hE
          rw [← hQ]
          exact W.iret hx hb hr (fun t ht hW => ⟨_, rfl, rfl, ht⟩) (fun q h => absurd h List.not_mem_nil) dX6_meet_40
      · have e_18 := congrArg Int32.toInt c_18
        rw [if_pos c_18] at hE
        refine lv_bipush (v := (-101 : Int32)) hx hb dX6_meet_21 (by decide) ?_
        subst hE
        rw [← hQ]
        exact W.iret hx hb hr (fun t ht hW => ⟨_, rfl, rfl, ht⟩) (fun q h => absurd h List.not_mem_nil) dX6_meet_23
