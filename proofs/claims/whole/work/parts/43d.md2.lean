def fX6_byWhom_100 (md_rockBits : Int64) (md_day : Int32) (md_isHired : Int32) (md_kinds : Nat → Int32) (md_ills : Nat → Int32) (md_sailed : Nat → Int32) (s_ : Int32) (md_must_32 : Nat → Int64) (at5 : Int32) (i : Nat) : Nat → Int32 → Int32 → Int32 → Int32 × Int32 × Int32
  | 0, u6, u8, x9 => (u6, u8, x9)
  | n_ + 1, u6, u8, x9 => (if x9 < (0 : Int32) then (u6, u8, x9) else (if (fX6_isUp md_isHired md_kinds md_ills x9 (md_day + (nI i))) = (0 : Int32) then (if (-1 : Int32) = (-1 : Int32) then (fX6_byWhom_100 md_rockBits md_day md_isHired md_kinds md_ills md_sailed s_ md_must_32 at5 i n_ u6 u8 (x9 + (-1 : Int32))) else (if (((md_must_32 ((nI i) + (1 : Int32)).toNatClampNeg) >>> ((-1 : Int32).toInt64 &&& 63)) &&& (1 : Int64)) = (1 : Int64) then (fX6_byWhom_100 md_rockBits md_day md_isHired md_kinds md_ills md_sailed s_ md_must_32 at5 i n_ x9 (-1 : Int32) (x9 + (-1 : Int32))) else (fX6_byWhom_100 md_rockBits md_day md_isHired md_kinds md_ills md_sailed s_ md_must_32 at5 i n_ u6 u8 (x9 + (-1 : Int32))))) else (if (0 : Int32) < (nI i) then (if (fX6_leads md_rockBits at5 x9) = (-1 : Int32) then (fX6_byWhom_100 md_rockBits md_day md_isHired md_kinds md_ills md_sailed s_ md_must_32 at5 i n_ u6 u8 (x9 + (-1 : Int32))) else (if (((md_must_32 ((nI i) + (1 : Int32)).toNatClampNeg) >>> ((fX6_leads md_rockBits at5 x9).toInt64 &&& 63)) &&& (1 : Int64)) = (1 : Int64) then (fX6_byWhom_100 md_rockBits md_day md_isHired md_kinds md_ills md_sailed s_ md_must_32 at5 i n_ x9 (fX6_leads md_rockBits at5 x9) (x9 + (-1 : Int32))) else (fX6_byWhom_100 md_rockBits md_day md_isHired md_kinds md_ills md_sailed s_ md_must_32 at5 i n_ u6 u8 (x9 + (-1 : Int32))))) else (if (md_sailed s_.toNatClampNeg) = (0 : Int32) then (if (fX6_leads md_rockBits at5 x9) = (-1 : Int32) then (fX6_byWhom_100 md_rockBits md_day md_isHired md_kinds md_ills md_sailed s_ md_must_32 at5 i n_ u6 u8 (x9 + (-1 : Int32))) else (if (((md_must_32 ((nI i) + (1 : Int32)).toNatClampNeg) >>> ((fX6_leads md_rockBits at5 x9).toInt64 &&& 63)) &&& (1 : Int64)) = (1 : Int64) then (fX6_byWhom_100 md_rockBits md_day md_isHired md_kinds md_ills md_sailed s_ md_must_32 at5 i n_ x9 (fX6_leads md_rockBits at5 x9) (x9 + (-1 : Int32))) else (fX6_byWhom_100 md_rockBits md_day md_isHired md_kinds md_ills md_sailed s_ md_must_32 at5 i n_ u6 u8 (x9 + (-1 : Int32))))) else (if (-1 : Int32) = (-1 : Int32) then (fX6_byWhom_100 md_rockBits md_day md_isHired md_kinds md_ills md_sailed s_ md_must_32 at5 i n_ u6 u8 (x9 + (-1 : Int32))) else (if (((md_must_32 ((nI i) + (1 : Int32)).toNatClampNeg) >>> ((-1 : Int32).toInt64 &&& 63)) &&& (1 : Int64)) = (1 : Int64) then (fX6_byWhom_100 md_rockBits md_day md_isHired md_kinds md_ills md_sailed s_ md_must_32 at5 i n_ x9 (-1 : Int32) (x9 + (-1 : Int32))) else (fX6_byWhom_100 md_rockBits md_day md_isHired md_kinds md_ills md_sailed s_ md_must_32 at5 i n_ u6 u8 (x9 + (-1 : Int32)))))))))
def fX6_byWhom_84 (md_rockBits : Int64) (md_day : Int32) (md_isHired : Int32) (md_kinds : Nat → Int32) (md_ills : Nat → Int32) (md_sailed : Nat → Int32) (s_ : Int32) (no_ : Int32) (md_must_32 : Nat → Int64) : Nat → Int32 → Int32 → Nat → Int32
  | 0, _, _, _ => 0
  | n_ + 1, at5, t6, i => (if no_ < (nI i) then t6 else (fX6_byWhom_84 md_rockBits md_day md_isHired md_kinds md_ills md_sailed s_ no_ md_must_32 n_ ((fX6_byWhom_100 md_rockBits md_day md_isHired md_kinds md_ills md_sailed s_ md_must_32 at5 i 6 (5 : Int32) at5 (4 : Int32)).2.1) ((fX6_byWhom_100 md_rockBits md_day md_isHired md_kinds md_ills md_sailed s_ md_must_32 at5 i 6 (5 : Int32) at5 (4 : Int32)).1) ((i + 1))))
def fX6_byWhom_32 (md_rockBits : Int64) (md_day : Int32) (md_isHired : Int32) (md_kinds : Nat → Int32) (md_ills : Nat → Int32) (md_cells : Nat → Int32) (md_sailed : Nat → Int32) (s_ : Int32) (no_ : Int32) : Nat → Int32 → (Nat → Int64) → Int32
  | 0, _, _ => 0
  | n_ + 1, x5, md_must_32 => (if x5 < (0 : Int32) then (fX6_byWhom_84 md_rockBits md_day md_isHired md_kinds md_ills md_sailed s_ no_ md_must_32 9 (md_cells s_.toNatClampNeg) (-1 : Int32) (0)) else (fX6_byWhom_32 md_rockBits md_day md_isHired md_kinds md_ills md_cells md_sailed s_ no_ n_ (x5 + (-1 : Int32)) (vp_updL md_must_32 x5.toNatClampNeg (fX6_goBack md_rockBits md_isHired md_kinds md_ills (md_must_32 (x5 + (1 : Int32)).toNatClampNeg) (md_day + x5)))))
def fX6_byWhom (md_rockBits : Int64) (md_day : Int32) (md_isHired : Int32) (md_kinds : Nat → Int32) (md_ills : Nat → Int32) (md_cells : Nat → Int32) (md_sailed : Nat → Int32) (md_must : Nat → Int64) (s_ : Int32) (c_ : Int32) (no_ : Int32) : Int32 := (if no_ < (fX6_soonOf md_rockBits md_day md_isHired md_kinds md_ills md_cells md_sailed s_ c_) then (fX6_byWhom_32 md_rockBits md_day md_isHired md_kinds md_ills md_cells md_sailed s_ no_ 42 ((fX6_soonOf md_rockBits md_day md_isHired md_kinds md_ills md_cells md_sailed s_ c_) - (1 : Int32)) (vp_updL md_must (fX6_soonOf md_rockBits md_day md_isHired md_kinds md_ills md_cells md_sailed s_ c_).toNatClampNeg ((1 : Int64) <<< (c_.toInt64 &&& 63)))) else (-1 : Int32))
set_option maxHeartbeats 4000000 in
set_option maxRecDepth 100000 in
theorem kX6_byWhom (l : Launch) (dC : Nat → ClassId) (dI : Nat → Nat → Nat) (cI cJ : ClassId) (sz : Nat) (md : Nat → Nat) (md_page : Nat → Int32) (md_pageMany : Int32) (md_end : Int32) (md_ships : Int32) (md_rocks : Int32) (md_rockBits : Int64) (md_day : Int32) (md_isHired : Int32) (md_sails : Int32) (md_seasRead : Int32) (md_kinds : Nat → Int32) (md_ills : Nat → Int32) (md_cells : Nat → Int32) (md_sailed : Nat → Int32) (md_must : Nat → Int64) (md_seenMany : Int32) (md_sights : Nat → Int32) (md_seedNow : Int32) (md_cellsThen : Nat → Int32) (md_keptSea : Int32) (md_keptDay : Int32) (md_keptHired : Int32) (md_keptSails : Int32) (md_keptSeen : Int32) (md_keptKinds : Nat → Int32) (md_keptIlls : Nat → Int32) (md_keptCells : Nat → Int32) (md_keptSailed : Nat → Int32) (md_keptSights : Nat → Int32) (md_hash : Int64) (s_ : Int32) (c_ : Int32) (no_ : Int32) (p_1 : vp_in s_ 3) (p_2 : 0 ≤ no_.toInt) (p_3 : no_.toInt ≤ 7) : Met l yX6_byWhom wsX6_byWhom ({ frames := 5, cells := 0, slots := 0, locals := 126 } : Room) (gW (dC, dI) cI cJ sz (kMd cI cJ md md_page md_pageMany md_end md_ships md_rocks md_rockBits md_day md_isHired md_sails md_seasRead md_kinds md_ills md_cells md_sailed md_must md_seenMany md_sights md_seedNow md_cellsThen md_keptSea md_keptDay md_keptHired md_keptSails md_keptSeen md_keptKinds md_keptIlls md_keptCells md_keptSailed md_keptSights md_hash) ([.ref (md 0), .int s_, .int c_, .int no_] : List Value)) (va_Qi (fun (r : Int32) (_ : (Nat → Int64)) => r = (fX6_byWhom md_rockBits md_day md_isHired md_kinds md_ills md_cells md_sailed md_must s_ c_ no_)) (fun u : (Nat → Int64) => gB (dC, dI) cI cJ (va_A (kMd cI cJ md md_page md_pageMany md_end md_ships md_rocks md_rockBits md_day md_isHired md_sails md_seasRead md_kinds md_ills md_cells md_sailed md_must md_seenMany md_sights md_seedNow md_cellsThen md_keptSea md_keptDay md_keptHired md_keptSails md_keptSeen md_keptKinds md_keptIlls md_keptCells md_keptSailed md_keptSights md_hash) sz) (kMd cI cJ md md_page md_pageMany md_end md_ships md_rocks md_rockBits md_day md_isHired md_sails md_seasRead md_kinds md_ills md_cells md_sailed u md_seenMany md_sights md_seedNow md_cellsThen md_keptSea md_keptDay md_keptHired md_keptSails md_keptSeen md_keptKinds md_keptIlls md_keptCells md_keptSailed md_keptSights md_hash)) (va_A (kMd cI cJ md md_page md_pageMany md_end md_ships md_rocks md_rockBits md_day md_isHired md_sails md_seasRead md_kinds md_ills md_cells md_sailed md_must md_seenMany md_sights md_seedNow md_cellsThen md_keptSea md_keptDay md_keptHired md_keptSails md_keptSeen md_keptKinds md_keptIlls md_keptCells md_keptSailed md_keptSights md_hash) sz)) 0 0 (va_A (kMd cI cJ md md_page md_pageMany md_end md_ships md_rocks md_rockBits md_day md_isHired md_sails md_seasRead md_kinds md_ills md_cells md_sailed md_must md_seenMany md_sights md_seedNow md_cellsThen md_keptSea md_keptDay md_keptHired md_keptSails md_keptSeen md_keptKinds md_keptIlls md_keptCells md_keptSailed md_keptSights md_hash) sz) := by
  refine Met.ofW (cc := cX6_byWhom) (maxL := 11) (ret := (some .int)) (by decide) rfl ?_
  intro p e s m args below meth c s₁ B hml hv
  obtain ⟨rfl, hsz, hP, hK, hD0, hst⟩ := hv
  have hx := B.exec
  have hb := B.bytes
  have hr := B.returns
  have hts := atoms_spec (ws := wsX6_byWhom) B.pre
  have hown : s.vm.findClass RX6 = some m.cls := findClass_of_methodNamed B.named
  have hlocks := B.notSynchronized
  subst hsz
  have hD := hD0.self (sz := s.heap.size)
  generalize hAe : va_A (kMd cI cJ md md_page md_pageMany md_end md_ships md_rocks md_rockBits md_day md_isHired md_sails md_seasRead md_kinds md_ills md_cells md_sailed md_must md_seenMany md_sights md_seedNow md_cellsThen md_keptSea md_keptDay md_keptHired md_keptSails md_keptSeen md_keptKinds md_keptIlls md_keptCells md_keptSailed md_keptSights md_hash) s.heap.size = A at hD hst ⊢
  have hA : ∀ q : Nat, s.heap.size ≤ q → A q := fun q h => by rw [← hAe]; exact Or.inr h
  have hS : va_S A s.heap s.heap [] := va_S.rf
  generalize hE : (fX6_byWhom md_rockBits md_day md_isHired md_kinds md_ills md_cells md_sailed md_must s_ c_ no_) = RES
  generalize hQ : MQ below (va_Qi (fun (r : Int32) (_ : (Nat → Int64)) => r = RES) (fun u : (Nat → Int64) => gB (dC, dI) cI cJ A (kMd cI cJ md md_page md_pageMany md_end md_ships md_rocks md_rockBits md_day md_isHired md_sails md_seasRead md_kinds md_ills md_cells md_sailed u md_seenMany md_sights md_seedNow md_cellsThen md_keptSea md_keptDay md_keptHired md_keptSails md_keptSeen md_keptKinds md_keptIlls md_keptCells md_keptSailed md_keptSights md_hash)) A) ([.ref (md 0), .int s_, .int c_, .int no_] : List Value).toArray s 0 0 A = Q
  have hl := lv_entry ([.ref (md 0), .int s_, .int c_, .int no_] : List Value) (n := 11) (Nat.le_of_ble_eq_true rfl)
  rw [lg_entry_eq]
  generalize (lg_sl ([.ref (md 0), .int s_, .int c_, .int no_] : List Value) ++ List.replicate (11 - (lg_sl ([.ref (md 0), .int s_, .int c_, .int no_] : List Value)).length) Slot.unset).toArray = ls at hl ⊢
  have hl : lv_has ls 11 [(0, .ref (md 0)), (1, .int s_), (2, .int c_), (3, .int no_)] := hl
  have in_X6 : ∀ w ∈ u_ws RX6 TX6 30, w ∈ wsX6_byWhom := fun _ h => List.mem_cons_of_mem _ (List.mem_append_right _ h)
  have t_fieldLink_RX6_109_FourLodgersModel_day_I := hts (.fieldLink RX6 109 "FourLodgersModel" "day" "I") (List.mem_of_getElem? (i := 2) rfl)
  have t_fieldLink_RX6_19_FourLodgersModel_cells_I := hts (.fieldLink RX6 19 "FourLodgersModel" "cells" "[I") (List.mem_of_getElem? (i := 3) rfl)
  have t_fieldLink_RX6_22_FourLodgersModel_sailed_I := hts (.fieldLink RX6 22 "FourLodgersModel" "sailed" "[I") (List.mem_of_getElem? (i := 4) rfl)
  have t_fieldLink_RX6_25_FourLodgersModel_must_J := hts (.fieldLink RX6 25 "FourLodgersModel" "must" "[J") (List.mem_of_getElem? (i := 1) rfl)
  have i_m1 : (-1 : Int32).toInt = -1 := by decide
  have i_0 : (0 : Int32).toInt = 0 := by decide
  have i_1 : (1 : Int32).toInt = 1 := by decide
  have i_4 : (4 : Int32).toInt = 4 := by decide
  have i_5 : (5 : Int32).toInt = 5 := by decide
  have p_1' := vp_in_iff.mp p_1
  rw [fX6_byWhom] at hE
  refine lv_aload_n hx hb dX6_byWhom_0 rfl (lv_at hl 0 rfl) ?_
  refine lv_iload_n hx hb dX6_byWhom_1 rfl (lv_at hl 1 rfl) ?_
  refine lv_iload_n hx hb dX6_byWhom_2 rfl (lv_at hl 2 rfl) ?_
  refine rcVi (As := [.int s_, .int c_]) (rest := []) ⟨hx, hb, hml, hown, hts⟩ (kX6_soonOf l dC dI cI cJ md md_page md_pageMany md_end md_ships md_rocks md_rockBits md_day md_isHired md_sails md_seasRead md_kinds md_ills md_cells md_sailed md_must md_seenMany md_sights md_seedNow md_cellsThen md_keptSea md_keptDay md_keptHired md_keptSails md_keptSeen md_keptKinds md_keptIlls md_keptCells md_keptSailed md_keptSights md_hash s_ c_ p_1) (cwV 2 hts gX6_byWhom_X6_soonOf rfl rfl rfl (by decide +kernel) ⟨Nat.le_of_ble_eq_true rfl, Nat.le_of_ble_eq_true rfl⟩) hK hP hst hS [0, 1, 2, 3, 4, 5, 6, 7, 8, 9, 10, 11, 12, 13] rfl 0 rfl rfl rfl hl.1 rfl (Nat.le_of_ble_eq_true rfl) dX6_byWhom_3 ⟨Nat.zero_le _, Nat.zero_le _⟩ (fun r w_1 => ?_)
  subst w_1
  refine lv_istore (lv' := [(4, .int (fX6_soonOf md_rockBits md_day md_isHired md_kinds md_ills md_cells md_sailed s_ c_)), (0, .ref (md 0)), (1, .int s_), (2, .int c_), (3, .int no_)]) hx hb dX6_byWhom_6 hl (by decide) rfl (fun ls hl => ?_)
  refine lv_iload_n hx hb dX6_byWhom_8 rfl (lv_at hl 4 rfl) ?_
  refine lv_iload hx hb dX6_byWhom_9 (lv_at hl 0 rfl) ?_
  refine lv_icmp_lt (tgt := 16) hx hb dX6_byWhom_11 (by decide) (fun c_11 => ?_) (fun c_11 => ?_)
  · rw [if_pos c_11] at hE
    refine lv_aload_n hx hb dX6_byWhom_16 rfl (lv_at hl 1 rfl) ?_
    refine va_get (D := (dC, dI)) (ci := 6) (v := .ref (md 6)) (C := RX6) (T := TX6) (N := 30) hx hb hts in_X6 hown hK hP 0 rfl rfl 14 (by decide) t_fieldLink_RX6_25_FourLodgersModel_must_J (fun _ h9 => h9) rfl dX6_byWhom_17 ?_
    refine lv_iload hx hb dX6_byWhom_20 (lv_at hl 0 rfl) ?_
    refine lv_lconst (v := (1 : Int64)) hx hb dX6_byWhom_22 (by decide) ?_
    refine lv_iload_n hx hb dX6_byWhom_23 rfl (lv_at hl 3 rfl) ?_
    refine lv_lshl hx hb dX6_byWhom_24 rfl ?_
    refine va_last hx hb hK hP hD hS 6 1 rfl rfl (i := (fX6_soonOf md_rockBits md_day md_isHired md_kinds md_ills md_cells md_sailed s_ c_)) (vp_in_iff.mpr ⟨Int.le_of_lt (Int.lt_of_le_of_lt p_2 (Int32.lt_iff_toInt_lt.mp c_11)), Int.lt_of_le_of_lt (soonOf_le _ _ _ _ _ _ _ _ _).2 (by decide)⟩) dX6_byWhom_25 (fun H locs hP hD hS => ?_)
    replace hP : va_P (dC, dI) vwCl (kMd cI cJ md md_page md_pageMany md_end md_ships md_rocks md_rockBits md_day md_isHired md_sails md_seasRead md_kinds md_ills md_cells md_sailed (vp_updL md_must (fX6_soonOf md_rockBits md_day md_isHired md_kinds md_ills md_cells md_sailed s_ c_).toNatClampNeg ((1 : Int64) <<< (c_.toInt64 &&& 63))) md_seenMany md_sights md_seedNow md_cellsThen md_keptSea md_keptDay md_keptHired md_keptSails md_keptSeen md_keptKinds md_keptIlls md_keptCells md_keptSailed md_keptSights md_hash) H := hP
    replace hD : va_D A (kMd cI cJ md md_page md_pageMany md_end md_ships md_rocks md_rockBits md_day md_isHired md_sails md_seasRead md_kinds md_ills md_cells md_sailed (vp_updL md_must (fX6_soonOf md_rockBits md_day md_isHired md_kinds md_ills md_cells md_sailed s_ c_).toNatClampNeg ((1 : Int64) <<< (c_.toInt64 &&& 63))) md_seenMany md_sights md_seedNow md_cellsThen md_keptSea md_keptDay md_keptHired md_keptSails md_keptSeen md_keptKinds md_keptIlls md_keptCells md_keptSailed md_keptSights md_hash) := hD
    refine lv_iload hx hb dX6_byWhom_26 (lv_at hl 0 rfl) ?_
    refine lv_iconst (v := (1 : Int32)) hx hb dX6_byWhom_28 (by decide) ?_
    refine lv_isub hx hb dX6_byWhom_29 ?_
    refine lv_istore (lv' := [(5, .int ((fX6_soonOf md_rockBits md_day md_isHired md_kinds md_ills md_cells md_sailed s_ c_) - (1 : Int32))), (4, .int (fX6_soonOf md_rockBits md_day md_isHired md_kinds md_ills md_cells md_sailed s_ c_)), (0, .ref (md 0)), (1, .int s_), (2, .int c_), (3, .int no_)]) hx hb dX6_byWhom_30 hl (by decide) rfl (fun ls hl => ?_)
    have L32 : ∀ (n_ : Nat) (x5 : Int32) (md_must_32 : Nat → Int64) , (-1 ≤ x5.toInt ∧ x5.toInt ≤ 40) → (x5.toInt + 1).toNat < n_ → (fX6_byWhom_32 md_rockBits md_day md_isHired md_kinds md_ills md_cells md_sailed s_ no_ n_ x5 md_must_32) = RES → ∀ (H : Heap) (locs : List Loc), va_P (dC, dI) vwCl (kMd cI cJ md md_page md_pageMany md_end md_ships md_rocks md_rockBits md_day md_isHired md_sails md_seasRead md_kinds md_ills md_cells md_sailed md_must_32 md_seenMany md_sights md_seedNow md_cellsThen md_keptSea md_keptDay md_keptHired md_keptSails md_keptSeen md_keptKinds md_keptIlls md_keptCells md_keptSailed md_keptSights md_hash) H → va_D A (kMd cI cJ md md_page md_pageMany md_end md_ships md_rocks md_rockBits md_day md_isHired md_sails md_seasRead md_kinds md_ills md_cells md_sailed md_must_32 md_seenMany md_sights md_seedNow md_cellsThen md_keptSea md_keptDay md_keptHired md_keptSails md_keptSeen md_keptKinds md_keptIlls md_keptCells md_keptSailed md_keptSights md_hash) → va_S A s.heap H locs → ∀ ls : Array Slot, lv_has ls 11 [(0, .ref (md 0)), (1, .int s_), (2, .int c_), (3, .int no_), (4, .int (fX6_soonOf md_rockBits md_day md_isHired md_kinds md_ills md_cells md_sailed s_ c_)), (5, .int x5)] → W p l e (headSpec wsX6_byWhom ({ frames := 5, cells := 0, slots := 0, locals := 126 } : Room)).room s m ([.ref (md 0), .int s_, .int c_, .int no_] : List Value).toArray below meth c H locs 0 0 Q (F0 m 32 ls []) := by
      intro n_
      induction n_ with
      | zero => intro x5 md_must_32  hi hn; exact absurd hn (Nat.not_lt_zero _)
      | succ n_ ih =>
        intro x5 md_must_32  hi hn hE H locs hP hD hS ls hl
        rw [fX6_byWhom_32] at hE
        refine lv_iload hx hb dX6_byWhom_32 (lv_at hl 5 rfl) ?_
        refine lv_if_lt (tgt := 70) hx hb dX6_byWhom_34 (by decide) (fun c_34 => ?_) (fun c_34 => ?_)
        · have e_34 := Int32.lt_iff_toInt_lt.mp c_34
          rw [if_pos c_34] at hE
          refine lv_aload_n hx hb dX6_byWhom_70 rfl (lv_at hl 0 rfl) ?_
          refine va_get (D := (dC, dI)) (ci := 6) (v := .ref (md 4)) (C := RX6) (T := TX6) (N := 30) hx hb hts in_X6 hown hK hP 0 rfl rfl 12 (by decide) t_fieldLink_RX6_19_FourLodgersModel_cells_I (fun _ h9 => h9) rfl dX6_byWhom_71 ?_
          refine lv_iload_n hx hb dX6_byWhom_74 rfl (lv_at hl 1 rfl) ?_
          refine va_iald hx hb hK hP 4 0 rfl rfl (i := s_) (by first | assumption | exact vp_in_iff.mpr ⟨by omega, by omega⟩ | omega | decide) dX6_byWhom_75 ?_
          refine lv_istore (lv' := [(5, .int (md_cells s_.toNatClampNeg)), (0, .ref (md 0)), (1, .int s_), (2, .int c_), (3, .int no_), (4, .int (fX6_soonOf md_rockBits md_day md_isHired md_kinds md_ills md_cells md_sailed s_ c_))]) hx hb dX6_byWhom_76 hl (by decide) rfl (fun ls hl => ?_)
          refine lv_iconst (v := (-1 : Int32)) hx hb dX6_byWhom_78 (by decide) ?_
          refine lv_istore (lv' := [(6, .int (-1 : Int32)), (5, .int (md_cells s_.toNatClampNeg)), (0, .ref (md 0)), (1, .int s_), (2, .int c_), (3, .int no_), (4, .int (fX6_soonOf md_rockBits md_day md_isHired md_kinds md_ills md_cells md_sailed s_ c_))]) hx hb dX6_byWhom_79 hl (by decide) rfl (fun ls hl => ?_)
          refine lv_iconst (v := (0 : Int32)) hx hb dX6_byWhom_81 (by decide) ?_
          refine lv_istore (lv' := [(7, .int (0 : Int32)), (6, .int (-1 : Int32)), (5, .int (md_cells s_.toNatClampNeg)), (0, .ref (md 0)), (1, .int s_), (2, .int c_), (3, .int no_), (4, .int (fX6_soonOf md_rockBits md_day md_isHired md_kinds md_ills md_cells md_sailed s_ c_))]) hx hb dX6_byWhom_82 hl (by decide) rfl (fun ls hl => ?_)
          have L84 : ∀ (n_ : Nat) (at5 : Int32) (t6 : Int32) (i : Nat) , (i ≤ 8) → 8 - i < n_ → (fX6_byWhom_84 md_rockBits md_day md_isHired md_kinds md_ills md_sailed s_ no_ md_must_32 n_ at5 t6 i) = RES → ∀ (H : Heap) (locs : List Loc), va_P (dC, dI) vwCl (kMd cI cJ md md_page md_pageMany md_end md_ships md_rocks md_rockBits md_day md_isHired md_sails md_seasRead md_kinds md_ills md_cells md_sailed md_must_32 md_seenMany md_sights md_seedNow md_cellsThen md_keptSea md_keptDay md_keptHired md_keptSails md_keptSeen md_keptKinds md_keptIlls md_keptCells md_keptSailed md_keptSights md_hash) H → va_D A (kMd cI cJ md md_page md_pageMany md_end md_ships md_rocks md_rockBits md_day md_isHired md_sails md_seasRead md_kinds md_ills md_cells md_sailed md_must_32 md_seenMany md_sights md_seedNow md_cellsThen md_keptSea md_keptDay md_keptHired md_keptSails md_keptSeen md_keptKinds md_keptIlls md_keptCells md_keptSailed md_keptSights md_hash) → va_S A s.heap H locs → ∀ ls : Array Slot, lv_has ls 11 [(0, .ref (md 0)), (1, .int s_), (2, .int c_), (3, .int no_), (4, .int (fX6_soonOf md_rockBits md_day md_isHired md_kinds md_ills md_cells md_sailed s_ c_)), (5, .int at5), (6, .int t6), (7, .int (nI i))] → W p l e (headSpec wsX6_byWhom ({ frames := 5, cells := 0, slots := 0, locals := 126 } : Room)).room s m ([.ref (md 0), .int s_, .int c_, .int no_] : List Value).toArray below meth c H locs 0 0 Q (F0 m 84 ls []) := by
            intro n_
            induction n_ with
            | zero => intro at5 t6 i  hi hn; exact absurd hn (Nat.not_lt_zero _)
            | succ n_ ih =>
              intro at5 t6 i  hi hn hE H locs hP hD hS ls hl
              rw [fX6_byWhom_84] at hE
              have tn_i : (nI i).toInt = (i : Int) := nI_toInt (by omega)
              refine lv_iload hx hb dX6_byWhom_84 (lv_at hl 7 rfl) ?_
              refine lv_iload_n hx hb dX6_byWhom_86 rfl (lv_at hl 3 rfl) ?_
              refine lv_icmp_gt (tgt := 198) hx hb dX6_byWhom_87 (by decide) (fun c_87 => ?_) (fun c_87 => ?_)
              · have e_87 := Int32.lt_iff_toInt_lt.mp c_87
                rw [if_pos c_87] at hE
                refine lv_iload hx hb dX6_byWhom_198 (lv_at hl 6 rfl) ?_
                subst hE
                rw [← hQ]
                exact W.iret hx hb hr (fun t ht hW => ⟨⟨_, md_must_32, rfl, rfl, by rw [ht]; exact hP, va_K.moved hW.alike hK, hD⟩, hS.F ht⟩) hS.2.2 dX6_byWhom_200
              · have e_87 := mt Int32.lt_iff_toInt_lt.mpr c_87
                rw [if_neg c_87] at hE
                refine lv_iconst (v := (5 : Int32)) hx hb dX6_byWhom_90 (by decide) ?_
                refine lv_istore (lv' := [(6, .int (5 : Int32)), (0, .ref (md 0)), (1, .int s_), (2, .int c_), (3, .int no_), (4, .int (fX6_soonOf md_rockBits md_day md_isHired md_kinds md_ills md_cells md_sailed s_ c_)), (5, .int at5), (7, .int (nI i))]) hx hb dX6_byWhom_91 hl (by decide) rfl (fun ls hl => ?_)
                refine lv_iload hx hb dX6_byWhom_93 (lv_at hl 6 rfl) ?_
                refine lv_istore (lv' := [(8, .int at5), (6, .int (5 : Int32)), (0, .ref (md 0)), (1, .int s_), (2, .int c_), (3, .int no_), (4, .int (fX6_soonOf md_rockBits md_day md_isHired md_kinds md_ills md_cells md_sailed s_ c_)), (5, .int at5), (7, .int (nI i))]) hx hb dX6_byWhom_95 hl (by decide) rfl (fun ls hl => ?_)
                refine lv_iconst (v := (4 : Int32)) hx hb dX6_byWhom_97 (by decide) ?_
                refine lv_istore (lv' := [(9, .int (4 : Int32)), (8, .int at5), (6, .int (5 : Int32)), (0, .ref (md 0)), (1, .int s_), (2, .int c_), (3, .int no_), (4, .int (fX6_soonOf md_rockBits md_day md_isHired md_kinds md_ills md_cells md_sailed s_ c_)), (5, .int at5), (7, .int (nI i))]) hx hb dX6_byWhom_98 hl (by decide) rfl (fun ls hl => ?_)
                have L100 : ∀ (n_ : Nat) (u6 : Int32) (u8 : Int32) (x9 : Int32) , (-1 ≤ x9.toInt ∧ x9.toInt ≤ 4) → (x9.toInt + 1).toNat < n_ → ∀ (RES100 : Int32 × Int32 × Int32), (fX6_byWhom_100 md_rockBits md_day md_isHired md_kinds md_ills md_sailed s_ md_must_32 at5 i n_ u6 u8 x9) = RES100 → (∀  (H : Heap) (locs : List Loc), va_P (dC, dI) vwCl (kMd cI cJ md md_page md_pageMany md_end md_ships md_rocks md_rockBits md_day md_isHired md_sails md_seasRead md_kinds md_ills md_cells md_sailed md_must_32 md_seenMany md_sights md_seedNow md_cellsThen md_keptSea md_keptDay md_keptHired md_keptSails md_keptSeen md_keptKinds md_keptIlls md_keptCells md_keptSailed md_keptSights md_hash) H → va_D A (kMd cI cJ md md_page md_pageMany md_end md_ships md_rocks md_rockBits md_day md_isHired md_sails md_seasRead md_kinds md_ills md_cells md_sailed md_must_32 md_seenMany md_sights md_seedNow md_cellsThen md_keptSea md_keptDay md_keptHired md_keptSails md_keptSeen md_keptKinds md_keptIlls md_keptCells md_keptSailed md_keptSights md_hash) → va_S A s.heap H locs → ∀ ls : Array Slot, lv_has ls 11 [(0, .ref (md 0)), (1, .int s_), (2, .int c_), (3, .int no_), (4, .int (fX6_soonOf md_rockBits md_day md_isHired md_kinds md_ills md_cells md_sailed s_ c_)), (5, .int at5), (6, .int (RES100.1)), (7, .int (nI i)), (8, .int (RES100.2.1))] → W p l e (headSpec wsX6_byWhom ({ frames := 5, cells := 0, slots := 0, locals := 126 } : Room)).room s m ([.ref (md 0), .int s_, .int c_, .int no_] : List Value).toArray below meth c H locs 0 0 Q (F0 m 188 ls [])) → ∀ (H : Heap) (locs : List Loc), va_P (dC, dI) vwCl (kMd cI cJ md md_page md_pageMany md_end md_ships md_rocks md_rockBits md_day md_isHired md_sails md_seasRead md_kinds md_ills md_cells md_sailed md_must_32 md_seenMany md_sights md_seedNow md_cellsThen md_keptSea md_keptDay md_keptHired md_keptSails md_keptSeen md_keptKinds md_keptIlls md_keptCells md_keptSailed md_keptSights md_hash) H → va_D A (kMd cI cJ md md_page md_pageMany md_end md_ships md_rocks md_rockBits md_day md_isHired md_sails md_seasRead md_kinds md_ills md_cells md_sailed md_must_32 md_seenMany md_sights md_seedNow md_cellsThen md_keptSea md_keptDay md_keptHired md_keptSails md_keptSeen md_keptKinds md_keptIlls md_keptCells md_keptSailed md_keptSights md_hash) → va_S A s.heap H locs → ∀ ls : Array Slot, lv_has ls 11 [(0, .ref (md 0)), (1, .int s_), (2, .int c_), (3, .int no_), (4, .int (fX6_soonOf md_rockBits md_day md_isHired md_kinds md_ills md_cells md_sailed s_ c_)), (5, .int at5), (6, .int u6), (7, .int (nI i)), (8, .int u8), (9, .int x9)] → W p l e (headSpec wsX6_byWhom ({ frames := 5, cells := 0, slots := 0, locals := 126 } : Room)).room s m ([.ref (md 0), .int s_, .int c_, .int no_] : List Value).toArray below meth c H locs 0 0 Q (F0 m 100 ls []) := by
                  intro n_
                  induction n_ with
                  | zero => intro u6 u8 x9  hi hn; exact absurd hn (Nat.not_lt_zero _)
                  | succ n_ ih =>
                    intro u6 u8 x9  hi hn RES100 hE hk100 H locs hP hD hS ls hl
                    rw [fX6_byWhom_100] at hE
                    refine lv_iload hx hb dX6_byWhom_100 (lv_at hl 9 rfl) ?_
                    refine lv_if_lt (tgt := 188) hx hb dX6_byWhom_102 (by decide) (fun c_102 => ?_) (fun c_102 => ?_)
                    · have e_102 := Int32.lt_iff_toInt_lt.mp c_102
                      rw [if_pos c_102] at hE
                      subst hE
                      exact hk100  H locs hP hD hS ls (lv_sub hl [0, 1, 2, 3, 4, 5, 6, 7, 8] rfl)
                    · have e_102 := mt Int32.lt_iff_toInt_lt.mpr c_102
                      rw [if_neg c_102] at hE
                      refine lv_aload_n hx hb dX6_byWhom_105 rfl (lv_at hl 0 rfl) ?_
                      refine lv_iload hx hb dX6_byWhom_106 (lv_at hl 9 rfl) ?_
                      refine lv_aload_n hx hb dX6_byWhom_108 rfl (lv_at hl 0 rfl) ?_
                      refine va_get (D := (dC, dI)) (ci := 6) (v := .int md_day) (C := RX6) (T := TX6) (N := 30) hx hb hts in_X6 hown hK hP 0 rfl rfl 6 (by decide) t_fieldLink_RX6_109_FourLodgersModel_day_I (fun _ h9 => h9) rfl dX6_byWhom_109 ?_
                      refine lv_iload hx hb dX6_byWhom_112 (lv_at hl 7 rfl) ?_
                      refine lv_iadd hx hb dX6_byWhom_114 ?_
                      refine rcVi (As := [.int x9, .int (md_day + (nI i))]) (rest := []) ⟨hx, hb, hml, hown, hts⟩ (kX6_isUp l dC dI cI cJ md md_page md_pageMany md_end md_ships md_rocks md_rockBits md_day md_isHired md_sails md_seasRead md_kinds md_ills md_cells md_sailed md_must_32 md_seenMany md_sights md_seedNow md_cellsThen md_keptSea md_keptDay md_keptHired md_keptSails md_keptSeen md_keptKinds md_keptIlls md_keptCells md_keptSailed md_keptSights md_hash x9 (md_day + (nI i)) (by first | assumption | exact vp_in_iff.mpr ⟨by omega, by omega⟩ | omega | decide)) (cwV 2 hts gX6_byWhom_X6_isUp rfl rfl rfl (by decide +kernel) ⟨Nat.le_of_ble_eq_true rfl, Nat.le_of_ble_eq_true rfl⟩) hK hP hst hS [0, 1, 2, 3, 4, 5, 6, 7, 8, 9, 10, 11, 12, 13] rfl 0 rfl rfl rfl hl.1 rfl (Nat.le_of_ble_eq_true rfl) dX6_byWhom_115 ⟨Nat.zero_le _, Nat.zero_le _⟩ (fun r w_2 => ?_)
                      obtain ⟨rfl, nb_3⟩ := w_2
                      refine lv_if_eq (tgt := 146) hx hb dX6_byWhom_118 (by decide) (fun c_118 => ?_) (fun c_118 => ?_)
                      · rw [if_pos c_118] at hE
                        refine lv_iconst (v := (-1 : Int32)) hx hb dX6_byWhom_146 (by decide) ?_
                        refine lv_istore (lv' := [(10, .int (-1 : Int32)), (0, .ref (md 0)), (1, .int s_), (2, .int c_), (3, .int no_), (4, .int (fX6_soonOf md_rockBits md_day md_isHired md_kinds md_ills md_cells md_sailed s_ c_)), (5, .int at5), (6, .int u6), (7, .int (nI i)), (8, .int u8), (9, .int x9)]) hx hb dX6_byWhom_147 hl (by decide) rfl (fun ls hl => ?_)
                        refine lv_iload hx hb dX6_byWhom_149 (lv_at hl 0 rfl) ?_
                        refine lv_iconst (v := (-1 : Int32)) hx hb dX6_byWhom_151 (by decide) ?_
                        refine lv_icmp_eq (tgt := 182) hx hb dX6_byWhom_152 (by decide) (fun c_152 => ?_) (fun c_152 => ?_)
                        · have e_152 := congrArg Int32.toInt c_152
                          rw [if_pos c_152] at hE
                          refine lv_iinc (v := (x9 + (-1 : Int32))) (lv' := [(9, .int (x9 + (-1 : Int32))), (10, .int (-1 : Int32)), (0, .ref (md 0)), (1, .int s_), (2, .int c_), (3, .int no_), (4, .int (fX6_soonOf md_rockBits md_day md_isHired md_kinds md_ills md_cells md_sailed s_ c_)), (5, .int at5), (6, .int u6), (7, .int (nI i)), (8, .int u8)]) hx hb dX6_byWhom_182 hl (k := 10) rfl rfl (by decide) rfl (fun ls hl => ?_)
                          refine lv_goto (tgt := 100) hx hb dX6_byWhom_185 (by decide) ?_
                          exact ih u6 u8 (x9 + (-1 : Int32))  (dec_inv c_102 hi.2 hn).1 (dec_inv c_102 hi.2 hn).2 RES100 hE hk100 H locs hP hD hS ls (lv_sub hl [2, 3, 4, 5, 6, 7, 8, 9, 10, 0] rfl)
                        · have e_152 := mt Int32.toInt_inj.mp c_152
                          rw [if_neg c_152] at hE
                          refine lv_aload_n hx hb dX6_byWhom_155 rfl (lv_at hl 1 rfl) ?_
                          refine va_get (D := (dC, dI)) (ci := 6) (v := .ref (md 6)) (C := RX6) (T := TX6) (N := 30) hx hb hts in_X6 hown hK hP 0 rfl rfl 14 (by decide) t_fieldLink_RX6_25_FourLodgersModel_must_J (fun _ h9 => h9) rfl dX6_byWhom_156 ?_
                          refine lv_iload hx hb dX6_byWhom_159 (lv_at hl 8 rfl) ?_
                          refine lv_iconst (v := (1 : Int32)) hx hb dX6_byWhom_161 (by decide) ?_
                          refine lv_iadd hx hb dX6_byWhom_162 ?_
                          refine va_lald hx hb hK hP 6 1 rfl rfl (i := ((nI i) + (1 : Int32))) (by rw [show (1 : Int32) = nI 1 from rfl, nI_add]; exact vp_in_nI (by omega) (by decide)) dX6_byWhom_163 ?_
                          refine lv_iload hx hb dX6_byWhom_164 (lv_at hl 0 rfl) ?_
                          refine lv_lshr hx hb dX6_byWhom_166 rfl ?_
                          refine lv_lconst (v := (1 : Int64)) hx hb dX6_byWhom_167 (by decide) ?_
                          refine lv_land hx hb dX6_byWhom_168 ?_
                          refine lv_lconst (v := (1 : Int64)) hx hb dX6_byWhom_169 (by decide) ?_
                          refine W.lcmp hx hb dX6_byWhom_170 ?_
                          refine lv_if_ne (tgt := 182) hx hb dX6_byWhom_171 (by decide) (fun c_171 => ?_) (fun c_171 => ?_)
                          · replace c_171 : ¬ (((md_must_32 ((nI i) + (1 : Int32)).toNatClampNeg) >>> ((-1 : Int32).toInt64 &&& 63)) &&& (1 : Int64)) = (1 : Int64) := fun q => c_171 ((lg_cmp_eq _ _).mpr q)
                            rw [if_neg c_171] at hE
                            refine lv_iinc (v := (x9 + (-1 : Int32))) (lv' := [(9, .int (x9 + (-1 : Int32))), (10, .int (-1 : Int32)), (0, .ref (md 0)), (1, .int s_), (2, .int c_), (3, .int no_), (4, .int (fX6_soonOf md_rockBits md_day md_isHired md_kinds md_ills md_cells md_sailed s_ c_)), (5, .int at5), (6, .int u6), (7, .int (nI i)), (8, .int u8)]) hx hb dX6_byWhom_182 hl (k := 10) rfl rfl (by decide) rfl (fun ls hl => ?_)
                            refine lv_goto (tgt := 100) hx hb dX6_byWhom_185 (by decide) ?_
                            exact ih u6 u8 (x9 + (-1 : Int32))  (dec_inv c_102 hi.2 hn).1 (dec_inv c_102 hi.2 hn).2 RES100 hE hk100 H locs hP hD hS ls (lv_sub hl [2, 3, 4, 5, 6, 7, 8, 9, 10, 0] rfl)
                          · replace c_171 : (((md_must_32 ((nI i) + (1 : Int32)).toNatClampNeg) >>> ((-1 : Int32).toInt64 &&& 63)) &&& (1 : Int64)) = (1 : Int64) := (lg_cmp_eq _ _).mp c_171
                            rw [if_pos c_171] at hE
                            refine lv_iload hx hb dX6_byWhom_174 (lv_at hl 10 rfl) ?_
                            refine lv_istore (lv' := [(6, .int x9), (10, .int (-1 : Int32)), (0, .ref (md 0)), (1, .int s_), (2, .int c_), (3, .int no_), (4, .int (fX6_soonOf md_rockBits md_day md_isHired md_kinds md_ills md_cells md_sailed s_ c_)), (5, .int at5), (7, .int (nI i)), (8, .int u8), (9, .int x9)]) hx hb dX6_byWhom_176 hl (by decide) rfl (fun ls hl => ?_)
                            refine lv_iload hx hb dX6_byWhom_178 (lv_at hl 1 rfl) ?_
                            refine lv_istore (lv' := [(8, .int (-1 : Int32)), (6, .int x9), (10, .int (-1 : Int32)), (0, .ref (md 0)), (1, .int s_), (2, .int c_), (3, .int no_), (4, .int (fX6_soonOf md_rockBits md_day md_isHired md_kinds md_ills md_cells md_sailed s_ c_)), (5, .int at5), (7, .int (nI i)), (9, .int x9)]) hx hb dX6_byWhom_180 hl (by decide) rfl (fun ls hl => ?_)
                            refine lv_iinc (v := (x9 + (-1 : Int32))) (lv' := [(9, .int (x9 + (-1 : Int32))), (8, .int (-1 : Int32)), (6, .int x9), (10, .int (-1 : Int32)), (0, .ref (md 0)), (1, .int s_), (2, .int c_), (3, .int no_), (4, .int (fX6_soonOf md_rockBits md_day md_isHired md_kinds md_ills md_cells md_sailed s_ c_)), (5, .int at5), (7, .int (nI i))]) hx hb dX6_byWhom_182 hl (k := 10) rfl rfl (by decide) rfl (fun ls hl => ?_)
                            refine lv_goto (tgt := 100) hx hb dX6_byWhom_185 (by decide) ?_
                            exact ih x9 (-1 : Int32) (x9 + (-1 : Int32))  (dec_inv c_102 hi.2 hn).1 (dec_inv c_102 hi.2 hn).2 RES100 hE hk100 H locs hP hD hS ls (lv_sub hl [4, 5, 6, 7, 8, 9, 2, 10, 1, 0] rfl)
                      · rw [if_neg c_118] at hE
                        refine lv_iload hx hb dX6_byWhom_121 (lv_at hl 7 rfl) ?_
                        refine lv_if_gt (tgt := 135) hx hb dX6_byWhom_123 (by decide) (fun c_123 => ?_) (fun c_123 => ?_)
                        · have e_123 := Int32.lt_iff_toInt_lt.mp c_123
                          rw [if_pos c_123] at hE
                          refine lv_aload_n hx hb dX6_byWhom_135 rfl (lv_at hl 0 rfl) ?_
                          refine lv_iload hx hb dX6_byWhom_136 (lv_at hl 5 rfl) ?_
                          refine lv_iload hx hb dX6_byWhom_138 (lv_at hl 9 rfl) ?_
                          refine rcVi (As := [.int at5, .int x9]) (rest := []) ⟨hx, hb, hml, hown, hts⟩ (kX6_leads l dC dI cI cJ md md_page md_pageMany md_end md_ships md_rocks md_rockBits md_day md_isHired md_sails md_seasRead md_kinds md_ills md_cells md_sailed md_must_32 md_seenMany md_sights md_seedNow md_cellsThen md_keptSea md_keptDay md_keptHired md_keptSails md_keptSeen md_keptKinds md_keptIlls md_keptCells md_keptSailed md_keptSights md_hash at5 x9) (cwV 2 hts gX6_byWhom_X6_leads rfl rfl rfl (by decide +kernel) ⟨Nat.le_of_ble_eq_true rfl, Nat.le_of_ble_eq_true rfl⟩) hK hP hst hS [0, 1, 2, 3, 4, 5, 6, 7, 8, 9, 10, 11, 12, 13] rfl 0 rfl rfl rfl hl.1 rfl (Nat.le_of_ble_eq_true rfl) dX6_byWhom_140 ⟨Nat.zero_le _, Nat.zero_le _⟩ (fun r w_4 => ?_)
                          subst w_4
                          refine lv_goto (tgt := 147) hx hb dX6_byWhom_143 (by decide) ?_
                          refine lv_istore (lv' := [(10, .int (fX6_leads md_rockBits at5 x9)), (0, .ref (md 0)), (1, .int s_), (2, .int c_), (3, .int no_), (4, .int (fX6_soonOf md_rockBits md_day md_isHired md_kinds md_ills md_cells md_sailed s_ c_)), (5, .int at5), (6, .int u6), (7, .int (nI i)), (8, .int u8), (9, .int x9)]) hx hb dX6_byWhom_147 hl (by decide) rfl (fun ls hl => ?_)
                          refine lv_iload hx hb dX6_byWhom_149 (lv_at hl 0 rfl) ?_
                          refine lv_iconst (v := (-1 : Int32)) hx hb dX6_byWhom_151 (by decide) ?_
                          refine lv_icmp_eq (tgt := 182) hx hb dX6_byWhom_152 (by decide) (fun c_152 => ?_) (fun c_152 => ?_)
                          · rw [if_pos c_152] at hE
                            refine lv_iinc (v := (x9 + (-1 : Int32))) (lv' := [(9, .int (x9 + (-1 : Int32))), (10, .int (fX6_leads md_rockBits at5 x9)), (0, .ref (md 0)), (1, .int s_), (2, .int c_), (3, .int no_), (4, .int (fX6_soonOf md_rockBits md_day md_isHired md_kinds md_ills md_cells md_sailed s_ c_)), (5, .int at5), (6, .int u6), (7, .int (nI i)), (8, .int u8)]) hx hb dX6_byWhom_182 hl (k := 10) rfl rfl (by decide) rfl (fun ls hl => ?_)
                            refine lv_goto (tgt := 100) hx hb dX6_byWhom_185 (by decide) ?_
                            exact ih u6 u8 (x9 + (-1 : Int32))  (dec_inv c_102 hi.2 hn).1 (dec_inv c_102 hi.2 hn).2 RES100 hE hk100 H locs hP hD hS ls (lv_sub hl [2, 3, 4, 5, 6, 7, 8, 9, 10, 0] rfl)
                          · rw [if_neg c_152] at hE
                            refine lv_aload_n hx hb dX6_byWhom_155 rfl (lv_at hl 1 rfl) ?_
                            refine va_get (D := (dC, dI)) (ci := 6) (v := .ref (md 6)) (C := RX6) (T := TX6) (N := 30) hx hb hts in_X6 hown hK hP 0 rfl rfl 14 (by decide) t_fieldLink_RX6_25_FourLodgersModel_must_J (fun _ h9 => h9) rfl dX6_byWhom_156 ?_
                            refine lv_iload hx hb dX6_byWhom_159 (lv_at hl 8 rfl) ?_
                            refine lv_iconst (v := (1 : Int32)) hx hb dX6_byWhom_161 (by decide) ?_
                            refine lv_iadd hx hb dX6_byWhom_162 ?_
                            refine va_lald hx hb hK hP 6 1 rfl rfl (i := ((nI i) + (1 : Int32))) (by rw [show (1 : Int32) = nI 1 from rfl, nI_add]; exact vp_in_nI (by omega) (by decide)) dX6_byWhom_163 ?_
                            refine lv_iload hx hb dX6_byWhom_164 (lv_at hl 0 rfl) ?_
                            refine lv_lshr hx hb dX6_byWhom_166 rfl ?_
                            refine lv_lconst (v := (1 : Int64)) hx hb dX6_byWhom_167 (by decide) ?_
                            refine lv_land hx hb dX6_byWhom_168 ?_
                            refine lv_lconst (v := (1 : Int64)) hx hb dX6_byWhom_169 (by decide) ?_
                            refine W.lcmp hx hb dX6_byWhom_170 ?_
                            refine lv_if_ne (tgt := 182) hx hb dX6_byWhom_171 (by decide) (fun c_171 => ?_) (fun c_171 => ?_)
                            · replace c_171 : ¬ (((md_must_32 ((nI i) + (1 : Int32)).toNatClampNeg) >>> ((fX6_leads md_rockBits at5 x9).toInt64 &&& 63)) &&& (1 : Int64)) = (1 : Int64) := fun q => c_171 ((lg_cmp_eq _ _).mpr q)
                              rw [if_neg c_171] at hE
                              refine lv_iinc (v := (x9 + (-1 : Int32))) (lv' := [(9, .int (x9 + (-1 : Int32))), (10, .int (fX6_leads md_rockBits at5 x9)), (0, .ref (md 0)), (1, .int s_), (2, .int c_), (3, .int no_), (4, .int (fX6_soonOf md_rockBits md_day md_isHired md_kinds md_ills md_cells md_sailed s_ c_)), (5, .int at5), (6, .int u6), (7, .int (nI i)), (8, .int u8)]) hx hb dX6_byWhom_182 hl (k := 10) rfl rfl (by decide) rfl (fun ls hl => ?_)
                              refine lv_goto (tgt := 100) hx hb dX6_byWhom_185 (by decide) ?_
                              exact ih u6 u8 (x9 + (-1 : Int32))  (dec_inv c_102 hi.2 hn).1 (dec_inv c_102 hi.2 hn).2 RES100 hE hk100 H locs hP hD hS ls (lv_sub hl [2, 3, 4, 5, 6, 7, 8, 9, 10, 0] rfl)
                            · replace c_171 : (((md_must_32 ((nI i) + (1 : Int32)).toNatClampNeg) >>> ((fX6_leads md_rockBits at5 x9).toInt64 &&& 63)) &&& (1 : Int64)) = (1 : Int64) := (lg_cmp_eq _ _).mp c_171
                              rw [if_pos c_171] at hE
                              refine lv_iload hx hb dX6_byWhom_174 (lv_at hl 10 rfl) ?_
                              refine lv_istore (lv' := [(6, .int x9), (10, .int (fX6_leads md_rockBits at5 x9)), (0, .ref (md 0)), (1, .int s_), (2, .int c_), (3, .int no_), (4, .int (fX6_soonOf md_rockBits md_day md_isHired md_kinds md_ills md_cells md_sailed s_ c_)), (5, .int at5), (7, .int (nI i)), (8, .int u8), (9, .int x9)]) hx hb dX6_byWhom_176 hl (by decide) rfl (fun ls hl => ?_)
                              refine lv_iload hx hb dX6_byWhom_178 (lv_at hl 1 rfl) ?_
                              refine lv_istore (lv' := [(8, .int (fX6_leads md_rockBits at5 x9)), (6, .int x9), (10, .int (fX6_leads md_rockBits at5 x9)), (0, .ref (md 0)), (1, .int s_), (2, .int c_), (3, .int no_), (4, .int (fX6_soonOf md_rockBits md_day md_isHired md_kinds md_ills md_cells md_sailed s_ c_)), (5, .int at5), (7, .int (nI i)), (9, .int x9)]) hx hb dX6_byWhom_180 hl (by decide) rfl (fun ls hl => ?_)
                              refine lv_iinc (v := (x9 + (-1 : Int32))) (lv' := [(9, .int (x9 + (-1 : Int32))), (8, .int (fX6_leads md_rockBits at5 x9)), (6, .int x9), (10, .int (fX6_leads md_rockBits at5 x9)), (0, .ref (md 0)), (1, .int s_), (2, .int c_), (3, .int no_), (4, .int (fX6_soonOf md_rockBits md_day md_isHired md_kinds md_ills md_cells md_sailed s_ c_)), (5, .int at5), (7, .int (nI i))]) hx hb dX6_byWhom_182 hl (k := 10) rfl rfl (by decide) rfl (fun ls hl => ?_)
                              refine lv_goto (tgt := 100) hx hb dX6_byWhom_185 (by decide) ?_
                              exact ih x9 (fX6_leads md_rockBits at5 x9) (x9 + (-1 : Int32))  (dec_inv c_102 hi.2 hn).1 (dec_inv c_102 hi.2 hn).2 RES100 hE hk100 H locs hP hD hS ls (lv_sub hl [4, 5, 6, 7, 8, 9, 2, 10, 1, 0] rfl)
                        · have e_123 := mt Int32.lt_iff_toInt_lt.mpr c_123
                          rw [if_neg c_123] at hE
                          refine lv_aload_n hx hb dX6_byWhom_126 rfl (lv_at hl 0 rfl) ?_
                          refine va_get (D := (dC, dI)) (ci := 6) (v := .ref (md 5)) (C := RX6) (T := TX6) (N := 30) hx hb hts in_X6 hown hK hP 0 rfl rfl 13 (by decide) t_fieldLink_RX6_22_FourLodgersModel_sailed_I (fun _ h9 => h9) rfl dX6_byWhom_127 ?_
                          refine lv_iload_n hx hb dX6_byWhom_130 rfl (lv_at hl 1 rfl) ?_
                          refine va_iald hx hb hK hP 5 0 rfl rfl (i := s_) (by first | assumption | exact vp_in_iff.mpr ⟨by omega, by omega⟩ | omega | decide) dX6_byWhom_131 ?_
                          refine lv_if_ne (tgt := 146) hx hb dX6_byWhom_132 (by decide) (fun c_132 => ?_) (fun c_132 => ?_)
                          · have e_132 := mt Int32.toInt_inj.mp c_132
                            rw [if_neg c_132] at hE
                            refine lv_iconst (v := (-1 : Int32)) hx hb dX6_byWhom_146 (by decide) ?_
                            refine lv_istore (lv' := [(10, .int (-1 : Int32)), (0, .ref (md 0)), (1, .int s_), (2, .int c_), (3, .int no_), (4, .int (fX6_soonOf md_rockBits md_day md_isHired md_kinds md_ills md_cells md_sailed s_ c_)), (5, .int at5), (6, .int u6), (7, .int (nI i)), (8, .int u8), (9, .int x9)]) hx hb dX6_byWhom_147 hl (by decide) rfl (fun ls hl => ?_)
                            refine lv_iload hx hb dX6_byWhom_149 (lv_at hl 0 rfl) ?_
                            refine lv_iconst (v := (-1 : Int32)) hx hb dX6_byWhom_151 (by decide) ?_
                            refine lv_icmp_eq (tgt := 182) hx hb dX6_byWhom_152 (by decide) (fun c_152 => ?_) (fun c_152 => ?_)
                            · have e_152 := congrArg Int32.toInt c_152
                              rw [if_pos c_152] at hE
                              refine lv_iinc (v := (x9 + (-1 : Int32))) (lv' := [(9, .int (x9 + (-1 : Int32))), (10, .int (-1 : Int32)), (0, .ref (md 0)), (1, .int s_), (2, .int c_), (3, .int no_), (4, .int (fX6_soonOf md_rockBits md_day md_isHired md_kinds md_ills md_cells md_sailed s_ c_)), (5, .int at5), (6, .int u6), (7, .int (nI i)), (8, .int u8)]) hx hb dX6_byWhom_182 hl (k := 10) rfl rfl (by decide) rfl (fun ls hl => ?_)
                              refine lv_goto (tgt := 100) hx hb dX6_byWhom_185 (by decide) ?_
                              exact ih u6 u8 (x9 + (-1 : Int32))  (dec_inv c_102 hi.2 hn).1 (dec_inv c_102 hi.2 hn).2 RES100 hE hk100 H locs hP hD hS ls (lv_sub hl [2, 3, 4, 5, 6, 7, 8, 9, 10, 0] rfl)
                            · have e_152 := mt Int32.toInt_inj.mp c_152
                              rw [if_neg c_152] at hE
                              refine lv_aload_n hx hb dX6_byWhom_155 rfl (lv_at hl 1 rfl) ?_
                              refine va_get (D := (dC, dI)) (ci := 6) (v := .ref (md 6)) (C := RX6) (T := TX6) (N := 30) hx hb hts in_X6 hown hK hP 0 rfl rfl 14 (by decide) t_fieldLink_RX6_25_FourLodgersModel_must_J (fun _ h9 => h9) rfl dX6_byWhom_156 ?_
                              refine lv_iload hx hb dX6_byWhom_159 (lv_at hl 8 rfl) ?_
                              refine lv_iconst (v := (1 : Int32)) hx hb dX6_byWhom_161 (by decide) ?_
                              refine lv_iadd hx hb dX6_byWhom_162 ?_
                              refine va_lald hx hb hK hP 6 1 rfl rfl (i := ((nI i) + (1 : Int32))) (by rw [show (1 : Int32) = nI 1 from rfl, nI_add]; exact vp_in_nI (by omega) (by decide)) dX6_byWhom_163 ?_
                              refine lv_iload hx hb dX6_byWhom_164 (lv_at hl 0 rfl) ?_
                              refine lv_lshr hx hb dX6_byWhom_166 rfl ?_
                              refine lv_lconst (v := (1 : Int64)) hx hb dX6_byWhom_167 (by decide) ?_
                              refine lv_land hx hb dX6_byWhom_168 ?_
                              refine lv_lconst (v := (1 : Int64)) hx hb dX6_byWhom_169 (by decide) ?_
                              refine W.lcmp hx hb dX6_byWhom_170 ?_
                              refine lv_if_ne (tgt := 182) hx hb dX6_byWhom_171 (by decide) (fun c_171 => ?_) (fun c_171 => ?_)
                              · replace c_171 : ¬ (((md_must_32 ((nI i) + (1 : Int32)).toNatClampNeg) >>> ((-1 : Int32).toInt64 &&& 63)) &&& (1 : Int64)) = (1 : Int64) := fun q => c_171 ((lg_cmp_eq _ _).mpr q)
                                rw [if_neg c_171] at hE
                                refine lv_iinc (v := (x9 + (-1 : Int32))) (lv' := [(9, .int (x9 + (-1 : Int32))), (10, .int (-1 : Int32)), (0, .ref (md 0)), (1, .int s_), (2, .int c_), (3, .int no_), (4, .int (fX6_soonOf md_rockBits md_day md_isHired md_kinds md_ills md_cells md_sailed s_ c_)), (5, .int at5), (6, .int u6), (7, .int (nI i)), (8, .int u8)]) hx hb dX6_byWhom_182 hl (k := 10) rfl rfl (by decide) rfl (fun ls hl => ?_)
                                refine lv_goto (tgt := 100) hx hb dX6_byWhom_185 (by decide) ?_
                                exact ih u6 u8 (x9 + (-1 : Int32))  (dec_inv c_102 hi.2 hn).1 (dec_inv c_102 hi.2 hn).2 RES100 hE hk100 H locs hP hD hS ls (lv_sub hl [2, 3, 4, 5, 6, 7, 8, 9, 10, 0] rfl)
                              · replace c_171 : (((md_must_32 ((nI i) + (1 : Int32)).toNatClampNeg) >>> ((-1 : Int32).toInt64 &&& 63)) &&& (1 : Int64)) = (1 : Int64) := (lg_cmp_eq _ _).mp c_171
                                rw [if_pos c_171] at hE
                                refine lv_iload hx hb dX6_byWhom_174 (lv_at hl 10 rfl) ?_
                                refine lv_istore (lv' := [(6, .int x9), (10, .int (-1 : Int32)), (0, .ref (md 0)), (1, .int s_), (2, .int c_), (3, .int no_), (4, .int (fX6_soonOf md_rockBits md_day md_isHired md_kinds md_ills md_cells md_sailed s_ c_)), (5, .int at5), (7, .int (nI i)), (8, .int u8), (9, .int x9)]) hx hb dX6_byWhom_176 hl (by decide) rfl (fun ls hl => ?_)
                                refine lv_iload hx hb dX6_byWhom_178 (lv_at hl 1 rfl) ?_
                                refine lv_istore (lv' := [(8, .int (-1 : Int32)), (6, .int x9), (10, .int (-1 : Int32)), (0, .ref (md 0)), (1, .int s_), (2, .int c_), (3, .int no_), (4, .int (fX6_soonOf md_rockBits md_day md_isHired md_kinds md_ills md_cells md_sailed s_ c_)), (5, .int at5), (7, .int (nI i)), (9, .int x9)]) hx hb dX6_byWhom_180 hl (by decide) rfl (fun ls hl => ?_)
                                refine lv_iinc (v := (x9 + (-1 : Int32))) (lv' := [(9, .int (x9 + (-1 : Int32))), (8, .int (-1 : Int32)), (6, .int x9), (10, .int (-1 : Int32)), (0, .ref (md 0)), (1, .int s_), (2, .int c_), (3, .int no_), (4, .int (fX6_soonOf md_rockBits md_day md_isHired md_kinds md_ills md_cells md_sailed s_ c_)), (5, .int at5), (7, .int (nI i))]) hx hb dX6_byWhom_182 hl (k := 10) rfl rfl (by decide) rfl (fun ls hl => ?_)
                                refine lv_goto (tgt := 100) hx hb dX6_byWhom_185 (by decide) ?_
                                exact ih x9 (-1 : Int32) (x9 + (-1 : Int32))  (dec_inv c_102 hi.2 hn).1 (dec_inv c_102 hi.2 hn).2 RES100 hE hk100 H locs hP hD hS ls (lv_sub hl [4, 5, 6, 7, 8, 9, 2, 10, 1, 0] rfl)
                          · have e_132 := congrArg Int32.toInt c_132
                            rw [if_pos c_132] at hE
                            refine lv_aload_n hx hb dX6_byWhom_135 rfl (lv_at hl 0 rfl) ?_
                            refine lv_iload hx hb dX6_byWhom_136 (lv_at hl 5 rfl) ?_
                            refine lv_iload hx hb dX6_byWhom_138 (lv_at hl 9 rfl) ?_
                            refine rcVi (As := [.int at5, .int x9]) (rest := []) ⟨hx, hb, hml, hown, hts⟩ (kX6_leads l dC dI cI cJ md md_page md_pageMany md_end md_ships md_rocks md_rockBits md_day md_isHired md_sails md_seasRead md_kinds md_ills md_cells md_sailed md_must_32 md_seenMany md_sights md_seedNow md_cellsThen md_keptSea md_keptDay md_keptHired md_keptSails md_keptSeen md_keptKinds md_keptIlls md_keptCells md_keptSailed md_keptSights md_hash at5 x9) (cwV 2 hts gX6_byWhom_X6_leads rfl rfl rfl (by decide +kernel) ⟨Nat.le_of_ble_eq_true rfl, Nat.le_of_ble_eq_true rfl⟩) hK hP hst hS [0, 1, 2, 3, 4, 5, 6, 7, 8, 9, 10, 11, 12, 13] rfl 0 rfl rfl rfl hl.1 rfl (Nat.le_of_ble_eq_true rfl) dX6_byWhom_140 ⟨Nat.zero_le _, Nat.zero_le _⟩ (fun r w_5 => ?_)
                            subst w_5
                            refine lv_goto (tgt := 147) hx hb dX6_byWhom_143 (by decide) ?_
                            refine lv_istore (lv' := [(10, .int (fX6_leads md_rockBits at5 x9)), (0, .ref (md 0)), (1, .int s_), (2, .int c_), (3, .int no_), (4, .int (fX6_soonOf md_rockBits md_day md_isHired md_kinds md_ills md_cells md_sailed s_ c_)), (5, .int at5), (6, .int u6), (7, .int (nI i)), (8, .int u8), (9, .int x9)]) hx hb dX6_byWhom_147 hl (by decide) rfl (fun ls hl => ?_)
                            refine lv_iload hx hb dX6_byWhom_149 (lv_at hl 0 rfl) ?_
                            refine lv_iconst (v := (-1 : Int32)) hx hb dX6_byWhom_151 (by decide) ?_
                            refine lv_icmp_eq (tgt := 182) hx hb dX6_byWhom_152 (by decide) (fun c_152 => ?_) (fun c_152 => ?_)
                            · rw [if_pos c_152] at hE
                              refine lv_iinc (v := (x9 + (-1 : Int32))) (lv' := [(9, .int (x9 + (-1 : Int32))), (10, .int (fX6_leads md_rockBits at5 x9)), (0, .ref (md 0)), (1, .int s_), (2, .int c_), (3, .int no_), (4, .int (fX6_soonOf md_rockBits md_day md_isHired md_kinds md_ills md_cells md_sailed s_ c_)), (5, .int at5), (6, .int u6), (7, .int (nI i)), (8, .int u8)]) hx hb dX6_byWhom_182 hl (k := 10) rfl rfl (by decide) rfl (fun ls hl => ?_)
                              refine lv_goto (tgt := 100) hx hb dX6_byWhom_185 (by decide) ?_
                              exact ih u6 u8 (x9 + (-1 : Int32))  (dec_inv c_102 hi.2 hn).1 (dec_inv c_102 hi.2 hn).2 RES100 hE hk100 H locs hP hD hS ls (lv_sub hl [2, 3, 4, 5, 6, 7, 8, 9, 10, 0] rfl)
                            · rw [if_neg c_152] at hE
                              refine lv_aload_n hx hb dX6_byWhom_155 rfl (lv_at hl 1 rfl) ?_
                              refine va_get (D := (dC, dI)) (ci := 6) (v := .ref (md 6)) (C := RX6) (T := TX6) (N := 30) hx hb hts in_X6 hown hK hP 0 rfl rfl 14 (by decide) t_fieldLink_RX6_25_FourLodgersModel_must_J (fun _ h9 => h9) rfl dX6_byWhom_156 ?_
                              refine lv_iload hx hb dX6_byWhom_159 (lv_at hl 8 rfl) ?_
                              refine lv_iconst (v := (1 : Int32)) hx hb dX6_byWhom_161 (by decide) ?_
                              refine lv_iadd hx hb dX6_byWhom_162 ?_
                              refine va_lald hx hb hK hP 6 1 rfl rfl (i := ((nI i) + (1 : Int32))) (by rw [show (1 : Int32) = nI 1 from rfl, nI_add]; exact vp_in_nI (by omega) (by decide)) dX6_byWhom_163 ?_
                              refine lv_iload hx hb dX6_byWhom_164 (lv_at hl 0 rfl) ?_
                              refine lv_lshr hx hb dX6_byWhom_166 rfl ?_
                              refine lv_lconst (v := (1 : Int64)) hx hb dX6_byWhom_167 (by decide) ?_
                              refine lv_land hx hb dX6_byWhom_168 ?_
                              refine lv_lconst (v := (1 : Int64)) hx hb dX6_byWhom_169 (by decide) ?_
                              refine W.lcmp hx hb dX6_byWhom_170 ?_
                              refine lv_if_ne (tgt := 182) hx hb dX6_byWhom_171 (by decide) (fun c_171 => ?_) (fun c_171 => ?_)
                              · replace c_171 : ¬ (((md_must_32 ((nI i) + (1 : Int32)).toNatClampNeg) >>> ((fX6_leads md_rockBits at5 x9).toInt64 &&& 63)) &&& (1 : Int64)) = (1 : Int64) := fun q => c_171 ((lg_cmp_eq _ _).mpr q)
                                rw [if_neg c_171] at hE
                                refine lv_iinc (v := (x9 + (-1 : Int32))) (lv' := [(9, .int (x9 + (-1 : Int32))), (10, .int (fX6_leads md_rockBits at5 x9)), (0, .ref (md 0)), (1, .int s_), (2, .int c_), (3, .int no_), (4, .int (fX6_soonOf md_rockBits md_day md_isHired md_kinds md_ills md_cells md_sailed s_ c_)), (5, .int at5), (6, .int u6), (7, .int (nI i)), (8, .int u8)]) hx hb dX6_byWhom_182 hl (k := 10) rfl rfl (by decide) rfl (fun ls hl => ?_)
                                refine lv_goto (tgt := 100) hx hb dX6_byWhom_185 (by decide) ?_
                                exact ih u6 u8 (x9 + (-1 : Int32))  (dec_inv c_102 hi.2 hn).1 (dec_inv c_102 hi.2 hn).2 RES100 hE hk100 H locs hP hD hS ls (lv_sub hl [2, 3, 4, 5, 6, 7, 8, 9, 10, 0] rfl)
                              · replace c_171 : (((md_must_32 ((nI i) + (1 : Int32)).toNatClampNeg) >>> ((fX6_leads md_rockBits at5 x9).toInt64 &&& 63)) &&& (1 : Int64)) = (1 : Int64) := (lg_cmp_eq _ _).mp c_171
                                rw [if_pos c_171] at hE
                                refine lv_iload hx hb dX6_byWhom_174 (lv_at hl 10 rfl) ?_
                                refine lv_istore (lv' := [(6, .int x9), (10, .int (fX6_leads md_rockBits at5 x9)), (0, .ref (md 0)), (1, .int s_), (2, .int c_), (3, .int no_), (4, .int (fX6_soonOf md_rockBits md_day md_isHired md_kinds md_ills md_cells md_sailed s_ c_)), (5, .int at5), (7, .int (nI i)), (8, .int u8), (9, .int x9)]) hx hb dX6_byWhom_176 hl (by decide) rfl (fun ls hl => ?_)
                                refine lv_iload hx hb dX6_byWhom_178 (lv_at hl 1 rfl) ?_
                                refine lv_istore (lv' := [(8, .int (fX6_leads md_rockBits at5 x9)), (6, .int x9), (10, .int (fX6_leads md_rockBits at5 x9)), (0, .ref (md 0)), (1, .int s_), (2, .int c_), (3, .int no_), (4, .int (fX6_soonOf md_rockBits md_day md_isHired md_kinds md_ills md_cells md_sailed s_ c_)), (5, .int at5), (7, .int (nI i)), (9, .int x9)]) hx hb dX6_byWhom_180 hl (by decide) rfl (fun ls hl => ?_)
                                refine lv_iinc (v := (x9 + (-1 : Int32))) (lv' := [(9, .int (x9 + (-1 : Int32))), (8, .int (fX6_leads md_rockBits at5 x9)), (6, .int x9), (10, .int (fX6_leads md_rockBits at5 x9)), (0, .ref (md 0)), (1, .int s_), (2, .int c_), (3, .int no_), (4, .int (fX6_soonOf md_rockBits md_day md_isHired md_kinds md_ills md_cells md_sailed s_ c_)), (5, .int at5), (7, .int (nI i))]) hx hb dX6_byWhom_182 hl (k := 10) rfl rfl (by decide) rfl (fun ls hl => ?_)
                                refine lv_goto (tgt := 100) hx hb dX6_byWhom_185 (by decide) ?_
                                exact ih x9 (fX6_leads md_rockBits at5 x9) (x9 + (-1 : Int32))  (dec_inv c_102 hi.2 hn).1 (dec_inv c_102 hi.2 hn).2 RES100 hE hk100 H locs hP hD hS ls (lv_sub hl [4, 5, 6, 7, 8, 9, 2, 10, 1, 0] rfl)
                refine L100 6 (5 : Int32) at5 (4 : Int32)  (by decide) (by decide) _ rfl (fun  H locs hP hD hS ls hl => ?_) H locs hP hD hS ls (lv_sub hl [3, 4, 5, 6, 7, 8, 2, 9, 1, 0] rfl)
                refine lv_iload hx hb dX6_byWhom_188 (lv_at hl 8 rfl) ?_
                refine lv_istore (lv' := [(5, .int ((fX6_byWhom_100 md_rockBits md_day md_isHired md_kinds md_ills md_sailed s_ md_must_32 at5 i 6 (5 : Int32) at5 (4 : Int32)).2.1)), (0, .ref (md 0)), (1, .int s_), (2, .int c_), (3, .int no_), (4, .int (fX6_soonOf md_rockBits md_day md_isHired md_kinds md_ills md_cells md_sailed s_ c_)), (6, .int ((fX6_byWhom_100 md_rockBits md_day md_isHired md_kinds md_ills md_sailed s_ md_must_32 at5 i 6 (5 : Int32) at5 (4 : Int32)).1)), (7, .int (nI i)), (8, .int ((fX6_byWhom_100 md_rockBits md_day md_isHired md_kinds md_ills md_sailed s_ md_must_32 at5 i 6 (5 : Int32) at5 (4 : Int32)).2.1))]) hx hb dX6_byWhom_190 hl (by decide) rfl (fun ls hl => ?_)
                refine lv_iinc (v := (nI (i + 1))) (lv' := [(7, .int (nI (i + 1))), (5, .int ((fX6_byWhom_100 md_rockBits md_day md_isHired md_kinds md_ills md_sailed s_ md_must_32 at5 i 6 (5 : Int32) at5 (4 : Int32)).2.1)), (0, .ref (md 0)), (1, .int s_), (2, .int c_), (3, .int no_), (4, .int (fX6_soonOf md_rockBits md_day md_isHired md_kinds md_ills md_cells md_sailed s_ c_)), (6, .int ((fX6_byWhom_100 md_rockBits md_day md_isHired md_kinds md_ills md_sailed s_ md_must_32 at5 i 6 (5 : Int32) at5 (4 : Int32)).1)), (8, .int ((fX6_byWhom_100 md_rockBits md_day md_isHired md_kinds md_ills md_sailed s_ md_must_32 at5 i 6 (5 : Int32) at5 (4 : Int32)).2.1))]) hx hb dX6_byWhom_192 hl (k := 7) rfl (by rw [show Int32.ofInt 1 = nI 1 from rfl, nI_add]) (by decide) rfl (fun ls hl => ?_)
                refine lv_goto (tgt := 84) hx hb dX6_byWhom_195 (by decide) ?_
                exact ih ((fX6_byWhom_100 md_rockBits md_day md_isHired md_kinds md_ills md_sailed s_ md_must_32 at5 i 6 (5 : Int32) at5 (4 : Int32)).2.1) ((fX6_byWhom_100 md_rockBits md_day md_isHired md_kinds md_ills md_sailed s_ md_must_32 at5 i 6 (5 : Int32) at5 (4 : Int32)).1) ((i + 1))  (by omega) (by omega) hE H locs hP hD hS ls (lv_sub hl [2, 3, 4, 5, 6, 1, 7, 0] rfl)
          exact L84 9 (md_cells s_.toNatClampNeg) (-1 : Int32) (0)  (by omega) (by omega) hE H locs hP hD hS ls (lv_sub hl [3, 4, 5, 6, 7, 2, 1, 0] rfl)
        · have e_34 := mt Int32.lt_iff_toInt_lt.mpr c_34
          rw [if_neg c_34] at hE
          refine lv_aload_n hx hb dX6_byWhom_37 rfl (lv_at hl 0 rfl) ?_
          refine va_get (D := (dC, dI)) (ci := 6) (v := .ref (md 6)) (C := RX6) (T := TX6) (N := 30) hx hb hts in_X6 hown hK hP 0 rfl rfl 14 (by decide) t_fieldLink_RX6_25_FourLodgersModel_must_J (fun _ h9 => h9) rfl dX6_byWhom_38 ?_
          refine lv_iload hx hb dX6_byWhom_41 (lv_at hl 5 rfl) ?_
          refine lv_aload_n hx hb dX6_byWhom_43 rfl (lv_at hl 0 rfl) ?_
          refine lv_aload_n hx hb dX6_byWhom_44 rfl (lv_at hl 0 rfl) ?_
          refine va_get (D := (dC, dI)) (ci := 6) (v := .ref (md 6)) (C := RX6) (T := TX6) (N := 30) hx hb hts in_X6 hown hK hP 0 rfl rfl 14 (by decide) t_fieldLink_RX6_25_FourLodgersModel_must_J (fun _ h9 => h9) rfl dX6_byWhom_45 ?_
          refine lv_iload hx hb dX6_byWhom_48 (lv_at hl 5 rfl) ?_
          refine lv_iconst (v := (1 : Int32)) hx hb dX6_byWhom_50 (by decide) ?_
          refine lv_iadd hx hb dX6_byWhom_51 ?_
          refine va_lald hx hb hK hP 6 1 rfl rfl (i := (x5 + (1 : Int32))) (vp_in_iff.mpr (by rw [add1_toInt (by omega)]; omega)) dX6_byWhom_52 ?_
          refine lv_aload_n hx hb dX6_byWhom_53 rfl (lv_at hl 0 rfl) ?_
          refine va_get (D := (dC, dI)) (ci := 6) (v := .int md_day) (C := RX6) (T := TX6) (N := 30) hx hb hts in_X6 hown hK hP 0 rfl rfl 6 (by decide) t_fieldLink_RX6_109_FourLodgersModel_day_I (fun _ h9 => h9) rfl dX6_byWhom_54 ?_
          refine lv_iload hx hb dX6_byWhom_57 (lv_at hl 5 rfl) ?_
          refine lv_iadd hx hb dX6_byWhom_59 ?_
          refine rcVl (As := [.long (md_must_32 (x5 + (1 : Int32)).toNatClampNeg), .int (md_day + x5)]) (rest := [.int x5, .ref (md 6)]) ⟨hx, hb, hml, hown, hts⟩ (kX6_goBack l dC dI cI cJ md md_page md_pageMany md_end md_ships md_rocks md_rockBits md_day md_isHired md_sails md_seasRead md_kinds md_ills md_cells md_sailed md_must_32 md_seenMany md_sights md_seedNow md_cellsThen md_keptSea md_keptDay md_keptHired md_keptSails md_keptSeen md_keptKinds md_keptIlls md_keptCells md_keptSailed md_keptSights md_hash (md_must_32 (x5 + (1 : Int32)).toNatClampNeg) (md_day + x5)) (cwV 2 hts gX6_byWhom_X6_goBack rfl rfl rfl (by decide +kernel) ⟨Nat.le_of_ble_eq_true rfl, Nat.le_of_ble_eq_true rfl⟩) hK hP hst hS [0, 1, 2, 3, 4, 5, 6, 7, 8, 9, 10, 11, 12, 13] rfl 0 rfl rfl rfl hl.1 rfl (Nat.le_of_ble_eq_true rfl) dX6_byWhom_60 ⟨Nat.zero_le _, Nat.zero_le _⟩ (fun r w_6 => ?_)
          subst w_6
          refine va_last hx hb hK hP hD hS 6 1 rfl rfl (i := x5) (by first | assumption | exact vp_in_iff.mpr ⟨by omega, by omega⟩ | omega | decide) dX6_byWhom_63 (fun H locs hP hD hS => ?_)
          replace hP : va_P (dC, dI) vwCl (kMd cI cJ md md_page md_pageMany md_end md_ships md_rocks md_rockBits md_day md_isHired md_sails md_seasRead md_kinds md_ills md_cells md_sailed (vp_updL md_must_32 x5.toNatClampNeg (fX6_goBack md_rockBits md_isHired md_kinds md_ills (md_must_32 (x5 + (1 : Int32)).toNatClampNeg) (md_day + x5))) md_seenMany md_sights md_seedNow md_cellsThen md_keptSea md_keptDay md_keptHired md_keptSails md_keptSeen md_keptKinds md_keptIlls md_keptCells md_keptSailed md_keptSights md_hash) H := hP
          replace hD : va_D A (kMd cI cJ md md_page md_pageMany md_end md_ships md_rocks md_rockBits md_day md_isHired md_sails md_seasRead md_kinds md_ills md_cells md_sailed (vp_updL md_must_32 x5.toNatClampNeg (fX6_goBack md_rockBits md_isHired md_kinds md_ills (md_must_32 (x5 + (1 : Int32)).toNatClampNeg) (md_day + x5))) md_seenMany md_sights md_seedNow md_cellsThen md_keptSea md_keptDay md_keptHired md_keptSails md_keptSeen md_keptKinds md_keptIlls md_keptCells md_keptSailed md_keptSights md_hash) := hD
          refine lv_iinc (v := (x5 + (-1 : Int32))) (lv' := [(5, .int (x5 + (-1 : Int32))), (0, .ref (md 0)), (1, .int s_), (2, .int c_), (3, .int no_), (4, .int (fX6_soonOf md_rockBits md_day md_isHired md_kinds md_ills md_cells md_sailed s_ c_))]) hx hb dX6_byWhom_64 hl (k := 5) rfl rfl (by decide) rfl (fun ls hl => ?_)
          refine lv_goto (tgt := 32) hx hb dX6_byWhom_67 (by decide) ?_
          exact ih (x5 + (-1 : Int32)) (vp_updL md_must_32 x5.toNatClampNeg (fX6_goBack md_rockBits md_isHired md_kinds md_ills (md_must_32 (x5 + (1 : Int32)).toNatClampNeg) (md_day + x5)))  (dec_inv40 c_34 hi.2 hn).1 (dec_inv40 c_34 hi.2 hn).2 hE H locs hP hD hS ls (lv_sub hl [1, 2, 3, 4, 5, 0] rfl)
    exact L32 42 ((fX6_soonOf md_rockBits md_day md_isHired md_kinds md_ills md_cells md_sailed s_ c_) - (1 : Int32)) (vp_updL md_must (fX6_soonOf md_rockBits md_day md_isHired md_kinds md_ills md_cells md_sailed s_ c_).toNatClampNeg ((1 : Int64) <<< (c_.toInt64 &&& 63)))  (soon_m1 p_2 c_11 (soonOf_le _ _ _ _ _ _ _ _ _).2).1 (soon_m1 p_2 c_11 (soonOf_le _ _ _ _ _ _ _ _ _).2).2 hE H locs hP hD hS ls (lv_sub hl [2, 3, 4, 5, 1, 0] rfl)
  · rw [if_neg c_11] at hE
    refine lv_iconst (v := (-1 : Int32)) hx hb dX6_byWhom_14 (by decide) ?_
    subst hE
    rw [← hQ]
    exact W.iret hx hb hr (fun t ht hW => ⟨⟨_, md_must, rfl, rfl, by rw [ht]; exact hP, va_K.moved hW.alike hK, hD⟩, hS.F ht⟩) hS.2.2 dX6_byWhom_15
