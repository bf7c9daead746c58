def fX6_in (v_ : Int64) (low_ : Int64) (high_ : Int64) : Int32 := (if v_ < low_ then (0 : Int32) else (if high_ < v_ then (0 : Int32) else (1 : Int32)))
set_option maxHeartbeats 4000000 in
set_option maxRecDepth 100000 in
theorem kX6_in (l : Launch) (dC : Nat → ClassId) (dI : Nat → Nat → Nat) (cI cJ : ClassId) (v_ : Int64) (low_ : Int64) (high_ : Int64) : Met l yX6_in wsX6_in ({ frames := 0, cells := 0, slots := 0, locals := 0 } : Room) (gR (dC, dI) cI cJ ([] : va_W) ([.long v_, .long low_, .long high_] : List Value)) (vp_Si (fun r => r = (fX6_in v_ low_ high_) ∧ isB r)) 0 0 (fun _ => False) := by
  refine Met.ofW (cc := cX6_in) (maxL := 6) (ret := (some .boolean)) (by decide) rfl ?_
  intro p e s m args below meth c s₁ B hml hv
  obtain ⟨rfl, hP, hK, hst⟩ := hv
  have hx := B.exec
  have hb := B.bytes
  have hr := B.returns
  have hts := atoms_spec (ws := wsX6_in) B.pre
  have hown : s.vm.findClass RX6 = some m.cls := findClass_of_methodNamed B.named
  have hlocks := B.notSynchronized
  have hS : va_S (fun _ => False) s.heap s.heap [] := va_S.rf
  generalize hE : (fX6_in v_ low_ high_) = RES
  generalize hQ : MQ below (vp_Si (fun r => r = RES ∧ isB r)) ([.long v_, .long low_, .long high_] : List Value).toArray s 0 0 (fun _ => False) = Q
  have hl := lv_entry ([.long v_, .long low_, .long high_] : List Value) (n := 6) (Nat.le_of_ble_eq_true rfl)
  rw [lg_entry_eq]
  generalize (lg_sl ([.long v_, .long low_, .long high_] : List Value) ++ List.replicate (6 - (lg_sl ([.long v_, .long low_, .long high_] : List Value)).length) Slot.unset).toArray = ls at hl ⊢
  have hl : lv_has ls 6 [(0, .long v_), (2, .long low_), (4, .long high_)] := hl
  have i_0 : (0 : Int32).toInt = 0 := by decide
  have i_1 : (1 : Int32).toInt = 1 := by decide
  rw [fX6_in] at hE
  refine lv_lload_n hx hb dX6_in_0 rfl (lv_at hl 0 rfl) ?_
  refine lv_lload_n hx hb dX6_in_1 rfl (lv_at hl 1 rfl) ?_
  refine W.lcmp hx hb dX6_in_2 ?_
  refine lv_if_lt (tgt := 17) hx hb dX6_in_3 (by decide) (fun c_3 => ?_) (fun c_3 => ?_)
  · replace c_3 : v_ < low_ := (lg_cmp_lt _ _).mp c_3
    rw [if_pos c_3] at hE
    refine lv_iconst (v := (0 : Int32)) hx hb dX6_in_17 (by decide) ?_
    subst hE
    rw [← hQ]
    exact W.zret hx hb hr (isB.n nb_0) (fun t ht hW => ⟨_, rfl, ⟨rfl, nb_0⟩, ht⟩) (fun q h => absurd h List.not_mem_nil) dX6_in_18
  · replace c_3 : ¬ v_ < low_ := fun q => c_3 ((lg_cmp_lt _ _).mpr q)
    rw [if_neg c_3] at hE
    refine lv_lload_n hx hb dX6_in_6 rfl (lv_at hl 0 rfl) ?_
    refine lv_lload hx hb dX6_in_7 (lv_at hl 2 rfl) ?_
    refine W.lcmp hx hb dX6_in_9 ?_
    refine lv_if_gt (tgt := 17) hx hb dX6_in_10 (by decide) (fun c_10 => ?_) (fun c_10 => ?_)
    · replace c_10 : high_ < v_ := (lg_cmp_gt _ _).mp c_10
      rw [if_pos c_10] at hE
      refine lv_iconst (v := (0 : Int32)) hx hb dX6_in_17 (by decide) ?_
      subst hE
      rw [← hQ]
      exact W.zret hx hb hr (isB.n nb_0) (fun t ht hW => ⟨_, rfl, ⟨rfl, nb_0⟩, ht⟩) (fun q h => absurd h List.not_mem_nil) dX6_in_18
    · replace c_10 : ¬ high_ < v_ := fun q => c_10 ((lg_cmp_gt _ _).mpr q)
      rw [if_neg c_10] at hE
      refine lv_iconst (v := (1 : Int32)) hx hb dX6_in_13 (by decide) ?_
      refine lv_goto (tgt := 18) hx hb dX6_in_14 (by decide) ?_
      subst hE
      rw [← hQ]
      exact W.zret hx hb hr (isB.n nb_1) (fun t ht hW => ⟨_, rfl, ⟨rfl, nb_1⟩, ht⟩) (fun q h => absurd h List.not_mem_nil) dX6_in_18
def fX6_kindBy (c_ : Int32) : Int32 := (if c_ = (102 : Int32) then (3 : Int32) else (if c_ = (103 : Int32) then (4 : Int32) else (if c_ = (104 : Int32) then (-1 : Int32) else (if c_ = (105 : Int32) then (-1 : Int32) else (if c_ = (106 : Int32) then (-1 : Int32) else (if c_ = (107 : Int32) then (-1 : Int32) else (if c_ = (108 : Int32) then (0 : Int32) else (if c_ = (109 : Int32) then (-1 : Int32) else (if c_ = (110 : Int32) then (-1 : Int32) else (if c_ = (111 : Int32) then (-1 : Int32) else (if c_ = (112 : Int32) then (1 : Int32) else (if c_ = (113 : Int32) then (-1 : Int32) else (if c_ = (114 : Int32) then (-1 : Int32) else (if c_ = (115 : Int32) then (2 : Int32) else (-1 : Int32)))))))))))))))
set_option maxHeartbeats 4000000 in
set_option maxRecDepth 100000 in
theorem kX6_kindBy (l : Launch) (dC : Nat → ClassId) (dI : Nat → Nat → Nat) (cI cJ : ClassId) (c_ : Int32) : Met l yX6_kindBy wsX6_kindBy ({ frames := 0, cells := 0, slots := 0, locals := 0 } : Room) (gR (dC, dI) cI cJ ([] : va_W) ([.int c_] : List Value)) (vp_Si (fun r => r = (fX6_kindBy c_))) 0 0 (fun _ => False) := by
  refine Met.ofW (cc := cX6_kindBy) (maxL := 1) (ret := (some .int)) (by decide) rfl ?_
  intro p e s m args below meth c s₁ B hml hv
  obtain ⟨rfl, hP, hK, hst⟩ := hv
  have hx := B.exec
  have hb := B.bytes
  have hr := B.returns
  have hts := atoms_spec (ws := wsX6_kindBy) B.pre
  have hown : s.vm.findClass RX6 = some m.cls := findClass_of_methodNamed B.named
  have hlocks := B.notSynchronized
  have hS : va_S (fun _ => False) s.heap s.heap [] := va_S.rf
  generalize hE : (fX6_kindBy c_) = RES
  generalize hQ : MQ below (vp_Si (fun r => r = RES)) ([.int c_] : List Value).toArray s 0 0 (fun _ => False) = Q
  have hl := lv_entry ([.int c_] : List Value) (n := 1) (Nat.le_of_ble_eq_true rfl)
  rw [lg_entry_eq]
  generalize (lg_sl ([.int c_] : List Value) ++ List.replicate (1 - (lg_sl ([.int c_] : List Value)).length) Slot.unset).toArray = ls at hl ⊢
  have hl : lv_has ls 1 [(0, .int c_)] := hl
  have i_m1 : (-1 : Int32).toInt = -1 := by decide
  have i_0 : (0 : Int32).toInt = 0 := by decide
  have i_1 : (1 : Int32).toInt = 1 := by decide
  have i_2 : (2 : Int32).toInt = 2 := by decide
  have i_3 : (3 : Int32).toInt = 3 := by decide
  have i_4 : (4 : Int32).toInt = 4 := by decide
  have i_102 : (102 : Int32).toInt = 102 := by decide
  have i_103 : (103 : Int32).toInt = 103 := by decide
  have i_104 : (104 : Int32).toInt = 104 := by decide
  have i_105 : (105 : Int32).toInt = 105 := by decide
  have i_106 : (106 : Int32).toInt = 106 := by decide
  have i_107 : (107 : Int32).toInt = 107 := by decide
  have i_108 : (108 : Int32).toInt = 108 := by decide
  have i_109 : (109 : Int32).toInt = 109 := by decide
  have i_110 : (110 : Int32).toInt = 110 := by decide
  have i_111 : (111 : Int32).toInt = 111 := by decide
  have i_112 : (112 : Int32).toInt = 112 := by decide
  have i_113 : (113 : Int32).toInt = 113 := by decide
  have i_114 : (114 : Int32).toInt = 114 := by decide
  have i_115 : (115 : Int32).toInt = 115 := by decide
  rw [fX6_kindBy] at hE
  refine lv_iload_n hx hb dX6_kindBy_0 rfl (lv_at hl 0 rfl) ?_
  by_cases c_1_102 : c_ = (102 : Int32)
  · have e_1_102 := congrArg Int32.toInt c_1_102
    rw [if_pos c_1_102] at hE
    refine lv_tableIn (off := 77) (tgt := 78) hx hb dX6_kindBy_1 (by rw [c_1_102]; decide) (by rw [c_1_102]; decide) (by rw [c_1_102]; rfl) (by decide) ?_
    refine lv_iconst (v := (3 : Int32)) hx hb dX6_kindBy_78 (by decide) ?_
    subst hE
    rw [← hQ]
    exact W.iret hx hb hr (fun t ht hW => ⟨_, rfl, rfl, ht⟩) (fun q h => absurd h List.not_mem_nil) dX6_kindBy_79
  · rw [if_neg c_1_102] at hE
    have e_1_102 := mt Int32.toInt_inj.mp c_1_102
    by_cases c_1_103 : c_ = (103 : Int32)
    · have e_1_103 := congrArg Int32.toInt c_1_103
      rw [if_pos c_1_103] at hE
      refine lv_tableIn (off := 79) (tgt := 80) hx hb dX6_kindBy_1 (by rw [c_1_103]; decide) (by rw [c_1_103]; decide) (by rw [c_1_103]; rfl) (by decide) ?_
      refine lv_iconst (v := (4 : Int32)) hx hb dX6_kindBy_80 (by decide) ?_
      subst hE
      rw [← hQ]
      exact W.iret hx hb hr (fun t ht hW => ⟨_, rfl, rfl, ht⟩) (fun q h => absurd h List.not_mem_nil) dX6_kindBy_81
    · rw [if_neg c_1_103] at hE
      have e_1_103 := mt Int32.toInt_inj.mp c_1_103
      by_cases c_1_104 : c_ = (104 : Int32)
      · have e_1_104 := congrArg Int32.toInt c_1_104
        rw [if_pos c_1_104] at hE
        refine lv_tableIn (off := 81) (tgt := 82) hx hb dX6_kindBy_1 (by rw [c_1_104]; decide) (by rw [c_1_104]; decide) (by rw [c_1_104]; rfl) (by decide) ?_
        refine lv_iconst (v := (-1 : Int32)) hx hb dX6_kindBy_82 (by decide) ?_
        subst hE
        rw [← hQ]
        exact W.iret hx hb hr (fun t ht hW => ⟨_, rfl, rfl, ht⟩) (fun q h => absurd h List.not_mem_nil) dX6_kindBy_83
      · rw [if_neg c_1_104] at hE
        have e_1_104 := mt Int32.toInt_inj.mp c_1_104
        by_cases c_1_105 : c_ = (105 : Int32)
        · have e_1_105 := congrArg Int32.toInt c_1_105
          rw [if_pos c_1_105] at hE
          refine lv_tableIn (off := 81) (tgt := 82) hx hb dX6_kindBy_1 (by rw [c_1_105]; decide) (by rw [c_1_105]; decide) (by rw [c_1_105]; rfl) (by decide) ?_
          refine lv_iconst (v := (-1 : Int32)) hx hb dX6_kindBy_82 (by decide) ?_
          subst hE
          rw [← hQ]
          exact W.iret hx hb hr (fun t ht hW => ⟨_, rfl, rfl, ht⟩) (fun q h => absurd h List.not_mem_nil) dX6_kindBy_83
        · rw [if_neg c_1_105] at hE
          have e_1_105 := mt Int32.toInt_inj.mp c_1_105
          by_cases c_1_106 : c_ = (106 : Int32)
          · have e_1_106 := congrArg Int32.toInt c_1_106
            rw [if_pos c_1_106] at hE
            refine lv_tableIn (off := 81) (tgt := 82) hx hb dX6_kindBy_1 (by rw [c_1_106]; decide) (by rw [c_1_106]; decide) (by rw [c_1_106]; rfl) (by decide) ?_
            refine lv_iconst (v := (-1 : Int32)) hx hb dX6_kindBy_82 (by decide) ?_
            subst hE
            rw [← hQ]
            exact W.iret hx hb hr (fun t ht hW => ⟨_, rfl, rfl, ht⟩) (fun q h => absurd h List.not_mem_nil) dX6_kindBy_83
          · rw [if_neg c_1_106] at hE
            have e_1_106 := mt Int32.toInt_inj.mp c_1_106
            by_cases c_1_107 : c_ = (107 : Int32)
            · have e_1_107 := congrArg Int32.toInt c_1_107
              rw [if_pos c_1_107] at hE
              refine lv_tableIn (off := 81) (tgt := 82) hx hb dX6_kindBy_1 (by rw [c_1_107]; decide) (by rw [c_1_107]; decide) (by rw [c_1_107]; rfl) (by decide) ?_
              refine lv_iconst (v := (-1 : Int32)) hx hb dX6_kindBy_82 (by decide) ?_
              subst hE
              rw [← hQ]
              exact W.iret hx hb hr (fun t ht hW => ⟨_, rfl, rfl, ht⟩) (fun q h => absurd h List.not_mem_nil) dX6_kindBy_83
            · rw [if_neg c_1_107] at hE
              have e_1_107 := mt Int32.toInt_inj.mp c_1_107
              by_cases c_1_108 : c_ = (108 : Int32)
              · have e_1_108 := congrArg Int32.toInt c_1_108
                rw [if_pos c_1_108] at hE
                refine lv_tableIn (off := 71) (tgt := 72) hx hb dX6_kindBy_1 (by rw [c_1_108]; decide) (by rw [c_1_108]; decide) (by rw [c_1_108]; rfl) (by decide) ?_
                refine lv_iconst (v := (0 : Int32)) hx hb dX6_kindBy_72 (by decide) ?_
                subst hE
                rw [← hQ]
                exact W.iret hx hb hr (fun t ht hW => ⟨_, rfl, rfl, ht⟩) (fun q h => absurd h List.not_mem_nil) dX6_kindBy_73
              · rw [if_neg c_1_108] at hE
                have e_1_108 := mt Int32.toInt_inj.mp c_1_108
                by_cases c_1_109 : c_ = (109 : Int32)
                · have e_1_109 := congrArg Int32.toInt c_1_109
                  rw [if_pos c_1_109] at hE
                  refine lv_tableIn (off := 81) (tgt := 82) hx hb dX6_kindBy_1 (by rw [c_1_109]; decide) (by rw [c_1_109]; decide) (by rw [c_1_109]; rfl) (by decide) ?_
                  refine lv_iconst (v := (-1 : Int32)) hx hb dX6_kindBy_82 (by decide) ?_
                  subst hE
                  rw [← hQ]
                  exact W.iret hx hb hr (fun t ht hW => ⟨_, rfl, rfl, ht⟩) (fun q h => absurd h List.not_mem_nil) dX6_kindBy_83
                · rw [if_neg c_1_109] at hE
                  have e_1_109 := mt Int32.toInt_inj.mp c_1_109
                  by_cases c_1_110 : c_ = (110 : Int32)
                  · have e_1_110 := congrArg Int32.toInt c_1_110
                    rw [if_pos c_1_110] at hE
                    refine lv_tableIn (off := 81) (tgt := 82) hx hb dX6_kindBy_1 (by rw [c_1_110]; decide) (by rw [c_1_110]; decide) (by rw [c_1_110]; rfl) (by decide) ?_
                    refine lv_iconst (v := (-1 : Int32)) hx hb dX6_kindBy_82 (by decide) ?_
                    subst hE
                    rw [← hQ]
                    exact W.iret hx hb hr (fun t ht hW => ⟨_, rfl, rfl, ht⟩) (fun q h => absurd h List.not_mem_nil) dX6_kindBy_83
                  · rw [if_neg c_1_110] at hE
                    have e_1_110 := mt Int32.toInt_inj.mp c_1_110
                    by_cases c_1_111 : c_ = (111 : Int32)
                    · have e_1_111 := congrArg Int32.toInt c_1_111
                      rw [if_pos c_1_111] at hE
                      refine lv_tableIn (off := 81) (tgt := 82) hx hb dX6_kindBy_1 (by rw [c_1_111]; decide) (by rw [c_1_111]; decide) (by rw [c_1_111]; rfl) (by decide) ?_
                      refine lv_iconst (v := (-1 : Int32)) hx hb dX6_kindBy_82 (by decide) ?_
                      subst hE
                      rw [← hQ]
                      exact W.iret hx hb hr (fun t ht hW => ⟨_, rfl, rfl, ht⟩) (fun q h => absurd h List.not_mem_nil) dX6_kindBy_83
                    · rw [if_neg c_1_111] at hE
                      have e_1_111 := mt Int32.toInt_inj.mp c_1_111
                      by_cases c_1_112 : c_ = (112 : Int32)
                      · have e_1_112 := congrArg Int32.toInt c_1_112
                        rw [if_pos c_1_112] at hE
                        refine lv_tableIn (off := 73) (tgt := 74) hx hb dX6_kindBy_1 (by rw [c_1_112]; decide) (by rw [c_1_112]; decide) (by rw [c_1_112]; rfl) (by decide) ?_
                        refine lv_iconst (v := (1 : Int32)) hx hb dX6_kindBy_74 (by decide) ?_
                        subst hE
                        rw [← hQ]
                        exact W.iret hx hb hr (fun t ht hW => ⟨_, rfl, rfl, ht⟩) (fun q h => absurd h List.not_mem_nil) dX6_kindBy_75
                      · rw [if_neg c_1_112] at hE
                        have e_1_112 := mt Int32.toInt_inj.mp c_1_112
                        by_cases c_1_113 : c_ = (113 : Int32)
                        · have e_1_113 := congrArg Int32.toInt c_1_113
                          rw [if_pos c_1_113] at hE
                          refine lv_tableIn (off := 81) (tgt := 82) hx hb dX6_kindBy_1 (by rw [c_1_113]; decide) (by rw [c_1_113]; decide) (by rw [c_1_113]; rfl) (by decide) ?_
                          refine lv_iconst (v := (-1 : Int32)) hx hb dX6_kindBy_82 (by decide) ?_
                          subst hE
                          rw [← hQ]
                          exact W.iret hx hb hr (fun t ht hW => ⟨_, rfl, rfl, ht⟩) (fun q h => absurd h List.not_mem_nil) dX6_kindBy_83
                        · rw [if_neg c_1_113] at hE
                          have e_1_113 := mt Int32.toInt_inj.mp c_1_113
                          by_cases c_1_114 : c_ = (114 : Int32)
                          · have e_1_114 := congrArg Int32.toInt c_1_114
                            rw [if_pos c_1_114] at hE
                            refine lv_tableIn (off := 81) (tgt := 82) hx hb dX6_kindBy_1 (by rw [c_1_114]; decide) (by rw [c_1_114]; decide) (by rw [c_1_114]; rfl) (by decide) ?_
                            refine lv_iconst (v := (-1 : Int32)) hx hb dX6_kindBy_82 (by decide) ?_
                            subst hE
                            rw [← hQ]
                            exact W.iret hx hb hr (fun t ht hW => ⟨_, rfl, rfl, ht⟩) (fun q h => absurd h List.not_mem_nil) dX6_kindBy_83
                          · rw [if_neg c_1_114] at hE
                            have e_1_114 := mt Int32.toInt_inj.mp c_1_114
                            by_cases c_1_115 : c_ = (115 : Int32)
                            · have e_1_115 := congrArg Int32.toInt c_1_115
                              rw [if_pos c_1_115] at hE
                              refine lv_tableIn (off := 75) (tgt := 76) hx hb dX6_kindBy_1 (by rw [c_1_115]; decide) (by rw [c_1_115]; decide) (by rw [c_1_115]; rfl) (by decide) ?_
                              refine lv_iconst (v := (2 : Int32)) hx hb dX6_kindBy_76 (by decide) ?_
                              subst hE
                              rw [← hQ]
                              exact W.iret hx hb hr (fun t ht hW => ⟨_, rfl, rfl, ht⟩) (fun q h => absurd h List.not_mem_nil) dX6_kindBy_77
                            · rw [if_neg c_1_115] at hE
                              have e_1_115 := mt Int32.toInt_inj.mp c_1_115
                              refine lv_tableOut (tgt := 82) hx hb dX6_kindBy_1 (tab_o_102_14 (lv_neT c_1_102 (a := 102) (by decide)) (lv_neT c_1_103 (a := 103) (by decide)) (lv_neT c_1_104 (a := 104) (by decide)) (lv_neT c_1_105 (a := 105) (by decide)) (lv_neT c_1_106 (a := 106) (by decide)) (lv_neT c_1_107 (a := 107) (by decide)) (lv_neT c_1_108 (a := 108) (by decide)) (lv_neT c_1_109 (a := 109) (by decide)) (lv_neT c_1_110 (a := 110) (by decide)) (lv_neT c_1_111 (a := 111) (by decide)) (lv_neT c_1_112 (a := 112) (by decide)) (lv_neT c_1_113 (a := 113) (by decide)) (lv_neT c_1_114 (a := 114) (by decide)) (lv_neT c_1_115 (a := 115) (by decide))) (by decide) ?_
                              refine lv_iconst (v := (-1 : Int32)) hx hb dX6_kindBy_82 (by decide) ?_
                              subst hE
                              rw [← hQ]
                              exact W.iret hx hb hr (fun t ht hW => ⟨_, rfl, rfl, ht⟩) (fun q h => absurd h List.not_mem_nil) dX6_kindBy_83
def fX6_letter (md_page : Nat → Int32) (md_pageMany : Int32) (code_ : Int32) : Int32 × (Nat → Int32) × Int32 := (if (fX6_in code_.toInt64 (1 : Int64) (126 : Int64)) = (0 : Int32) then ((-102 : Int32), md_page, md_pageMany) else (if md_pageMany = (40 : Int32) then ((-104 : Int32), md_page, md_pageMany) else ((md_pageMany + (1 : Int32)), (upd md_page md_pageMany.toNatClampNeg code_), (md_pageMany + (1 : Int32)))))
set_option maxHeartbeats 4000000 in
set_option maxRecDepth 100000 in
theorem kX6_letter (l : Launch) (dC : Nat → ClassId) (dI : Nat → Nat → Nat) (cI cJ : ClassId) (sz : Nat) (md : Nat → Nat) (md_page : Nat → Int32) (md_pageMany : Int32) (md_end : Int32) (md_ships : Int32) (md_rocks : Int32) (md_rockBits : Int64) (md_day : Int32) (md_isHired : Int32) (md_sails : Int32) (md_seasRead : Int32) (md_kinds : Nat → Int32) (md_ills : Nat → Int32) (md_cells : Nat → Int32) (md_sailed : Nat → Int32) (md_must : Nat → Int64) (md_seenMany : Int32) (md_sights : Nat → Int32) (md_seedNow : Int32) (md_cellsThen : Nat → Int32) (md_keptSea : Int32) (md_keptDay : Int32) (md_keptHired : Int32) (md_keptSails : Int32) (md_keptSeen : Int32) (md_keptKinds : Nat → Int32) (md_keptIlls : Nat → Int32) (md_keptCells : Nat → Int32) (md_keptSailed : Nat → Int32) (md_keptSights : Nat → Int32) (md_hash : Int64) (code_ : Int32) (p_1 : 0 ≤ md_pageMany.toInt) (p_2 : md_pageMany.toInt ≤ 40) : Met l yX6_letter wsX6_letter ({ frames := 1, cells := 0, slots := 0, locals := 25 } : Room) (gW (dC, dI) cI cJ sz (kMd cI cJ md md_page md_pageMany md_end md_ships md_rocks md_rockBits md_day md_isHired md_sails md_seasRead md_kinds md_ills md_cells md_sailed md_must md_seenMany md_sights md_seedNow md_cellsThen md_keptSea md_keptDay md_keptHired md_keptSails md_keptSeen md_keptKinds md_keptIlls md_keptCells md_keptSailed md_keptSights md_hash) ([.ref (md 0), .int code_] : List Value)) (va_Qi (fun (r : Int32) (_ : Unit) => r = ((fX6_letter md_page md_pageMany code_).1)) (fun u : Unit => gB (dC, dI) cI cJ (va_A (kMd cI cJ md md_page md_pageMany md_end md_ships md_rocks md_rockBits md_day md_isHired md_sails md_seasRead md_kinds md_ills md_cells md_sailed md_must md_seenMany md_sights md_seedNow md_cellsThen md_keptSea md_keptDay md_keptHired md_keptSails md_keptSeen md_keptKinds md_keptIlls md_keptCells md_keptSailed md_keptSights md_hash) sz) (kMd cI cJ md ((fX6_letter md_page md_pageMany code_).2.1) ((fX6_letter md_page md_pageMany code_).2.2) md_end md_ships md_rocks md_rockBits md_day md_isHired md_sails md_seasRead md_kinds md_ills md_cells md_sailed md_must md_seenMany md_sights md_seedNow md_cellsThen md_keptSea md_keptDay md_keptHired md_keptSails md_keptSeen md_keptKinds md_keptIlls md_keptCells md_keptSailed md_keptSights md_hash)) (va_A (kMd cI cJ md md_page md_pageMany md_end md_ships md_rocks md_rockBits md_day md_isHired md_sails md_seasRead md_kinds md_ills md_cells md_sailed md_must md_seenMany md_sights md_seedNow md_cellsThen md_keptSea md_keptDay md_keptHired md_keptSails md_keptSeen md_keptKinds md_keptIlls md_keptCells md_keptSailed md_keptSights md_hash) sz)) 0 0 (va_A (kMd cI cJ md md_page md_pageMany md_end md_ships md_rocks md_rockBits md_day md_isHired md_sails md_seasRead md_kinds md_ills md_cells md_sailed md_must md_seenMany md_sights md_seedNow md_cellsThen md_keptSea md_keptDay md_keptHired md_keptSails md_keptSeen md_keptKinds md_keptIlls md_keptCells md_keptSailed md_keptSights md_hash) sz) := by
  refine Met.ofW (cc := cX6_letter) (maxL := 2) (ret := (some .int)) (by decide) rfl ?_
  intro p e s m args below meth c s₁ B hml hv
  obtain ⟨rfl, hsz, hP, hK, hD0, hst⟩ := hv
  have hx := B.exec
  have hb := B.bytes
  have hr := B.returns
  have hts := atoms_spec (ws := wsX6_letter) B.pre
  have hown : s.vm.findClass RX6 = some m.cls := findClass_of_methodNamed B.named
  have hlocks := B.notSynchronized
  subst hsz
  have hD := hD0.self (sz := s.heap.size)
  generalize hAe : va_A (kMd cI cJ md md_page md_pageMany md_end md_ships md_rocks md_rockBits md_day md_isHired md_sails md_seasRead md_kinds md_ills md_cells md_sailed md_must md_seenMany md_sights md_seedNow md_cellsThen md_keptSea md_keptDay md_keptHired md_keptSails md_keptSeen md_keptKinds md_keptIlls md_keptCells md_keptSailed md_keptSights md_hash) s.heap.size = A at hD hst ⊢
  have hA : ∀ q : Nat, s.heap.size ≤ q → A q := fun q h => by rw [← hAe]; exact Or.inr h
  have hS : va_S A s.heap s.heap [] := va_S.rf
  generalize hE : (fX6_letter md_page md_pageMany code_) = RES
  generalize hQ : MQ below (va_Qi (fun (r : Int32) (_ : Unit) => r = (RES.1)) (fun u : Unit => gB (dC, dI) cI cJ A (kMd cI cJ md (RES.2.1) (RES.2.2) md_end md_ships md_rocks md_rockBits md_day md_isHired md_sails md_seasRead md_kinds md_ills md_cells md_sailed md_must md_seenMany md_sights md_seedNow md_cellsThen md_keptSea md_keptDay md_keptHired md_keptSails md_keptSeen md_keptKinds md_keptIlls md_keptCells md_keptSailed md_keptSights md_hash)) A) ([.ref (md 0), .int code_] : List Value).toArray s 0 0 A = Q
  have hl := lv_entry ([.ref (md 0), .int code_] : List Value) (n := 2) (Nat.le_of_ble_eq_true rfl)
  rw [lg_entry_eq]
  generalize (lg_sl ([.ref (md 0), .int code_] : List Value) ++ List.replicate (2 - (lg_sl ([.ref (md 0), .int code_] : List Value)).length) Slot.unset).toArray = ls at hl ⊢
  have hl : lv_has ls 2 [(0, .ref (md 0)), (1, .int code_)] := hl
  have in_X6 : ∀ w ∈ u_ws RX6 TX6 30, w ∈ wsX6_letter := fun _ h => List.mem_cons_of_mem _ (List.mem_append_right _ h)
  have t_constantLong_RX6_54_126 := hts (.constantLong RX6 54 (126)) (List.mem_of_getElem? (i := 1) rfl)
  have t_fieldLink_RX6_60_FourLodgersModel_pageMany_I := hts (.fieldLink RX6 60 "FourLodgersModel" "pageMany" "I") (List.mem_of_getElem? (i := 2) rfl)
  have t_fieldLink_RX6_7_FourLodgersModel_page_I := hts (.fieldLink RX6 7 "FourLodgersModel" "page" "[I") (List.mem_of_getElem? (i := 3) rfl)
  have i_m104 : (-104 : Int32).toInt = -104 := by decide
  have i_m102 : (-102 : Int32).toInt = -102 := by decide
  have i_0 : (0 : Int32).toInt = 0 := by decide
  have i_1 : (1 : Int32).toInt = 1 := by decide
  have i_40 : (40 : Int32).toInt = 40 := by decide
  rw [fX6_letter] at hE
  refine lv_iload_n hx hb dX6_letter_0 rfl (lv_at hl 1 rfl) ?_
  refine lv_i2l hx hb dX6_letter_1 rfl ?_
  refine lv_lconst (v := (1 : Int64)) hx hb dX6_letter_2 (by decide) ?_
  refine lv_ldc2 hx hb hown t_constantLong_RX6_54_126 dX6_letter_3 ?_
  refine rcSi (As := [.long code_.toInt64, .long (1 : Int64), .long (126 : Int64)]) (rest := []) ⟨hx, hb, hml, hown, hts⟩ (kX6_in l dC dI cI cJ code_.toInt64 (1 : Int64) (126 : Int64)) (va_cwS 3 hts gX6_letter_X6_in rfl rfl rfl (by decide +kernel) ⟨Nat.le_of_ble_eq_true rfl, Nat.le_of_ble_eq_true rfl⟩) hK hP hst hS [] rfl rfl hl.1 rfl (Nat.le_of_ble_eq_true rfl) dX6_letter_6 ⟨Nat.zero_le _, Nat.zero_le _⟩ (fun r w_1 => ?_)
  obtain ⟨w_1, nb_2⟩ := w_1; rw [w_1] at nb_2 ⊢
  refine lv_if_ne (tgt := 15) hx hb dX6_letter_9 (by decide) (fun c_9 => ?_) (fun c_9 => ?_)
  · rw [if_neg c_9] at hE
    refine lv_aload_n hx hb dX6_letter_15 rfl (lv_at hl 0 rfl) ?_
    refine va_get (D := (dC, dI)) (ci := 6) (v := .int md_pageMany) (C := RX6) (T := TX6) (N := 30) hx hb hts in_X6 hown hK hP 0 rfl rfl 1 (by decide) t_fieldLink_RX6_60_FourLodgersModel_pageMany_I (fun _ h9 => h9) rfl dX6_letter_16 ?_
    refine lv_bipush (v := (40 : Int32)) hx hb dX6_letter_19 (by decide) ?_
    refine lv_icmp_ne (tgt := 27) hx hb dX6_letter_21 (by decide) (fun c_21 => ?_) (fun c_21 => ?_)
    · have e_21 := mt Int32.toInt_inj.mp c_21
      rw [if_neg c_21] at hE
      refine lv_aload_n hx hb dX6_letter_27 rfl (lv_at hl 0 rfl) ?_
      refine va_get (D := (dC, dI)) (ci := 6) (v := .ref (md 1)) (C := RX6) (T := TX6) (N := 30) hx hb hts in_X6 hown hK hP 0 rfl rfl 0 (by decide) t_fieldLink_RX6_7_FourLodgersModel_page_I (fun _ h9 => h9) rfl dX6_letter_28 ?_
      refine lv_aload_n hx hb dX6_letter_31 rfl (lv_at hl 0 rfl) ?_
      refine va_get (D := (dC, dI)) (ci := 6) (v := .int md_pageMany) (C := RX6) (T := TX6) (N := 30) hx hb hts in_X6 hown hK hP 0 rfl rfl 1 (by decide) t_fieldLink_RX6_60_FourLodgersModel_pageMany_I (fun _ h9 => h9) rfl dX6_letter_32 ?_
      refine lv_iload_n hx hb dX6_letter_35 rfl (lv_at hl 1 rfl) ?_
      refine va_iast hx hb hK hP hD hS 1 0 rfl rfl (i := md_pageMany) (by first | assumption | exact vp_in_iff.mpr ⟨by omega, by omega⟩ | omega | decide) dX6_letter_36 (fun H locs hP hD hS => ?_)
      replace hP : va_P (dC, dI) vwCl (kMd cI cJ md (upd md_page md_pageMany.toNatClampNeg code_) md_pageMany md_end md_ships md_rocks md_rockBits md_day md_isHired md_sails md_seasRead md_kinds md_ills md_cells md_sailed md_must md_seenMany md_sights md_seedNow md_cellsThen md_keptSea md_keptDay md_keptHired md_keptSails md_keptSeen md_keptKinds md_keptIlls md_keptCells md_keptSailed md_keptSights md_hash) H := hP
      replace hD : va_D A (kMd cI cJ md (upd md_page md_pageMany.toNatClampNeg code_) md_pageMany md_end md_ships md_rocks md_rockBits md_day md_isHired md_sails md_seasRead md_kinds md_ills md_cells md_sailed md_must md_seenMany md_sights md_seedNow md_cellsThen md_keptSea md_keptDay md_keptHired md_keptSails md_keptSeen md_keptKinds md_keptIlls md_keptCells md_keptSailed md_keptSights md_hash) := hD
      refine lv_aload_n hx hb dX6_letter_37 rfl (lv_at hl 0 rfl) ?_
      refine lv_dup hx hb dX6_letter_38 rfl ?_
      refine va_get (D := (dC, dI)) (ci := 6) (v := .int md_pageMany) (C := RX6) (T := TX6) (N := 30) hx hb hts in_X6 hown hK hP 0 rfl rfl 1 (by decide) t_fieldLink_RX6_60_FourLodgersModel_pageMany_I (fun _ h9 => h9) rfl dX6_letter_39 ?_
      refine lv_iconst (v := (1 : Int32)) hx hb dX6_letter_42 (by decide) ?_
      refine lv_iadd hx hb dX6_letter_43 ?_
      refine va_put (D := (dC, dI)) (ci := 6) (v := .int (md_pageMany + (1 : Int32))) (ty := .int) (C := RX6) (T := TX6) (N := 30) hx hb hts in_X6 tyX6 tyX6_ok nmX6 hown hK hP hD hS 0 rfl rfl 1 (by decide) t_fieldLink_RX6_60_FourLodgersModel_pageMany_I (fun _ h9 => h9) rfl (by decide +kernel) rfl rfl (Nat.le_of_ble_eq_true rfl) dX6_letter_44 (fun H locs hP hD hS => ?_)
      replace hP : va_P (dC, dI) vwCl (kMd cI cJ md (upd md_page md_pageMany.toNatClampNeg code_) (md_pageMany + (1 : Int32)) md_end md_ships md_rocks md_rockBits md_day md_isHired md_sails md_seasRead md_kinds md_ills md_cells md_sailed md_must md_seenMany md_sights md_seedNow md_cellsThen md_keptSea md_keptDay md_keptHired md_keptSails md_keptSeen md_keptKinds md_keptIlls md_keptCells md_keptSailed md_keptSights md_hash) H := hP
      replace hD : va_D A (kMd cI cJ md (upd md_page md_pageMany.toNatClampNeg code_) (md_pageMany + (1 : Int32)) md_end md_ships md_rocks md_rockBits md_day md_isHired md_sails md_seasRead md_kinds md_ills md_cells md_sailed md_must md_seenMany md_sights md_seedNow md_cellsThen md_keptSea md_keptDay md_keptHired md_keptSails md_keptSeen md_keptKinds md_keptIlls md_keptCells md_keptSailed md_keptSights md_hash) := hD
      refine lv_aload_n hx hb dX6_letter_47 rfl (lv_at hl 0 rfl) ?_
      refine va_get (D := (dC, dI)) (ci := 6) (v := .int (md_pageMany + (1 : Int32))) (C := RX6) (T := TX6) (N := 30) hx hb hts in_X6 hown hK hP 0 rfl rfl 1 (by decide) t_fieldLink_RX6_60_FourLodgersModel_pageMany_I (fun _ h9 => h9) rfl dX6_letter_48 ?_
      subst hE
      rw [← hQ]
      exact W.iret hx hb hr (fun t ht hW => ⟨⟨_, (), rfl, rfl, by rw [ht]; exact hP, va_K.moved hW.alike hK, hD⟩, hS.F ht⟩) hS.2.2 dX6_letter_51
    · have e_21 := congrArg Int32.toInt c_21
      rw [if_pos c_21] at hE
      refine lv_bipush (v := (-104 : Int32)) hx hb dX6_letter_24 (by decide) ?_
      subst hE
      rw [← hQ]
      exact W.iret hx hb hr (fun t ht hW => ⟨⟨_, (), rfl, rfl, by rw [ht]; exact hP, va_K.moved hW.alike hK, hD⟩, hS.F ht⟩) hS.2.2 dX6_letter_26
  · rw [if_pos c_9] at hE
    refine lv_bipush (v := (-102 : Int32)) hx hb dX6_letter_12 (by decide) ?_
    subst hE
    rw [← hQ]
    exact W.iret hx hb hr (fun t ht hW => ⟨⟨_, (), rfl, rfl, by rw [ht]; exact hP, va_K.moved hW.alike hK, hD⟩, hS.F ht⟩) hS.2.2 dX6_letter_14
def fX6_blank (md_pageMany : Int32) : Int32 × Int32 := (md_pageMany, (0 : Int32))
set_option maxHeartbeats 4000000 in
set_option maxRecDepth 100000 in
theorem kX6_blank (l : Launch) (dC : Nat → ClassId) (dI : Nat → Nat → Nat) (cI cJ : ClassId) (sz : Nat) (md : Nat → Nat) (md_page : Nat → Int32) (md_pageMany : Int32) (md_end : Int32) (md_ships : Int32) (md_rocks : Int32) (md_rockBits : Int64) (md_day : Int32) (md_isHired : Int32) (md_sails : Int32) (md_seasRead : Int32) (md_kinds : Nat → Int32) (md_ills : Nat → Int32) (md_cells : Nat → Int32) (md_sailed : Nat → Int32) (md_must : Nat → Int64) (md_seenMany : Int32) (md_sights : Nat → Int32) (md_seedNow : Int32) (md_cellsThen : Nat → Int32) (md_keptSea : Int32) (md_keptDay : Int32) (md_keptHired : Int32) (md_keptSails : Int32) (md_keptSeen : Int32) (md_keptKinds : Nat → Int32) (md_keptIlls : Nat → Int32) (md_keptCells : Nat → Int32) (md_keptSailed : Nat → Int32) (md_keptSights : Nat → Int32) (md_hash : Int64) : Met l yX6_blank wsX6_blank ({ frames := 0, cells := 0, slots := 0, locals := 0 } : Room) (gW (dC, dI) cI cJ sz (kMd cI cJ md md_page md_pageMany md_end md_ships md_rocks md_rockBits md_day md_isHired md_sails md_seasRead md_kinds md_ills md_cells md_sailed md_must md_seenMany md_sights md_seedNow md_cellsThen md_keptSea md_keptDay md_keptHired md_keptSails md_keptSeen md_keptKinds md_keptIlls md_keptCells md_keptSailed md_keptSights md_hash) ([.ref (md 0)] : List Value)) (va_Qi (fun (r : Int32) (_ : Unit) => r = ((fX6_blank md_pageMany).1)) (fun u : Unit => gB (dC, dI) cI cJ (va_A (kMd cI cJ md md_page md_pageMany md_end md_ships md_rocks md_rockBits md_day md_isHired md_sails md_seasRead md_kinds md_ills md_cells md_sailed md_must md_seenMany md_sights md_seedNow md_cellsThen md_keptSea md_keptDay md_keptHired md_keptSails md_keptSeen md_keptKinds md_keptIlls md_keptCells md_keptSailed md_keptSights md_hash) sz) (kMd cI cJ md md_page ((fX6_blank md_pageMany).2) md_end md_ships md_rocks md_rockBits md_day md_isHired md_sails md_seasRead md_kinds md_ills md_cells md_sailed md_must md_seenMany md_sights md_seedNow md_cellsThen md_keptSea md_keptDay md_keptHired md_keptSails md_keptSeen md_keptKinds md_keptIlls md_keptCells md_keptSailed md_keptSights md_hash)) (va_A (kMd cI cJ md md_page md_pageMany md_end md_ships md_rocks md_rockBits md_day md_isHired md_sails md_seasRead md_kinds md_ills md_cells md_sailed md_must md_seenMany md_sights md_seedNow md_cellsThen md_keptSea md_keptDay md_keptHired md_keptSails md_keptSeen md_keptKinds md_keptIlls md_keptCells md_keptSailed md_keptSights md_hash) sz)) 0 0 (va_A (kMd cI cJ md md_page md_pageMany md_end md_ships md_rocks md_rockBits md_day md_isHired md_sails md_seasRead md_kinds md_ills md_cells md_sailed md_must md_seenMany md_sights md_seedNow md_cellsThen md_keptSea md_keptDay md_keptHired md_keptSails md_keptSeen md_keptKinds md_keptIlls md_keptCells md_keptSailed md_keptSights md_hash) sz) := by
  refine Met.ofW (cc := cX6_blank) (maxL := 2) (ret := (some .int)) (by decide) rfl ?_
  intro p e s m args below meth c s₁ B hml hv
  obtain ⟨rfl, hsz, hP, hK, hD0, hst⟩ := hv
  have hx := B.exec
  have hb := B.bytes
  have hr := B.returns
  have hts := atoms_spec (ws := wsX6_blank) B.pre
  have hown : s.vm.findClass RX6 = some m.cls := findClass_of_methodNamed B.named
  have hlocks := B.notSynchronized
  subst hsz
  have hD := hD0.self (sz := s.heap.size)
  generalize hAe : va_A (kMd cI cJ md md_page md_pageMany md_end md_ships md_rocks md_rockBits md_day md_isHired md_sails md_seasRead md_kinds md_ills md_cells md_sailed md_must md_seenMany md_sights md_seedNow md_cellsThen md_keptSea md_keptDay md_keptHired md_keptSails md_keptSeen md_keptKinds md_keptIlls md_keptCells md_keptSailed md_keptSights md_hash) s.heap.size = A at hD hst ⊢
  have hA : ∀ q : Nat, s.heap.size ≤ q → A q := fun q h => by rw [← hAe]; exact Or.inr h
  have hS : va_S A s.heap s.heap [] := va_S.rf
  generalize hE : (fX6_blank md_pageMany) = RES
  generalize hQ : MQ below (va_Qi (fun (r : Int32) (_ : Unit) => r = (RES.1)) (fun u : Unit => gB (dC, dI) cI cJ A (kMd cI cJ md md_page (RES.2) md_end md_ships md_rocks md_rockBits md_day md_isHired md_sails md_seasRead md_kinds md_ills md_cells md_sailed md_must md_seenMany md_sights md_seedNow md_cellsThen md_keptSea md_keptDay md_keptHired md_keptSails md_keptSeen md_keptKinds md_keptIlls md_keptCells md_keptSailed md_keptSights md_hash)) A) ([.ref (md 0)] : List Value).toArray s 0 0 A = Q
  have hl := lv_entry ([.ref (md 0)] : List Value) (n := 2) (Nat.le_of_ble_eq_true rfl)
  rw [lg_entry_eq]
  generalize (lg_sl ([.ref (md 0)] : List Value) ++ List.replicate (2 - (lg_sl ([.ref (md 0)] : List Value)).length) Slot.unset).toArray = ls at hl ⊢
  have hl : lv_has ls 2 [(0, .ref (md 0))] := hl
  have in_X6 : ∀ w ∈ u_ws RX6 TX6 30, w ∈ wsX6_blank := fun _ h => List.mem_cons_of_mem _ (List.mem_append_right _ h)
  have t_fieldLink_RX6_60_FourLodgersModel_pageMany_I := hts (.fieldLink RX6 60 "FourLodgersModel" "pageMany" "I") (List.mem_of_getElem? (i := 1) rfl)
  have i_0 : (0 : Int32).toInt = 0 := by decide
  rw [fX6_blank] at hE
  refine lv_aload_n hx hb dX6_blank_0 rfl (lv_at hl 0 rfl) ?_
  refine va_get (D := (dC, dI)) (ci := 6) (v := .int md_pageMany) (C := RX6) (T := TX6) (N := 30) hx hb hts in_X6 hown hK hP 0 rfl rfl 1 (by decide) t_fieldLink_RX6_60_FourLodgersModel_pageMany_I (fun _ h9 => h9) rfl dX6_blank_1 ?_
  refine lv_istore_n (lv' := [(1, .int md_pageMany), (0, .ref (md 0))]) hx hb dX6_blank_4 rfl hl (by decide) rfl (fun ls hl => ?_)
  refine lv_aload_n hx hb dX6_blank_5 rfl (lv_at hl 1 rfl) ?_
  refine lv_iconst (v := (0 : Int32)) hx hb dX6_blank_6 (by decide) ?_
  refine va_put (D := (dC, dI)) (ci := 6) (v := .int (0 : Int32)) (ty := .int) (C := RX6) (T := TX6) (N := 30) hx hb hts in_X6 tyX6 tyX6_ok nmX6 hown hK hP hD hS 0 rfl rfl 1 (by decide) t_fieldLink_RX6_60_FourLodgersModel_pageMany_I (fun _ h9 => h9) rfl (by decide +kernel) rfl rfl (Nat.le_of_ble_eq_true rfl) dX6_blank_7 (fun H locs hP hD hS => ?_)
  replace hP : va_P (dC, dI) vwCl (kMd cI cJ md md_page (0 : Int32) md_end md_ships md_rocks md_rockBits md_day md_isHired md_sails md_seasRead md_kinds md_ills md_cells md_sailed md_must md_seenMany md_sights md_seedNow md_cellsThen md_keptSea md_keptDay md_keptHired md_keptSails md_keptSeen md_keptKinds md_keptIlls md_keptCells md_keptSailed md_keptSights md_hash) H := hP
  replace hD : va_D A (kMd cI cJ md md_page (0 : Int32) md_end md_ships md_rocks md_rockBits md_day md_isHired md_sails md_seasRead md_kinds md_ills md_cells md_sailed md_must md_seenMany md_sights md_seedNow md_cellsThen md_keptSea md_keptDay md_keptHired md_keptSails md_keptSeen md_keptKinds md_keptIlls md_keptCells md_keptSailed md_keptSights md_hash) := hD
  refine lv_iload_n hx hb dX6_blank_10 rfl (lv_at hl 0 rfl) ?_
  subst hE
  rw [← hQ]
  exact W.iret hx hb hr (fun t ht hW => ⟨⟨_, (), rfl, rfl, by rw [ht]; exact hP, va_K.moved hW.alike hK, hD⟩, hS.F ht⟩) hS.2.2 dX6_blank_11
def fX6_cellAt (md_page : Nat → Int32) (at_ : Int32) : Int32 := ((((6 : Int32) * ((md_page at_.toNatClampNeg) - (48 : Int32))) + (md_page (at_ + (1 : Int32)).toNatClampNeg)) - (48 : Int32))
set_option maxHeartbeats 4000000 in
set_option maxRecDepth 100000 in
theorem kX6_cellAt (l : Launch) (dC : Nat → ClassId) (dI : Nat → Nat → Nat) (cI cJ : ClassId) (md : Nat → Nat) (md_page : Nat → Int32) (md_pageMany : Int32) (md_end : Int32) (md_ships : Int32) (md_rocks : Int32) (md_rockBits : Int64) (md_day : Int32) (md_isHired : Int32) (md_sails : Int32) (md_seasRead : Int32) (md_kinds : Nat → Int32) (md_ills : Nat → Int32) (md_cells : Nat → Int32) (md_sailed : Nat → Int32) (md_must : Nat → Int64) (md_seenMany : Int32) (md_sights : Nat → Int32) (md_seedNow : Int32) (md_cellsThen : Nat → Int32) (md_keptSea : Int32) (md_keptDay : Int32) (md_keptHired : Int32) (md_keptSails : Int32) (md_keptSeen : Int32) (md_keptKinds : Nat → Int32) (md_keptIlls : Nat → Int32) (md_keptCells : Nat → Int32) (md_keptSailed : Nat → Int32) (md_keptSights : Nat → Int32) (md_hash : Int64) (at_ : Int32) (p_1 : 0 ≤ at_.toInt) (p_2 : at_.toInt ≤ 38) : Met l yX6_cellAt wsX6_cellAt ({ frames := 0, cells := 0, slots := 0, locals := 0 } : Room) (gR (dC, dI) cI cJ (kMd cI cJ md md_page md_pageMany md_end md_ships md_rocks md_rockBits md_day md_isHired md_sails md_seasRead md_kinds md_ills md_cells md_sailed md_must md_seenMany md_sights md_seedNow md_cellsThen md_keptSea md_keptDay md_keptHired md_keptSails md_keptSeen md_keptKinds md_keptIlls md_keptCells md_keptSailed md_keptSights md_hash) ([.ref (md 0), .int at_] : List Value)) (vp_Si (fun r => r = (fX6_cellAt md_page at_))) 0 0 (fun _ => False) := by
  refine Met.ofW (cc := cX6_cellAt) (maxL := 2) (ret := (some .int)) (by decide) rfl ?_
  intro p e s m args below meth c s₁ B hml hv
  obtain ⟨rfl, hP, hK, hst⟩ := hv
  have hx := B.exec
  have hb := B.bytes
  have hr := B.returns
  have hts := atoms_spec (ws := wsX6_cellAt) B.pre
  have hown : s.vm.findClass RX6 = some m.cls := findClass_of_methodNamed B.named
  have hlocks := B.notSynchronized
  have hS : va_S (fun _ => False) s.heap s.heap [] := va_S.rf
  generalize hE : (fX6_cellAt md_page at_) = RES
  generalize hQ : MQ below (vp_Si (fun r => r = RES)) ([.ref (md 0), .int at_] : List Value).toArray s 0 0 (fun _ => False) = Q
  have hl := lv_entry ([.ref (md 0), .int at_] : List Value) (n := 2) (Nat.le_of_ble_eq_true rfl)
  rw [lg_entry_eq]
  generalize (lg_sl ([.ref (md 0), .int at_] : List Value) ++ List.replicate (2 - (lg_sl ([.ref (md 0), .int at_] : List Value)).length) Slot.unset).toArray = ls at hl ⊢
  have hl : lv_has ls 2 [(0, .ref (md 0)), (1, .int at_)] := hl
  have in_X6 : ∀ w ∈ u_ws RX6 TX6 30, w ∈ wsX6_cellAt := fun _ h => List.mem_cons_of_mem _ (List.mem_append_right _ h)
  have t_fieldLink_RX6_7_FourLodgersModel_page_I := hts (.fieldLink RX6 7 "FourLodgersModel" "page" "[I") (List.mem_of_getElem? (i := 1) rfl)
  have i_1 : (1 : Int32).toInt = 1 := by decide
  have i_6 : (6 : Int32).toInt = 6 := by decide
  have i_48 : (48 : Int32).toInt = 48 := by decide
  rw [fX6_cellAt] at hE
  refine lv_bipush (v := (6 : Int32)) hx hb dX6_cellAt_0 (by decide) ?_
  refine lv_aload_n hx hb dX6_cellAt_2 rfl (lv_at hl 0 rfl) ?_
  refine va_get (D := (dC, dI)) (ci := 6) (v := .ref (md 1)) (C := RX6) (T := TX6) (N := 30) hx hb hts in_X6 hown hK hP 0 rfl rfl 0 (by decide) t_fieldLink_RX6_7_FourLodgersModel_page_I (fun _ h9 => h9) rfl dX6_cellAt_3 ?_
  refine lv_iload_n hx hb dX6_cellAt_6 rfl (lv_at hl 1 rfl) ?_
  refine va_iald hx hb hK hP 1 0 rfl rfl (i := at_) (by first | assumption | exact vp_in_iff.mpr ⟨by omega, by omega⟩ | omega | decide) dX6_cellAt_7 ?_
  refine lv_bipush (v := (48 : Int32)) hx hb dX6_cellAt_8 (by decide) ?_
  refine lv_isub hx hb dX6_cellAt_10 ?_
  refine lv_imul hx hb dX6_cellAt_11 ?_
  refine lv_aload_n hx hb dX6_cellAt_12 rfl (lv_at hl 0 rfl) ?_
  refine va_get (D := (dC, dI)) (ci := 6) (v := .ref (md 1)) (C := RX6) (T := TX6) (N := 30) hx hb hts in_X6 hown hK hP 0 rfl rfl 0 (by decide) t_fieldLink_RX6_7_FourLodgersModel_page_I (fun _ h9 => h9) rfl dX6_cellAt_13 ?_
  refine lv_iload_n hx hb dX6_cellAt_16 rfl (lv_at hl 1 rfl) ?_
  refine lv_iconst (v := (1 : Int32)) hx hb dX6_cellAt_17 (by decide) ?_
  refine lv_iadd hx hb dX6_cellAt_18 ?_
  refine va_iald hx hb hK hP 1 0 rfl rfl (i := (at_ + (1 : Int32))) (vp_in_iff.mpr (by rw [add1_toInt (by omega)]; omega)) dX6_cellAt_19 ?_
  refine lv_iadd hx hb dX6_cellAt_20 ?_
  refine lv_bipush (v := (48 : Int32)) hx hb dX6_cellAt_21 (by decide) ?_
  refine lv_isub hx hb dX6_cellAt_23 ?_
  subst hE
  rw [← hQ]
  exact W.iret hx hb hr (fun t ht hW => ⟨_, rfl, rfl, ht⟩) (fun q h => absurd h List.not_mem_nil) dX6_cellAt_24
def fX6_isLodgerLetter (md_page : Nat → Int32) (at_ : Int32) : Int32 := (if (at_ - at_ / (2 : Int32) * (2 : Int32)) = (0 : Int32) then (if (fX6_kindBy (md_page at_.toNatClampNeg)) = (-1 : Int32) then (0 : Int32) else (1 : Int32)) else (fX6_in (md_page at_.toNatClampNeg).toInt64 (48 : Int64) (57 : Int64)))
set_option maxHeartbeats 4000000 in
set_option maxRecDepth 100000 in
theorem kX6_isLodgerLetter (l : Launch) (dC : Nat → ClassId) (dI : Nat → Nat → Nat) (cI cJ : ClassId) (md : Nat → Nat) (md_page : Nat → Int32) (md_pageMany : Int32) (md_end : Int32) (md_ships : Int32) (md_rocks : Int32) (md_rockBits : Int64) (md_day : Int32) (md_isHired : Int32) (md_sails : Int32) (md_seasRead : Int32) (md_kinds : Nat → Int32) (md_ills : Nat → Int32) (md_cells : Nat → Int32) (md_sailed : Nat → Int32) (md_must : Nat → Int64) (md_seenMany : Int32) (md_sights : Nat → Int32) (md_seedNow : Int32) (md_cellsThen : Nat → Int32) (md_keptSea : Int32) (md_keptDay : Int32) (md_keptHired : Int32) (md_keptSails : Int32) (md_keptSeen : Int32) (md_keptKinds : Nat → Int32) (md_keptIlls : Nat → Int32) (md_keptCells : Nat → Int32) (md_keptSailed : Nat → Int32) (md_keptSights : Nat → Int32) (md_hash : Int64) (at_ : Int32) (p_1 : vp_in at_ 40) : Met l yX6_isLodgerLetter wsX6_isLodgerLetter ({ frames := 1, cells := 0, slots := 0, locals := 25 } : Room) (gR (dC, dI) cI cJ (kMd cI cJ md md_page md_pageMany md_end md_ships md_rocks md_rockBits md_day md_isHired md_sails md_seasRead md_kinds md_ills md_cells md_sailed md_must md_seenMany md_sights md_seedNow md_cellsThen md_keptSea md_keptDay md_keptHired md_keptSails md_keptSeen md_keptKinds md_keptIlls md_keptCells md_keptSailed md_keptSights md_hash) ([.ref (md 0), .int at_] : List Value)) (vp_Si (fun r => r = (fX6_isLodgerLetter md_page at_) ∧ isB r)) 0 0 (fun _ => False) := by
  refine Met.ofW (cc := cX6_isLodgerLetter) (maxL := 2) (ret := (some .boolean)) (by decide) rfl ?_
  intro p e s m args below meth c s₁ B hml hv
  obtain ⟨rfl, hP, hK, hst⟩ := hv
  have hx := B.exec
  have hb := B.bytes
  have hr := B.returns
  have hts := atoms_spec (ws := wsX6_isLodgerLetter) B.pre
  have hown : s.vm.findClass RX6 = some m.cls := findClass_of_methodNamed B.named
  have hlocks := B.notSynchronized
  have hS : va_S (fun _ => False) s.heap s.heap [] := va_S.rf
  generalize hE : (fX6_isLodgerLetter md_page at_) = RES
  generalize hQ : MQ below (vp_Si (fun r => r = RES ∧ isB r)) ([.ref (md 0), .int at_] : List Value).toArray s 0 0 (fun _ => False) = Q
  have hl := lv_entry ([.ref (md 0), .int at_] : List Value) (n := 2) (Nat.le_of_ble_eq_true rfl)
  rw [lg_entry_eq]
  generalize (lg_sl ([.ref (md 0), .int at_] : List Value) ++ List.replicate (2 - (lg_sl ([.ref (md 0), .int at_] : List Value)).length) Slot.unset).toArray = ls at hl ⊢
  have hl : lv_has ls 2 [(0, .ref (md 0)), (1, .int at_)] := hl
  have in_X6 : ∀ w ∈ u_ws RX6 TX6 30, w ∈ wsX6_isLodgerLetter := fun _ h => List.mem_cons_of_mem _ (List.mem_append_right _ h)
  have t_constantLong_RX6_67_48 := hts (.constantLong RX6 67 (48)) (List.mem_of_getElem? (i := 2) rfl)
  have t_constantLong_RX6_69_57 := hts (.constantLong RX6 69 (57)) (List.mem_of_getElem? (i := 3) rfl)
  have t_fieldLink_RX6_7_FourLodgersModel_page_I := hts (.fieldLink RX6 7 "FourLodgersModel" "page" "[I") (List.mem_of_getElem? (i := 1) rfl)
  have i_m1 : (-1 : Int32).toInt = -1 := by decide
  have i_0 : (0 : Int32).toInt = 0 := by decide
  have i_1 : (1 : Int32).toInt = 1 := by decide
  have i_2 : (2 : Int32).toInt = 2 := by decide
  have p_1' := vp_in_iff.mp p_1
  rw [fX6_isLodgerLetter] at hE
  refine lv_iload_n hx hb dX6_isLodgerLetter_0 rfl (lv_at hl 1 rfl) ?_
  refine lv_iconst (v := (2 : Int32)) hx hb dX6_isLodgerLetter_1 (by decide) ?_
  refine lv_irem hx hb dX6_isLodgerLetter_2 (by decide) ?_
  refine lv_if_ne (tgt := 27) hx hb dX6_isLodgerLetter_3 (by decide) (fun c_3 => ?_) (fun c_3 => ?_)
  · rw [if_neg c_3] at hE
    refine lv_aload_n hx hb dX6_isLodgerLetter_27 rfl (lv_at hl 0 rfl) ?_
    refine va_get (D := (dC, dI)) (ci := 6) (v := .ref (md 1)) (C := RX6) (T := TX6) (N := 30) hx hb hts in_X6 hown hK hP 0 rfl rfl 0 (by decide) t_fieldLink_RX6_7_FourLodgersModel_page_I (fun _ h9 => h9) rfl dX6_isLodgerLetter_28 ?_
    refine lv_iload_n hx hb dX6_isLodgerLetter_31 rfl (lv_at hl 1 rfl) ?_
    refine va_iald hx hb hK hP 1 0 rfl rfl (i := at_) (by first | assumption | exact vp_in_iff.mpr ⟨by omega, by omega⟩ | omega | decide) dX6_isLodgerLetter_32 ?_
    refine lv_i2l hx hb dX6_isLodgerLetter_33 rfl ?_
    refine lv_ldc2 hx hb hown t_constantLong_RX6_67_48 dX6_isLodgerLetter_34 ?_
    refine lv_ldc2 hx hb hown t_constantLong_RX6_69_57 dX6_isLodgerLetter_37 ?_
    refine rcSi (As := [.long (md_page at_.toNatClampNeg).toInt64, .long (48 : Int64), .long (57 : Int64)]) (rest := []) ⟨hx, hb, hml, hown, hts⟩ (kX6_in l dC dI cI cJ (md_page at_.toNatClampNeg).toInt64 (48 : Int64) (57 : Int64)) (va_cwS 3 hts gX6_isLodgerLetter_X6_in rfl rfl rfl (by decide +kernel) ⟨Nat.le_of_ble_eq_true rfl, Nat.le_of_ble_eq_true rfl⟩) hK hP hst hS [] rfl rfl hl.1 rfl (Nat.le_of_ble_eq_true rfl) dX6_isLodgerLetter_40 ⟨Nat.zero_le _, Nat.zero_le _⟩ (fun r w_1 => ?_)
    obtain ⟨w_1, nb_2⟩ := w_1; rw [w_1] at nb_2 ⊢
    subst hE
    rw [← hQ]
    exact W.zret hx hb hr (isB.n nb_2) (fun t ht hW => ⟨_, rfl, ⟨rfl, nb_2⟩, ht⟩) (fun q h => absurd h List.not_mem_nil) dX6_isLodgerLetter_43
  · rw [if_pos c_3] at hE
    refine lv_aload_n hx hb dX6_isLodgerLetter_6 rfl (lv_at hl 0 rfl) ?_
    refine va_get (D := (dC, dI)) (ci := 6) (v := .ref (md 1)) (C := RX6) (T := TX6) (N := 30) hx hb hts in_X6 hown hK hP 0 rfl rfl 0 (by decide) t_fieldLink_RX6_7_FourLodgersModel_page_I (fun _ h9 => h9) rfl dX6_isLodgerLetter_7 ?_
    refine lv_iload_n hx hb dX6_isLodgerLetter_10 rfl (lv_at hl 1 rfl) ?_
    refine va_iald hx hb hK hP 1 0 rfl rfl (i := at_) (by first | assumption | exact vp_in_iff.mpr ⟨by omega, by omega⟩ | omega | decide) dX6_isLodgerLetter_11 ?_
    refine rcSi (As := [.int (md_page at_.toNatClampNeg)]) (rest := []) ⟨hx, hb, hml, hown, hts⟩ (kX6_kindBy l dC dI cI cJ (md_page at_.toNatClampNeg)) (va_cwS 1 hts gX6_isLodgerLetter_X6_kindBy rfl rfl rfl (by decide +kernel) ⟨Nat.le_of_ble_eq_true rfl, Nat.le_of_ble_eq_true rfl⟩) hK hP hst hS [] rfl rfl hl.1 rfl (Nat.le_of_ble_eq_true rfl) dX6_isLodgerLetter_12 ⟨Nat.zero_le _, Nat.zero_le _⟩ (fun r w_3 => ?_)
    subst w_3
    refine lv_iconst (v := (-1 : Int32)) hx hb dX6_isLodgerLetter_15 (by decide) ?_
    refine lv_icmp_eq (tgt := 23) hx hb dX6_isLodgerLetter_16 (by decide) (fun c_16 => ?_) (fun c_16 => ?_)
    · rw [if_pos c_16] at hE
      refine lv_iconst (v := (0 : Int32)) hx hb dX6_isLodgerLetter_23 (by decide) ?_
      refine lv_goto (tgt := 43) hx hb dX6_isLodgerLetter_24 (by decide) ?_
      subst hE
      rw [← hQ]
      exact W.zret hx hb hr (isB.n nb_0) (fun t ht hW => ⟨_, rfl, ⟨rfl, nb_0⟩, ht⟩) (fun q h => absurd h List.not_mem_nil) dX6_isLodgerLetter_43
    · rw [if_neg c_16] at hE
      refine lv_iconst (v := (1 : Int32)) hx hb dX6_isLodgerLetter_19 (by decide) ?_
      refine lv_goto (tgt := 43) hx hb dX6_isLodgerLetter_20 (by decide) ?_
      subst hE
      rw [← hQ]
      exact W.zret hx hb hr (isB.n nb_1) (fun t ht hW => ⟨_, rfl, ⟨rfl, nb_1⟩, ht⟩) (fun q h => absurd h List.not_mem_nil) dX6_isLodgerLetter_43
def fX6_isShipLetter (md_page : Nat → Int32) (md_end : Int32) (at_ : Int32) : Int32 × Int32 := (if (2 : Int32) ≤ ((at_ - (9 : Int32)) - (at_ - (9 : Int32)) / (3 : Int32) * (3 : Int32)) then (if (md_page at_.toNatClampNeg) = (59 : Int32) then (if (md_page at_.toNatClampNeg) = (59 : Int32) then ((1 : Int32), at_) else (if (md_page at_.toNatClampNeg) = (44 : Int32) then (if (8 : Int32) ≤ (at_ - (9 : Int32)) then ((0 : Int32), at_) else ((1 : Int32), at_)) else ((0 : Int32), at_))) else (if (md_page at_.toNatClampNeg) = (59 : Int32) then ((1 : Int32), (0 : Int32)) else (if (md_page at_.toNatClampNeg) = (44 : Int32) then (if (8 : Int32) ≤ (at_ - (9 : Int32)) then ((0 : Int32), (0 : Int32)) else ((1 : Int32), (0 : Int32))) else ((0 : Int32), (0 : Int32))))) else ((fX6_in (md_page at_.toNatClampNeg).toInt64 (48 : Int64) (53 : Int64)), md_end))
set_option maxHeartbeats 4000000 in
set_option maxRecDepth 100000 in
theorem kX6_isShipLetter (l : Launch) (dC : Nat → ClassId) (dI : Nat → Nat → Nat) (cI cJ : ClassId) (sz : Nat) (md : Nat → Nat) (md_page : Nat → Int32) (md_pageMany : Int32) (md_end : Int32) (md_ships : Int32) (md_rocks : Int32) (md_rockBits : Int64) (md_day : Int32) (md_isHired : Int32) (md_sails : Int32) (md_seasRead : Int32) (md_kinds : Nat → Int32) (md_ills : Nat → Int32) (md_cells : Nat → Int32) (md_sailed : Nat → Int32) (md_must : Nat → Int64) (md_seenMany : Int32) (md_sights : Nat → Int32) (md_seedNow : Int32) (md_cellsThen : Nat → Int32) (md_keptSea : Int32) (md_keptDay : Int32) (md_keptHired : Int32) (md_keptSails : Int32) (md_keptSeen : Int32) (md_keptKinds : Nat → Int32) (md_keptIlls : Nat → Int32) (md_keptCells : Nat → Int32) (md_keptSailed : Nat → Int32) (md_keptSights : Nat → Int32) (md_hash : Int64) (at_ : Int32) (p_1 : vp_in at_ 40) : Met l yX6_isShipLetter wsX6_isShipLetter ({ frames := 1, cells := 0, slots := 0, locals := 25 } : Room) (gW (dC, dI) cI cJ sz (kMd cI cJ md md_page md_pageMany md_end md_ships md_rocks md_rockBits md_day md_isHired md_sails md_seasRead md_kinds md_ills md_cells md_sailed md_must md_seenMany md_sights md_seedNow md_cellsThen md_keptSea md_keptDay md_keptHired md_keptSails md_keptSeen md_keptKinds md_keptIlls md_keptCells md_keptSailed md_keptSights md_hash) ([.ref (md 0), .int at_] : List Value)) (va_Qi (fun (r : Int32) (_ : Unit) => r = ((fX6_isShipLetter md_page md_end at_).1) ∧ isB r) (fun u : Unit => gB (dC, dI) cI cJ (va_A (kMd cI cJ md md_page md_pageMany md_end md_ships md_rocks md_rockBits md_day md_isHired md_sails md_seasRead md_kinds md_ills md_cells md_sailed md_must md_seenMany md_sights md_seedNow md_cellsThen md_keptSea md_keptDay md_keptHired md_keptSails md_keptSeen md_keptKinds md_keptIlls md_keptCells md_keptSailed md_keptSights md_hash) sz) (kMd cI cJ md md_page md_pageMany ((fX6_isShipLetter md_page md_end at_).2) md_ships md_rocks md_rockBits md_day md_isHired md_sails md_seasRead md_kinds md_ills md_cells md_sailed md_must md_seenMany md_sights md_seedNow md_cellsThen md_keptSea md_keptDay md_keptHired md_keptSails md_keptSeen md_keptKinds md_keptIlls md_keptCells md_keptSailed md_keptSights md_hash)) (va_A (kMd cI cJ md md_page md_pageMany md_end md_ships md_rocks md_rockBits md_day md_isHired md_sails md_seasRead md_kinds md_ills md_cells md_sailed md_must md_seenMany md_sights md_seedNow md_cellsThen md_keptSea md_keptDay md_keptHired md_keptSails md_keptSeen md_keptKinds md_keptIlls md_keptCells md_keptSailed md_keptSights md_hash) sz)) 0 0 (va_A (kMd cI cJ md md_page md_pageMany md_end md_ships md_rocks md_rockBits md_day md_isHired md_sails md_seasRead md_kinds md_ills md_cells md_sailed md_must md_seenMany md_sights md_seedNow md_cellsThen md_keptSea md_keptDay md_keptHired md_keptSails md_keptSeen md_keptKinds md_keptIlls md_keptCells md_keptSailed md_keptSights md_hash) sz) := by
  refine Met.ofW (cc := cX6_isShipLetter) (maxL := 4) (ret := (some .boolean)) (by decide) rfl ?_
  intro p e s m args below meth c s₁ B hml hv
  obtain ⟨rfl, hsz, hP, hK, hD0, hst⟩ := hv
  have hx := B.exec
  have hb := B.bytes
  have hr := B.returns
  have hts := atoms_spec (ws := wsX6_isShipLetter) B.pre
  have hown : s.vm.findClass RX6 = some m.cls := findClass_of_methodNamed B.named
  have hlocks := B.notSynchronized
  subst hsz
  have hD := hD0.self (sz := s.heap.size)
  generalize hAe : va_A (kMd cI cJ md md_page md_pageMany md_end md_ships md_rocks md_rockBits md_day md_isHired md_sails md_seasRead md_kinds md_ills md_cells md_sailed md_must md_seenMany md_sights md_seedNow md_cellsThen md_keptSea md_keptDay md_keptHired md_keptSails md_keptSeen md_keptKinds md_keptIlls md_keptCells md_keptSailed md_keptSights md_hash) s.heap.size = A at hD hst ⊢
  have hA : ∀ q : Nat, s.heap.size ≤ q → A q := fun q h => by rw [← hAe]; exact Or.inr h
  have hS : va_S A s.heap s.heap [] := va_S.rf
  generalize hE : (fX6_isShipLetter md_page md_end at_) = RES
  generalize hQ : MQ below (va_Qi (fun (r : Int32) (_ : Unit) => r = (RES.1) ∧ isB r) (fun u : Unit => gB (dC, dI) cI cJ A (kMd cI cJ md md_page md_pageMany (RES.2) md_ships md_rocks md_rockBits md_day md_isHired md_sails md_seasRead md_kinds md_ills md_cells md_sailed md_must md_seenMany md_sights md_seedNow md_cellsThen md_keptSea md_keptDay md_keptHired md_keptSails md_keptSeen md_keptKinds md_keptIlls md_keptCells md_keptSailed md_keptSights md_hash)) A) ([.ref (md 0), .int at_] : List Value).toArray s 0 0 A = Q
  have hl := lv_entry ([.ref (md 0), .int at_] : List Value) (n := 4) (Nat.le_of_ble_eq_true rfl)
  rw [lg_entry_eq]
  generalize (lg_sl ([.ref (md 0), .int at_] : List Value) ++ List.replicate (4 - (lg_sl ([.ref (md 0), .int at_] : List Value)).length) Slot.unset).toArray = ls at hl ⊢
  have hl : lv_has ls 4 [(0, .ref (md 0)), (1, .int at_)] := hl
  have in_X6 : ∀ w ∈ u_ws RX6 TX6 30, w ∈ wsX6_isShipLetter := fun _ h => List.mem_cons_of_mem _ (List.mem_append_right _ h)
  have t_constantLong_RX6_67_48 := hts (.constantLong RX6 67 (48)) (List.mem_of_getElem? (i := 2) rfl)
  have t_constantLong_RX6_71_53 := hts (.constantLong RX6 71 (53)) (List.mem_of_getElem? (i := 3) rfl)
  have t_fieldLink_RX6_73_FourLodgersModel_end_I := hts (.fieldLink RX6 73 "FourLodgersModel" "end" "I") (List.mem_of_getElem? (i := 4) rfl)
  have t_fieldLink_RX6_7_FourLodgersModel_page_I := hts (.fieldLink RX6 7 "FourLodgersModel" "page" "[I") (List.mem_of_getElem? (i := 1) rfl)
  have i_0 : (0 : Int32).toInt = 0 := by decide
  have i_1 : (1 : Int32).toInt = 1 := by decide
  have i_2 : (2 : Int32).toInt = 2 := by decide
  have i_3 : (3 : Int32).toInt = 3 := by decide
  have i_8 : (8 : Int32).toInt = 8 := by decide
  have i_9 : (9 : Int32).toInt = 9 := by decide
  have i_44 : (44 : Int32).toInt = 44 := by decide
  have i_59 : (59 : Int32).toInt = 59 := by decide
  have p_1' := vp_in_iff.mp p_1
  rw [fX6_isShipLetter] at hE
  refine lv_aload_n hx hb dX6_isShipLetter_0 rfl (lv_at hl 0 rfl) ?_
  refine va_get (D := (dC, dI)) (ci := 6) (v := .ref (md 1)) (C := RX6) (T := TX6) (N := 30) hx hb hts in_X6 hown hK hP 0 rfl rfl 0 (by decide) t_fieldLink_RX6_7_FourLodgersModel_page_I (fun _ h9 => h9) rfl dX6_isShipLetter_1 ?_
  refine lv_iload_n hx hb dX6_isShipLetter_4 rfl (lv_at hl 1 rfl) ?_
  refine va_iald hx hb hK hP 1 0 rfl rfl (i := at_) (by first | assumption | exact vp_in_iff.mpr ⟨by omega, by omega⟩ | omega | decide) dX6_isShipLetter_5 ?_
  refine lv_istore_n (lv' := [(2, .int (md_page at_.toNatClampNeg)), (0, .ref (md 0)), (1, .int at_)]) hx hb dX6_isShipLetter_6 rfl hl (by decide) rfl (fun ls hl => ?_)
  refine lv_iload_n hx hb dX6_isShipLetter_7 rfl (lv_at hl 2 rfl) ?_
  refine lv_bipush (v := (9 : Int32)) hx hb dX6_isShipLetter_8 (by decide) ?_
  refine lv_isub hx hb dX6_isShipLetter_10 ?_
  refine lv_istore_n (lv' := [(3, .int (at_ - (9 : Int32))), (2, .int (md_page at_.toNatClampNeg)), (0, .ref (md 0)), (1, .int at_)]) hx hb dX6_isShipLetter_11 rfl hl (by decide) rfl (fun ls hl => ?_)
  refine lv_iload_n hx hb dX6_isShipLetter_12 rfl (lv_at hl 0 rfl) ?_
  refine lv_iconst (v := (3 : Int32)) hx hb dX6_isShipLetter_13 (by decide) ?_
  refine lv_irem hx hb dX6_isShipLetter_14 (by decide) ?_
  refine lv_iconst (v := (2 : Int32)) hx hb dX6_isShipLetter_15 (by decide) ?_
  refine lv_icmp_ge (tgt := 31) hx hb dX6_isShipLetter_16 (by decide) (fun c_16 => ?_) (fun c_16 => ?_)
  · rw [if_pos c_16] at hE
    refine lv_aload_n hx hb dX6_isShipLetter_31 rfl (lv_at hl 2 rfl) ?_
    refine lv_iload_n hx hb dX6_isShipLetter_32 rfl (lv_at hl 1 rfl) ?_
    refine lv_bipush (v := (59 : Int32)) hx hb dX6_isShipLetter_33 (by decide) ?_
    refine lv_icmp_ne (tgt := 42) hx hb dX6_isShipLetter_35 (by decide) (fun c_35 => ?_) (fun c_35 => ?_)
    · have e_35 := mt Int32.toInt_inj.mp c_35
      rw [if_neg c_35] at hE
      refine lv_iconst (v := (0 : Int32)) hx hb dX6_isShipLetter_42 (by decide) ?_
      refine va_put (D := (dC, dI)) (ci := 6) (v := .int (0 : Int32)) (ty := .int) (C := RX6) (T := TX6) (N := 30) hx hb hts in_X6 tyX6 tyX6_ok nmX6 hown hK hP hD hS 0 rfl rfl 2 (by decide) t_fieldLink_RX6_73_FourLodgersModel_end_I (fun _ h9 => h9) rfl (by decide +kernel) rfl rfl (Nat.le_of_ble_eq_true rfl) dX6_isShipLetter_43 (fun H locs hP hD hS => ?_)
      replace hP : va_P (dC, dI) vwCl (kMd cI cJ md md_page md_pageMany (0 : Int32) md_ships md_rocks md_rockBits md_day md_isHired md_sails md_seasRead md_kinds md_ills md_cells md_sailed md_must md_seenMany md_sights md_seedNow md_cellsThen md_keptSea md_keptDay md_keptHired md_keptSails md_keptSeen md_keptKinds md_keptIlls md_keptCells md_keptSailed md_keptSights md_hash) H := hP
      replace hD : va_D A (kMd cI cJ md md_page md_pageMany (0 : Int32) md_ships md_rocks md_rockBits md_day md_isHired md_sails md_seasRead md_kinds md_ills md_cells md_sailed md_must md_seenMany md_sights md_seedNow md_cellsThen md_keptSea md_keptDay md_keptHired md_keptSails md_keptSeen md_keptKinds md_keptIlls md_keptCells md_keptSailed md_keptSights md_hash) := hD
      refine lv_iload_n hx hb dX6_isShipLetter_46 rfl (lv_at hl 1 rfl) ?_
      refine lv_bipush (v := (59 : Int32)) hx hb dX6_isShipLetter_47 (by decide) ?_
      refine lv_icmp_eq (tgt := 64) hx hb dX6_isShipLetter_49 (by decide) (fun c_49 => ?_) (fun c_49 => ?_)
      · have e_49 := congrArg Int32.toInt c_49
        rw [if_pos c_49] at hE
        refine lv_iconst (v := (1 : Int32)) hx hb dX6_isShipLetter_64 (by decide) ?_
        refine lv_goto (tgt := 69) hx hb dX6_isShipLetter_65 (by decide) ?_
        subst hE
        rw [← hQ]
        exact W.zret hx hb hr (isB.n nb_1) (fun t ht hW => ⟨⟨_, (), rfl, ⟨rfl, nb_1⟩, by rw [ht]; exact hP, va_K.moved hW.alike hK, hD⟩, hS.F ht⟩) hS.2.2 dX6_isShipLetter_69
      · have e_49 := mt Int32.toInt_inj.mp c_49
        rw [if_neg c_49] at hE
        refine lv_iload_n hx hb dX6_isShipLetter_52 rfl (lv_at hl 1 rfl) ?_
        refine lv_bipush (v := (44 : Int32)) hx hb dX6_isShipLetter_53 (by decide) ?_
        refine lv_icmp_ne (tgt := 68) hx hb dX6_isShipLetter_55 (by decide) (fun c_55 => ?_) (fun c_55 => ?_)
        · have e_55 := mt Int32.toInt_inj.mp c_55
          rw [if_neg c_55] at hE
          refine lv_iconst (v := (0 : Int32)) hx hb dX6_isShipLetter_68 (by decide) ?_
          subst hE
          rw [← hQ]
          exact W.zret hx hb hr (isB.n nb_0) (fun t ht hW => ⟨⟨_, (), rfl, ⟨rfl, nb_0⟩, by rw [ht]; exact hP, va_K.moved hW.alike hK, hD⟩, hS.F ht⟩) hS.2.2 dX6_isShipLetter_69
        · have e_55 := congrArg Int32.toInt c_55
          rw [if_pos c_55] at hE
          refine lv_iload_n hx hb dX6_isShipLetter_58 rfl (lv_at hl 0 rfl) ?_
          refine lv_bipush (v := (8 : Int32)) hx hb dX6_isShipLetter_59 (by decide) ?_
          refine lv_icmp_ge (tgt := 68) hx hb dX6_isShipLetter_61 (by decide) (fun c_61 => ?_) (fun c_61 => ?_)
          · have e_61 := Int32.le_iff_toInt_le.mp c_61
            rw [if_pos c_61] at hE
            refine lv_iconst (v := (0 : Int32)) hx hb dX6_isShipLetter_68 (by decide) ?_
            subst hE
            rw [← hQ]
            exact W.zret hx hb hr (isB.n nb_0) (fun t ht hW => ⟨⟨_, (), rfl, ⟨rfl, nb_0⟩, by rw [ht]; exact hP, va_K.moved hW.alike hK, hD⟩, hS.F ht⟩) hS.2.2 dX6_isShipLetter_69
          · have e_61 := mt Int32.le_iff_toInt_le.mpr c_61
            rw [if_neg c_61] at hE
            refine lv_iconst (v := (1 : Int32)) hx hb dX6_isShipLetter_64 (by decide) ?_
            refine lv_goto (tgt := 69) hx hb dX6_isShipLetter_65 (by decide) ?_
            subst hE
            rw [← hQ]
            exact W.zret hx hb hr (isB.n nb_1) (fun t ht hW => ⟨⟨_, (), rfl, ⟨rfl, nb_1⟩, by rw [ht]; exact hP, va_K.moved hW.alike hK, hD⟩, hS.F ht⟩) hS.2.2 dX6_isShipLetter_69
    · have e_35 := congrArg Int32.toInt c_35
      rw [if_pos c_35] at hE
      refine lv_iload_n hx hb dX6_isShipLetter_38 rfl (lv_at hl 3 rfl) ?_
      refine lv_goto (tgt := 43) hx hb dX6_isShipLetter_39 (by decide) ?_
      refine va_put (D := (dC, dI)) (ci := 6) (v := .int at_) (ty := .int) (C := RX6) (T := TX6) (N := 30) hx hb hts in_X6 tyX6 tyX6_ok nmX6 hown hK hP hD hS 0 rfl rfl 2 (by decide) t_fieldLink_RX6_73_FourLodgersModel_end_I (fun _ h9 => h9) rfl (by decide +kernel) rfl rfl (Nat.le_of_ble_eq_true rfl) dX6_isShipLetter_43 (fun H locs hP hD hS => ?_)
      replace hP : va_P (dC, dI) vwCl (kMd cI cJ md md_page md_pageMany at_ md_ships md_rocks md_rockBits md_day md_isHired md_sails md_seasRead md_kinds md_ills md_cells md_sailed md_must md_seenMany md_sights md_seedNow md_cellsThen md_keptSea md_keptDay md_keptHired md_keptSails md_keptSeen md_keptKinds md_keptIlls md_keptCells md_keptSailed md_keptSights md_hash) H := hP
      replace hD : va_D A (kMd cI cJ md md_page md_pageMany at_ md_ships md_rocks md_rockBits md_day md_isHired md_sails md_seasRead md_kinds md_ills md_cells md_sailed md_must md_seenMany md_sights md_seedNow md_cellsThen md_keptSea md_keptDay md_keptHired md_keptSails md_keptSeen md_keptKinds md_keptIlls md_keptCells md_keptSailed md_keptSights md_hash) := hD
      refine lv_iload_n hx hb dX6_isShipLetter_46 rfl (lv_at hl 1 rfl) ?_
      refine lv_bipush (v := (59 : Int32)) hx hb dX6_isShipLetter_47 (by decide) ?_
      refine lv_icmp_eq (tgt := 64) hx hb dX6_isShipLetter_49 (by decide) (fun c_49 => ?_) (fun c_49 => ?_)
      · have e_49 := congrArg Int32.toInt c_49
        rw [if_pos c_49] at hE
        refine lv_iconst (v := (1 : Int32)) hx hb dX6_isShipLetter_64 (by decide) ?_
        refine lv_goto (tgt := 69) hx hb dX6_isShipLetter_65 (by decide) ?_
        subst hE
        rw [← hQ]
        exact W.zret hx hb hr (isB.n nb_1) (fun t ht hW => ⟨⟨_, (), rfl, ⟨rfl, nb_1⟩, by rw [ht]; exact hP, va_K.moved hW.alike hK, hD⟩, hS.F ht⟩) hS.2.2 dX6_isShipLetter_69
      · have e_49 := mt Int32.toInt_inj.mp c_49
        rw [if_neg c_49] at hE
        refine lv_iload_n hx hb dX6_isShipLetter_52 rfl (lv_at hl 1 rfl) ?_
        refine lv_bipush (v := (44 : Int32)) hx hb dX6_isShipLetter_53 (by decide) ?_
        refine lv_icmp_ne (tgt := 68) hx hb dX6_isShipLetter_55 (by decide) (fun c_55 => ?_) (fun c_55 => ?_)
        · have e_55 := mt Int32.toInt_inj.mp c_55
          rw [if_neg c_55] at hE
          refine lv_iconst (v := (0 : Int32)) hx hb dX6_isShipLetter_68 (by decide) ?_
          subst hE
          rw [← hQ]
          exact W.zret hx hb hr (isB.n nb_0) (fun t ht hW => ⟨⟨_, (), rfl, ⟨rfl, nb_0⟩, by rw [ht]; exact hP, va_K.moved hW.alike hK, hD⟩, hS.F ht⟩) hS.2.2 dX6_isShipLetter_69
        · have e_55 := congrArg Int32.toInt c_55
          rw [if_pos c_55] at hE
          refine lv_iload_n hx hb dX6_isShipLetter_58 rfl (lv_at hl 0 rfl) ?_
          refine lv_bipush (v := (8 : Int32)) hx hb dX6_isShipLetter_59 (by decide) ?_
          refine lv_icmp_ge (tgt := 68) hx hb dX6_isShipLetter_61 (by decide) (fun c_61 => ?_) (fun c_61 => ?_)
          · have e_61 := Int32.le_iff_toInt_le.mp c_61
            rw [if_pos c_61] at hE
            refine lv_iconst (v := (0 : Int32)) hx hb dX6_isShipLetter_68 (by decide) ?_
            subst hE
            rw [← hQ]
            exact W.zret hx hb hr (isB.n nb_0) (fun t ht hW => ⟨⟨_, (), rfl, ⟨rfl, nb_0⟩, by rw [ht]; exact hP, va_K.moved hW.alike hK, hD⟩, hS.F ht⟩) hS.2.2 dX6_isShipLetter_69
          · have e_61 := mt Int32.le_iff_toInt_le.mpr c_61
            rw [if_neg c_61] at hE
            refine lv_iconst (v := (1 : Int32)) hx hb dX6_isShipLetter_64 (by decide) ?_
            refine lv_goto (tgt := 69) hx hb dX6_isShipLetter_65 (by decide) ?_
            subst hE
            rw [← hQ]
            exact W.zret hx hb hr (isB.n nb_1) (fun t ht hW => ⟨⟨_, (), rfl, ⟨rfl, nb_1⟩, by rw [ht]; exact hP, va_K.moved hW.alike hK, hD⟩, hS.F ht⟩) hS.2.2 dX6_isShipLetter_69
  · rw [if_neg c_16] at hE
    refine lv_iload_n hx hb dX6_isShipLetter_19 rfl (lv_at hl 1 rfl) ?_
    refine lv_i2l hx hb dX6_isShipLetter_20 rfl ?_
    refine lv_ldc2 hx hb hown t_constantLong_RX6_67_48 dX6_isShipLetter_21 ?_
    refine lv_ldc2 hx hb hown t_constantLong_RX6_71_53 dX6_isShipLetter_24 ?_
    refine rcSi (As := [.long (md_page at_.toNatClampNeg).toInt64, .long (48 : Int64), .long (53 : Int64)]) (rest := []) ⟨hx, hb, hml, hown, hts⟩ (kX6_in l dC dI cI cJ (md_page at_.toNatClampNeg).toInt64 (48 : Int64) (53 : Int64)) (va_cwS 3 hts gX6_isShipLetter_X6_in rfl rfl rfl (by decide +kernel) ⟨Nat.le_of_ble_eq_true rfl, Nat.le_of_ble_eq_true rfl⟩) hK hP hst hS [] rfl rfl hl.1 rfl (Nat.le_of_ble_eq_true rfl) dX6_isShipLetter_27 ⟨Nat.zero_le _, Nat.zero_le _⟩ (fun r w_1 => ?_)
    obtain ⟨w_1, nb_2⟩ := w_1; rw [w_1] at nb_2 ⊢
    subst hE
    rw [← hQ]
    exact W.zret hx hb hr (isB.n nb_2) (fun t ht hW => ⟨⟨_, (), rfl, ⟨rfl, nb_2⟩, by rw [ht]; exact hP, va_K.moved hW.alike hK, hD⟩, hS.F ht⟩) hS.2.2 dX6_isShipLetter_30
def fX6_isFree_51 (md_page : Nat → Int32) (at_ : Int32) : Nat → Int32 → Int32 → Int32
  | 0, _, _ => 0
  | n_ + 1, x2, x3 => (if (at_ - (1 : Int32)) ≤ x3 then x2 else (if x2 = (0 : Int32) then (fX6_isFree_51 md_page at_ n_ (0 : Int32) (x3 + (3 : Int32))) else (if (fX6_cellAt md_page x3) = (fX6_cellAt md_page (at_ - (1 : Int32))) then (fX6_isFree_51 md_page at_ n_ (0 : Int32) (x3 + (3 : Int32))) else (fX6_isFree_51 md_page at_ n_ (1 : Int32) (x3 + (3 : Int32))))))
def fX6_isFree_5 (md_page : Nat → Int32) (md_end : Int32) (at_ : Int32) : Nat → Int32 → Nat → Int32
  | 0, _, _ => 0
  | n_ + 1, x2, i => (if md_end ≤ (nI i) then (fX6_isFree_51 md_page at_ 42 x2 (md_end + (1 : Int32))) else (if x2 = (0 : Int32) then (fX6_isFree_5 md_page md_end at_ n_ (0 : Int32) ((i + 3))) else (if (fX6_cellAt md_page (nI i)) = (fX6_cellAt md_page (at_ - (1 : Int32))) then (fX6_isFree_5 md_page md_end at_ n_ (0 : Int32) ((i + 3))) else (fX6_isFree_5 md_page md_end at_ n_ (1 : Int32) ((i + 3))))))
def fX6_isFree (md_page : Nat → Int32) (md_end : Int32) (at_ : Int32) : Int32 := (fX6_isFree_5 md_page md_end at_ 42 (1 : Int32) (9))
set_option maxHeartbeats 4000000 in
set_option maxRecDepth 100000 in
theorem kX6_isFree (l : Launch) (dC : Nat → ClassId) (dI : Nat → Nat → Nat) (cI cJ : ClassId) (md : Nat → Nat) (md_page : Nat → Int32) (md_pageMany : Int32) (md_end : Int32) (md_ships : Int32) (md_rocks : Int32) (md_rockBits : Int64) (md_day : Int32) (md_isHired : Int32) (md_sails : Int32) (md_seasRead : Int32) (md_kinds : Nat → Int32) (md_ills : Nat → Int32) (md_cells : Nat → Int32) (md_sailed : Nat → Int32) (md_must : Nat → Int64) (md_seenMany : Int32) (md_sights : Nat → Int32) (md_seedNow : Int32) (md_cellsThen : Nat → Int32) (md_keptSea : Int32) (md_keptDay : Int32) (md_keptHired : Int32) (md_keptSails : Int32) (md_keptSeen : Int32) (md_keptKinds : Nat → Int32) (md_keptIlls : Nat → Int32) (md_keptCells : Nat → Int32) (md_keptSailed : Nat → Int32) (md_keptSights : Nat → Int32) (md_hash : Int64) (at_ : Int32) (p_1 : 1 ≤ at_.toInt) (p_2 : at_.toInt ≤ 39) (p_3 : 0 ≤ md_end.toInt) (p_4 : md_end.toInt ≤ 39) : Met l yX6_isFree wsX6_isFree ({ frames := 1, cells := 0, slots := 0, locals := 21 } : Room) (gR (dC, dI) cI cJ (kMd cI cJ md md_page md_pageMany md_end md_ships md_rocks md_rockBits md_day md_isHired md_sails md_seasRead md_kinds md_ills md_cells md_sailed md_must md_seenMany md_sights md_seedNow md_cellsThen md_keptSea md_keptDay md_keptHired md_keptSails md_keptSeen md_keptKinds md_keptIlls md_keptCells md_keptSailed md_keptSights md_hash) ([.ref (md 0), .int at_] : List Value)) (vp_Si (fun r => r = (fX6_isFree md_page md_end at_) ∧ isB r)) 0 0 (fun _ => False) := by
  refine Met.ofW (cc := cX6_isFree) (maxL := 4) (ret := (some .boolean)) (by decide) rfl ?_
  intro p e s m args below meth c s₁ B hml hv
  obtain ⟨rfl, hP, hK, hst⟩ := hv
  have hx := B.exec
  have hb := B.bytes
  have hr := B.returns
  have hts := atoms_spec (ws := wsX6_isFree) B.pre
  have hown : s.vm.findClass RX6 = some m.cls := findClass_of_methodNamed B.named
  have hlocks := B.notSynchronized
  have hS : va_S (fun _ => False) s.heap s.heap [] := va_S.rf
  generalize hE : (fX6_isFree md_page md_end at_) = RES
  generalize hQ : MQ below (vp_Si (fun r => r = RES ∧ isB r)) ([.ref (md 0), .int at_] : List Value).toArray s 0 0 (fun _ => False) = Q
  have hl := lv_entry ([.ref (md 0), .int at_] : List Value) (n := 4) (Nat.le_of_ble_eq_true rfl)
  rw [lg_entry_eq]
  generalize (lg_sl ([.ref (md 0), .int at_] : List Value) ++ List.replicate (4 - (lg_sl ([.ref (md 0), .int at_] : List Value)).length) Slot.unset).toArray = ls at hl ⊢
  have hl : lv_has ls 4 [(0, .ref (md 0)), (1, .int at_)] := hl
  have in_X6 : ∀ w ∈ u_ws RX6 TX6 30, w ∈ wsX6_isFree := fun _ h => List.mem_cons_of_mem _ (List.mem_append_right _ h)
  have t_fieldLink_RX6_73_FourLodgersModel_end_I := hts (.fieldLink RX6 73 "FourLodgersModel" "end" "I") (List.mem_of_getElem? (i := 1) rfl)
  have i_0 : (0 : Int32).toInt = 0 := by decide
  have i_1 : (1 : Int32).toInt = 1 := by decide
  have i_3 : (3 : Int32).toInt = 3 := by decide
  have i_9 : (9 : Int32).toInt = 9 := by decide
  rw [fX6_isFree] at hE
  refine lv_iconst (v := (1 : Int32)) hx hb dX6_isFree_0 (by decide) ?_
  refine lv_istore_n (lv' := [(2, .int (1 : Int32)), (0, .ref (md 0)), (1, .int at_)]) hx hb dX6_isFree_1 rfl hl (by decide) rfl (fun ls hl => ?_)
  refine lv_bipush (v := (9 : Int32)) hx hb dX6_isFree_2 (by decide) ?_
  refine lv_istore_n (lv' := [(3, .int (9 : Int32)), (2, .int (1 : Int32)), (0, .ref (md 0)), (1, .int at_)]) hx hb dX6_isFree_4 rfl hl (by decide) rfl (fun ls hl => ?_)
  have L5 : ∀ (n_ : Nat) (x2 : Int32) (i : Nat) , (i ≤ 41 ∧ isB x2) → 41 - i < n_ → (fX6_isFree_5 md_page md_end at_ n_ x2 i) = RES → ∀ ls : Array Slot, lv_has ls 4 [(0, .ref (md 0)), (1, .int at_), (2, .int x2), (3, .int (nI i))] → W p l e (headSpec wsX6_isFree ({ frames := 1, cells := 0, slots := 0, locals := 21 } : Room)).room s m ([.ref (md 0), .int at_] : List Value).toArray below meth c s.heap [] 0 0 Q (F0 m 5 ls []) := by
    intro n_
    induction n_ with
    | zero => intro x2 i  hi hn; exact absurd hn (Nat.not_lt_zero _)
    | succ n_ ih =>
      intro x2 i  hi hn hE ls hl
      rw [fX6_isFree_5] at hE
      have tn_i : (nI i).toInt = (i : Int) := nI_toInt (by omega)
      refine lv_iload_n hx hb dX6_isFree_5 rfl (lv_at hl 3 rfl) ?_
      refine lv_aload_n hx hb dX6_isFree_6 rfl (lv_at hl 0 rfl) ?_
      refine va_get (D := (dC, dI)) (ci := 6) (v := .int md_end) (C := RX6) (T := TX6) (N := 30) hx hb hts in_X6 hown hK hP 0 rfl rfl 2 (by decide) t_fieldLink_RX6_73_FourLodgersModel_end_I (fun _ h9 => h9) rfl dX6_isFree_7 ?_
      refine lv_icmp_ge (tgt := 44) hx hb dX6_isFree_10 (by decide) (fun c_10 => ?_) (fun c_10 => ?_)
      · have e_10 := Int32.le_iff_toInt_le.mp c_10
        rw [if_pos c_10] at hE
        refine lv_aload_n hx hb dX6_isFree_44 rfl (lv_at hl 0 rfl) ?_
        refine va_get (D := (dC, dI)) (ci := 6) (v := .int md_end) (C := RX6) (T := TX6) (N := 30) hx hb hts in_X6 hown hK hP 0 rfl rfl 2 (by decide) t_fieldLink_RX6_73_FourLodgersModel_end_I (fun _ h9 => h9) rfl dX6_isFree_45 ?_
        refine lv_iconst (v := (1 : Int32)) hx hb dX6_isFree_48 (by decide) ?_
        refine lv_iadd hx hb dX6_isFree_49 ?_
        refine lv_istore_n (lv' := [(3, .int (md_end + (1 : Int32))), (0, .ref (md 0)), (1, .int at_), (2, .int x2)]) hx hb dX6_isFree_50 rfl hl (by decide) rfl (fun ls hl => ?_)
        have L51 : ∀ (n_ : Nat) (x2 : Int32) (x3 : Int32) , (1 ≤ x3.toInt ∧ x3.toInt ≤ 41 ∧ isB x2) → (41 - x3.toInt).toNat < n_ → (fX6_isFree_51 md_page at_ n_ x2 x3) = RES → ∀ ls : Array Slot, lv_has ls 4 [(0, .ref (md 0)), (1, .int at_), (2, .int x2), (3, .int x3)] → W p l e (headSpec wsX6_isFree ({ frames := 1, cells := 0, slots := 0, locals := 21 } : Room)).room s m ([.ref (md 0), .int at_] : List Value).toArray below meth c s.heap [] 0 0 Q (F0 m 51 ls []) := by
          intro n_
          induction n_ with
          | zero => intro x2 x3  hi hn; exact absurd hn (Nat.not_lt_zero _)
          | succ n_ ih =>
            intro x2 x3  hi hn hE ls hl
            rw [fX6_isFree_51] at hE
            refine lv_iload_n hx hb dX6_isFree_51 rfl (lv_at hl 3 rfl) ?_
            refine lv_iload_n hx hb dX6_isFree_52 rfl (lv_at hl 1 rfl) ?_
            refine lv_iconst (v := (1 : Int32)) hx hb dX6_isFree_53 (by decide) ?_
            refine lv_isub hx hb dX6_isFree_54 ?_
            refine lv_icmp_ge (tgt := 89) hx hb dX6_isFree_55 (by decide) (fun c_55 => ?_) (fun c_55 => ?_)
            · rw [if_pos c_55] at hE
              refine lv_iload_n hx hb dX6_isFree_89 rfl (lv_at hl 2 rfl) ?_
              subst hE
              rw [← hQ]
              exact W.zret hx hb hr (isB.n hi.2.2) (fun t ht hW => ⟨_, rfl, ⟨rfl, hi.2.2⟩, ht⟩) (fun q h => absurd h List.not_mem_nil) dX6_isFree_90
            · rw [if_neg c_55] at hE
              have e_55 := nle_sub1 c_55 p_1
              refine lv_iload_n hx hb dX6_isFree_58 rfl (lv_at hl 2 rfl) ?_
              refine lv_if_eq (tgt := 81) hx hb dX6_isFree_59 (by decide) (fun c_59 => ?_) (fun c_59 => ?_)
              · have e_59 := congrArg Int32.toInt c_59
                rw [if_pos c_59] at hE
                refine lv_iconst (v := (0 : Int32)) hx hb dX6_isFree_81 (by decide) ?_
                refine lv_istore_n (lv' := [(2, .int (0 : Int32)), (0, .ref (md 0)), (1, .int at_), (3, .int x3)]) hx hb dX6_isFree_82 rfl hl (by decide) rfl (fun ls hl => ?_)
                refine lv_iinc (v := (x3 + (3 : Int32))) (lv' := [(3, .int (x3 + (3 : Int32))), (2, .int (0 : Int32)), (0, .ref (md 0)), (1, .int at_)]) hx hb dX6_isFree_83 hl (k := 3) rfl rfl (by decide) rfl (fun ls hl => ?_)
                refine lv_goto (tgt := 51) hx hb dX6_isFree_86 (by decide) ?_
                have hb_ := i_add (x := x3) (y := (3 : Int32)) (by omega) (by omega)
                exact ih (0 : Int32) (x3 + (3 : Int32))  ⟨by omega, by omega, by first | exact nb_0 | exact nb_1⟩ (by omega) hE ls (lv_sub hl [2, 3, 1, 0] rfl)
              · have e_59 := mt Int32.toInt_inj.mp c_59
                rw [if_neg c_59] at hE
                refine lv_aload_n hx hb dX6_isFree_62 rfl (lv_at hl 0 rfl) ?_
                refine lv_iload_n hx hb dX6_isFree_63 rfl (lv_at hl 3 rfl) ?_
                refine rcVi (As := [.int x3]) (rest := []) ⟨hx, hb, hml, hown, hts⟩ (kX6_cellAt l dC dI cI cJ md md_page md_pageMany md_end md_ships md_rocks md_rockBits md_day md_isHired md_sails md_seasRead md_kinds md_ills md_cells md_sailed md_must md_seenMany md_sights md_seedNow md_cellsThen md_keptSea md_keptDay md_keptHired md_keptSails md_keptSeen md_keptKinds md_keptIlls md_keptCells md_keptSailed md_keptSights md_hash x3 (by first | assumption | exact vp_in_iff.mpr ⟨by omega, by omega⟩ | omega | decide) (by first | assumption | exact vp_in_iff.mpr ⟨by omega, by omega⟩ | omega | decide)) (cwV 1 hts gX6_isFree_X6_cellAt rfl rfl rfl (by decide +kernel) ⟨Nat.le_of_ble_eq_true rfl, Nat.le_of_ble_eq_true rfl⟩) hK hP hst hS [0, 1, 2, 3, 4, 5, 6, 7, 8, 9, 10, 11, 12, 13] rfl 0 rfl rfl rfl hl.1 rfl (Nat.le_of_ble_eq_true rfl) dX6_isFree_64 ⟨Nat.zero_le _, Nat.zero_le _⟩ (fun r w_1 => ?_)
                subst w_1
                refine lv_aload_n hx hb dX6_isFree_67 rfl (lv_at hl 0 rfl) ?_
                refine lv_iload_n hx hb dX6_isFree_68 rfl (lv_at hl 1 rfl) ?_
                refine lv_iconst (v := (1 : Int32)) hx hb dX6_isFree_69 (by decide) ?_
                refine lv_isub hx hb dX6_isFree_70 ?_
                refine rcVi (As := [.int (at_ - (1 : Int32))]) (rest := [.int (fX6_cellAt md_page x3)]) ⟨hx, hb, hml, hown, hts⟩ (kX6_cellAt l dC dI cI cJ md md_page md_pageMany md_end md_ships md_rocks md_rockBits md_day md_isHired md_sails md_seasRead md_kinds md_ills md_cells md_sailed md_must md_seenMany md_sights md_seedNow md_cellsThen md_keptSea md_keptDay md_keptHired md_keptSails md_keptSeen md_keptKinds md_keptIlls md_keptCells md_keptSailed md_keptSights md_hash (at_ - (1 : Int32)) (by rw [sub1_toInt (by omega)]; omega) (by rw [sub1_toInt (by omega)]; omega)) (cwV 1 hts gX6_isFree_X6_cellAt rfl rfl rfl (by decide +kernel) ⟨Nat.le_of_ble_eq_true rfl, Nat.le_of_ble_eq_true rfl⟩) hK hP hst hS [0, 1, 2, 3, 4, 5, 6, 7, 8, 9, 10, 11, 12, 13] rfl 0 rfl rfl rfl hl.1 rfl (Nat.le_of_ble_eq_true rfl) dX6_isFree_71 ⟨Nat.zero_le _, Nat.zero_le _⟩ (fun r w_2 => ?_)
                subst w_2
                refine lv_icmp_eq (tgt := 81) hx hb dX6_isFree_74 (by decide) (fun c_74 => ?_) (fun c_74 => ?_)
                · rw [if_pos c_74] at hE
                  refine lv_iconst (v := (0 : Int32)) hx hb dX6_isFree_81 (by decide) ?_
                  refine lv_istore_n (lv' := [(2, .int (0 : Int32)), (0, .ref (md 0)), (1, .int at_), (3, .int x3)]) hx hb dX6_isFree_82 rfl hl (by decide) rfl (fun ls hl => ?_)
                  refine lv_iinc (v := (x3 + (3 : Int32))) (lv' := [(3, .int (x3 + (3 : Int32))), (2, .int (0 : Int32)), (0, .ref (md 0)), (1, .int at_)]) hx hb dX6_isFree_83 hl (k := 3) rfl rfl (by decide) rfl (fun ls hl => ?_)
                  refine lv_goto (tgt := 51) hx hb dX6_isFree_86 (by decide) ?_
                  have hb_ := i_add (x := x3) (y := (3 : Int32)) (by omega) (by omega)
                  exact ih (0 : Int32) (x3 + (3 : Int32))  ⟨by omega, by omega, by first | exact nb_0 | exact nb_1⟩ (by omega) hE ls (lv_sub hl [2, 3, 1, 0] rfl)
                · rw [if_neg c_74] at hE
                  refine lv_iconst (v := (1 : Int32)) hx hb dX6_isFree_77 (by decide) ?_
                  refine lv_goto (tgt := 82) hx hb dX6_isFree_78 (by decide) ?_
                  refine lv_istore_n (lv' := [(2, .int (1 : Int32)), (0, .ref (md 0)), (1, .int at_), (3, .int x3)]) hx hb dX6_isFree_82 rfl hl (by decide) rfl (fun ls hl => ?_)
                  refine lv_iinc (v := (x3 + (3 : Int32))) (lv' := [(3, .int (x3 + (3 : Int32))), (2, .int (1 : Int32)), (0, .ref (md 0)), (1, .int at_)]) hx hb dX6_isFree_83 hl (k := 3) rfl rfl (by decide) rfl (fun ls hl => ?_)
                  refine lv_goto (tgt := 51) hx hb dX6_isFree_86 (by decide) ?_
                  have hb_ := i_add (x := x3) (y := (3 : Int32)) (by omega) (by omega)
                  exact ih (1 : Int32) (x3 + (3 : Int32))  ⟨by omega, by omega, by first | exact nb_0 | exact nb_1⟩ (by omega) hE ls (lv_sub hl [2, 3, 1, 0] rfl)
        exact L51 42 x2 (md_end + (1 : Int32))  ⟨by rw [add1_toInt (by omega)]; omega, by rw [add1_toInt (by omega)]; omega, hi.2⟩ (by rw [add1_toInt (by omega)]; omega) hE ls (lv_sub hl [1, 2, 3, 0] rfl)
      · have e_10 := mt Int32.le_iff_toInt_le.mpr c_10
        rw [if_neg c_10] at hE
        refine lv_iload_n hx hb dX6_isFree_13 rfl (lv_at hl 2 rfl) ?_
        refine lv_if_eq (tgt := 36) hx hb dX6_isFree_14 (by decide) (fun c_14 => ?_) (fun c_14 => ?_)
        · have e_14 := congrArg Int32.toInt c_14
          rw [if_pos c_14] at hE
          refine lv_iconst (v := (0 : Int32)) hx hb dX6_isFree_36 (by decide) ?_
          refine lv_istore_n (lv' := [(2, .int (0 : Int32)), (0, .ref (md 0)), (1, .int at_), (3, .int (nI i))]) hx hb dX6_isFree_37 rfl hl (by decide) rfl (fun ls hl => ?_)
          refine lv_iinc (v := (nI (i + 3))) (lv' := [(3, .int (nI (i + 3))), (2, .int (0 : Int32)), (0, .ref (md 0)), (1, .int at_)]) hx hb dX6_isFree_38 hl (k := 3) rfl (by rw [show Int32.ofInt 3 = nI 3 from rfl, nI_add]) (by decide) rfl (fun ls hl => ?_)
          refine lv_goto (tgt := 5) hx hb dX6_isFree_41 (by decide) ?_
          exact ih (0 : Int32) ((i + 3))  ⟨by omega, by first | exact nb_0 | exact nb_1⟩ (by omega) hE ls (lv_sub hl [2, 3, 1, 0] rfl)
        · have e_14 := mt Int32.toInt_inj.mp c_14
          rw [if_neg c_14] at hE
          refine lv_aload_n hx hb dX6_isFree_17 rfl (lv_at hl 0 rfl) ?_
          refine lv_iload_n hx hb dX6_isFree_18 rfl (lv_at hl 3 rfl) ?_
          refine rcVi (As := [.int (nI i)]) (rest := []) ⟨hx, hb, hml, hown, hts⟩ (kX6_cellAt l dC dI cI cJ md md_page md_pageMany md_end md_ships md_rocks md_rockBits md_day md_isHired md_sails md_seasRead md_kinds md_ills md_cells md_sailed md_must md_seenMany md_sights md_seedNow md_cellsThen md_keptSea md_keptDay md_keptHired md_keptSails md_keptSeen md_keptKinds md_keptIlls md_keptCells md_keptSailed md_keptSights md_hash (nI i) (by first | assumption | exact vp_in_iff.mpr ⟨by omega, by omega⟩ | omega | decide) (by first | assumption | exact vp_in_iff.mpr ⟨by omega, by omega⟩ | omega | decide)) (cwV 1 hts gX6_isFree_X6_cellAt rfl rfl rfl (by decide +kernel) ⟨Nat.le_of_ble_eq_true rfl, Nat.le_of_ble_eq_true rfl⟩) hK hP hst hS [0, 1, 2, 3, 4, 5, 6, 7, 8, 9, 10, 11, 12, 13] rfl 0 rfl rfl rfl hl.1 rfl (Nat.le_of_ble_eq_true rfl) dX6_isFree_19 ⟨Nat.zero_le _, Nat.zero_le _⟩ (fun r w_3 => ?_)
          subst w_3
          refine lv_aload_n hx hb dX6_isFree_22 rfl (lv_at hl 0 rfl) ?_
          refine lv_iload_n hx hb dX6_isFree_23 rfl (lv_at hl 1 rfl) ?_
          refine lv_iconst (v := (1 : Int32)) hx hb dX6_isFree_24 (by decide) ?_
          refine lv_isub hx hb dX6_isFree_25 ?_
          refine rcVi (As := [.int (at_ - (1 : Int32))]) (rest := [.int (fX6_cellAt md_page (nI i))]) ⟨hx, hb, hml, hown, hts⟩ (kX6_cellAt l dC dI cI cJ md md_page md_pageMany md_end md_ships md_rocks md_rockBits md_day md_isHired md_sails md_seasRead md_kinds md_ills md_cells md_sailed md_must md_seenMany md_sights md_seedNow md_cellsThen md_keptSea md_keptDay md_keptHired md_keptSails md_keptSeen md_keptKinds md_keptIlls md_keptCells md_keptSailed md_keptSights md_hash (at_ - (1 : Int32)) (by rw [sub1_toInt (by omega)]; omega) (by rw [sub1_toInt (by omega)]; omega)) (cwV 1 hts gX6_isFree_X6_cellAt rfl rfl rfl (by decide +kernel) ⟨Nat.le_of_ble_eq_true rfl, Nat.le_of_ble_eq_true rfl⟩) hK hP hst hS [0, 1, 2, 3, 4, 5, 6, 7, 8, 9, 10, 11, 12, 13] rfl 0 rfl rfl rfl hl.1 rfl (Nat.le_of_ble_eq_true rfl) dX6_isFree_26 ⟨Nat.zero_le _, Nat.zero_le _⟩ (fun r w_4 => ?_)
          subst w_4
          refine lv_icmp_eq (tgt := 36) hx hb dX6_isFree_29 (by decide) (fun c_29 => ?_) (fun c_29 => ?_)
          · rw [if_pos c_29] at hE
            refine lv_iconst (v := (0 : Int32)) hx hb dX6_isFree_36 (by decide) ?_
            refine lv_istore_n (lv' := [(2, .int (0 : Int32)), (0, .ref (md 0)), (1, .int at_), (3, .int (nI i))]) hx hb dX6_isFree_37 rfl hl (by decide) rfl (fun ls hl => ?_)
            refine lv_iinc (v := (nI (i + 3))) (lv' := [(3, .int (nI (i + 3))), (2, .int (0 : Int32)), (0, .ref (md 0)), (1, .int at_)]) hx hb dX6_isFree_38 hl (k := 3) rfl (by rw [show Int32.ofInt 3 = nI 3 from rfl, nI_add]) (by decide) rfl (fun ls hl => ?_)
            refine lv_goto (tgt := 5) hx hb dX6_isFree_41 (by decide) ?_
            exact ih (0 : Int32) ((i + 3))  ⟨by omega, by first | exact nb_0 | exact nb_1⟩ (by omega) hE ls (lv_sub hl [2, 3, 1, 0] rfl)
          · rw [if_neg c_29] at hE
            refine lv_iconst (v := (1 : Int32)) hx hb dX6_isFree_32 (by decide) ?_
            refine lv_goto (tgt := 37) hx hb dX6_isFree_33 (by decide) ?_
            refine lv_istore_n (lv' := [(2, .int (1 : Int32)), (0, .ref (md 0)), (1, .int at_), (3, .int (nI i))]) hx hb dX6_isFree_37 rfl hl (by decide) rfl (fun ls hl => ?_)
            refine lv_iinc (v := (nI (i + 3))) (lv' := [(3, .int (nI (i + 3))), (2, .int (1 : Int32)), (0, .ref (md 0)), (1, .int at_)]) hx hb dX6_isFree_38 hl (k := 3) rfl (by rw [show Int32.ofInt 3 = nI 3 from rfl, nI_add]) (by decide) rfl (fun ls hl => ?_)
            refine lv_goto (tgt := 5) hx hb dX6_isFree_41 (by decide) ?_
            exact ih (1 : Int32) ((i + 3))  ⟨by omega, by first | exact nb_0 | exact nb_1⟩ (by omega) hE ls (lv_sub hl [2, 3, 1, 0] rfl)
  exact L5 42 (1 : Int32) (9)  ⟨by omega, nb_1⟩ (by omega) hE ls (lv_sub hl [2, 3, 1, 0] rfl)
def fX6_isRockLetter (md_page : Nat → Int32) (md_end : Int32) (at_ : Int32) : Int32 := (if (((at_ - md_end) - (1 : Int32)) - ((at_ - md_end) - (1 : Int32)) / (3 : Int32) * (3 : Int32)) = (0 : Int32) then (fX6_in (md_page at_.toNatClampNeg).toInt64 (48 : Int64) (53 : Int64)) else (if (((at_ - md_end) - (1 : Int32)) - ((at_ - md_end) - (1 : Int32)) / (3 : Int32) * (3 : Int32)) = (1 : Int32) then (if (fX6_in (md_page at_.toNatClampNeg).toInt64 (48 : Int64) (53 : Int64)) = (0 : Int32) then (0 : Int32) else (if (fX6_isFree md_page md_end at_) = (0 : Int32) then (0 : Int32) else (1 : Int32))) else (if (md_page at_.toNatClampNeg) = (44 : Int32) then (if (17 : Int32) ≤ ((at_ - md_end) - (1 : Int32)) then (0 : Int32) else (1 : Int32)) else (0 : Int32))))
set_option maxHeartbeats 4000000 in
set_option maxRecDepth 100000 in
theorem kX6_isRockLetter (l : Launch) (dC : Nat → ClassId) (dI : Nat → Nat → Nat) (cI cJ : ClassId) (md : Nat → Nat) (md_page : Nat → Int32) (md_pageMany : Int32) (md_end : Int32) (md_ships : Int32) (md_rocks : Int32) (md_rockBits : Int64) (md_day : Int32) (md_isHired : Int32) (md_sails : Int32) (md_seasRead : Int32) (md_kinds : Nat → Int32) (md_ills : Nat → Int32) (md_cells : Nat → Int32) (md_sailed : Nat → Int32) (md_must : Nat → Int64) (md_seenMany : Int32) (md_sights : Nat → Int32) (md_seedNow : Int32) (md_cellsThen : Nat → Int32) (md_keptSea : Int32) (md_keptDay : Int32) (md_keptHired : Int32) (md_keptSails : Int32) (md_keptSeen : Int32) (md_keptKinds : Nat → Int32) (md_keptIlls : Nat → Int32) (md_keptCells : Nat → Int32) (md_keptSailed : Nat → Int32) (md_keptSights : Nat → Int32) (md_hash : Int64) (at_ : Int32) (p_1 : 1 ≤ at_.toInt) (p_2 : at_.toInt ≤ 39) (p_3 : 0 ≤ md_end.toInt) (p_4 : md_end.toInt ≤ 39) : Met l yX6_isRockLetter wsX6_isRockLetter ({ frames := 2, cells := 0, slots := 0, locals := 44 } : Room) (gR (dC, dI) cI cJ (kMd cI cJ md md_page md_pageMany md_end md_ships md_rocks md_rockBits md_day md_isHired md_sails md_seasRead md_kinds md_ills md_cells md_sailed md_must md_seenMany md_sights md_seedNow md_cellsThen md_keptSea md_keptDay md_keptHired md_keptSails md_keptSeen md_keptKinds md_keptIlls md_keptCells md_keptSailed md_keptSights md_hash) ([.ref (md 0), .int at_] : List Value)) (vp_Si (fun r => r = (fX6_isRockLetter md_page md_end at_) ∧ isB r)) 0 0 (fun _ => False) := by
  refine Met.ofW (cc := cX6_isRockLetter) (maxL := 4) (ret := (some .boolean)) (by decide) rfl ?_
  intro p e s m args below meth c s₁ B hml hv
  obtain ⟨rfl, hP, hK, hst⟩ := hv
  have hx := B.exec
  have hb := B.bytes
  have hr := B.returns
  have hts := atoms_spec (ws := wsX6_isRockLetter) B.pre
  have hown : s.vm.findClass RX6 = some m.cls := findClass_of_methodNamed B.named
  have hlocks := B.notSynchronized
  have hS : va_S (fun _ => False) s.heap s.heap [] := va_S.rf
  generalize hE : (fX6_isRockLetter md_page md_end at_) = RES
  generalize hQ : MQ below (vp_Si (fun r => r = RES ∧ isB r)) ([.ref (md 0), .int at_] : List Value).toArray s 0 0 (fun _ => False) = Q
  have hl := lv_entry ([.ref (md 0), .int at_] : List Value) (n := 4) (Nat.le_of_ble_eq_true rfl)
  rw [lg_entry_eq]
  generalize (lg_sl ([.ref (md 0), .int at_] : List Value) ++ List.replicate (4 - (lg_sl ([.ref (md 0), .int at_] : List Value)).length) Slot.unset).toArray = ls at hl ⊢
  have hl : lv_has ls 4 [(0, .ref (md 0)), (1, .int at_)] := hl
  have in_X6 : ∀ w ∈ u_ws RX6 TX6 30, w ∈ wsX6_isRockLetter := fun _ h => List.mem_cons_of_mem _ (List.mem_append_right _ h)
  have t_constantLong_RX6_67_48 := hts (.constantLong RX6 67 (48)) (List.mem_of_getElem? (i := 3) rfl)
  have t_constantLong_RX6_71_53 := hts (.constantLong RX6 71 (53)) (List.mem_of_getElem? (i := 4) rfl)
  have t_fieldLink_RX6_73_FourLodgersModel_end_I := hts (.fieldLink RX6 73 "FourLodgersModel" "end" "I") (List.mem_of_getElem? (i := 2) rfl)
  have t_fieldLink_RX6_7_FourLodgersModel_page_I := hts (.fieldLink RX6 7 "FourLodgersModel" "page" "[I") (List.mem_of_getElem? (i := 1) rfl)
  have i_0 : (0 : Int32).toInt = 0 := by decide
  have i_1 : (1 : Int32).toInt = 1 := by decide
  have i_3 : (3 : Int32).toInt = 3 := by decide
  have i_17 : (17 : Int32).toInt = 17 := by decide
  have i_44 : (44 : Int32).toInt = 44 := by decide
  rw [fX6_isRockLetter] at hE
  refine lv_aload_n hx hb dX6_isRockLetter_0 rfl (lv_at hl 0 rfl) ?_
  refine va_get (D := (dC, dI)) (ci := 6) (v := .ref (md 1)) (C := RX6) (T := TX6) (N := 30) hx hb hts in_X6 hown hK hP 0 rfl rfl 0 (by decide) t_fieldLink_RX6_7_FourLodgersModel_page_I (fun _ h9 => h9) rfl dX6_isRockLetter_1 ?_
  refine lv_iload_n hx hb dX6_isRockLetter_4 rfl (lv_at hl 1 rfl) ?_
  refine va_iald hx hb hK hP 1 0 rfl rfl (i := at_) (by first | assumption | exact vp_in_iff.mpr ⟨by omega, by omega⟩ | omega | decide) dX6_isRockLetter_5 ?_
  refine lv_istore_n (lv' := [(2, .int (md_page at_.toNatClampNeg)), (0, .ref (md 0)), (1, .int at_)]) hx hb dX6_isRockLetter_6 rfl hl (by decide) rfl (fun ls hl => ?_)
  refine lv_iload_n hx hb dX6_isRockLetter_7 rfl (lv_at hl 2 rfl) ?_
  refine lv_aload_n hx hb dX6_isRockLetter_8 rfl (lv_at hl 1 rfl) ?_
  refine va_get (D := (dC, dI)) (ci := 6) (v := .int md_end) (C := RX6) (T := TX6) (N := 30) hx hb hts in_X6 hown hK hP 0 rfl rfl 2 (by decide) t_fieldLink_RX6_73_FourLodgersModel_end_I (fun _ h9 => h9) rfl dX6_isRockLetter_9 ?_
  refine lv_isub hx hb dX6_isRockLetter_12 ?_
  refine lv_iconst (v := (1 : Int32)) hx hb dX6_isRockLetter_13 (by decide) ?_
  refine lv_isub hx hb dX6_isRockLetter_14 ?_
  refine lv_istore_n (lv' := [(3, .int ((at_ - md_end) - (1 : Int32))), (2, .int (md_page at_.toNatClampNeg)), (0, .ref (md 0)), (1, .int at_)]) hx hb dX6_isRockLetter_15 rfl hl (by decide) rfl (fun ls hl => ?_)
  refine lv_iload_n hx hb dX6_isRockLetter_16 rfl (lv_at hl 0 rfl) ?_
  refine lv_iconst (v := (3 : Int32)) hx hb dX6_isRockLetter_17 (by decide) ?_
  refine lv_irem hx hb dX6_isRockLetter_18 (by decide) ?_
  by_cases c_19_0 : (((at_ - md_end) - (1 : Int32)) - ((at_ - md_end) - (1 : Int32)) / (3 : Int32) * (3 : Int32)) = (0 : Int32)
  · rw [if_pos c_19_0] at hE
    refine lv_lookup (off := 25) (tgt := 44) hx hb dX6_isRockLetter_19 (by decide) (by rw [c_19_0]; decide) (by decide) ?_
    refine lv_iload_n hx hb dX6_isRockLetter_44 rfl (lv_at hl 1 rfl) ?_
    refine lv_i2l hx hb dX6_isRockLetter_45 rfl ?_
    refine lv_ldc2 hx hb hown t_constantLong_RX6_67_48 dX6_isRockLetter_46 ?_
    refine lv_ldc2 hx hb hown t_constantLong_RX6_71_53 dX6_isRockLetter_49 ?_
    refine rcSi (As := [.long (md_page at_.toNatClampNeg).toInt64, .long (48 : Int64), .long (53 : Int64)]) (rest := []) ⟨hx, hb, hml, hown, hts⟩ (kX6_in l dC dI cI cJ (md_page at_.toNatClampNeg).toInt64 (48 : Int64) (53 : Int64)) (va_cwS 3 hts gX6_isRockLetter_X6_in rfl rfl rfl (by decide +kernel) ⟨Nat.le_of_ble_eq_true rfl, Nat.le_of_ble_eq_true rfl⟩) hK hP hst hS [] rfl rfl hl.1 rfl (Nat.le_of_ble_eq_true rfl) dX6_isRockLetter_52 ⟨Nat.zero_le _, Nat.zero_le _⟩ (fun r w_1 => ?_)
    obtain ⟨w_1, nb_2⟩ := w_1; rw [w_1] at nb_2 ⊢
    subst hE
    rw [← hQ]
    exact W.zret hx hb hr (isB.n nb_2) (fun t ht hW => ⟨_, rfl, ⟨rfl, nb_2⟩, ht⟩) (fun q h => absurd h List.not_mem_nil) dX6_isRockLetter_55
  · rw [if_neg c_19_0] at hE
    by_cases c_19_1 : (((at_ - md_end) - (1 : Int32)) - ((at_ - md_end) - (1 : Int32)) / (3 : Int32) * (3 : Int32)) = (1 : Int32)
    · rw [if_pos c_19_1] at hE
      refine lv_lookup (off := 37) (tgt := 56) hx hb dX6_isRockLetter_19 (by decide) (by rw [c_19_1]; decide) (by decide) ?_
      refine lv_iload_n hx hb dX6_isRockLetter_56 rfl (lv_at hl 1 rfl) ?_
      refine lv_i2l hx hb dX6_isRockLetter_57 rfl ?_
      refine lv_ldc2 hx hb hown t_constantLong_RX6_67_48 dX6_isRockLetter_58 ?_
      refine lv_ldc2 hx hb hown t_constantLong_RX6_71_53 dX6_isRockLetter_61 ?_
      refine rcSi (As := [.long (md_page at_.toNatClampNeg).toInt64, .long (48 : Int64), .long (53 : Int64)]) (rest := []) ⟨hx, hb, hml, hown, hts⟩ (kX6_in l dC dI cI cJ (md_page at_.toNatClampNeg).toInt64 (48 : Int64) (53 : Int64)) (va_cwS 3 hts gX6_isRockLetter_X6_in rfl rfl rfl (by decide +kernel) ⟨Nat.le_of_ble_eq_true rfl, Nat.le_of_ble_eq_true rfl⟩) hK hP hst hS [] rfl rfl hl.1 rfl (Nat.le_of_ble_eq_true rfl) dX6_isRockLetter_64 ⟨Nat.zero_le _, Nat.zero_le _⟩ (fun r w_3 => ?_)
      obtain ⟨w_3, nb_4⟩ := w_3; rw [w_3] at nb_4 ⊢
      refine lv_if_eq (tgt := 82) hx hb dX6_isRockLetter_67 (by decide) (fun c_67 => ?_) (fun c_67 => ?_)
      · rw [if_pos c_67] at hE
        refine lv_iconst (v := (0 : Int32)) hx hb dX6_isRockLetter_82 (by decide) ?_
        subst hE
        rw [← hQ]
        exact W.zret hx hb hr (isB.n nb_0) (fun t ht hW => ⟨_, rfl, ⟨rfl, nb_0⟩, ht⟩) (fun q h => absurd h List.not_mem_nil) dX6_isRockLetter_83
      · rw [if_neg c_67] at hE
        refine lv_aload_n hx hb dX6_isRockLetter_70 rfl (lv_at hl 2 rfl) ?_
        refine lv_iload_n hx hb dX6_isRockLetter_71 rfl (lv_at hl 3 rfl) ?_
        refine rcVi (As := [.int at_]) (rest := []) ⟨hx, hb, hml, hown, hts⟩ (kX6_isFree l dC dI cI cJ md md_page md_pageMany md_end md_ships md_rocks md_rockBits md_day md_isHired md_sails md_seasRead md_kinds md_ills md_cells md_sailed md_must md_seenMany md_sights md_seedNow md_cellsThen md_keptSea md_keptDay md_keptHired md_keptSails md_keptSeen md_keptKinds md_keptIlls md_keptCells md_keptSailed md_keptSights md_hash at_ (by first | assumption | exact vp_in_iff.mpr ⟨by omega, by omega⟩ | omega | decide) (by first | assumption | exact vp_in_iff.mpr ⟨by omega, by omega⟩ | omega | decide) (by first | assumption | exact vp_in_iff.mpr ⟨by omega, by omega⟩ | omega | decide) (by first | assumption | exact vp_in_iff.mpr ⟨by omega, by omega⟩ | omega | decide)) (cwV 1 hts gX6_isRockLetter_X6_isFree rfl rfl rfl (by decide +kernel) ⟨Nat.le_of_ble_eq_true rfl, Nat.le_of_ble_eq_true rfl⟩) hK hP hst hS [0, 1, 2, 3, 4, 5, 6, 7, 8, 9, 10, 11, 12, 13] rfl 0 rfl rfl rfl hl.1 rfl (Nat.le_of_ble_eq_true rfl) dX6_isRockLetter_72 ⟨Nat.zero_le _, Nat.zero_le _⟩ (fun r w_5 => ?_)
        obtain ⟨rfl, nb_6⟩ := w_5
        refine lv_if_eq (tgt := 82) hx hb dX6_isRockLetter_75 (by decide) (fun c_75 => ?_) (fun c_75 => ?_)
        · rw [if_pos c_75] at hE
          refine lv_iconst (v := (0 : Int32)) hx hb dX6_isRockLetter_82 (by decide) ?_
          subst hE
          rw [← hQ]
          exact W.zret hx hb hr (isB.n nb_0) (fun t ht hW => ⟨_, rfl, ⟨rfl, nb_0⟩, ht⟩) (fun q h => absurd h List.not_mem_nil) dX6_isRockLetter_83
        · rw [if_neg c_75] at hE
          refine lv_iconst (v := (1 : Int32)) hx hb dX6_isRockLetter_78 (by decide) ?_
          refine lv_goto (tgt := 83) hx hb dX6_isRockLetter_79 (by decide) ?_
          subst hE
          rw [← hQ]
          exact W.zret hx hb hr (isB.n nb_1) (fun t ht hW => ⟨_, rfl, ⟨rfl, nb_1⟩, ht⟩) (fun q h => absurd h List.not_mem_nil) dX6_isRockLetter_83
    · rw [if_neg c_19_1] at hE
      refine lv_lookup (off := 65) (tgt := 84) hx hb dX6_isRockLetter_19 (by decide) (by show Op.lookupswitch.offset [(0, 25), (1, 37)] 65 _ = 65; rw [lv_osw c_19_0 (show (0 : Int32).toInt = 0 by decide), lv_osw c_19_1 (show (1 : Int32).toInt = 1 by decide)]; rfl) (by decide) ?_
      refine lv_iload_n hx hb dX6_isRockLetter_84 rfl (lv_at hl 1 rfl) ?_
      refine lv_bipush (v := (44 : Int32)) hx hb dX6_isRockLetter_85 (by decide) ?_
      refine lv_icmp_ne (tgt := 100) hx hb dX6_isRockLetter_87 (by decide) (fun c_87 => ?_) (fun c_87 => ?_)
      · have e_87 := mt Int32.toInt_inj.mp c_87
        rw [if_neg c_87] at hE
        refine lv_iconst (v := (0 : Int32)) hx hb dX6_isRockLetter_100 (by decide) ?_
        subst hE
        rw [← hQ]
        exact W.zret hx hb hr (isB.n nb_0) (fun t ht hW => ⟨_, rfl, ⟨rfl, nb_0⟩, ht⟩) (fun q h => absurd h List.not_mem_nil) dX6_isRockLetter_101
      · have e_87 := congrArg Int32.toInt c_87
        rw [if_pos c_87] at hE
        refine lv_iload_n hx hb dX6_isRockLetter_90 rfl (lv_at hl 0 rfl) ?_
        refine lv_bipush (v := (17 : Int32)) hx hb dX6_isRockLetter_91 (by decide) ?_
        refine lv_icmp_ge (tgt := 100) hx hb dX6_isRockLetter_93 (by decide) (fun c_93 => ?_) (fun c_93 => ?_)
        · have e_93 := Int32.le_iff_toInt_le.mp c_93
          rw [if_pos c_93] at hE
          refine lv_iconst (v := (0 : Int32)) hx hb dX6_isRockLetter_100 (by decide) ?_
          subst hE
          rw [← hQ]
          exact W.zret hx hb hr (isB.n nb_0) (fun t ht hW => ⟨_, rfl, ⟨rfl, nb_0⟩, ht⟩) (fun q h => absurd h List.not_mem_nil) dX6_isRockLetter_101
        · have e_93 := mt Int32.le_iff_toInt_le.mpr c_93
          rw [if_neg c_93] at hE
          refine lv_iconst (v := (1 : Int32)) hx hb dX6_isRockLetter_96 (by decide) ?_
          refine lv_goto (tgt := 101) hx hb dX6_isRockLetter_97 (by decide) ?_
          subst hE
          rw [← hQ]
          exact W.zret hx hb hr (isB.n nb_1) (fun t ht hW => ⟨_, rfl, ⟨rfl, nb_1⟩, ht⟩) (fun q h => absurd h List.not_mem_nil) dX6_isRockLetter_101
def fX6_isGood (md_page : Nat → Int32) (md_end : Int32) (at_ : Int32) : Int32 × Int32 := (if (9 : Int32) ≤ at_ then (if md_end = (0 : Int32) then (((fX6_isShipLetter md_page md_end at_).1), ((fX6_isShipLetter md_page md_end at_).2)) else ((fX6_isRockLetter md_page md_end at_), md_end)) else (if (8 : Int32) ≤ at_ then (if (md_page at_.toNatClampNeg) = (59 : Int32) then ((1 : Int32), md_end) else ((0 : Int32), md_end)) else ((fX6_isLodgerLetter md_page at_), md_end)))
set_option maxHeartbeats 4000000 in
set_option maxRecDepth 100000 in
theorem kX6_isGood (l : Launch) (dC : Nat → ClassId) (dI : Nat → Nat → Nat) (cI cJ : ClassId) (sz : Nat) (md : Nat → Nat) (md_page : Nat → Int32) (md_pageMany : Int32) (md_end : Int32) (md_ships : Int32) (md_rocks : Int32) (md_rockBits : Int64) (md_day : Int32) (md_isHired : Int32) (md_sails : Int32) (md_seasRead : Int32) (md_kinds : Nat → Int32) (md_ills : Nat → Int32) (md_cells : Nat → Int32) (md_sailed : Nat → Int32) (md_must : Nat → Int64) (md_seenMany : Int32) (md_sights : Nat → Int32) (md_seedNow : Int32) (md_cellsThen : Nat → Int32) (md_keptSea : Int32) (md_keptDay : Int32) (md_keptHired : Int32) (md_keptSails : Int32) (md_keptSeen : Int32) (md_keptKinds : Nat → Int32) (md_keptIlls : Nat → Int32) (md_keptCells : Nat → Int32) (md_keptSailed : Nat → Int32) (md_keptSights : Nat → Int32) (md_hash : Int64) (at_ : Int32) (p_1 : 0 ≤ at_.toInt) (p_2 : at_.toInt ≤ 39) (p_3 : md_end.toInt = 0 ∨ (9 ≤ md_end.toInt ∧ md_end.toInt < at_.toInt)) : Met l yX6_isGood wsX6_isGood ({ frames := 3, cells := 0, slots := 0, locals := 67 } : Room) (gW (dC, dI) cI cJ sz (kMd cI cJ md md_page md_pageMany md_end md_ships md_rocks md_rockBits md_day md_isHired md_sails md_seasRead md_kinds md_ills md_cells md_sailed md_must md_seenMany md_sights md_seedNow md_cellsThen md_keptSea md_keptDay md_keptHired md_keptSails md_keptSeen md_keptKinds md_keptIlls md_keptCells md_keptSailed md_keptSights md_hash) ([.ref (md 0), .int at_] : List Value)) (va_Qi (fun (r : Int32) (_ : Unit) => r = ((fX6_isGood md_page md_end at_).1) ∧ isB r) (fun u : Unit => gB (dC, dI) cI cJ (va_A (kMd cI cJ md md_page md_pageMany md_end md_ships md_rocks md_rockBits md_day md_isHired md_sails md_seasRead md_kinds md_ills md_cells md_sailed md_must md_seenMany md_sights md_seedNow md_cellsThen md_keptSea md_keptDay md_keptHired md_keptSails md_keptSeen md_keptKinds md_keptIlls md_keptCells md_keptSailed md_keptSights md_hash) sz) (kMd cI cJ md md_page md_pageMany ((fX6_isGood md_page md_end at_).2) md_ships md_rocks md_rockBits md_day md_isHired md_sails md_seasRead md_kinds md_ills md_cells md_sailed md_must md_seenMany md_sights md_seedNow md_cellsThen md_keptSea md_keptDay md_keptHired md_keptSails md_keptSeen md_keptKinds md_keptIlls md_keptCells md_keptSailed md_keptSights md_hash)) (va_A (kMd cI cJ md md_page md_pageMany md_end md_ships md_rocks md_rockBits md_day md_isHired md_sails md_seasRead md_kinds md_ills md_cells md_sailed md_must md_seenMany md_sights md_seedNow md_cellsThen md_keptSea md_keptDay md_keptHired md_keptSails md_keptSeen md_keptKinds md_keptIlls md_keptCells md_keptSailed md_keptSights md_hash) sz)) 0 0 (va_A (kMd cI cJ md md_page md_pageMany md_end md_ships md_rocks md_rockBits md_day md_isHired md_sails md_seasRead md_kinds md_ills md_cells md_sailed md_must md_seenMany md_sights md_seedNow md_cellsThen md_keptSea md_keptDay md_keptHired md_keptSails md_keptSeen md_keptKinds md_keptIlls md_keptCells md_keptSailed md_keptSights md_hash) sz) := by
  refine Met.ofW (cc := cX6_isGood) (maxL := 2) (ret := (some .boolean)) (by decide) rfl ?_
  intro p e s m args below meth c s₁ B hml hv
  obtain ⟨rfl, hsz, hP, hK, hD0, hst⟩ := hv
  have hx := B.exec
  have hb := B.bytes
  have hr := B.returns
  have hts := atoms_spec (ws := wsX6_isGood) B.pre
  have hown : s.vm.findClass RX6 = some m.cls := findClass_of_methodNamed B.named
  have hlocks := B.notSynchronized
  subst hsz
  have hD := hD0.self (sz := s.heap.size)
  generalize hAe : va_A (kMd cI cJ md md_page md_pageMany md_end md_ships md_rocks md_rockBits md_day md_isHired md_sails md_seasRead md_kinds md_ills md_cells md_sailed md_must md_seenMany md_sights md_seedNow md_cellsThen md_keptSea md_keptDay md_keptHired md_keptSails md_keptSeen md_keptKinds md_keptIlls md_keptCells md_keptSailed md_keptSights md_hash) s.heap.size = A at hD hst ⊢
  have hA : ∀ q : Nat, s.heap.size ≤ q → A q := fun q h => by rw [← hAe]; exact Or.inr h
  have hS : va_S A s.heap s.heap [] := va_S.rf
  generalize hE : (fX6_isGood md_page md_end at_) = RES
  generalize hQ : MQ below (va_Qi (fun (r : Int32) (_ : Unit) => r = (RES.1) ∧ isB r) (fun u : Unit => gB (dC, dI) cI cJ A (kMd cI cJ md md_page md_pageMany (RES.2) md_ships md_rocks md_rockBits md_day md_isHired md_sails md_seasRead md_kinds md_ills md_cells md_sailed md_must md_seenMany md_sights md_seedNow md_cellsThen md_keptSea md_keptDay md_keptHired md_keptSails md_keptSeen md_keptKinds md_keptIlls md_keptCells md_keptSailed md_keptSights md_hash)) A) ([.ref (md 0), .int at_] : List Value).toArray s 0 0 A = Q
  have hl := lv_entry ([.ref (md 0), .int at_] : List Value) (n := 2) (Nat.le_of_ble_eq_true rfl)
  rw [lg_entry_eq]
  generalize (lg_sl ([.ref (md 0), .int at_] : List Value) ++ List.replicate (2 - (lg_sl ([.ref (md 0), .int at_] : List Value)).length) Slot.unset).toArray = ls at hl ⊢
  have hl : lv_has ls 2 [(0, .ref (md 0)), (1, .int at_)] := hl
  have in_X6 : ∀ w ∈ u_ws RX6 TX6 30, w ∈ wsX6_isGood := fun _ h => List.mem_cons_of_mem _ (List.mem_append_right _ h)
  have t_fieldLink_RX6_73_FourLodgersModel_end_I := hts (.fieldLink RX6 73 "FourLodgersModel" "end" "I") (List.mem_of_getElem? (i := 2) rfl)
  have t_fieldLink_RX6_7_FourLodgersModel_page_I := hts (.fieldLink RX6 7 "FourLodgersModel" "page" "[I") (List.mem_of_getElem? (i := 1) rfl)
  have i_0 : (0 : Int32).toInt = 0 := by decide
  have i_1 : (1 : Int32).toInt = 1 := by decide
  have i_8 : (8 : Int32).toInt = 8 := by decide
  have i_9 : (9 : Int32).toInt = 9 := by decide
  have i_59 : (59 : Int32).toInt = 59 := by decide
  rw [fX6_isGood] at hE
  refine lv_iload_n hx hb dX6_isGood_0 rfl (lv_at hl 1 rfl) ?_
  refine lv_bipush (v := (9 : Int32)) hx hb dX6_isGood_1 (by decide) ?_
  refine lv_icmp_ge (tgt := 37) hx hb dX6_isGood_3 (by decide) (fun c_3 => ?_) (fun c_3 => ?_)
  · have e_3 := Int32.le_iff_toInt_le.mp c_3
    rw [if_pos c_3] at hE
    refine lv_aload_n hx hb dX6_isGood_37 rfl (lv_at hl 0 rfl) ?_
    refine va_get (D := (dC, dI)) (ci := 6) (v := .int md_end) (C := RX6) (T := TX6) (N := 30) hx hb hts in_X6 hown hK hP 0 rfl rfl 2 (by decide) t_fieldLink_RX6_73_FourLodgersModel_end_I (fun _ h9 => h9) rfl dX6_isGood_38 ?_
    refine lv_if_ne (tgt := 52) hx hb dX6_isGood_41 (by decide) (fun c_41 => ?_) (fun c_41 => ?_)
    · have e_41 := mt Int32.toInt_inj.mp c_41
      rw [if_neg c_41] at hE
      refine lv_aload_n hx hb dX6_isGood_52 rfl (lv_at hl 0 rfl) ?_
      refine lv_iload_n hx hb dX6_isGood_53 rfl (lv_at hl 1 rfl) ?_
      refine rcVi (As := [.int at_]) (rest := []) ⟨hx, hb, hml, hown, hts⟩ (kX6_isRockLetter l dC dI cI cJ md md_page md_pageMany md_end md_ships md_rocks md_rockBits md_day md_isHired md_sails md_seasRead md_kinds md_ills md_cells md_sailed md_must md_seenMany md_sights md_seedNow md_cellsThen md_keptSea md_keptDay md_keptHired md_keptSails md_keptSeen md_keptKinds md_keptIlls md_keptCells md_keptSailed md_keptSights md_hash at_ (by first | assumption | exact vp_in_iff.mpr ⟨by omega, by omega⟩ | omega | decide) (by first | assumption | exact vp_in_iff.mpr ⟨by omega, by omega⟩ | omega | decide) (by first | assumption | exact vp_in_iff.mpr ⟨by omega, by omega⟩ | omega | decide) (by first | assumption | exact vp_in_iff.mpr ⟨by omega, by omega⟩ | omega | decide)) (cwV 1 hts gX6_isGood_X6_isRockLetter rfl rfl rfl (by decide +kernel) ⟨Nat.le_of_ble_eq_true rfl, Nat.le_of_ble_eq_true rfl⟩) hK hP hst hS [0, 1, 2, 3, 4, 5, 6, 7, 8, 9, 10, 11, 12, 13] rfl 0 rfl rfl rfl hl.1 rfl (Nat.le_of_ble_eq_true rfl) dX6_isGood_54 ⟨Nat.zero_le _, Nat.zero_le _⟩ (fun r w_1 => ?_)
      obtain ⟨rfl, nb_2⟩ := w_1
      subst hE
      rw [← hQ]
      exact W.zret hx hb hr (isB.n nb_2) (fun t ht hW => ⟨⟨_, (), rfl, ⟨rfl, nb_2⟩, by rw [ht]; exact hP, va_K.moved hW.alike hK, hD⟩, hS.F ht⟩) hS.2.2 dX6_isGood_57
    · have e_41 := congrArg Int32.toInt c_41
      rw [if_pos c_41] at hE
      refine lv_aload_n hx hb dX6_isGood_44 rfl (lv_at hl 0 rfl) ?_
      refine lv_iload_n hx hb dX6_isGood_45 rfl (lv_at hl 1 rfl) ?_
      refine wcVi (As := [.int at_]) (rest := []) (wr := ([] : va_W)) (wn := (fun u : Unit => (kMd cI cJ md md_page md_pageMany ((fX6_isShipLetter md_page md_end at_).2) md_ships md_rocks md_rockBits md_day md_isHired md_sails md_seasRead md_kinds md_ills md_cells md_sailed md_must md_seenMany md_sights md_seedNow md_cellsThen md_keptSea md_keptDay md_keptHired md_keptSails md_keptSeen md_keptKinds md_keptIlls md_keptCells md_keptSailed md_keptSights md_hash))) (ws' := (fun u : Unit => (kMd cI cJ md md_page md_pageMany ((fX6_isShipLetter md_page md_end at_).2) md_ships md_rocks md_rockBits md_day md_isHired md_sails md_seasRead md_kinds md_ills md_cells md_sailed md_must md_seenMany md_sights md_seedNow md_cellsThen md_keptSea md_keptDay md_keptHired md_keptSails md_keptSeen md_keptKinds md_keptIlls md_keptCells md_keptSailed md_keptSights md_hash))) ⟨hx, hb, hml, hown, hts⟩ (kX6_isShipLetter l dC dI cI cJ s.heap.size md md_page md_pageMany md_end md_ships md_rocks md_rockBits md_day md_isHired md_sails md_seasRead md_kinds md_ills md_cells md_sailed md_must md_seenMany md_sights md_seedNow md_cellsThen md_keptSea md_keptDay md_keptHired md_keptSails md_keptSeen md_keptKinds md_keptIlls md_keptCells md_keptSailed md_keptSights md_hash at_ (by first | assumption | exact vp_in_iff.mpr ⟨by omega, by omega⟩ | omega | decide)) (cwV 1 hts gX6_isGood_X6_isShipLetter rfl rfl rfl (by decide +kernel) ⟨Nat.le_of_ble_eq_true rfl, Nat.le_of_ble_eq_true rfl⟩) hK hP hD hst hS hA [0, 1, 2, 3, 4, 5, 6, 7, 8, 9, 10, 11, 12, 13] [] [0, 1, 2, 3, 4, 5, 6, 7, 8, 9, 10, 11, 12, 13] rfl (by decide) rfl (by decide) (by decide) (by decide) (fun _ => rfl) 0 rfl rfl rfl hl.1 rfl (Nat.le_of_ble_eq_true rfl) dX6_isGood_46 ⟨Nat.zero_le _, Nat.zero_le _⟩ (fun r u_4 H locs w_3 hP hD hS => ?_)
      replace hP : va_P (dC, dI) vwCl (kMd cI cJ md md_page md_pageMany ((fX6_isShipLetter md_page md_end at_).2) md_ships md_rocks md_rockBits md_day md_isHired md_sails md_seasRead md_kinds md_ills md_cells md_sailed md_must md_seenMany md_sights md_seedNow md_cellsThen md_keptSea md_keptDay md_keptHired md_keptSails md_keptSeen md_keptKinds md_keptIlls md_keptCells md_keptSailed md_keptSights md_hash) H := hP
      replace hD : va_D A (kMd cI cJ md md_page md_pageMany ((fX6_isShipLetter md_page md_end at_).2) md_ships md_rocks md_rockBits md_day md_isHired md_sails md_seasRead md_kinds md_ills md_cells md_sailed md_must md_seenMany md_sights md_seedNow md_cellsThen md_keptSea md_keptDay md_keptHired md_keptSails md_keptSeen md_keptKinds md_keptIlls md_keptCells md_keptSailed md_keptSights md_hash) := hD
      obtain ⟨rfl, nb_5⟩ := w_3
      refine lv_goto (tgt := 57) hx hb dX6_isGood_49 (by decide) ?_
      subst hE
      rw [← hQ]
      exact W.zret hx hb hr (isB.n nb_5) (fun t ht hW => ⟨⟨_, (), rfl, ⟨rfl, nb_5⟩, by rw [ht]; exact hP, va_K.moved hW.alike hK, hD⟩, hS.F ht⟩) hS.2.2 dX6_isGood_57
  · have e_3 := mt Int32.le_iff_toInt_le.mpr c_3
    rw [if_neg c_3] at hE
    refine lv_iload_n hx hb dX6_isGood_6 rfl (lv_at hl 1 rfl) ?_
    refine lv_bipush (v := (8 : Int32)) hx hb dX6_isGood_7 (by decide) ?_
    refine lv_icmp_ge (tgt := 20) hx hb dX6_isGood_9 (by decide) (fun c_9 => ?_) (fun c_9 => ?_)
    · have e_9 := Int32.le_iff_toInt_le.mp c_9
      rw [if_pos c_9] at hE
      refine lv_aload_n hx hb dX6_isGood_20 rfl (lv_at hl 0 rfl) ?_
      refine va_get (D := (dC, dI)) (ci := 6) (v := .ref (md 1)) (C := RX6) (T := TX6) (N := 30) hx hb hts in_X6 hown hK hP 0 rfl rfl 0 (by decide) t_fieldLink_RX6_7_FourLodgersModel_page_I (fun _ h9 => h9) rfl dX6_isGood_21 ?_
      refine lv_iload_n hx hb dX6_isGood_24 rfl (lv_at hl 1 rfl) ?_
      refine va_iald hx hb hK hP 1 0 rfl rfl (i := at_) (by first | assumption | exact vp_in_iff.mpr ⟨by omega, by omega⟩ | omega | decide) dX6_isGood_25 ?_
      refine lv_bipush (v := (59 : Int32)) hx hb dX6_isGood_26 (by decide) ?_
      refine lv_icmp_ne (tgt := 35) hx hb dX6_isGood_28 (by decide) (fun c_28 => ?_) (fun c_28 => ?_)
      · have e_28 := mt Int32.toInt_inj.mp c_28
        rw [if_neg c_28] at hE
        refine lv_iconst (v := (0 : Int32)) hx hb dX6_isGood_35 (by decide) ?_
        subst hE
        rw [← hQ]
        exact W.zret hx hb hr (isB.n nb_0) (fun t ht hW => ⟨⟨_, (), rfl, ⟨rfl, nb_0⟩, by rw [ht]; exact hP, va_K.moved hW.alike hK, hD⟩, hS.F ht⟩) hS.2.2 dX6_isGood_36
      · have e_28 := congrArg Int32.toInt c_28
        rw [if_pos c_28] at hE
        refine lv_iconst (v := (1 : Int32)) hx hb dX6_isGood_31 (by decide) ?_
        refine lv_goto (tgt := 36) hx hb dX6_isGood_32 (by decide) ?_
        subst hE
        rw [← hQ]
        exact W.zret hx hb hr (isB.n nb_1) (fun t ht hW => ⟨⟨_, (), rfl, ⟨rfl, nb_1⟩, by rw [ht]; exact hP, va_K.moved hW.alike hK, hD⟩, hS.F ht⟩) hS.2.2 dX6_isGood_36
    · have e_9 := mt Int32.le_iff_toInt_le.mpr c_9
      rw [if_neg c_9] at hE
      refine lv_aload_n hx hb dX6_isGood_12 rfl (lv_at hl 0 rfl) ?_
      refine lv_iload_n hx hb dX6_isGood_13 rfl (lv_at hl 1 rfl) ?_
      refine rcVi (As := [.int at_]) (rest := []) ⟨hx, hb, hml, hown, hts⟩ (kX6_isLodgerLetter l dC dI cI cJ md md_page md_pageMany md_end md_ships md_rocks md_rockBits md_day md_isHired md_sails md_seasRead md_kinds md_ills md_cells md_sailed md_must md_seenMany md_sights md_seedNow md_cellsThen md_keptSea md_keptDay md_keptHired md_keptSails md_keptSeen md_keptKinds md_keptIlls md_keptCells md_keptSailed md_keptSights md_hash at_ (by first | assumption | exact vp_in_iff.mpr ⟨by omega, by omega⟩ | omega | decide)) (cwV 1 hts gX6_isGood_X6_isLodgerLetter rfl rfl rfl (by decide +kernel) ⟨Nat.le_of_ble_eq_true rfl, Nat.le_of_ble_eq_true rfl⟩) hK hP hst hS [0, 1, 2, 3, 4, 5, 6, 7, 8, 9, 10, 11, 12, 13] rfl 0 rfl rfl rfl hl.1 rfl (Nat.le_of_ble_eq_true rfl) dX6_isGood_14 ⟨Nat.zero_le _, Nat.zero_le _⟩ (fun r w_6 => ?_)
      obtain ⟨rfl, nb_7⟩ := w_6
      refine lv_goto (tgt := 36) hx hb dX6_isGood_17 (by decide) ?_
      subst hE
      rw [← hQ]
      exact W.zret hx hb hr (isB.n nb_7) (fun t ht hW => ⟨⟨_, (), rfl, ⟨rfl, nb_7⟩, by rw [ht]; exact hP, va_K.moved hW.alike hK, hD⟩, hS.F ht⟩) hS.2.2 dX6_isGood_36
def fX6_lacks (md_ships : Int32) : Int32 := (if md_ships = (0 : Int32) then (1 : Int32) else (0 : Int32))
set_option maxHeartbeats 4000000 in
set_option maxRecDepth 100000 in
theorem kX6_lacks (l : Launch) (dC : Nat → ClassId) (dI : Nat → Nat → Nat) (cI cJ : ClassId) (md : Nat → Nat) (md_page : Nat → Int32) (md_pageMany : Int32) (md_end : Int32) (md_ships : Int32) (md_rocks : Int32) (md_rockBits : Int64) (md_day : Int32) (md_isHired : Int32) (md_sails : Int32) (md_seasRead : Int32) (md_kinds : Nat → Int32) (md_ills : Nat → Int32) (md_cells : Nat → Int32) (md_sailed : Nat → Int32) (md_must : Nat → Int64) (md_seenMany : Int32) (md_sights : Nat → Int32) (md_seedNow : Int32) (md_cellsThen : Nat → Int32) (md_keptSea : Int32) (md_keptDay : Int32) (md_keptHired : Int32) (md_keptSails : Int32) (md_keptSeen : Int32) (md_keptKinds : Nat → Int32) (md_keptIlls : Nat → Int32) (md_keptCells : Nat → Int32) (md_keptSailed : Nat → Int32) (md_keptSights : Nat → Int32) (md_hash : Int64) : Met l yX6_lacks wsX6_lacks ({ frames := 0, cells := 0, slots := 0, locals := 0 } : Room) (gR (dC, dI) cI cJ (kMd cI cJ md md_page md_pageMany md_end md_ships md_rocks md_rockBits md_day md_isHired md_sails md_seasRead md_kinds md_ills md_cells md_sailed md_must md_seenMany md_sights md_seedNow md_cellsThen md_keptSea md_keptDay md_keptHired md_keptSails md_keptSeen md_keptKinds md_keptIlls md_keptCells md_keptSailed md_keptSights md_hash) ([.ref (md 0)] : List Value)) (vp_Si (fun r => r = (fX6_lacks md_ships) ∧ isB r)) 0 0 (fun _ => False) := by
  refine Met.ofW (cc := cX6_lacks) (maxL := 1) (ret := (some .boolean)) (by decide) rfl ?_
  intro p e s m args below meth c s₁ B hml hv
  obtain ⟨rfl, hP, hK, hst⟩ := hv
  have hx := B.exec
  have hb := B.bytes
  have hr := B.returns
  have hts := atoms_spec (ws := wsX6_lacks) B.pre
  have hown : s.vm.findClass RX6 = some m.cls := findClass_of_methodNamed B.named
  have hlocks := B.notSynchronized
  have hS : va_S (fun _ => False) s.heap s.heap [] := va_S.rf
  generalize hE : (fX6_lacks md_ships) = RES
  generalize hQ : MQ below (vp_Si (fun r => r = RES ∧ isB r)) ([.ref (md 0)] : List Value).toArray s 0 0 (fun _ => False) = Q
  have hl := lv_entry ([.ref (md 0)] : List Value) (n := 1) (Nat.le_of_ble_eq_true rfl)
  rw [lg_entry_eq]
  generalize (lg_sl ([.ref (md 0)] : List Value) ++ List.replicate (1 - (lg_sl ([.ref (md 0)] : List Value)).length) Slot.unset).toArray = ls at hl ⊢
  have hl : lv_has ls 1 [(0, .ref (md 0))] := hl
  have in_X6 : ∀ w ∈ u_ws RX6 TX6 30, w ∈ wsX6_lacks := fun _ h => List.mem_cons_of_mem _ (List.mem_append_right _ h)
  have t_fieldLink_RX6_99_FourLodgersModel_ships_I := hts (.fieldLink RX6 99 "FourLodgersModel" "ships" "I") (List.mem_of_getElem? (i := 1) rfl)
  have i_0 : (0 : Int32).toInt = 0 := by decide
  have i_1 : (1 : Int32).toInt = 1 := by decide
  rw [fX6_lacks] at hE
  refine lv_aload_n hx hb dX6_lacks_0 rfl (lv_at hl 0 rfl) ?_
  refine va_get (D := (dC, dI)) (ci := 6) (v := .int md_ships) (C := RX6) (T := TX6) (N := 30) hx hb hts in_X6 hown hK hP 0 rfl rfl 3 (by decide) t_fieldLink_RX6_99_FourLodgersModel_ships_I (fun _ h9 => h9) rfl dX6_lacks_1 ?_
  refine lv_if_ne (tgt := 11) hx hb dX6_lacks_4 (by decide) (fun c_4 => ?_) (fun c_4 => ?_)
  · have e_4 := mt Int32.toInt_inj.mp c_4
    rw [if_neg c_4] at hE
    refine lv_iconst (v := (0 : Int32)) hx hb dX6_lacks_11 (by decide) ?_
    subst hE
    rw [← hQ]
    exact W.zret hx hb hr (isB.n nb_0) (fun t ht hW => ⟨_, rfl, ⟨rfl, nb_0⟩, ht⟩) (fun q h => absurd h List.not_mem_nil) dX6_lacks_12
  · have e_4 := congrArg Int32.toInt c_4
    rw [if_pos c_4] at hE
    refine lv_iconst (v := (1 : Int32)) hx hb dX6_lacks_7 (by decide) ?_
    refine lv_goto (tgt := 12) hx hb dX6_lacks_8 (by decide) ?_
    subst hE
    rw [← hQ]
    exact W.zret hx hb hr (isB.n nb_1) (fun t ht hW => ⟨_, rfl, ⟨rfl, nb_1⟩, ht⟩) (fun q h => absurd h List.not_mem_nil) dX6_lacks_12
def fX6_isLodger (md_ships : Int32) (k_ : Int32) : Int32 := (if (fX6_lacks md_ships) = (0 : Int32) then (if (fX6_in k_.toInt64 (0 : Int64) (3 : Int64)) = (0 : Int32) then (0 : Int32) else (1 : Int32)) else (0 : Int32))
set_option maxHeartbeats 4000000 in
set_option maxRecDepth 100000 in
theorem kX6_isLodger (l : Launch) (dC : Nat → ClassId) (dI : Nat → Nat → Nat) (cI cJ : ClassId) (md : Nat → Nat) (md_page : Nat → Int32) (md_pageMany : Int32) (md_end : Int32) (md_ships : Int32) (md_rocks : Int32) (md_rockBits : Int64) (md_day : Int32) (md_isHired : Int32) (md_sails : Int32) (md_seasRead : Int32) (md_kinds : Nat → Int32) (md_ills : Nat → Int32) (md_cells : Nat → Int32) (md_sailed : Nat → Int32) (md_must : Nat → Int64) (md_seenMany : Int32) (md_sights : Nat → Int32) (md_seedNow : Int32) (md_cellsThen : Nat → Int32) (md_keptSea : Int32) (md_keptDay : Int32) (md_keptHired : Int32) (md_keptSails : Int32) (md_keptSeen : Int32) (md_keptKinds : Nat → Int32) (md_keptIlls : Nat → Int32) (md_keptCells : Nat → Int32) (md_keptSailed : Nat → Int32) (md_keptSights : Nat → Int32) (md_hash : Int64) (k_ : Int32) : Met l yX6_isLodger wsX6_isLodger ({ frames := 1, cells := 0, slots := 0, locals := 25 } : Room) (gR (dC, dI) cI cJ (kMd cI cJ md md_page md_pageMany md_end md_ships md_rocks md_rockBits md_day md_isHired md_sails md_seasRead md_kinds md_ills md_cells md_sailed md_must md_seenMany md_sights md_seedNow md_cellsThen md_keptSea md_keptDay md_keptHired md_keptSails md_keptSeen md_keptKinds md_keptIlls md_keptCells md_keptSailed md_keptSights md_hash) ([.ref (md 0), .int k_] : List Value)) (vp_Si (fun r => r = (fX6_isLodger md_ships k_) ∧ isB r)) 0 0 (fun _ => False) := by
  refine Met.ofW (cc := cX6_isLodger) (maxL := 2) (ret := (some .boolean)) (by decide) rfl ?_
  intro p e s m args below meth c s₁ B hml hv
  obtain ⟨rfl, hP, hK, hst⟩ := hv
  have hx := B.exec
  have hb := B.bytes
  have hr := B.returns
  have hts := atoms_spec (ws := wsX6_isLodger) B.pre
  have hown : s.vm.findClass RX6 = some m.cls := findClass_of_methodNamed B.named
  have hlocks := B.notSynchronized
  have hS : va_S (fun _ => False) s.heap s.heap [] := va_S.rf
  generalize hE : (fX6_isLodger md_ships k_) = RES
  generalize hQ : MQ below (vp_Si (fun r => r = RES ∧ isB r)) ([.ref (md 0), .int k_] : List Value).toArray s 0 0 (fun _ => False) = Q
  have hl := lv_entry ([.ref (md 0), .int k_] : List Value) (n := 2) (Nat.le_of_ble_eq_true rfl)
  rw [lg_entry_eq]
  generalize (lg_sl ([.ref (md 0), .int k_] : List Value) ++ List.replicate (2 - (lg_sl ([.ref (md 0), .int k_] : List Value)).length) Slot.unset).toArray = ls at hl ⊢
  have hl : lv_has ls 2 [(0, .ref (md 0)), (1, .int k_)] := hl
  have t_constantLong_RX6_129_3 := hts (.constantLong RX6 129 (3)) (List.mem_of_getElem? (i := 1) rfl)
  have i_0 : (0 : Int32).toInt = 0 := by decide
  have i_1 : (1 : Int32).toInt = 1 := by decide
  rw [fX6_isLodger] at hE
  refine lv_aload_n hx hb dX6_isLodger_0 rfl (lv_at hl 0 rfl) ?_
  refine rcVi (As := []) (rest := []) ⟨hx, hb, hml, hown, hts⟩ (kX6_lacks l dC dI cI cJ md md_page md_pageMany md_end md_ships md_rocks md_rockBits md_day md_isHired md_sails md_seasRead md_kinds md_ills md_cells md_sailed md_must md_seenMany md_sights md_seedNow md_cellsThen md_keptSea md_keptDay md_keptHired md_keptSails md_keptSeen md_keptKinds md_keptIlls md_keptCells md_keptSailed md_keptSights md_hash) (cwV 0 hts gX6_isLodger_X6_lacks rfl rfl rfl (by decide +kernel) ⟨Nat.le_of_ble_eq_true rfl, Nat.le_of_ble_eq_true rfl⟩) hK hP hst hS [0, 1, 2, 3, 4, 5, 6, 7, 8, 9, 10, 11, 12, 13] rfl 0 rfl rfl rfl hl.1 rfl (Nat.le_of_ble_eq_true rfl) dX6_isLodger_1 ⟨Nat.zero_le _, Nat.zero_le _⟩ (fun r w_1 => ?_)
  obtain ⟨rfl, nb_2⟩ := w_1
  refine lv_if_ne (tgt := 23) hx hb dX6_isLodger_4 (by decide) (fun c_4 => ?_) (fun c_4 => ?_)
  · rw [if_neg c_4] at hE
    refine lv_iconst (v := (0 : Int32)) hx hb dX6_isLodger_23 (by decide) ?_
    subst hE
    rw [← hQ]
    exact W.zret hx hb hr (isB.n nb_0) (fun t ht hW => ⟨_, rfl, ⟨rfl, nb_0⟩, ht⟩) (fun q h => absurd h List.not_mem_nil) dX6_isLodger_24
  · rw [if_pos c_4] at hE
    refine lv_iload_n hx hb dX6_isLodger_7 rfl (lv_at hl 1 rfl) ?_
    refine lv_i2l hx hb dX6_isLodger_8 rfl ?_
    refine lv_lconst (v := (0 : Int64)) hx hb dX6_isLodger_9 (by decide) ?_
    refine lv_ldc2 hx hb hown t_constantLong_RX6_129_3 dX6_isLodger_10 ?_
    refine rcSi (As := [.long k_.toInt64, .long (0 : Int64), .long (3 : Int64)]) (rest := []) ⟨hx, hb, hml, hown, hts⟩ (kX6_in l dC dI cI cJ k_.toInt64 (0 : Int64) (3 : Int64)) (va_cwS 3 hts gX6_isLodger_X6_in rfl rfl rfl (by decide +kernel) ⟨Nat.le_of_ble_eq_true rfl, Nat.le_of_ble_eq_true rfl⟩) hK hP hst hS [] rfl rfl hl.1 rfl (Nat.le_of_ble_eq_true rfl) dX6_isLodger_13 ⟨Nat.zero_le _, Nat.zero_le _⟩ (fun r w_3 => ?_)
    obtain ⟨w_3, nb_4⟩ := w_3; rw [w_3] at nb_4 ⊢
    refine lv_if_eq (tgt := 23) hx hb dX6_isLodger_16 (by decide) (fun c_16 => ?_) (fun c_16 => ?_)
    · rw [if_pos c_16] at hE
      refine lv_iconst (v := (0 : Int32)) hx hb dX6_isLodger_23 (by decide) ?_
      subst hE
      rw [← hQ]
      exact W.zret hx hb hr (isB.n nb_0) (fun t ht hW => ⟨_, rfl, ⟨rfl, nb_0⟩, ht⟩) (fun q h => absurd h List.not_mem_nil) dX6_isLodger_24
    · rw [if_neg c_16] at hE
      refine lv_iconst (v := (1 : Int32)) hx hb dX6_isLodger_19 (by decide) ?_
      refine lv_goto (tgt := 24) hx hb dX6_isLodger_20 (by decide) ?_
      subst hE
      rw [← hQ]
      exact W.zret hx hb hr (isB.n nb_1) (fun t ht hW => ⟨_, rfl, ⟨rfl, nb_1⟩, ht⟩) (fun q h => absurd h List.not_mem_nil) dX6_isLodger_24
def fX6_isShip (md_ships : Int32) (k_ : Int32) : Int32 := (fX6_in k_.toInt64 (0 : Int64) (md_ships - (1 : Int32)).toInt64)
set_option maxHeartbeats 4000000 in
set_option maxRecDepth 100000 in
theorem kX6_isShip (l : Launch) (dC : Nat → ClassId) (dI : Nat → Nat → Nat) (cI cJ : ClassId) (md : Nat → Nat) (md_page : Nat → Int32) (md_pageMany : Int32) (md_end : Int32) (md_ships : Int32) (md_rocks : Int32) (md_rockBits : Int64) (md_day : Int32) (md_isHired : Int32) (md_sails : Int32) (md_seasRead : Int32) (md_kinds : Nat → Int32) (md_ills : Nat → Int32) (md_cells : Nat → Int32) (md_sailed : Nat → Int32) (md_must : Nat → Int64) (md_seenMany : Int32) (md_sights : Nat → Int32) (md_seedNow : Int32) (md_cellsThen : Nat → Int32) (md_keptSea : Int32) (md_keptDay : Int32) (md_keptHired : Int32) (md_keptSails : Int32) (md_keptSeen : Int32) (md_keptKinds : Nat → Int32) (md_keptIlls : Nat → Int32) (md_keptCells : Nat → Int32) (md_keptSailed : Nat → Int32) (md_keptSights : Nat → Int32) (md_hash : Int64) (k_ : Int32) : Met l yX6_isShip wsX6_isShip ({ frames := 1, cells := 0, slots := 0, locals := 25 } : Room) (gR (dC, dI) cI cJ (kMd cI cJ md md_page md_pageMany md_end md_ships md_rocks md_rockBits md_day md_isHired md_sails md_seasRead md_kinds md_ills md_cells md_sailed md_must md_seenMany md_sights md_seedNow md_cellsThen md_keptSea md_keptDay md_keptHired md_keptSails md_keptSeen md_keptKinds md_keptIlls md_keptCells md_keptSailed md_keptSights md_hash) ([.ref (md 0), .int k_] : List Value)) (vp_Si (fun r => r = (fX6_isShip md_ships k_) ∧ isB r)) 0 0 (fun _ => False) := by
  refine Met.ofW (cc := cX6_isShip) (maxL := 2) (ret := (some .boolean)) (by decide) rfl ?_
  intro p e s m args below meth c s₁ B hml hv
  obtain ⟨rfl, hP, hK, hst⟩ := hv
  have hx := B.exec
  have hb := B.bytes
  have hr := B.returns
  have hts := atoms_spec (ws := wsX6_isShip) B.pre
  have hown : s.vm.findClass RX6 = some m.cls := findClass_of_methodNamed B.named
  have hlocks := B.notSynchronized
  have hS : va_S (fun _ => False) s.heap s.heap [] := va_S.rf
  generalize hE : (fX6_isShip md_ships k_) = RES
  generalize hQ : MQ below (vp_Si (fun r => r = RES ∧ isB r)) ([.ref (md 0), .int k_] : List Value).toArray s 0 0 (fun _ => False) = Q
  have hl := lv_entry ([.ref (md 0), .int k_] : List Value) (n := 2) (Nat.le_of_ble_eq_true rfl)
  rw [lg_entry_eq]
  generalize (lg_sl ([.ref (md 0), .int k_] : List Value) ++ List.replicate (2 - (lg_sl ([.ref (md 0), .int k_] : List Value)).length) Slot.unset).toArray = ls at hl ⊢
  have hl : lv_has ls 2 [(0, .ref (md 0)), (1, .int k_)] := hl
  have in_X6 : ∀ w ∈ u_ws RX6 TX6 30, w ∈ wsX6_isShip := fun _ h => List.mem_cons_of_mem _ (List.mem_append_right _ h)
  have t_fieldLink_RX6_99_FourLodgersModel_ships_I := hts (.fieldLink RX6 99 "FourLodgersModel" "ships" "I") (List.mem_of_getElem? (i := 1) rfl)
  have i_1 : (1 : Int32).toInt = 1 := by decide
  rw [fX6_isShip] at hE
  refine lv_iload_n hx hb dX6_isShip_0 rfl (lv_at hl 1 rfl) ?_
  refine lv_i2l hx hb dX6_isShip_1 rfl ?_
  refine lv_lconst (v := (0 : Int64)) hx hb dX6_isShip_2 (by decide) ?_
  refine lv_aload_n hx hb dX6_isShip_3 rfl (lv_at hl 0 rfl) ?_
  refine va_get (D := (dC, dI)) (ci := 6) (v := .int md_ships) (C := RX6) (T := TX6) (N := 30) hx hb hts in_X6 hown hK hP 0 rfl rfl 3 (by decide) t_fieldLink_RX6_99_FourLodgersModel_ships_I (fun _ h9 => h9) rfl dX6_isShip_4 ?_
  refine lv_iconst (v := (1 : Int32)) hx hb dX6_isShip_7 (by decide) ?_
  refine lv_isub hx hb dX6_isShip_8 ?_
  refine lv_i2l hx hb dX6_isShip_9 rfl ?_
  refine rcSi (As := [.long k_.toInt64, .long (0 : Int64), .long (md_ships - (1 : Int32)).toInt64]) (rest := []) ⟨hx, hb, hml, hown, hts⟩ (kX6_in l dC dI cI cJ k_.toInt64 (0 : Int64) (md_ships - (1 : Int32)).toInt64) (va_cwS 3 hts gX6_isShip_X6_in rfl rfl rfl (by decide +kernel) ⟨Nat.le_of_ble_eq_true rfl, Nat.le_of_ble_eq_true rfl⟩) hK hP hst hS [] rfl rfl hl.1 rfl (Nat.le_of_ble_eq_true rfl) dX6_isShip_10 ⟨Nat.zero_le _, Nat.zero_le _⟩ (fun r w_1 => ?_)
  obtain ⟨w_1, nb_2⟩ := w_1; rw [w_1] at nb_2 ⊢
  subst hE
  rw [← hQ]
  exact W.zret hx hb hr (isB.n nb_2) (fun t ht hW => ⟨_, rfl, ⟨rfl, nb_2⟩, ht⟩) (fun q h => absurd h List.not_mem_nil) dX6_isShip_13
def fX6_isCell (md_ships : Int32) (c_ : Int32) : Int32 := (if (fX6_lacks md_ships) = (0 : Int32) then (if (fX6_in c_.toInt64 (0 : Int64) (35 : Int64)) = (0 : Int32) then (0 : Int32) else (1 : Int32)) else (0 : Int32))
set_option maxHeartbeats 4000000 in
set_option maxRecDepth 100000 in
theorem kX6_isCell (l : Launch) (dC : Nat → ClassId) (dI : Nat → Nat → Nat) (cI cJ : ClassId) (md : Nat → Nat) (md_page : Nat → Int32) (md_pageMany : Int32) (md_end : Int32) (md_ships : Int32) (md_rocks : Int32) (md_rockBits : Int64) (md_day : Int32) (md_isHired : Int32) (md_sails : Int32) (md_seasRead : Int32) (md_kinds : Nat → Int32) (md_ills : Nat → Int32) (md_cells : Nat → Int32) (md_sailed : Nat → Int32) (md_must : Nat → Int64) (md_seenMany : Int32) (md_sights : Nat → Int32) (md_seedNow : Int32) (md_cellsThen : Nat → Int32) (md_keptSea : Int32) (md_keptDay : Int32) (md_keptHired : Int32) (md_keptSails : Int32) (md_keptSeen : Int32) (md_keptKinds : Nat → Int32) (md_keptIlls : Nat → Int32) (md_keptCells : Nat → Int32) (md_keptSailed : Nat → Int32) (md_keptSights : Nat → Int32) (md_hash : Int64) (c_ : Int32) : Met l yX6_isCell wsX6_isCell ({ frames := 1, cells := 0, slots := 0, locals := 25 } : Room) (gR (dC, dI) cI cJ (kMd cI cJ md md_page md_pageMany md_end md_ships md_rocks md_rockBits md_day md_isHired md_sails md_seasRead md_kinds md_ills md_cells md_sailed md_must md_seenMany md_sights md_seedNow md_cellsThen md_keptSea md_keptDay md_keptHired md_keptSails md_keptSeen md_keptKinds md_keptIlls md_keptCells md_keptSailed md_keptSights md_hash) ([.ref (md 0), .int c_] : List Value)) (vp_Si (fun r => r = (fX6_isCell md_ships c_) ∧ isB r)) 0 0 (fun _ => False) := by
  refine Met.ofW (cc := cX6_isCell) (maxL := 2) (ret := (some .boolean)) (by decide) rfl ?_
  intro p e s m args below meth c s₁ B hml hv
  obtain ⟨rfl, hP, hK, hst⟩ := hv
  have hx := B.exec
  have hb := B.bytes
  have hr := B.returns
  have hts := atoms_spec (ws := wsX6_isCell) B.pre
  have hown : s.vm.findClass RX6 = some m.cls := findClass_of_methodNamed B.named
  have hlocks := B.notSynchronized
  have hS : va_S (fun _ => False) s.heap s.heap [] := va_S.rf
  generalize hE : (fX6_isCell md_ships c_) = RES
  generalize hQ : MQ below (vp_Si (fun r => r = RES ∧ isB r)) ([.ref (md 0), .int c_] : List Value).toArray s 0 0 (fun _ => False) = Q
  have hl := lv_entry ([.ref (md 0), .int c_] : List Value) (n := 2) (Nat.le_of_ble_eq_true rfl)
  rw [lg_entry_eq]
  generalize (lg_sl ([.ref (md 0), .int c_] : List Value) ++ List.replicate (2 - (lg_sl ([.ref (md 0), .int c_] : List Value)).length) Slot.unset).toArray = ls at hl ⊢
  have hl : lv_has ls 2 [(0, .ref (md 0)), (1, .int c_)] := hl
  have t_constantLong_RX6_131_35 := hts (.constantLong RX6 131 (35)) (List.mem_of_getElem? (i := 1) rfl)
  have i_0 : (0 : Int32).toInt = 0 := by decide
  have i_1 : (1 : Int32).toInt = 1 := by decide
  rw [fX6_isCell] at hE
  refine lv_aload_n hx hb dX6_isCell_0 rfl (lv_at hl 0 rfl) ?_
  refine rcVi (As := []) (rest := []) ⟨hx, hb, hml, hown, hts⟩ (kX6_lacks l dC dI cI cJ md md_page md_pageMany md_end md_ships md_rocks md_rockBits md_day md_isHired md_sails md_seasRead md_kinds md_ills md_cells md_sailed md_must md_seenMany md_sights md_seedNow md_cellsThen md_keptSea md_keptDay md_keptHired md_keptSails md_keptSeen md_keptKinds md_keptIlls md_keptCells md_keptSailed md_keptSights md_hash) (cwV 0 hts gX6_isCell_X6_lacks rfl rfl rfl (by decide +kernel) ⟨Nat.le_of_ble_eq_true rfl, Nat.le_of_ble_eq_true rfl⟩) hK hP hst hS [0, 1, 2, 3, 4, 5, 6, 7, 8, 9, 10, 11, 12, 13] rfl 0 rfl rfl rfl hl.1 rfl (Nat.le_of_ble_eq_true rfl) dX6_isCell_1 ⟨Nat.zero_le _, Nat.zero_le _⟩ (fun r w_1 => ?_)
  obtain ⟨rfl, nb_2⟩ := w_1
  refine lv_if_ne (tgt := 23) hx hb dX6_isCell_4 (by decide) (fun c_4 => ?_) (fun c_4 => ?_)
  · rw [if_neg c_4] at hE
    refine lv_iconst (v := (0 : Int32)) hx hb dX6_isCell_23 (by decide) ?_
    subst hE
    rw [← hQ]
    exact W.zret hx hb hr (isB.n nb_0) (fun t ht hW => ⟨_, rfl, ⟨rfl, nb_0⟩, ht⟩) (fun q h => absurd h List.not_mem_nil) dX6_isCell_24
  · rw [if_pos c_4] at hE
    refine lv_iload_n hx hb dX6_isCell_7 rfl (lv_at hl 1 rfl) ?_
    refine lv_i2l hx hb dX6_isCell_8 rfl ?_
    refine lv_lconst (v := (0 : Int64)) hx hb dX6_isCell_9 (by decide) ?_
    refine lv_ldc2 hx hb hown t_constantLong_RX6_131_35 dX6_isCell_10 ?_
    refine rcSi (As := [.long c_.toInt64, .long (0 : Int64), .long (35 : Int64)]) (rest := []) ⟨hx, hb, hml, hown, hts⟩ (kX6_in l dC dI cI cJ c_.toInt64 (0 : Int64) (35 : Int64)) (va_cwS 3 hts gX6_isCell_X6_in rfl rfl rfl (by decide +kernel) ⟨Nat.le_of_ble_eq_true rfl, Nat.le_of_ble_eq_true rfl⟩) hK hP hst hS [] rfl rfl hl.1 rfl (Nat.le_of_ble_eq_true rfl) dX6_isCell_13 ⟨Nat.zero_le _, Nat.zero_le _⟩ (fun r w_3 => ?_)
    obtain ⟨w_3, nb_4⟩ := w_3; rw [w_3] at nb_4 ⊢
    refine lv_if_eq (tgt := 23) hx hb dX6_isCell_16 (by decide) (fun c_16 => ?_) (fun c_16 => ?_)
    · rw [if_pos c_16] at hE
      refine lv_iconst (v := (0 : Int32)) hx hb dX6_isCell_23 (by decide) ?_
      subst hE
      rw [← hQ]
      exact W.zret hx hb hr (isB.n nb_0) (fun t ht hW => ⟨_, rfl, ⟨rfl, nb_0⟩, ht⟩) (fun q h => absurd h List.not_mem_nil) dX6_isCell_24
    · rw [if_neg c_16] at hE
      refine lv_iconst (v := (1 : Int32)) hx hb dX6_isCell_19 (by decide) ?_
      refine lv_goto (tgt := 24) hx hb dX6_isCell_20 (by decide) ?_
      subst hE
      rw [← hQ]
      exact W.zret hx hb hr (isB.n nb_1) (fun t ht hW => ⟨_, rfl, ⟨rfl, nb_1⟩, ht⟩) (fun q h => absurd h List.not_mem_nil) dX6_isCell_24
def fX6_isUpBy (kind : Int32) (ill : Int32) (on_ : Int32) : Int32 := (if kind = (1 : Int32) then (if ill = (0 : Int32) then (if (on_ - on_ / (2 : Int32) * (2 : Int32)) = (1 : Int32) then (1 : Int32) else (0 : Int32)) else (0 : Int32)) else (if kind = (2 : Int32) then (if ill = (0 : Int32) then (if (on_ - on_ / (3 : Int32) * (3 : Int32)) = (0 : Int32) then (0 : Int32) else (1 : Int32)) else (0 : Int32)) else (if kind = (3 : Int32) then (1 : Int32) else (if kind = (4 : Int32) then (if ill = (0 : Int32) then (if (on_ - on_ / (2 : Int32) * (2 : Int32)) = (1 : Int32) then (1 : Int32) else (if (on_ - on_ / (4 : Int32) * (4 : Int32)) = (0 : Int32) then (1 : Int32) else (0 : Int32))) else (if (on_ - on_ / (4 : Int32) * (4 : Int32)) = (0 : Int32) then (1 : Int32) else (0 : Int32))) else (if ill = (0 : Int32) then (1 : Int32) else (0 : Int32))))))
set_option maxHeartbeats 4000000 in
set_option maxRecDepth 100000 in
theorem kX6_isUpBy (l : Launch) (dC : Nat → ClassId) (dI : Nat → Nat → Nat) (cI cJ : ClassId) (kind : Int32) (ill : Int32) (on_ : Int32) : Met l yX6_isUpBy wsX6_isUpBy ({ frames := 0, cells := 0, slots := 0, locals := 0 } : Room) (gR (dC, dI) cI cJ ([] : va_W) ([.int kind, .int ill, .int on_] : List Value)) (vp_Si (fun r => r = (fX6_isUpBy kind ill on_) ∧ isB r)) 0 0 (fun _ => False) := by
  refine Met.ofW (cc := cX6_isUpBy) (maxL := 3) (ret := (some .boolean)) (by decide) rfl ?_
  intro p e s m args below meth c s₁ B hml hv
  obtain ⟨rfl, hP, hK, hst⟩ := hv
  have hx := B.exec
  have hb := B.bytes
  have hr := B.returns
  have hts := atoms_spec (ws := wsX6_isUpBy) B.pre
  have hown : s.vm.findClass RX6 = some m.cls := findClass_of_methodNamed B.named
  have hlocks := B.notSynchronized
  have hS : va_S (fun _ => False) s.heap s.heap [] := va_S.rf
  generalize hE : (fX6_isUpBy kind ill on_) = RES
  generalize hQ : MQ below (vp_Si (fun r => r = RES ∧ isB r)) ([.int kind, .int ill, .int on_] : List Value).toArray s 0 0 (fun _ => False) = Q
  have hl := lv_entry ([.int kind, .int ill, .int on_] : List Value) (n := 3) (Nat.le_of_ble_eq_true rfl)
  rw [lg_entry_eq]
  generalize (lg_sl ([.int kind, .int ill, .int on_] : List Value) ++ List.replicate (3 - (lg_sl ([.int kind, .int ill, .int on_] : List Value)).length) Slot.unset).toArray = ls at hl ⊢
  have hl : lv_has ls 3 [(0, .int kind), (1, .int ill), (2, .int on_)] := hl
  have i_0 : (0 : Int32).toInt = 0 := by decide
  have i_1 : (1 : Int32).toInt = 1 := by decide
  have i_2 : (2 : Int32).toInt = 2 := by decide
  have i_3 : (3 : Int32).toInt = 3 := by decide
  have i_4 : (4 : Int32).toInt = 4 := by decide
  rw [fX6_isUpBy] at hE
  refine lv_iload_n hx hb dX6_isUpBy_0 rfl (lv_at hl 0 rfl) ?_
  by_cases c_1_1 : kind = (1 : Int32)
  · have e_1_1 := congrArg Int32.toInt c_1_1
    rw [if_pos c_1_1] at hE
    refine lv_tableIn (off := 31) (tgt := 32) hx hb dX6_isUpBy_1 (by rw [c_1_1]; decide) (by rw [c_1_1]; decide) (by rw [c_1_1]; rfl) (by decide) ?_
    refine lv_iload_n hx hb dX6_isUpBy_32 rfl (lv_at hl 1 rfl) ?_
    refine lv_if_ne (tgt := 47) hx hb dX6_isUpBy_33 (by decide) (fun c_33 => ?_) (fun c_33 => ?_)
    · have e_33 := mt Int32.toInt_inj.mp c_33
      rw [if_neg c_33] at hE
      refine lv_iconst (v := (0 : Int32)) hx hb dX6_isUpBy_47 (by decide) ?_
      subst hE
      rw [← hQ]
      exact W.zret hx hb hr (isB.n nb_0) (fun t ht hW => ⟨_, rfl, ⟨rfl, nb_0⟩, ht⟩) (fun q h => absurd h List.not_mem_nil) dX6_isUpBy_48
    · have e_33 := congrArg Int32.toInt c_33
      rw [if_pos c_33] at hE
      refine lv_iload_n hx hb dX6_isUpBy_36 rfl (lv_at hl 2 rfl) ?_
      refine lv_iconst (v := (2 : Int32)) hx hb dX6_isUpBy_37 (by decide) ?_
      refine lv_irem hx hb dX6_isUpBy_38 (by decide) ?_
      refine lv_iconst (v := (1 : Int32)) hx hb dX6_isUpBy_39 (by decide) ?_
      refine lv_icmp_ne (tgt := 47) hx hb dX6_isUpBy_40 (by decide) (fun c_40 => ?_) (fun c_40 => ?_)
      · rw [if_neg c_40] at hE
        refine lv_iconst (v := (0 : Int32)) hx hb dX6_isUpBy_47 (by decide) ?_
        subst hE
        rw [← hQ]
        exact W.zret hx hb hr (isB.n nb_0) (fun t ht hW => ⟨_, rfl, ⟨rfl, nb_0⟩, ht⟩) (fun q h => absurd h List.not_mem_nil) dX6_isUpBy_48
      · rw [if_pos c_40] at hE
        refine lv_iconst (v := (1 : Int32)) hx hb dX6_isUpBy_43 (by decide) ?_
        refine lv_goto (tgt := 48) hx hb dX6_isUpBy_44 (by decide) ?_
        subst hE
        rw [← hQ]
        exact W.zret hx hb hr (isB.n nb_1) (fun t ht hW => ⟨_, rfl, ⟨rfl, nb_1⟩, ht⟩) (fun q h => absurd h List.not_mem_nil) dX6_isUpBy_48
  · rw [if_neg c_1_1] at hE
    have e_1_1 := mt Int32.toInt_inj.mp c_1_1
    by_cases c_1_2 : kind = (2 : Int32)
    · have e_1_2 := congrArg Int32.toInt c_1_2
      rw [if_pos c_1_2] at hE
      refine lv_tableIn (off := 48) (tgt := 49) hx hb dX6_isUpBy_1 (by rw [c_1_2]; decide) (by rw [c_1_2]; decide) (by rw [c_1_2]; rfl) (by decide) ?_
      refine lv_iload_n hx hb dX6_isUpBy_49 rfl (lv_at hl 1 rfl) ?_
      refine lv_if_ne (tgt := 63) hx hb dX6_isUpBy_50 (by decide) (fun c_50 => ?_) (fun c_50 => ?_)
      · have e_50 := mt Int32.toInt_inj.mp c_50
        rw [if_neg c_50] at hE
        refine lv_iconst (v := (0 : Int32)) hx hb dX6_isUpBy_63 (by decide) ?_
        subst hE
        rw [← hQ]
        exact W.zret hx hb hr (isB.n nb_0) (fun t ht hW => ⟨_, rfl, ⟨rfl, nb_0⟩, ht⟩) (fun q h => absurd h List.not_mem_nil) dX6_isUpBy_64
      · have e_50 := congrArg Int32.toInt c_50
        rw [if_pos c_50] at hE
        refine lv_iload_n hx hb dX6_isUpBy_53 rfl (lv_at hl 2 rfl) ?_
        refine lv_iconst (v := (3 : Int32)) hx hb dX6_isUpBy_54 (by decide) ?_
        refine lv_irem hx hb dX6_isUpBy_55 (by decide) ?_
        refine lv_if_eq (tgt := 63) hx hb dX6_isUpBy_56 (by decide) (fun c_56 => ?_) (fun c_56 => ?_)
        · rw [if_pos c_56] at hE
          refine lv_iconst (v := (0 : Int32)) hx hb dX6_isUpBy_63 (by decide) ?_
          subst hE
          rw [← hQ]
          exact W.zret hx hb hr (isB.n nb_0) (fun t ht hW => ⟨_, rfl, ⟨rfl, nb_0⟩, ht⟩) (fun q h => absurd h List.not_mem_nil) dX6_isUpBy_64
        · rw [if_neg c_56] at hE
          refine lv_iconst (v := (1 : Int32)) hx hb dX6_isUpBy_59 (by decide) ?_
          refine lv_goto (tgt := 64) hx hb dX6_isUpBy_60 (by decide) ?_
          subst hE
          rw [← hQ]
          exact W.zret hx hb hr (isB.n nb_1) (fun t ht hW => ⟨_, rfl, ⟨rfl, nb_1⟩, ht⟩) (fun q h => absurd h List.not_mem_nil) dX6_isUpBy_64
    · rw [if_neg c_1_2] at hE
      have e_1_2 := mt Int32.toInt_inj.mp c_1_2
      by_cases c_1_3 : kind = (3 : Int32)
      · have e_1_3 := congrArg Int32.toInt c_1_3
        rw [if_pos c_1_3] at hE
        refine lv_tableIn (off := 64) (tgt := 65) hx hb dX6_isUpBy_1 (by rw [c_1_3]; decide) (by rw [c_1_3]; decide) (by rw [c_1_3]; rfl) (by decide) ?_
        refine lv_iconst (v := (1 : Int32)) hx hb dX6_isUpBy_65 (by decide) ?_
        subst hE
        rw [← hQ]
        exact W.zret hx hb hr (isB.n nb_1) (fun t ht hW => ⟨_, rfl, ⟨rfl, nb_1⟩, ht⟩) (fun q h => absurd h List.not_mem_nil) dX6_isUpBy_66
      · rw [if_neg c_1_3] at hE
        have e_1_3 := mt Int32.toInt_inj.mp c_1_3
        by_cases c_1_4 : kind = (4 : Int32)
        · have e_1_4 := congrArg Int32.toInt c_1_4
          rw [if_pos c_1_4] at hE
          refine lv_tableIn (off := 66) (tgt := 67) hx hb dX6_isUpBy_1 (by rw [c_1_4]; decide) (by rw [c_1_4]; decide) (by rw [c_1_4]; rfl) (by decide) ?_
          refine lv_iload_n hx hb dX6_isUpBy_67 rfl (lv_at hl 1 rfl) ?_
          refine lv_if_ne (tgt := 78) hx hb dX6_isUpBy_68 (by decide) (fun c_68 => ?_) (fun c_68 => ?_)
          · have e_68 := mt Int32.toInt_inj.mp c_68
            rw [if_neg c_68] at hE
            refine lv_iload_n hx hb dX6_isUpBy_78 rfl (lv_at hl 2 rfl) ?_
            refine lv_iconst (v := (4 : Int32)) hx hb dX6_isUpBy_79 (by decide) ?_
            refine lv_irem hx hb dX6_isUpBy_80 (by decide) ?_
            refine lv_if_ne (tgt := 88) hx hb dX6_isUpBy_81 (by decide) (fun c_81 => ?_) (fun c_81 => ?_)
            · rw [if_neg c_81] at hE
              refine lv_iconst (v := (0 : Int32)) hx hb dX6_isUpBy_88 (by decide) ?_
              subst hE
              rw [← hQ]
              exact W.zret hx hb hr (isB.n nb_0) (fun t ht hW => ⟨_, rfl, ⟨rfl, nb_0⟩, ht⟩) (fun q h => absurd h List.not_mem_nil) dX6_isUpBy_89
            · rw [if_pos c_81] at hE
              refine lv_iconst (v := (1 : Int32)) hx hb dX6_isUpBy_84 (by decide) ?_
              refine lv_goto (tgt := 89) hx hb dX6_isUpBy_85 (by decide) ?_
              subst hE
              rw [← hQ]
              exact W.zret hx hb hr (isB.n nb_1) (fun t ht hW => ⟨_, rfl, ⟨rfl, nb_1⟩, ht⟩) (fun q h => absurd h List.not_mem_nil) dX6_isUpBy_89
          · have e_68 := congrArg Int32.toInt c_68
            rw [if_pos c_68] at hE
            refine lv_iload_n hx hb dX6_isUpBy_71 rfl (lv_at hl 2 rfl) ?_
            refine lv_iconst (v := (2 : Int32)) hx hb dX6_isUpBy_72 (by decide) ?_
            refine lv_irem hx hb dX6_isUpBy_73 (by decide) ?_
            refine lv_iconst (v := (1 : Int32)) hx hb dX6_isUpBy_74 (by decide) ?_
            refine lv_icmp_eq (tgt := 84) hx hb dX6_isUpBy_75 (by decide) (fun c_75 => ?_) (fun c_75 => ?_)
            · rw [if_pos c_75] at hE
              refine lv_iconst (v := (1 : Int32)) hx hb dX6_isUpBy_84 (by decide) ?_
              refine lv_goto (tgt := 89) hx hb dX6_isUpBy_85 (by decide) ?_
              subst hE
              rw [← hQ]
              exact W.zret hx hb hr (isB.n nb_1) (fun t ht hW => ⟨_, rfl, ⟨rfl, nb_1⟩, ht⟩) (fun q h => absurd h List.not_mem_nil) dX6_isUpBy_89
            · rw [if_neg c_75] at hE
              refine lv_iload_n hx hb dX6_isUpBy_78 rfl (lv_at hl 2 rfl) ?_
              refine lv_iconst (v := (4 : Int32)) hx hb dX6_isUpBy_79 (by decide) ?_
              refine lv_irem hx hb dX6_isUpBy_80 (by decide) ?_
              refine lv_if_ne (tgt := 88) hx hb dX6_isUpBy_81 (by decide) (fun c_81 => ?_) (fun c_81 => ?_)
              · rw [if_neg c_81] at hE
                refine lv_iconst (v := (0 : Int32)) hx hb dX6_isUpBy_88 (by decide) ?_
                subst hE
                rw [← hQ]
                exact W.zret hx hb hr (isB.n nb_0) (fun t ht hW => ⟨_, rfl, ⟨rfl, nb_0⟩, ht⟩) (fun q h => absurd h List.not_mem_nil) dX6_isUpBy_89
              · rw [if_pos c_81] at hE
                refine lv_iconst (v := (1 : Int32)) hx hb dX6_isUpBy_84 (by decide) ?_
                refine lv_goto (tgt := 89) hx hb dX6_isUpBy_85 (by decide) ?_
                subst hE
                rw [← hQ]
                exact W.zret hx hb hr (isB.n nb_1) (fun t ht hW => ⟨_, rfl, ⟨rfl, nb_1⟩, ht⟩) (fun q h => absurd h List.not_mem_nil) dX6_isUpBy_89
        · rw [if_neg c_1_4] at hE
          have e_1_4 := mt Int32.toInt_inj.mp c_1_4
          refine lv_tableOut (tgt := 90) hx hb dX6_isUpBy_1 (tab_out4 (lv_neT c_1_1 (a := 1) (by decide)) (lv_neT c_1_2 (a := 2) (by decide)) (lv_neT c_1_3 (a := 3) (by decide)) (lv_neT c_1_4 (a := 4) (by decide))) (by decide) ?_
          refine lv_iload_n hx hb dX6_isUpBy_90 rfl (lv_at hl 1 rfl) ?_
          refine lv_if_ne (tgt := 98) hx hb dX6_isUpBy_91 (by decide) (fun c_91 => ?_) (fun c_91 => ?_)
          · have e_91 := mt Int32.toInt_inj.mp c_91
            rw [if_neg c_91] at hE
            refine lv_iconst (v := (0 : Int32)) hx hb dX6_isUpBy_98 (by decide) ?_
            subst hE
            rw [← hQ]
            exact W.zret hx hb hr (isB.n nb_0) (fun t ht hW => ⟨_, rfl, ⟨rfl, nb_0⟩, ht⟩) (fun q h => absurd h List.not_mem_nil) dX6_isUpBy_99
          · have e_91 := congrArg Int32.toInt c_91
            rw [if_pos c_91] at hE
            refine lv_iconst (v := (1 : Int32)) hx hb dX6_isUpBy_94 (by decide) ?_
            refine lv_goto (tgt := 99) hx hb dX6_isUpBy_95 (by decide) ?_
            subst hE
            rw [← hQ]
            exact W.zret hx hb hr (isB.n nb_1) (fun t ht hW => ⟨_, rfl, ⟨rfl, nb_1⟩, ht⟩) (fun q h => absurd h List.not_mem_nil) dX6_isUpBy_99
def fX6_isUp (md_isHired : Int32) (md_kinds : Nat → Int32) (md_ills : Nat → Int32) (k_ : Int32) (on_ : Int32) : Int32 := (if k_ = (4 : Int32) then (if md_isHired = (0 : Int32) then (0 : Int32) else (if (on_ - on_ / (7 : Int32) * (7 : Int32)) = (3 : Int32) then (1 : Int32) else (0 : Int32))) else (if (md_ills k_.toNatClampNeg) ≤ on_ then (fX6_isUpBy (md_kinds k_.toNatClampNeg) (0 : Int32) on_) else (fX6_isUpBy (md_kinds k_.toNatClampNeg) (1 : Int32) on_)))
set_option maxHeartbeats 4000000 in
set_option maxRecDepth 100000 in
theorem kX6_isUp (l : Launch) (dC : Nat → ClassId) (dI : Nat → Nat → Nat) (cI cJ : ClassId) (md : Nat → Nat) (md_page : Nat → Int32) (md_pageMany : Int32) (md_end : Int32) (md_ships : Int32) (md_rocks : Int32) (md_rockBits : Int64) (md_day : Int32) (md_isHired : Int32) (md_sails : Int32) (md_seasRead : Int32) (md_kinds : Nat → Int32) (md_ills : Nat → Int32) (md_cells : Nat → Int32) (md_sailed : Nat → Int32) (md_must : Nat → Int64) (md_seenMany : Int32) (md_sights : Nat → Int32) (md_seedNow : Int32) (md_cellsThen : Nat → Int32) (md_keptSea : Int32) (md_keptDay : Int32) (md_keptHired : Int32) (md_keptSails : Int32) (md_keptSeen : Int32) (md_keptKinds : Nat → Int32) (md_keptIlls : Nat → Int32) (md_keptCells : Nat → Int32) (md_keptSailed : Nat → Int32) (md_keptSights : Nat → Int32) (md_hash : Int64) (k_ : Int32) (on_ : Int32) (p_1 : vp_in k_ 5) : Met l yX6_isUp wsX6_isUp ({ frames := 1, cells := 0, slots := 0, locals := 22 } : Room) (gR (dC, dI) cI cJ (kMd cI cJ md md_page md_pageMany md_end md_ships md_rocks md_rockBits md_day md_isHired md_sails md_seasRead md_kinds md_ills md_cells md_sailed md_must md_seenMany md_sights md_seedNow md_cellsThen md_keptSea md_keptDay md_keptHired md_keptSails md_keptSeen md_keptKinds md_keptIlls md_keptCells md_keptSailed md_keptSights md_hash) ([.ref (md 0), .int k_, .int on_] : List Value)) (vp_Si (fun r => r = (fX6_isUp md_isHired md_kinds md_ills k_ on_) ∧ isB r)) 0 0 (fun _ => False) := by
  refine Met.ofW (cc := cX6_isUp) (maxL := 3) (ret := (some .boolean)) (by decide) rfl ?_
  intro p e s m args below meth c s₁ B hml hv
  obtain ⟨rfl, hP, hK, hst⟩ := hv
  have hx := B.exec
  have hb := B.bytes
  have hr := B.returns
  have hts := atoms_spec (ws := wsX6_isUp) B.pre
  have hown : s.vm.findClass RX6 = some m.cls := findClass_of_methodNamed B.named
  have hlocks := B.notSynchronized
  have hS : va_S (fun _ => False) s.heap s.heap [] := va_S.rf
  generalize hE : (fX6_isUp md_isHired md_kinds md_ills k_ on_) = RES
  generalize hQ : MQ below (vp_Si (fun r => r = RES ∧ isB r)) ([.ref (md 0), .int k_, .int on_] : List Value).toArray s 0 0 (fun _ => False) = Q
  have hl := lv_entry ([.ref (md 0), .int k_, .int on_] : List Value) (n := 3) (Nat.le_of_ble_eq_true rfl)
  rw [lg_entry_eq]
  generalize (lg_sl ([.ref (md 0), .int k_, .int on_] : List Value) ++ List.replicate (3 - (lg_sl ([.ref (md 0), .int k_, .int on_] : List Value)).length) Slot.unset).toArray = ls at hl ⊢
  have hl : lv_has ls 3 [(0, .ref (md 0)), (1, .int k_), (2, .int on_)] := hl
  have in_X6 : ∀ w ∈ u_ws RX6 TX6 30, w ∈ wsX6_isUp := fun _ h => List.mem_cons_of_mem _ (List.mem_append_right _ h)
  have t_fieldLink_RX6_112_FourLodgersModel_isHired_Z := hts (.fieldLink RX6 112 "FourLodgersModel" "isHired" "Z") (List.mem_of_getElem? (i := 1) rfl)
  have t_fieldLink_RX6_13_FourLodgersModel_kinds_I := hts (.fieldLink RX6 13 "FourLodgersModel" "kinds" "[I") (List.mem_of_getElem? (i := 2) rfl)
  have t_fieldLink_RX6_16_FourLodgersModel_ills_I := hts (.fieldLink RX6 16 "FourLodgersModel" "ills" "[I") (List.mem_of_getElem? (i := 3) rfl)
  have i_0 : (0 : Int32).toInt = 0 := by decide
  have i_1 : (1 : Int32).toInt = 1 := by decide
  have i_3 : (3 : Int32).toInt = 3 := by decide
  have i_4 : (4 : Int32).toInt = 4 := by decide
  have i_7 : (7 : Int32).toInt = 7 := by decide
  have p_1' := vp_in_iff.mp p_1
  rw [fX6_isUp] at hE
  refine lv_iload_n hx hb dX6_isUp_0 rfl (lv_at hl 1 rfl) ?_
  refine lv_iconst (v := (4 : Int32)) hx hb dX6_isUp_1 (by decide) ?_
  refine lv_icmp_ne (tgt := 28) hx hb dX6_isUp_2 (by decide) (fun c_2 => ?_) (fun c_2 => ?_)
  · have e_2 := mt Int32.toInt_inj.mp c_2
    rw [if_neg c_2] at hE
    refine lv_aload_n hx hb dX6_isUp_28 rfl (lv_at hl 0 rfl) ?_
    refine va_get (D := (dC, dI)) (ci := 6) (v := .ref (md 2)) (C := RX6) (T := TX6) (N := 30) hx hb hts in_X6 hown hK hP 0 rfl rfl 10 (by decide) t_fieldLink_RX6_13_FourLodgersModel_kinds_I (fun _ h9 => h9) rfl dX6_isUp_29 ?_
    refine lv_iload_n hx hb dX6_isUp_32 rfl (lv_at hl 1 rfl) ?_
    refine va_iald hx hb hK hP 2 0 rfl rfl (i := k_) (by first | assumption | exact vp_in_iff.mpr ⟨by omega, by omega⟩ | omega | decide) dX6_isUp_33 ?_
    refine lv_iload_n hx hb dX6_isUp_34 rfl (lv_at hl 2 rfl) ?_
    refine lv_aload_n hx hb dX6_isUp_35 rfl (lv_at hl 0 rfl) ?_
    refine va_get (D := (dC, dI)) (ci := 6) (v := .ref (md 3)) (C := RX6) (T := TX6) (N := 30) hx hb hts in_X6 hown hK hP 0 rfl rfl 11 (by decide) t_fieldLink_RX6_16_FourLodgersModel_ills_I (fun _ h9 => h9) rfl dX6_isUp_36 ?_
    refine lv_iload_n hx hb dX6_isUp_39 rfl (lv_at hl 1 rfl) ?_
    refine va_iald hx hb hK hP 3 0 rfl rfl (i := k_) (by first | assumption | exact vp_in_iff.mpr ⟨by omega, by omega⟩ | omega | decide) dX6_isUp_40 ?_
    refine lv_icmp_ge (tgt := 48) hx hb dX6_isUp_41 (by decide) (fun c_41 => ?_) (fun c_41 => ?_)
    · have e_41 := Int32.le_iff_toInt_le.mp c_41
      rw [if_pos c_41] at hE
      refine lv_iconst (v := (0 : Int32)) hx hb dX6_isUp_48 (by decide) ?_
      refine lv_iload_n hx hb dX6_isUp_49 rfl (lv_at hl 2 rfl) ?_
      refine rcSi (As := [.int (md_kinds k_.toNatClampNeg), .int (0 : Int32), .int on_]) (rest := []) ⟨hx, hb, hml, hown, hts⟩ (kX6_isUpBy l dC dI cI cJ (md_kinds k_.toNatClampNeg) (0 : Int32) on_) (va_cwS 3 hts gX6_isUp_X6_isUpBy rfl rfl rfl (by decide +kernel) ⟨Nat.le_of_ble_eq_true rfl, Nat.le_of_ble_eq_true rfl⟩) hK hP hst hS [] rfl rfl hl.1 rfl (Nat.le_of_ble_eq_true rfl) dX6_isUp_50 ⟨Nat.zero_le _, Nat.zero_le _⟩ (fun r w_1 => ?_)
      obtain ⟨rfl, nb_2⟩ := w_1
      subst hE
      rw [← hQ]
      exact W.zret hx hb hr (isB.n nb_2) (fun t ht hW => ⟨_, rfl, ⟨rfl, nb_2⟩, ht⟩) (fun q h => absurd h List.not_mem_nil) dX6_isUp_53
    · have e_41 := mt Int32.le_iff_toInt_le.mpr c_41
      rw [if_neg c_41] at hE
      refine lv_iconst (v := (1 : Int32)) hx hb dX6_isUp_44 (by decide) ?_
      refine lv_goto (tgt := 49) hx hb dX6_isUp_45 (by decide) ?_
      refine lv_iload_n hx hb dX6_isUp_49 rfl (lv_at hl 2 rfl) ?_
      refine rcSi (As := [.int (md_kinds k_.toNatClampNeg), .int (1 : Int32), .int on_]) (rest := []) ⟨hx, hb, hml, hown, hts⟩ (kX6_isUpBy l dC dI cI cJ (md_kinds k_.toNatClampNeg) (1 : Int32) on_) (va_cwS 3 hts gX6_isUp_X6_isUpBy rfl rfl rfl (by decide +kernel) ⟨Nat.le_of_ble_eq_true rfl, Nat.le_of_ble_eq_true rfl⟩) hK hP hst hS [] rfl rfl hl.1 rfl (Nat.le_of_ble_eq_true rfl) dX6_isUp_50 ⟨Nat.zero_le _, Nat.zero_le _⟩ (fun r w_3 => ?_)
      obtain ⟨rfl, nb_4⟩ := w_3
      subst hE
      rw [← hQ]
      exact W.zret hx hb hr (isB.n nb_4) (fun t ht hW => ⟨_, rfl, ⟨rfl, nb_4⟩, ht⟩) (fun q h => absurd h List.not_mem_nil) dX6_isUp_53
  · have e_2 := congrArg Int32.toInt c_2
    rw [if_pos c_2] at hE
    refine lv_aload_n hx hb dX6_isUp_5 rfl (lv_at hl 0 rfl) ?_
    refine va_get (D := (dC, dI)) (ci := 6) (v := .int md_isHired) (C := RX6) (T := TX6) (N := 30) hx hb hts in_X6 hown hK hP 0 rfl rfl 7 (by decide) t_fieldLink_RX6_112_FourLodgersModel_isHired_Z (fun _ h9 => h9) rfl dX6_isUp_6 ?_
    refine lv_if_eq (tgt := 24) hx hb dX6_isUp_9 (by decide) (fun c_9 => ?_) (fun c_9 => ?_)
    · have e_9 := congrArg Int32.toInt c_9
      rw [if_pos c_9] at hE
      refine lv_iconst (v := (0 : Int32)) hx hb dX6_isUp_24 (by decide) ?_
      refine lv_goto (tgt := 53) hx hb dX6_isUp_25 (by decide) ?_
      subst hE
      rw [← hQ]
      exact W.zret hx hb hr (isB.n nb_0) (fun t ht hW => ⟨_, rfl, ⟨rfl, nb_0⟩, ht⟩) (fun q h => absurd h List.not_mem_nil) dX6_isUp_53
    · have e_9 := mt Int32.toInt_inj.mp c_9
      rw [if_neg c_9] at hE
      refine lv_iload_n hx hb dX6_isUp_12 rfl (lv_at hl 2 rfl) ?_
      refine lv_bipush (v := (7 : Int32)) hx hb dX6_isUp_13 (by decide) ?_
      refine lv_irem hx hb dX6_isUp_15 (by decide) ?_
      refine lv_iconst (v := (3 : Int32)) hx hb dX6_isUp_16 (by decide) ?_
      refine lv_icmp_ne (tgt := 24) hx hb dX6_isUp_17 (by decide) (fun c_17 => ?_) (fun c_17 => ?_)
      · rw [if_neg c_17] at hE
        refine lv_iconst (v := (0 : Int32)) hx hb dX6_isUp_24 (by decide) ?_
        refine lv_goto (tgt := 53) hx hb dX6_isUp_25 (by decide) ?_
        subst hE
        rw [← hQ]
        exact W.zret hx hb hr (isB.n nb_0) (fun t ht hW => ⟨_, rfl, ⟨rfl, nb_0⟩, ht⟩) (fun q h => absurd h List.not_mem_nil) dX6_isUp_53
      · rw [if_pos c_17] at hE
        refine lv_iconst (v := (1 : Int32)) hx hb dX6_isUp_20 (by decide) ?_
        refine lv_goto (tgt := 53) hx hb dX6_isUp_21 (by decide) ?_
        subst hE
        rw [← hQ]
        exact W.zret hx hb hr (isB.n nb_1) (fun t ht hW => ⟨_, rfl, ⟨rfl, nb_1⟩, ht⟩) (fun q h => absurd h List.not_mem_nil) dX6_isUp_53
def fX6_leads (md_rockBits : Int64) (cell : Int32) (by_ : Int32) : Int32 := (if by_ = (0 : Int32) then (if (fX6_in ((cell / (6 : Int32)) + (-1 : Int32)).toInt64 (0 : Int64) (5 : Int64)) = (0 : Int32) then (if (0 : Int32) = (0 : Int32) then (-1 : Int32) else (if ((md_rockBits >>> ((((6 : Int32) * ((cell / (6 : Int32)) + (-1 : Int32))) + (cell - cell / (6 : Int32) * (6 : Int32))).toInt64 &&& 63)) &&& (1 : Int64)) = (0 : Int64) then (((6 : Int32) * ((cell / (6 : Int32)) + (-1 : Int32))) + (cell - cell / (6 : Int32) * (6 : Int32))) else (-1 : Int32))) else (if (fX6_in (cell - cell / (6 : Int32) * (6 : Int32)).toInt64 (0 : Int64) (5 : Int64)) = (0 : Int32) then (if (0 : Int32) = (0 : Int32) then (-1 : Int32) else (if ((md_rockBits >>> ((((6 : Int32) * ((cell / (6 : Int32)) + (-1 : Int32))) + (cell - cell / (6 : Int32) * (6 : Int32))).toInt64 &&& 63)) &&& (1 : Int64)) = (0 : Int64) then (((6 : Int32) * ((cell / (6 : Int32)) + (-1 : Int32))) + (cell - cell / (6 : Int32) * (6 : Int32))) else (-1 : Int32))) else (if (1 : Int32) = (0 : Int32) then (-1 : Int32) else (if ((md_rockBits >>> ((((6 : Int32) * ((cell / (6 : Int32)) + (-1 : Int32))) + (cell - cell / (6 : Int32) * (6 : Int32))).toInt64 &&& 63)) &&& (1 : Int64)) = (0 : Int64) then (((6 : Int32) * ((cell / (6 : Int32)) + (-1 : Int32))) + (cell - cell / (6 : Int32) * (6 : Int32))) else (-1 : Int32))))) else (if by_ = (1 : Int32) then (if (fX6_in (cell / (6 : Int32)).toInt64 (0 : Int64) (5 : Int64)) = (0 : Int32) then (if (0 : Int32) = (0 : Int32) then (-1 : Int32) else (if ((md_rockBits >>> ((((6 : Int32) * (cell / (6 : Int32))) + ((cell - cell / (6 : Int32) * (6 : Int32)) + (1 : Int32))).toInt64 &&& 63)) &&& (1 : Int64)) = (0 : Int64) then (((6 : Int32) * (cell / (6 : Int32))) + ((cell - cell / (6 : Int32) * (6 : Int32)) + (1 : Int32))) else (-1 : Int32))) else (if (fX6_in ((cell - cell / (6 : Int32) * (6 : Int32)) + (1 : Int32)).toInt64 (0 : Int64) (5 : Int64)) = (0 : Int32) then (if (0 : Int32) = (0 : Int32) then (-1 : Int32) else (if ((md_rockBits >>> ((((6 : Int32) * (cell / (6 : Int32))) + ((cell - cell / (6 : Int32) * (6 : Int32)) + (1 : Int32))).toInt64 &&& 63)) &&& (1 : Int64)) = (0 : Int64) then (((6 : Int32) * (cell / (6 : Int32))) + ((cell - cell / (6 : Int32) * (6 : Int32)) + (1 : Int32))) else (-1 : Int32))) else (if (1 : Int32) = (0 : Int32) then (-1 : Int32) else (if ((md_rockBits >>> ((((6 : Int32) * (cell / (6 : Int32))) + ((cell - cell / (6 : Int32) * (6 : Int32)) + (1 : Int32))).toInt64 &&& 63)) &&& (1 : Int64)) = (0 : Int64) then (((6 : Int32) * (cell / (6 : Int32))) + ((cell - cell / (6 : Int32) * (6 : Int32)) + (1 : Int32))) else (-1 : Int32))))) else (if by_ = (2 : Int32) then (if (fX6_in ((cell / (6 : Int32)) + (1 : Int32)).toInt64 (0 : Int64) (5 : Int64)) = (0 : Int32) then (if (0 : Int32) = (0 : Int32) then (-1 : Int32) else (if ((md_rockBits >>> ((((6 : Int32) * ((cell / (6 : Int32)) + (1 : Int32))) + (cell - cell / (6 : Int32) * (6 : Int32))).toInt64 &&& 63)) &&& (1 : Int64)) = (0 : Int64) then (((6 : Int32) * ((cell / (6 : Int32)) + (1 : Int32))) + (cell - cell / (6 : Int32) * (6 : Int32))) else (-1 : Int32))) else (if (fX6_in (cell - cell / (6 : Int32) * (6 : Int32)).toInt64 (0 : Int64) (5 : Int64)) = (0 : Int32) then (if (0 : Int32) = (0 : Int32) then (-1 : Int32) else (if ((md_rockBits >>> ((((6 : Int32) * ((cell / (6 : Int32)) + (1 : Int32))) + (cell - cell / (6 : Int32) * (6 : Int32))).toInt64 &&& 63)) &&& (1 : Int64)) = (0 : Int64) then (((6 : Int32) * ((cell / (6 : Int32)) + (1 : Int32))) + (cell - cell / (6 : Int32) * (6 : Int32))) else (-1 : Int32))) else (if (1 : Int32) = (0 : Int32) then (-1 : Int32) else (if ((md_rockBits >>> ((((6 : Int32) * ((cell / (6 : Int32)) + (1 : Int32))) + (cell - cell / (6 : Int32) * (6 : Int32))).toInt64 &&& 63)) &&& (1 : Int64)) = (0 : Int64) then (((6 : Int32) * ((cell / (6 : Int32)) + (1 : Int32))) + (cell - cell / (6 : Int32) * (6 : Int32))) else (-1 : Int32))))) else (if by_ = (3 : Int32) then (if (fX6_in (cell / (6 : Int32)).toInt64 (0 : Int64) (5 : Int64)) = (0 : Int32) then (if (0 : Int32) = (0 : Int32) then (-1 : Int32) else (if ((md_rockBits >>> ((((6 : Int32) * (cell / (6 : Int32))) + ((cell - cell / (6 : Int32) * (6 : Int32)) + (-1 : Int32))).toInt64 &&& 63)) &&& (1 : Int64)) = (0 : Int64) then (((6 : Int32) * (cell / (6 : Int32))) + ((cell - cell / (6 : Int32) * (6 : Int32)) + (-1 : Int32))) else (-1 : Int32))) else (if (fX6_in ((cell - cell / (6 : Int32) * (6 : Int32)) + (-1 : Int32)).toInt64 (0 : Int64) (5 : Int64)) = (0 : Int32) then (if (0 : Int32) = (0 : Int32) then (-1 : Int32) else (if ((md_rockBits >>> ((((6 : Int32) * (cell / (6 : Int32))) + ((cell - cell / (6 : Int32) * (6 : Int32)) + (-1 : Int32))).toInt64 &&& 63)) &&& (1 : Int64)) = (0 : Int64) then (((6 : Int32) * (cell / (6 : Int32))) + ((cell - cell / (6 : Int32) * (6 : Int32)) + (-1 : Int32))) else (-1 : Int32))) else (if (1 : Int32) = (0 : Int32) then (-1 : Int32) else (if ((md_rockBits >>> ((((6 : Int32) * (cell / (6 : Int32))) + ((cell - cell / (6 : Int32) * (6 : Int32)) + (-1 : Int32))).toInt64 &&& 63)) &&& (1 : Int64)) = (0 : Int64) then (((6 : Int32) * (cell / (6 : Int32))) + ((cell - cell / (6 : Int32) * (6 : Int32)) + (-1 : Int32))) else (-1 : Int32))))) else (if (fX6_in ((cell / (6 : Int32)) + (1 : Int32)).toInt64 (0 : Int64) (5 : Int64)) = (0 : Int32) then (if (0 : Int32) = (0 : Int32) then (-1 : Int32) else (if ((md_rockBits >>> ((((6 : Int32) * ((cell / (6 : Int32)) + (1 : Int32))) + ((cell - cell / (6 : Int32) * (6 : Int32)) + (2 : Int32))).toInt64 &&& 63)) &&& (1 : Int64)) = (0 : Int64) then (((6 : Int32) * ((cell / (6 : Int32)) + (1 : Int32))) + ((cell - cell / (6 : Int32) * (6 : Int32)) + (2 : Int32))) else (-1 : Int32))) else (if (fX6_in ((cell - cell / (6 : Int32) * (6 : Int32)) + (2 : Int32)).toInt64 (0 : Int64) (5 : Int64)) = (0 : Int32) then (if (0 : Int32) = (0 : Int32) then (-1 : Int32) else (if ((md_rockBits >>> ((((6 : Int32) * ((cell / (6 : Int32)) + (1 : Int32))) + ((cell - cell / (6 : Int32) * (6 : Int32)) + (2 : Int32))).toInt64 &&& 63)) &&& (1 : Int64)) = (0 : Int64) then (((6 : Int32) * ((cell / (6 : Int32)) + (1 : Int32))) + ((cell - cell / (6 : Int32) * (6 : Int32)) + (2 : Int32))) else (-1 : Int32))) else (if (1 : Int32) = (0 : Int32) then (-1 : Int32) else (if ((md_rockBits >>> ((((6 : Int32) * ((cell / (6 : Int32)) + (1 : Int32))) + ((cell - cell / (6 : Int32) * (6 : Int32)) + (2 : Int32))).toInt64 &&& 63)) &&& (1 : Int64)) = (0 : Int64) then (((6 : Int32) * ((cell / (6 : Int32)) + (1 : Int32))) + ((cell - cell / (6 : Int32) * (6 : Int32)) + (2 : Int32))) else (-1 : Int32)))))))))
set_option maxHeartbeats 4000000 in
set_option maxRecDepth 100000 in
theorem kX6_leads (l : Launch) (dC : Nat → ClassId) (dI : Nat → Nat → Nat) (cI cJ : ClassId) (md : Nat → Nat) (md_page : Nat → Int32) (md_pageMany : Int32) (md_end : Int32) (md_ships : Int32) (md_rocks : Int32) (md_rockBits : Int64) (md_day : Int32) (md_isHired : Int32) (md_sails : Int32) (md_seasRead : Int32) (md_kinds : Nat → Int32) (md_ills : Nat → Int32) (md_cells : Nat → Int32) (md_sailed : Nat → Int32) (md_must : Nat → Int64) (md_seenMany : Int32) (md_sights : Nat → Int32) (md_seedNow : Int32) (md_cellsThen : Nat → Int32) (md_keptSea : Int32) (md_keptDay : Int32) (md_keptHired : Int32) (md_keptSails : Int32) (md_keptSeen : Int32) (md_keptKinds : Nat → Int32) (md_keptIlls : Nat → Int32) (md_keptCells : Nat → Int32) (md_keptSailed : Nat → Int32) (md_keptSights : Nat → Int32) (md_hash : Int64) (cell : Int32) (by_ : Int32) : Met l yX6_leads wsX6_leads ({ frames := 1, cells := 0, slots := 0, locals := 25 } : Room) (gR (dC, dI) cI cJ (kMd cI cJ md md_page md_pageMany md_end md_ships md_rocks md_rockBits md_day md_isHired md_sails md_seasRead md_kinds md_ills md_cells md_sailed md_must md_seenMany md_sights md_seedNow md_cellsThen md_keptSea md_keptDay md_keptHired md_keptSails md_keptSeen md_keptKinds md_keptIlls md_keptCells md_keptSailed md_keptSights md_hash) ([.ref (md 0), .int cell, .int by_] : List Value)) (vp_Si (fun r => r = (fX6_leads md_rockBits cell by_))) 0 0 (fun _ => False) := by
  refine Met.ofW (cc := cX6_leads) (maxL := 6) (ret := (some .int)) (by decide) rfl ?_
  intro p e s m args below meth c s₁ B hml hv
  obtain ⟨rfl, hP, hK, hst⟩ := hv
  have hx := B.exec
  have hb := B.bytes
  have hr := B.returns
  have hts := atoms_spec (ws := wsX6_leads) B.pre
  have hown : s.vm.findClass RX6 = some m.cls := findClass_of_methodNamed B.named
  have hlocks := B.notSynchronized
  have hS : va_S (fun _ => False) s.heap s.heap [] := va_S.rf
  generalize hE : (fX6_leads md_rockBits cell by_) = RES
  generalize hQ : MQ below (vp_Si (fun r => r = RES)) ([.ref (md 0), .int cell, .int by_] : List Value).toArray s 0 0 (fun _ => False) = Q
  have hl := lv_entry ([.ref (md 0), .int cell, .int by_] : List Value) (n := 6) (Nat.le_of_ble_eq_true rfl)
  rw [lg_entry_eq]
  generalize (lg_sl ([.ref (md 0), .int cell, .int by_] : List Value) ++ List.replicate (6 - (lg_sl ([.ref (md 0), .int cell, .int by_] : List Value)).length) Slot.unset).toArray = ls at hl ⊢
  have hl : lv_has ls 6 [(0, .ref (md 0)), (1, .int cell), (2, .int by_)] := hl
  have in_X6 : ∀ w ∈ u_ws RX6 TX6 30, w ∈ wsX6_leads := fun _ h => List.mem_cons_of_mem _ (List.mem_append_right _ h)
  have t_constantLong_RX6_137_5 := hts (.constantLong RX6 137 (5)) (List.mem_of_getElem? (i := 1) rfl)
  have t_fieldLink_RX6_105_FourLodgersModel_rockBits_J := hts (.fieldLink RX6 105 "FourLodgersModel" "rockBits" "J") (List.mem_of_getElem? (i := 2) rfl)
  have i_m1 : (-1 : Int32).toInt = -1 := by decide
  have i_0 : (0 : Int32).toInt = 0 := by decide
  have i_1 : (1 : Int32).toInt = 1 := by decide
  have i_2 : (2 : Int32).toInt = 2 := by decide
  have i_3 : (3 : Int32).toInt = 3 := by decide
  have i_6 : (6 : Int32).toInt = 6 := by decide
  rw [fX6_leads] at hE
  refine lv_iload_n hx hb dX6_leads_0 rfl (lv_at hl 1 rfl) ?_
  refine lv_bipush (v := (6 : Int32)) hx hb dX6_leads_1 (by decide) ?_
  refine lv_idiv hx hb dX6_leads_3 (by decide) ?_
  refine lv_istore_n (lv' := [(3, .int (cell / (6 : Int32))), (0, .ref (md 0)), (1, .int cell), (2, .int by_)]) hx hb dX6_leads_4 rfl hl (by decide) rfl (fun ls hl => ?_)
  refine lv_iload_n hx hb dX6_leads_5 rfl (lv_at hl 2 rfl) ?_
  refine lv_bipush (v := (6 : Int32)) hx hb dX6_leads_6 (by decide) ?_
  refine lv_irem hx hb dX6_leads_8 (by decide) ?_
  refine lv_istore (lv' := [(4, .int (cell - cell / (6 : Int32) * (6 : Int32))), (3, .int (cell / (6 : Int32))), (0, .ref (md 0)), (1, .int cell), (2, .int by_)]) hx hb dX6_leads_9 hl (by decide) rfl (fun ls hl => ?_)
  refine lv_iload_n hx hb dX6_leads_11 rfl (lv_at hl 4 rfl) ?_
  by_cases c_12_0 : by_ = (0 : Int32)
  · have e_12_0 := congrArg Int32.toInt c_12_0
    rw [if_pos c_12_0] at hE
    refine lv_tableIn (off := 32) (tgt := 44) hx hb dX6_leads_12 (by rw [c_12_0]; decide) (by rw [c_12_0]; decide) (by rw [c_12_0]; rfl) (by decide) ?_
    refine lv_iinc (v := ((cell / (6 : Int32)) + (-1 : Int32))) (lv' := [(3, .int ((cell / (6 : Int32)) + (-1 : Int32))), (4, .int (cell - cell / (6 : Int32) * (6 : Int32))), (0, .ref (md 0)), (1, .int cell), (2, .int by_)]) hx hb dX6_leads_44 hl (k := 1) rfl rfl (by decide) rfl (fun ls hl => ?_)
    refine lv_goto (tgt := 74) hx hb dX6_leads_47 (by decide) ?_
    refine lv_iload_n hx hb dX6_leads_74 rfl (lv_at hl 0 rfl) ?_
    refine lv_i2l hx hb dX6_leads_75 rfl ?_
    refine lv_lconst (v := (0 : Int64)) hx hb dX6_leads_76 (by decide) ?_
    refine lv_ldc2 hx hb hown t_constantLong_RX6_137_5 dX6_leads_77 ?_
    refine rcSi (As := [.long ((cell / (6 : Int32)) + (-1 : Int32)).toInt64, .long (0 : Int64), .long (5 : Int64)]) (rest := []) ⟨hx, hb, hml, hown, hts⟩ (kX6_in l dC dI cI cJ ((cell / (6 : Int32)) + (-1 : Int32)).toInt64 (0 : Int64) (5 : Int64)) (va_cwS 3 hts gX6_leads_X6_in rfl rfl rfl (by decide +kernel) ⟨Nat.le_of_ble_eq_true rfl, Nat.le_of_ble_eq_true rfl⟩) hK hP hst hS [] rfl rfl hl.1 rfl (Nat.le_of_ble_eq_true rfl) dX6_leads_80 ⟨Nat.zero_le _, Nat.zero_le _⟩ (fun r w_1 => ?_)
    obtain ⟨w_1, nb_2⟩ := w_1; rw [w_1] at nb_2 ⊢
    refine lv_if_eq (tgt := 103) hx hb dX6_leads_83 (by decide) (fun c_83 => ?_) (fun c_83 => ?_)
    · rw [if_pos c_83] at hE
      refine lv_iconst (v := (0 : Int32)) hx hb dX6_leads_103 (by decide) ?_
      refine lv_istore (lv' := [(5, .int (0 : Int32)), (3, .int ((cell / (6 : Int32)) + (-1 : Int32))), (4, .int (cell - cell / (6 : Int32) * (6 : Int32))), (0, .ref (md 0)), (1, .int cell), (2, .int by_)]) hx hb dX6_leads_104 hl (by decide) rfl (fun ls hl => ?_)
      refine lv_iload hx hb dX6_leads_106 (lv_at hl 0 rfl) ?_
      refine lv_if_eq (tgt := 140) hx hb dX6_leads_108 (by decide) (fun c_108 => ?_) (fun c_108 => ?_)
      · have e_108 := congrArg Int32.toInt c_108
        rw [if_pos c_108] at hE
        refine lv_iconst (v := (-1 : Int32)) hx hb dX6_leads_140 (by decide) ?_
        subst hE
        rw [← hQ]
        exact W.iret hx hb hr (fun t ht hW => ⟨_, rfl, rfl, ht⟩) (fun q h => absurd h List.not_mem_nil) dX6_leads_141
      · have e_108 := mt Int32.toInt_inj.mp c_108
        rw [if_neg c_108] at hE
        refine lv_aload_n hx hb dX6_leads_111 rfl (lv_at hl 3 rfl) ?_
        refine va_get (D := (dC, dI)) (ci := 6) (v := .long md_rockBits) (C := RX6) (T := TX6) (N := 30) hx hb hts in_X6 hown hK hP 0 rfl rfl 5 (by decide) t_fieldLink_RX6_105_FourLodgersModel_rockBits_J (fun _ h9 => h9) rfl dX6_leads_112 ?_
        refine lv_bipush (v := (6 : Int32)) hx hb dX6_leads_115 (by decide) ?_
        refine lv_iload_n hx hb dX6_leads_117 rfl (lv_at hl 1 rfl) ?_
        refine lv_imul hx hb dX6_leads_118 ?_
        refine lv_iload hx hb dX6_leads_119 (lv_at hl 2 rfl) ?_
        refine lv_iadd hx hb dX6_leads_121 ?_
        refine lv_lshr hx hb dX6_leads_122 rfl ?_
        refine lv_lconst (v := (1 : Int64)) hx hb dX6_leads_123 (by decide) ?_
        refine lv_land hx hb dX6_leads_124 ?_
        refine lv_lconst (v := (0 : Int64)) hx hb dX6_leads_125 (by decide) ?_
        refine W.lcmp hx hb dX6_leads_126 ?_
        refine lv_if_ne (tgt := 140) hx hb dX6_leads_127 (by decide) (fun c_127 => ?_) (fun c_127 => ?_)
        · replace c_127 : ¬ ((md_rockBits >>> ((((6 : Int32) * ((cell / (6 : Int32)) + (-1 : Int32))) + (cell - cell / (6 : Int32) * (6 : Int32))).toInt64 &&& 63)) &&& (1 : Int64)) = (0 : Int64) := fun q => c_127 ((lg_cmp_eq _ _).mpr q)
          rw [if_neg c_127] at hE
          refine lv_iconst (v := (-1 : Int32)) hx hb dX6_leads_140 (by decide) ?_
          subst hE
          rw [← hQ]
          exact W.iret hx hb hr (fun t ht hW => ⟨_, rfl, rfl, ht⟩) (fun q h => absurd h List.not_mem_nil) dX6_leads_141
        · replace c_127 : ((md_rockBits >>> ((((6 : Int32) * ((cell / (6 : Int32)) + (-1 : Int32))) + (cell - cell / (6 : Int32) * (6 : Int32))).toInt64 &&& 63)) &&& (1 : Int64)) = (0 : Int64) := (lg_cmp_eq _ _).mp c_127
          rw [if_pos c_127] at hE
          refine lv_bipush (v := (6 : Int32)) hx hb dX6_leads_130 (by decide) ?_
          refine lv_iload_n hx hb dX6_leads_132 rfl (lv_at hl 1 rfl) ?_
          refine lv_imul hx hb dX6_leads_133 ?_
          refine lv_iload hx hb dX6_leads_134 (lv_at hl 2 rfl) ?_
          refine lv_iadd hx hb dX6_leads_136 ?_
          refine lv_goto (tgt := 141) hx hb dX6_leads_137 (by decide) ?_
          subst hE
          rw [← hQ]
          exact W.iret hx hb hr (fun t ht hW => ⟨_, rfl, rfl, ht⟩) (fun q h => absurd h List.not_mem_nil) dX6_leads_141
    · rw [if_neg c_83] at hE
      refine lv_iload hx hb dX6_leads_86 (lv_at hl 1 rfl) ?_
      refine lv_i2l hx hb dX6_leads_88 rfl ?_
      refine lv_lconst (v := (0 : Int64)) hx hb dX6_leads_89 (by decide) ?_
      refine lv_ldc2 hx hb hown t_constantLong_RX6_137_5 dX6_leads_90 ?_
      refine rcSi (As := [.long (cell - cell / (6 : Int32) * (6 : Int32)).toInt64, .long (0 : Int64), .long (5 : Int64)]) (rest := []) ⟨hx, hb, hml, hown, hts⟩ (kX6_in l dC dI cI cJ (cell - cell / (6 : Int32) * (6 : Int32)).toInt64 (0 : Int64) (5 : Int64)) (va_cwS 3 hts gX6_leads_X6_in rfl rfl rfl (by decide +kernel) ⟨Nat.le_of_ble_eq_true rfl, Nat.le_of_ble_eq_true rfl⟩) hK hP hst hS [] rfl rfl hl.1 rfl (Nat.le_of_ble_eq_true rfl) dX6_leads_93 ⟨Nat.zero_le _, Nat.zero_le _⟩ (fun r w_3 => ?_)
      obtain ⟨w_3, nb_4⟩ := w_3; rw [w_3] at nb_4 ⊢
      refine lv_if_eq (tgt := 103) hx hb dX6_leads_96 (by decide) (fun c_96 => ?_) (fun c_96 => ?_)
      · rw [if_pos c_96] at hE
        refine lv_iconst (v := (0 : Int32)) hx hb dX6_leads_103 (by decide) ?_
        refine lv_istore (lv' := [(5, .int (0 : Int32)), (3, .int ((cell / (6 : Int32)) + (-1 : Int32))), (4, .int (cell - cell / (6 : Int32) * (6 : Int32))), (0, .ref (md 0)), (1, .int cell), (2, .int by_)]) hx hb dX6_leads_104 hl (by decide) rfl (fun ls hl => ?_)
        refine lv_iload hx hb dX6_leads_106 (lv_at hl 0 rfl) ?_
        refine lv_if_eq (tgt := 140) hx hb dX6_leads_108 (by decide) (fun c_108 => ?_) (fun c_108 => ?_)
        · have e_108 := congrArg Int32.toInt c_108
          rw [if_pos c_108] at hE
          refine lv_iconst (v := (-1 : Int32)) hx hb dX6_leads_140 (by decide) ?_
          subst hE
          rw [← hQ]
          exact W.iret hx hb hr (fun t ht hW => ⟨_, rfl, rfl, ht⟩) (fun q h => absurd h List.not_mem_nil) dX6_leads_141
        · have e_108 := mt Int32.toInt_inj.mp c_108
          rw [if_neg c_108] at hE
          refine lv_aload_n hx hb dX6_leads_111 rfl (lv_at hl 3 rfl) ?_
          refine va_get (D := (dC, dI)) (ci := 6) (v := .long md_rockBits) (C := RX6) (T := TX6) (N := 30) hx hb hts in_X6 hown hK hP 0 rfl rfl 5 (by decide) t_fieldLink_RX6_105_FourLodgersModel_rockBits_J (fun _ h9 => h9) rfl dX6_leads_112 ?_
          refine lv_bipush (v := (6 : Int32)) hx hb dX6_leads_115 (by decide) ?_
          refine lv_iload_n hx hb dX6_leads_117 rfl (lv_at hl 1 rfl) ?_
          refine lv_imul hx hb dX6_leads_118 ?_
          refine lv_iload hx hb dX6_leads_119 (lv_at hl 2 rfl) ?_
          refine lv_iadd hx hb dX6_leads_121 ?_
          refine lv_lshr hx hb dX6_leads_122 rfl ?_
          refine lv_lconst (v := (1 : Int64)) hx hb dX6_leads_123 (by decide) ?_
          refine lv_land hx hb dX6_leads_124 ?_
          refine lv_lconst (v := (0 : Int64)) hx hb dX6_leads_125 (by decide) ?_
          refine W.lcmp hx hb dX6_leads_126 ?_
          refine lv_if_ne (tgt := 140) hx hb dX6_leads_127 (by decide) (fun c_127 => ?_) (fun c_127 => ?_)
          · replace c_127 : ¬ ((md_rockBits >>> ((((6 : Int32) * ((cell / (6 : Int32)) + (-1 : Int32))) + (cell - cell / (6 : Int32) * (6 : Int32))).toInt64 &&& 63)) &&& (1 : Int64)) = (0 : Int64) := fun q => c_127 ((lg_cmp_eq _ _).mpr q)
            rw [if_neg c_127] at hE
            refine lv_iconst (v := (-1 : Int32)) hx hb dX6_leads_140 (by decide) ?_
            subst hE
            rw [← hQ]
            exact W.iret hx hb hr (fun t ht hW => ⟨_, rfl, rfl, ht⟩) (fun q h => absurd h List.not_mem_nil) dX6_leads_141
          · replace c_127 : ((md_rockBits >>> ((((6 : Int32) * ((cell / (6 : Int32)) + (-1 : Int32))) + (cell - cell / (6 : Int32) * (6 : Int32))).toInt64 &&& 63)) &&& (1 : Int64)) = (0 : Int64) := (lg_cmp_eq _ _).mp c_127
            rw [if_pos c_127] at hE
            refine lv_bipush (v := (6 : Int32)) hx hb dX6_leads_130 (by decide) ?_
            refine lv_iload_n hx hb dX6_leads_132 rfl (lv_at hl 1 rfl) ?_
            refine lv_imul hx hb dX6_leads_133 ?_
            refine lv_iload hx hb dX6_leads_134 (lv_at hl 2 rfl) ?_
            refine lv_iadd hx hb dX6_leads_136 ?_
            refine lv_goto (tgt := 141) hx hb dX6_leads_137 (by decide) ?_
            subst hE
            rw [← hQ]
            exact W.iret hx hb hr (fun t ht hW => ⟨_, rfl, rfl, ht⟩) (fun q h => absurd h List.not_mem_nil) dX6_leads_141
      · rw [if_neg c_96] at hE
        refine lv_iconst (v := (1 : Int32)) hx hb dX6_leads_99 (by decide) ?_
        refine lv_goto (tgt := 104) hx hb dX6_leads_100 (by decide) ?_
        refine lv_istore (lv' := [(5, .int (1 : Int32)), (3, .int ((cell / (6 : Int32)) + (-1 : Int32))), (4, .int (cell - cell / (6 : Int32) * (6 : Int32))), (0, .ref (md 0)), (1, .int cell), (2, .int by_)]) hx hb dX6_leads_104 hl (by decide) rfl (fun ls hl => ?_)
        refine lv_iload hx hb dX6_leads_106 (lv_at hl 0 rfl) ?_
        refine lv_if_eq (tgt := 140) hx hb dX6_leads_108 (by decide) (fun c_108 => ?_) (fun c_108 => ?_)
        · have e_108 := congrArg Int32.toInt c_108
          rw [if_pos c_108] at hE
          refine lv_iconst (v := (-1 : Int32)) hx hb dX6_leads_140 (by decide) ?_
          subst hE
          rw [← hQ]
          exact W.iret hx hb hr (fun t ht hW => ⟨_, rfl, rfl, ht⟩) (fun q h => absurd h List.not_mem_nil) dX6_leads_141
        · have e_108 := mt Int32.toInt_inj.mp c_108
          rw [if_neg c_108] at hE
          refine lv_aload_n hx hb dX6_leads_111 rfl (lv_at hl 3 rfl) ?_
          refine va_get (D := (dC, dI)) (ci := 6) (v := .long md_rockBits) (C := RX6) (T := TX6) (N := 30) hx hb hts in_X6 hown hK hP 0 rfl rfl 5 (by decide) t_fieldLink_RX6_105_FourLodgersModel_rockBits_J (fun _ h9 => h9) rfl dX6_leads_112 ?_
          refine lv_bipush (v := (6 : Int32)) hx hb dX6_leads_115 (by decide) ?_
          refine lv_iload_n hx hb dX6_leads_117 rfl (lv_at hl 1 rfl) ?_
          refine lv_imul hx hb dX6_leads_118 ?_
          refine lv_iload hx hb dX6_leads_119 (lv_at hl 2 rfl) ?_
          refine lv_iadd hx hb dX6_leads_121 ?_
          refine lv_lshr hx hb dX6_leads_122 rfl ?_
          refine lv_lconst (v := (1 : Int64)) hx hb dX6_leads_123 (by decide) ?_
          refine lv_land hx hb dX6_leads_124 ?_
          refine lv_lconst (v := (0 : Int64)) hx hb dX6_leads_125 (by decide) ?_
          refine W.lcmp hx hb dX6_leads_126 ?_
          refine lv_if_ne (tgt := 140) hx hb dX6_leads_127 (by decide) (fun c_127 => ?_) (fun c_127 => ?_)
          · replace c_127 : ¬ ((md_rockBits >>> ((((6 : Int32) * ((cell / (6 : Int32)) + (-1 : Int32))) + (cell - cell / (6 : Int32) * (6 : Int32))).toInt64 &&& 63)) &&& (1 : Int64)) = (0 : Int64) := fun q => c_127 ((lg_cmp_eq _ _).mpr q)
            rw [if_neg c_127] at hE
            refine lv_iconst (v := (-1 : Int32)) hx hb dX6_leads_140 (by decide) ?_
            subst hE
            rw [← hQ]
            exact W.iret hx hb hr (fun t ht hW => ⟨_, rfl, rfl, ht⟩) (fun q h => absurd h List.not_mem_nil) dX6_leads_141
          · replace c_127 : ((md_rockBits >>> ((((6 : Int32) * ((cell / (6 : Int32)) + (-1 : Int32))) + (cell - cell / (6 : Int32) * (6 : Int32))).toInt64 &&& 63)) &&& (1 : Int64)) = (0 : Int64) := (lg_cmp_eq _ _).mp c_127
            rw [if_pos c_127] at hE
            refine lv_bipush (v := (6 : Int32)) hx hb dX6_leads_130 (by decide) ?_
            refine lv_iload_n hx hb dX6_leads_132 rfl (lv_at hl 1 rfl) ?_
            refine lv_imul hx hb dX6_leads_133 ?_
            refine lv_iload hx hb dX6_leads_134 (lv_at hl 2 rfl) ?_
            refine lv_iadd hx hb dX6_leads_136 ?_
            refine lv_goto (tgt := 141) hx hb dX6_leads_137 (by decide) ?_
            subst hE
            rw [← hQ]
            exact W.iret hx hb hr (fun t ht hW => ⟨_, rfl, rfl, ht⟩) (fun q h => absurd h List.not_mem_nil) dX6_leads_141
  · rw [if_neg c_12_0] at hE
    have e_12_0 := mt Int32.toInt_inj.mp c_12_0
    by_cases c_12_1 : by_ = (1 : Int32)
    · have e_12_1 := congrArg Int32.toInt c_12_1
      rw [if_pos c_12_1] at hE
      refine lv_tableIn (off := 38) (tgt := 50) hx hb dX6_leads_12 (by rw [c_12_1]; decide) (by rw [c_12_1]; decide) (by rw [c_12_1]; rfl) (by decide) ?_
      refine lv_iinc (v := ((cell - cell / (6 : Int32) * (6 : Int32)) + (1 : Int32))) (lv' := [(4, .int ((cell - cell / (6 : Int32) * (6 : Int32)) + (1 : Int32))), (3, .int (cell / (6 : Int32))), (0, .ref (md 0)), (1, .int cell), (2, .int by_)]) hx hb dX6_leads_50 hl (k := 0) rfl rfl (by decide) rfl (fun ls hl => ?_)
      refine lv_goto (tgt := 74) hx hb dX6_leads_53 (by decide) ?_
      refine lv_iload_n hx hb dX6_leads_74 rfl (lv_at hl 1 rfl) ?_
      refine lv_i2l hx hb dX6_leads_75 rfl ?_
      refine lv_lconst (v := (0 : Int64)) hx hb dX6_leads_76 (by decide) ?_
      refine lv_ldc2 hx hb hown t_constantLong_RX6_137_5 dX6_leads_77 ?_
      refine rcSi (As := [.long (cell / (6 : Int32)).toInt64, .long (0 : Int64), .long (5 : Int64)]) (rest := []) ⟨hx, hb, hml, hown, hts⟩ (kX6_in l dC dI cI cJ (cell / (6 : Int32)).toInt64 (0 : Int64) (5 : Int64)) (va_cwS 3 hts gX6_leads_X6_in rfl rfl rfl (by decide +kernel) ⟨Nat.le_of_ble_eq_true rfl, Nat.le_of_ble_eq_true rfl⟩) hK hP hst hS [] rfl rfl hl.1 rfl (Nat.le_of_ble_eq_true rfl) dX6_leads_80 ⟨Nat.zero_le _, Nat.zero_le _⟩ (fun r w_5 => ?_)
      obtain ⟨w_5, nb_6⟩ := w_5; rw [w_5] at nb_6 ⊢
      refine lv_if_eq (tgt := 103) hx hb dX6_leads_83 (by decide) (fun c_83 => ?_) (fun c_83 => ?_)
      · rw [if_pos c_83] at hE
        refine lv_iconst (v := (0 : Int32)) hx hb dX6_leads_103 (by decide) ?_
        refine lv_istore (lv' := [(5, .int (0 : Int32)), (4, .int ((cell - cell / (6 : Int32) * (6 : Int32)) + (1 : Int32))), (3, .int (cell / (6 : Int32))), (0, .ref (md 0)), (1, .int cell), (2, .int by_)]) hx hb dX6_leads_104 hl (by decide) rfl (fun ls hl => ?_)
        refine lv_iload hx hb dX6_leads_106 (lv_at hl 0 rfl) ?_
        refine lv_if_eq (tgt := 140) hx hb dX6_leads_108 (by decide) (fun c_108 => ?_) (fun c_108 => ?_)
        · have e_108 := congrArg Int32.toInt c_108
          rw [if_pos c_108] at hE
          refine lv_iconst (v := (-1 : Int32)) hx hb dX6_leads_140 (by decide) ?_
          subst hE
          rw [← hQ]
          exact W.iret hx hb hr (fun t ht hW => ⟨_, rfl, rfl, ht⟩) (fun q h => absurd h List.not_mem_nil) dX6_leads_141
        · have e_108 := mt Int32.toInt_inj.mp c_108
          rw [if_neg c_108] at hE
          refine lv_aload_n hx hb dX6_leads_111 rfl (lv_at hl 3 rfl) ?_
          refine va_get (D := (dC, dI)) (ci := 6) (v := .long md_rockBits) (C := RX6) (T := TX6) (N := 30) hx hb hts in_X6 hown hK hP 0 rfl rfl 5 (by decide) t_fieldLink_RX6_105_FourLodgersModel_rockBits_J (fun _ h9 => h9) rfl dX6_leads_112 ?_
          refine lv_bipush (v := (6 : Int32)) hx hb dX6_leads_115 (by decide) ?_
          refine lv_iload_n hx hb dX6_leads_117 rfl (lv_at hl 2 rfl) ?_
          refine lv_imul hx hb dX6_leads_118 ?_
          refine lv_iload hx hb dX6_leads_119 (lv_at hl 1 rfl) ?_
          refine lv_iadd hx hb dX6_leads_121 ?_
          refine lv_lshr hx hb dX6_leads_122 rfl ?_
          refine lv_lconst (v := (1 : Int64)) hx hb dX6_leads_123 (by decide) ?_
          refine lv_land hx hb dX6_leads_124 ?_
          refine lv_lconst (v := (0 : Int64)) hx hb dX6_leads_125 (by decide) ?_
          refine W.lcmp hx hb dX6_leads_126 ?_
          refine lv_if_ne (tgt := 140) hx hb dX6_leads_127 (by decide) (fun c_127 => ?_) (fun c_127 => ?_)
          · replace c_127 : ¬ ((md_rockBits >>> ((((6 : Int32) * (cell / (6 : Int32))) + ((cell - cell / (6 : Int32) * (6 : Int32)) + (1 : Int32))).toInt64 &&& 63)) &&& (1 : Int64)) = (0 : Int64) := fun q => c_127 ((lg_cmp_eq _ _).mpr q)
            rw [if_neg c_127] at hE
            refine lv_iconst (v := (-1 : Int32)) hx hb dX6_leads_140 (by decide) ?_
            subst hE
            rw [← hQ]
            exact W.iret hx hb hr (fun t ht hW => ⟨_, rfl, rfl, ht⟩) (fun q h => absurd h List.not_mem_nil) dX6_leads_141
          · replace c_127 : ((md_rockBits >>> ((((6 : Int32) * (cell / (6 : Int32))) + ((cell - cell / (6 : Int32) * (6 : Int32)) + (1 : Int32))).toInt64 &&& 63)) &&& (1 : Int64)) = (0 : Int64) := (lg_cmp_eq _ _).mp c_127
            rw [if_pos c_127] at hE
            refine lv_bipush (v := (6 : Int32)) hx hb dX6_leads_130 (by decide) ?_
            refine lv_iload_n hx hb dX6_leads_132 rfl (lv_at hl 2 rfl) ?_
            refine lv_imul hx hb dX6_leads_133 ?_
            refine lv_iload hx hb dX6_leads_134 (lv_at hl 1 rfl) ?_
            refine lv_iadd hx hb dX6_leads_136 ?_
            refine lv_goto (tgt := 141) hx hb dX6_leads_137 (by decide) ?_
            subst hE
            rw [← hQ]
            exact W.iret hx hb hr (fun t ht hW => ⟨_, rfl, rfl, ht⟩) (fun q h => absurd h List.not_mem_nil) dX6_leads_141
      · rw [if_neg c_83] at hE
        refine lv_iload hx hb dX6_leads_86 (lv_at hl 0 rfl) ?_
        refine lv_i2l hx hb dX6_leads_88 rfl ?_
        refine lv_lconst (v := (0 : Int64)) hx hb dX6_leads_89 (by decide) ?_
        refine lv_ldc2 hx hb hown t_constantLong_RX6_137_5 dX6_leads_90 ?_
        refine rcSi (As := [.long ((cell - cell / (6 : Int32) * (6 : Int32)) + (1 : Int32)).toInt64, .long (0 : Int64), .long (5 : Int64)]) (rest := []) ⟨hx, hb, hml, hown, hts⟩ (kX6_in l dC dI cI cJ ((cell - cell / (6 : Int32) * (6 : Int32)) + (1 : Int32)).toInt64 (0 : Int64) (5 : Int64)) (va_cwS 3 hts gX6_leads_X6_in rfl rfl rfl (by decide +kernel) ⟨Nat.le_of_ble_eq_true rfl, Nat.le_of_ble_eq_true rfl⟩) hK hP hst hS [] rfl rfl hl.1 rfl (Nat.le_of_ble_eq_true rfl) dX6_leads_93 ⟨Nat.zero_le _, Nat.zero_le _⟩ (fun r w_7 => ?_)
        obtain ⟨w_7, nb_8⟩ := w_7; rw [w_7] at nb_8 ⊢
        refine lv_if_eq (tgt := 103) hx hb dX6_leads_96 (by decide) (fun c_96 => ?_) (fun c_96 => ?_)
        · rw [if_pos c_96] at hE
          refine lv_iconst (v := (0 : Int32)) hx hb dX6_leads_103 (by decide) ?_
          refine lv_istore (lv' := [(5, .int (0 : Int32)), (4, .int ((cell - cell / (6 : Int32) * (6 : Int32)) + (1 : Int32))), (3, .int (cell / (6 : Int32))), (0, .ref (md 0)), (1, .int cell), (2, .int by_)]) hx hb dX6_leads_104 hl (by decide) rfl (fun ls hl => ?_)
          refine lv_iload hx hb dX6_leads_106 (lv_at hl 0 rfl) ?_
          refine lv_if_eq (tgt := 140) hx hb dX6_leads_108 (by decide) (fun c_108 => ?_) (fun c_108 => ?_)
          · have e_108 := congrArg Int32.toInt c_108
            rw [if_pos c_108] at hE
            refine lv_iconst (v := (-1 : Int32)) hx hb dX6_leads_140 (by decide) ?_
            subst hE
            rw [← hQ]
            exact W.iret hx hb hr (fun t ht hW => ⟨_, rfl, rfl, ht⟩) (fun q h => absurd h List.not_mem_nil) dX6_leads_141
          · have e_108 := mt Int32.toInt_inj.mp c_108
            rw [if_neg c_108] at hE
            refine lv_aload_n hx hb dX6_leads_111 rfl (lv_at hl 3 rfl) ?_
            refine va_get (D := (dC, dI)) (ci := 6) (v := .long md_rockBits) (C := RX6) (T := TX6) (N := 30) hx hb hts in_X6 hown hK hP 0 rfl rfl 5 (by decide) t_fieldLink_RX6_105_FourLodgersModel_rockBits_J (fun _ h9 => h9) rfl dX6_leads_112 ?_
            refine lv_bipush (v := (6 : Int32)) hx hb dX6_leads_115 (by decide) ?_
            refine lv_iload_n hx hb dX6_leads_117 rfl (lv_at hl 2 rfl) ?_
            refine lv_imul hx hb dX6_leads_118 ?_
            refine lv_iload hx hb dX6_leads_119 (lv_at hl 1 rfl) ?_
            refine lv_iadd hx hb dX6_leads_121 ?_
            refine lv_lshr hx hb dX6_leads_122 rfl ?_
            refine lv_lconst (v := (1 : Int64)) hx hb dX6_leads_123 (by decide) ?_
            refine lv_land hx hb dX6_leads_124 ?_
            refine lv_lconst (v := (0 : Int64)) hx hb dX6_leads_125 (by decide) ?_
            refine W.lcmp hx hb dX6_leads_126 ?_
            refine lv_if_ne (tgt := 140) hx hb dX6_leads_127 (by decide) (fun c_127 => ?_) (fun c_127 => ?_)
            · replace c_127 : ¬ ((md_rockBits >>> ((((6 : Int32) * (cell / (6 : Int32))) + ((cell - cell / (6 : Int32) * (6 : Int32)) + (1 : Int32))).toInt64 &&& 63)) &&& (1 : Int64)) = (0 : Int64) := fun q => c_127 ((lg_cmp_eq _ _).mpr q)
              rw [if_neg c_127] at hE
              refine lv_iconst (v := (-1 : Int32)) hx hb dX6_leads_140 (by decide) ?_
              subst hE
              rw [← hQ]
              exact W.iret hx hb hr (fun t ht hW => ⟨_, rfl, rfl, ht⟩) (fun q h => absurd h List.not_mem_nil) dX6_leads_141
            · replace c_127 : ((md_rockBits >>> ((((6 : Int32) * (cell / (6 : Int32))) + ((cell - cell / (6 : Int32) * (6 : Int32)) + (1 : Int32))).toInt64 &&& 63)) &&& (1 : Int64)) = (0 : Int64) := (lg_cmp_eq _ _).mp c_127
              rw [if_pos c_127] at hE
              refine lv_bipush (v := (6 : Int32)) hx hb dX6_leads_130 (by decide) ?_
              refine lv_iload_n hx hb dX6_leads_132 rfl (lv_at hl 2 rfl) ?_
              refine lv_imul hx hb dX6_leads_133 ?_
              refine lv_iload hx hb dX6_leads_134 (lv_at hl 1 rfl) ?_
              refine lv_iadd hx hb dX6_leads_136 ?_
              refine lv_goto (tgt := 141) hx hb dX6_leads_137 (by decide) ?_
              subst hE
              rw [← hQ]
              exact W.iret hx hb hr (fun t ht hW => ⟨_, rfl, rfl, ht⟩) (fun q h => absurd h List.not_mem_nil) dX6_leads_141
        · rw [if_neg c_96] at hE
          refine lv_iconst (v := (1 : Int32)) hx hb dX6_leads_99 (by decide) ?_
          refine lv_goto (tgt := 104) hx hb dX6_leads_100 (by decide) ?_
          refine lv_istore (lv' := [(5, .int (1 : Int32)), (4, .int ((cell - cell / (6 : Int32) * (6 : Int32)) + (1 : Int32))), (3, .int (cell / (6 : Int32))), (0, .ref (md 0)), (1, .int cell), (2, .int by_)]) hx hb dX6_leads_104 hl (by decide) rfl (fun ls hl => ?_)
          refine lv_iload hx hb dX6_leads_106 (lv_at hl 0 rfl) ?_
          refine lv_if_eq (tgt := 140) hx hb dX6_leads_108 (by decide) (fun c_108 => ?_) (fun c_108 => ?_)
          · have e_108 := congrArg Int32.toInt c_108
            rw [if_pos c_108] at hE
            refine lv_iconst (v := (-1 : Int32)) hx hb dX6_leads_140 (by decide) ?_
            subst hE
            rw [← hQ]
            exact W.iret hx hb hr (fun t ht hW => ⟨_, rfl, rfl, ht⟩) (fun q h => absurd h List.not_mem_nil) dX6_leads_141
          · have e_108 := mt Int32.toInt_inj.mp c_108
            rw [if_neg c_108] at hE
            refine lv_aload_n hx hb dX6_leads_111 rfl (lv_at hl 3 rfl) ?_
            refine va_get (D := (dC, dI)) (ci := 6) (v := .long md_rockBits) (C := RX6) (T := TX6) (N := 30) hx hb hts in_X6 hown hK hP 0 rfl rfl 5 (by decide) t_fieldLink_RX6_105_FourLodgersModel_rockBits_J (fun _ h9 => h9) rfl dX6_leads_112 ?_
            refine lv_bipush (v := (6 : Int32)) hx hb dX6_leads_115 (by decide) ?_
            refine lv_iload_n hx hb dX6_leads_117 rfl (lv_at hl 2 rfl) ?_
            refine lv_imul hx hb dX6_leads_118 ?_
            refine lv_iload hx hb dX6_leads_119 (lv_at hl 1 rfl) ?_
            refine lv_iadd hx hb dX6_leads_121 ?_
            refine lv_lshr hx hb dX6_leads_122 rfl ?_
            refine lv_lconst (v := (1 : Int64)) hx hb dX6_leads_123 (by decide) ?_
            refine lv_land hx hb dX6_leads_124 ?_
            refine lv_lconst (v := (0 : Int64)) hx hb dX6_leads_125 (by decide) ?_
            refine W.lcmp hx hb dX6_leads_126 ?_
            refine lv_if_ne (tgt := 140) hx hb dX6_leads_127 (by decide) (fun c_127 => ?_) (fun c_127 => ?_)
            · replace c_127 : ¬ ((md_rockBits >>> ((((6 : Int32) * (cell / (6 : Int32))) + ((cell - cell / (6 : Int32) * (6 : Int32)) + (1 : Int32))).toInt64 &&& 63)) &&& (1 : Int64)) = (0 : Int64) := fun q => c_127 ((lg_cmp_eq _ _).mpr q)
              rw [if_neg c_127] at hE
              refine lv_iconst (v := (-1 : Int32)) hx hb dX6_leads_140 (by decide) ?_
              subst hE
              rw [← hQ]
              exact W.iret hx hb hr (fun t ht hW => ⟨_, rfl, rfl, ht⟩) (fun q h => absurd h List.not_mem_nil) dX6_leads_141
            · replace c_127 : ((md_rockBits >>> ((((6 : Int32) * (cell / (6 : Int32))) + ((cell - cell / (6 : Int32) * (6 : Int32)) + (1 : Int32))).toInt64 &&& 63)) &&& (1 : Int64)) = (0 : Int64) := (lg_cmp_eq _ _).mp c_127
              rw [if_pos c_127] at hE
              refine lv_bipush (v := (6 : Int32)) hx hb dX6_leads_130 (by decide) ?_
              refine lv_iload_n hx hb dX6_leads_132 rfl (lv_at hl 2 rfl) ?_
              refine lv_imul hx hb dX6_leads_133 ?_
              refine lv_iload hx hb dX6_leads_134 (lv_at hl 1 rfl) ?_
              refine lv_iadd hx hb dX6_leads_136 ?_
              refine lv_goto (tgt := 141) hx hb dX6_leads_137 (by decide) ?_
              subst hE
              rw [← hQ]
              exact W.iret hx hb hr (fun t ht hW => ⟨_, rfl, rfl, ht⟩) (fun q h => absurd h List.not_mem_nil) dX6_leads_141
    · rw [if_neg c_12_1] at hE
      have e_12_1 := mt Int32.toInt_inj.mp c_12_1
      by_cases c_12_2 : by_ = (2 : Int32)
      · have e_12_2 := congrArg Int32.toInt c_12_2
        rw [if_pos c_12_2] at hE
        refine lv_tableIn (off := 44) (tgt := 56) hx hb dX6_leads_12 (by rw [c_12_2]; decide) (by rw [c_12_2]; decide) (by rw [c_12_2]; rfl) (by decide) ?_
        refine lv_iinc (v := ((cell / (6 : Int32)) + (1 : Int32))) (lv' := [(3, .int ((cell / (6 : Int32)) + (1 : Int32))), (4, .int (cell - cell / (6 : Int32) * (6 : Int32))), (0, .ref (md 0)), (1, .int cell), (2, .int by_)]) hx hb dX6_leads_56 hl (k := 1) rfl rfl (by decide) rfl (fun ls hl => ?_)
        refine lv_goto (tgt := 74) hx hb dX6_leads_59 (by decide) ?_
        refine lv_iload_n hx hb dX6_leads_74 rfl (lv_at hl 0 rfl) ?_
        refine lv_i2l hx hb dX6_leads_75 rfl ?_
        refine lv_lconst (v := (0 : Int64)) hx hb dX6_leads_76 (by decide) ?_
        refine lv_ldc2 hx hb hown t_constantLong_RX6_137_5 dX6_leads_77 ?_
        refine rcSi (As := [.long ((cell / (6 : Int32)) + (1 : Int32)).toInt64, .long (0 : Int64), .long (5 : Int64)]) (rest := []) ⟨hx, hb, hml, hown, hts⟩ (kX6_in l dC dI cI cJ ((cell / (6 : Int32)) + (1 : Int32)).toInt64 (0 : Int64) (5 : Int64)) (va_cwS 3 hts gX6_leads_X6_in rfl rfl rfl (by decide +kernel) ⟨Nat.le_of_ble_eq_true rfl, Nat.le_of_ble_eq_true rfl⟩) hK hP hst hS [] rfl rfl hl.1 rfl (Nat.le_of_ble_eq_true rfl) dX6_leads_80 ⟨Nat.zero_le _, Nat.zero_le _⟩ (fun r w_9 => ?_)
        obtain ⟨w_9, nb_10⟩ := w_9; rw [w_9] at nb_10 ⊢
        refine lv_if_eq (tgt := 103) hx hb dX6_leads_83 (by decide) (fun c_83 => ?_) (fun c_83 => ?_)
        · rw [if_pos c_83] at hE
          refine lv_iconst (v := (0 : Int32)) hx hb dX6_leads_103 (by decide) ?_
          refine lv_istore (lv' := [(5, .int (0 : Int32)), (3, .int ((cell / (6 : Int32)) + (1 : Int32))), (4, .int (cell - cell / (6 : Int32) * (6 : Int32))), (0, .ref (md 0)), (1, .int cell), (2, .int by_)]) hx hb dX6_leads_104 hl (by decide) rfl (fun ls hl => ?_)
          refine lv_iload hx hb dX6_leads_106 (lv_at hl 0 rfl) ?_
          refine lv_if_eq (tgt := 140) hx hb dX6_leads_108 (by decide) (fun c_108 => ?_) (fun c_108 => ?_)
          · have e_108 := congrArg Int32.toInt c_108
            rw [if_pos c_108] at hE
            refine lv_iconst (v := (-1 : Int32)) hx hb dX6_leads_140 (by decide) ?_
            subst hE
            rw [← hQ]
            exact W.iret hx hb hr (fun t ht hW => ⟨_, rfl, rfl, ht⟩) (fun q h => absurd h List.not_mem_nil) dX6_leads_141
          · have e_108 := mt Int32.toInt_inj.mp c_108
            rw [if_neg c_108] at hE
            refine lv_aload_n hx hb dX6_leads_111 rfl (lv_at hl 3 rfl) ?_
            refine va_get (D := (dC, dI)) (ci := 6) (v := .long md_rockBits) (C := RX6) (T := TX6) (N := 30) hx hb hts in_X6 hown hK hP 0 rfl rfl 5 (by decide) t_fieldLink_RX6_105_FourLodgersModel_rockBits_J (fun _ h9 => h9) rfl dX6_leads_112 ?_
            refine lv_bipush (v := (6 : Int32)) hx hb dX6_leads_115 (by decide) ?_
            refine lv_iload_n hx hb dX6_leads_117 rfl (lv_at hl 1 rfl) ?_
            refine lv_imul hx hb dX6_leads_118 ?_
            refine lv_iload hx hb dX6_leads_119 (lv_at hl 2 rfl) ?_
            refine lv_iadd hx hb dX6_leads_121 ?_
            refine lv_lshr hx hb dX6_leads_122 rfl ?_
            refine lv_lconst (v := (1 : Int64)) hx hb dX6_leads_123 (by decide) ?_
            refine lv_land hx hb dX6_leads_124 ?_
            refine lv_lconst (v := (0 : Int64)) hx hb dX6_leads_125 (by decide) ?_
            refine W.lcmp hx hb dX6_leads_126 ?_
            refine lv_if_ne (tgt := 140) hx hb dX6_leads_127 (by decide) (fun c_127 => ?_) (fun c_127 => ?_)
            · replace c_127 : ¬ ((md_rockBits >>> ((((6 : Int32) * ((cell / (6 : Int32)) + (1 : Int32))) + (cell - cell / (6 : Int32) * (6 : Int32))).toInt64 &&& 63)) &&& (1 : Int64)) = (0 : Int64) := fun q => c_127 ((lg_cmp_eq _ _).mpr q)
              rw [if_neg c_127] at hE
              refine lv_iconst (v := (-1 : Int32)) hx hb dX6_leads_140 (by decide) ?_
              subst hE
              rw [← hQ]
              exact W.iret hx hb hr (fun t ht hW => ⟨_, rfl, rfl, ht⟩) (fun q h => absurd h List.not_mem_nil) dX6_leads_141
            · replace c_127 : ((md_rockBits >>> ((((6 : Int32) * ((cell / (6 : Int32)) + (1 : Int32))) + (cell - cell / (6 : Int32) * (6 : Int32))).toInt64 &&& 63)) &&& (1 : Int64)) = (0 : Int64) := (lg_cmp_eq _ _).mp c_127
              rw [if_pos c_127] at hE
              refine lv_bipush (v := (6 : Int32)) hx hb dX6_leads_130 (by decide) ?_
              refine lv_iload_n hx hb dX6_leads_132 rfl (lv_at hl 1 rfl) ?_
              refine lv_imul hx hb dX6_leads_133 ?_
              refine lv_iload hx hb dX6_leads_134 (lv_at hl 2 rfl) ?_
              refine lv_iadd hx hb dX6_leads_136 ?_
              refine lv_goto (tgt := 141) hx hb dX6_leads_137 (by decide) ?_
              subst hE
              rw [← hQ]
              exact W.iret hx hb hr (fun t ht hW => ⟨_, rfl, rfl, ht⟩) (fun q h => absurd h List.not_mem_nil) dX6_leads_141
        · rw [if_neg c_83] at hE
          refine lv_iload hx hb dX6_leads_86 (lv_at hl 1 rfl) ?_
          refine lv_i2l hx hb dX6_leads_88 rfl ?_
          refine lv_lconst (v := (0 : Int64)) hx hb dX6_leads_89 (by decide) ?_
          refine lv_ldc2 hx hb hown t_constantLong_RX6_137_5 dX6_leads_90 ?_
          refine rcSi (As := [.long (cell - cell / (6 : Int32) * (6 : Int32)).toInt64, .long (0 : Int64), .long (5 : Int64)]) (rest := []) ⟨hx, hb, hml, hown, hts⟩ (kX6_in l dC dI cI cJ (cell - cell / (6 : Int32) * (6 : Int32)).toInt64 (0 : Int64) (5 : Int64)) (va_cwS 3 hts gX6_leads_X6_in rfl rfl rfl (by decide +kernel) ⟨Nat.le_of_ble_eq_true rfl, Nat.le_of_ble_eq_true rfl⟩) hK hP hst hS [] rfl rfl hl.1 rfl (Nat.le_of_ble_eq_true rfl) dX6_leads_93 ⟨Nat.zero_le _, Nat.zero_le _⟩ (fun r w_11 => ?_)
          obtain ⟨w_11, nb_12⟩ := w_11; rw [w_11] at nb_12 ⊢
          refine lv_if_eq (tgt := 103) hx hb dX6_leads_96 (by decide) (fun c_96 => ?_) (fun c_96 => ?_)
          · rw [if_pos c_96] at hE
            refine lv_iconst (v := (0 : Int32)) hx hb dX6_leads_103 (by decide) ?_
            refine lv_istore (lv' := [(5, .int (0 : Int32)), (3, .int ((cell / (6 : Int32)) + (1 : Int32))), (4, .int (cell - cell / (6 : Int32) * (6 : Int32))), (0, .ref (md 0)), (1, .int cell), (2, .int by_)]) hx hb dX6_leads_104 hl (by decide) rfl (fun ls hl => ?_)
            refine lv_iload hx hb dX6_leads_106 (lv_at hl 0 rfl) ?_
            refine lv_if_eq (tgt := 140) hx hb dX6_leads_108 (by decide) (fun c_108 => ?_) (fun c_108 => ?_)
            · have e_108 := congrArg Int32.toInt c_108
              rw [if_pos c_108] at hE
              refine lv_iconst (v := (-1 : Int32)) hx hb dX6_leads_140 (by decide) ?_
              subst hE
              rw [← hQ]
              exact W.iret hx hb hr (fun t ht hW => ⟨_, rfl, rfl, ht⟩) (fun q h => absurd h List.not_mem_nil) dX6_leads_141
            · have e_108 := mt Int32.toInt_inj.mp c_108
              rw [if_neg c_108] at hE
              refine lv_aload_n hx hb dX6_leads_111 rfl (lv_at hl 3 rfl) ?_
              refine va_get (D := (dC, dI)) (ci := 6) (v := .long md_rockBits) (C := RX6) (T := TX6) (N := 30) hx hb hts in_X6 hown hK hP 0 rfl rfl 5 (by decide) t_fieldLink_RX6_105_FourLodgersModel_rockBits_J (fun _ h9 => h9) rfl dX6_leads_112 ?_
              refine lv_bipush (v := (6 : Int32)) hx hb dX6_leads_115 (by decide) ?_
              refine lv_iload_n hx hb dX6_leads_117 rfl (lv_at hl 1 rfl) ?_
              refine lv_imul hx hb dX6_leads_118 ?_
              refine lv_iload hx hb dX6_leads_119 (lv_at hl 2 rfl) ?_
              refine lv_iadd hx hb dX6_leads_121 ?_
              refine lv_lshr hx hb dX6_leads_122 rfl ?_
              refine lv_lconst (v := (1 : Int64)) hx hb dX6_leads_123 (by decide) ?_
              refine lv_land hx hb dX6_leads_124 ?_
              refine lv_lconst (v := (0 : Int64)) hx hb dX6_leads_125 (by decide) ?_
              refine W.lcmp hx hb dX6_leads_126 ?_
              refine lv_if_ne (tgt := 140) hx hb dX6_leads_127 (by decide) (fun c_127 => ?_) (fun c_127 => ?_)
              · replace c_127 : ¬ ((md_rockBits >>> ((((6 : Int32) * ((cell / (6 : Int32)) + (1 : Int32))) + (cell - cell / (6 : Int32) * (6 : Int32))).toInt64 &&& 63)) &&& (1 : Int64)) = (0 : Int64) := fun q => c_127 ((lg_cmp_eq _ _).mpr q)
                rw [if_neg c_127] at hE
                refine lv_iconst (v := (-1 : Int32)) hx hb dX6_leads_140 (by decide) ?_
                subst hE
                rw [← hQ]
                exact W.iret hx hb hr (fun t ht hW => ⟨_, rfl, rfl, ht⟩) (fun q h => absurd h List.not_mem_nil) dX6_leads_141
              · replace c_127 : ((md_rockBits >>> ((((6 : Int32) * ((cell / (6 : Int32)) + (1 : Int32))) + (cell - cell / (6 : Int32) * (6 : Int32))).toInt64 &&& 63)) &&& (1 : Int64)) = (0 : Int64) := (lg_cmp_eq _ _).mp c_127
                rw [if_pos c_127] at hE
                refine lv_bipush (v := (6 : Int32)) hx hb dX6_leads_130 (by decide) ?_
                refine lv_iload_n hx hb dX6_leads_132 rfl (lv_at hl 1 rfl) ?_
                refine lv_imul hx hb dX6_leads_133 ?_
                refine lv_iload hx hb dX6_leads_134 (lv_at hl 2 rfl) ?_
                refine lv_iadd hx hb dX6_leads_136 ?_
                refine lv_goto (tgt := 141) hx hb dX6_leads_137 (by decide) ?_
                subst hE
                rw [← hQ]
                exact W.iret hx hb hr (fun t ht hW => ⟨_, rfl, rfl, ht⟩) (fun q h => absurd h List.not_mem_nil) dX6_leads_141
          · rw [if_neg c_96] at hE
            refine lv_iconst (v := (1 : Int32)) hx hb dX6_leads_99 (by decide) ?_
            refine lv_goto (tgt := 104) hx hb dX6_leads_100 (by decide) ?_
            refine lv_istore (lv' := [(5, .int (1 : Int32)), (3, .int ((cell / (6 : Int32)) + (1 : Int32))), (4, .int (cell - cell / (6 : Int32) * (6 : Int32))), (0, .ref (md 0)), (1, .int cell), (2, .int by_)]) hx hb dX6_leads_104 hl (by decide) rfl (fun ls hl => ?_)
            refine lv_iload hx hb dX6_leads_106 (lv_at hl 0 rfl) ?_
            refine lv_if_eq (tgt := 140) hx hb dX6_leads_108 (by decide) (fun c_108 => ?_) (fun c_108 => ?_)
            · have e_108 := congrArg Int32.toInt c_108
              rw [if_pos c_108] at hE
              refine lv_iconst (v := (-1 : Int32)) hx hb dX6_leads_140 (by decide) ?_
              subst hE
              rw [← hQ]
              exact W.iret hx hb hr (fun t ht hW => ⟨_, rfl, rfl, ht⟩) (fun q h => absurd h List.not_mem_nil) dX6_leads_141
            · have e_108 := mt Int32.toInt_inj.mp c_108
              rw [if_neg c_108] at hE
              refine lv_aload_n hx hb dX6_leads_111 rfl (lv_at hl 3 rfl) ?_
              refine va_get (D := (dC, dI)) (ci := 6) (v := .long md_rockBits) (C := RX6) (T := TX6) (N := 30) hx hb hts in_X6 hown hK hP 0 rfl rfl 5 (by decide) t_fieldLink_RX6_105_FourLodgersModel_rockBits_J (fun _ h9 => h9) rfl dX6_leads_112 ?_
              refine lv_bipush (v := (6 : Int32)) hx hb dX6_leads_115 (by decide) ?_
              refine lv_iload_n hx hb dX6_leads_117 rfl (lv_at hl 1 rfl) ?_
              refine lv_imul hx hb dX6_leads_118 ?_
              refine lv_iload hx hb dX6_leads_119 (lv_at hl 2 rfl) ?_
              refine lv_iadd hx hb dX6_leads_121 ?_
              refine lv_lshr hx hb dX6_leads_122 rfl ?_
              refine lv_lconst (v := (1 : Int64)) hx hb dX6_leads_123 (by decide) ?_
              refine lv_land hx hb dX6_leads_124 ?_
              refine lv_lconst (v := (0 : Int64)) hx hb dX6_leads_125 (by decide) ?_
              refine W.lcmp hx hb dX6_leads_126 ?_
              refine lv_if_ne (tgt := 140) hx hb dX6_leads_127 (by decide) (fun c_127 => ?_) (fun c_127 => ?_)
              · replace c_127 : ¬ ((md_rockBits >>> ((((6 : Int32) * ((cell / (6 : Int32)) + (1 : Int32))) + (cell - cell / (6 : Int32) * (6 : Int32))).toInt64 &&& 63)) &&& (1 : Int64)) = (0 : Int64) := fun q => c_127 ((lg_cmp_eq _ _).mpr q)
                rw [if_neg c_127] at hE
                refine lv_iconst (v := (-1 : Int32)) hx hb dX6_leads_140 (by decide) ?_
                subst hE
                rw [← hQ]
                exact W.iret hx hb hr (fun t ht hW => ⟨_, rfl, rfl, ht⟩) (fun q h => absurd h List.not_mem_nil) dX6_leads_141
              · replace c_127 : ((md_rockBits >>> ((((6 : Int32) * ((cell / (6 : Int32)) + (1 : Int32))) + (cell - cell / (6 : Int32) * (6 : Int32))).toInt64 &&& 63)) &&& (1 : Int64)) = (0 : Int64) := (lg_cmp_eq _ _).mp c_127
                rw [if_pos c_127] at hE
                refine lv_bipush (v := (6 : Int32)) hx hb dX6_leads_130 (by decide) ?_
                refine lv_iload_n hx hb dX6_leads_132 rfl (lv_at hl 1 rfl) ?_
                refine lv_imul hx hb dX6_leads_133 ?_
                refine lv_iload hx hb dX6_leads_134 (lv_at hl 2 rfl) ?_
                refine lv_iadd hx hb dX6_leads_136 ?_
                refine lv_goto (tgt := 141) hx hb dX6_leads_137 (by decide) ?_
                subst hE
                rw [← hQ]
                exact W.iret hx hb hr (fun t ht hW => ⟨_, rfl, rfl, ht⟩) (fun q h => absurd h List.not_mem_nil) dX6_leads_141
      · rw [if_neg c_12_2] at hE
        have e_12_2 := mt Int32.toInt_inj.mp c_12_2
        by_cases c_12_3 : by_ = (3 : Int32)
        · have e_12_3 := congrArg Int32.toInt c_12_3
          rw [if_pos c_12_3] at hE
          refine lv_tableIn (off := 50) (tgt := 62) hx hb dX6_leads_12 (by rw [c_12_3]; decide) (by rw [c_12_3]; decide) (by rw [c_12_3]; rfl) (by decide) ?_
          refine lv_iinc (v := ((cell - cell / (6 : Int32) * (6 : Int32)) + (-1 : Int32))) (lv' := [(4, .int ((cell - cell / (6 : Int32) * (6 : Int32)) + (-1 : Int32))), (3, .int (cell / (6 : Int32))), (0, .ref (md 0)), (1, .int cell), (2, .int by_)]) hx hb dX6_leads_62 hl (k := 0) rfl rfl (by decide) rfl (fun ls hl => ?_)
          refine lv_goto (tgt := 74) hx hb dX6_leads_65 (by decide) ?_
          refine lv_iload_n hx hb dX6_leads_74 rfl (lv_at hl 1 rfl) ?_
          refine lv_i2l hx hb dX6_leads_75 rfl ?_
          refine lv_lconst (v := (0 : Int64)) hx hb dX6_leads_76 (by decide) ?_
          refine lv_ldc2 hx hb hown t_constantLong_RX6_137_5 dX6_leads_77 ?_
          refine rcSi (As := [.long (cell / (6 : Int32)).toInt64, .long (0 : Int64), .long (5 : Int64)]) (rest := []) ⟨hx, hb, hml, hown, hts⟩ (kX6_in l dC dI cI cJ (cell / (6 : Int32)).toInt64 (0 : Int64) (5 : Int64)) (va_cwS 3 hts gX6_leads_X6_in rfl rfl rfl (by decide +kernel) ⟨Nat.le_of_ble_eq_true rfl, Nat.le_of_ble_eq_true rfl⟩) hK hP hst hS [] rfl rfl hl.1 rfl (Nat.le_of_ble_eq_true rfl) dX6_leads_80 ⟨Nat.zero_le _, Nat.zero_le _⟩ (fun r w_13 => ?_)
          obtain ⟨w_13, nb_14⟩ := w_13; rw [w_13] at nb_14 ⊢
          refine lv_if_eq (tgt := 103) hx hb dX6_leads_83 (by decide) (fun c_83 => ?_) (fun c_83 => ?_)
          · rw [if_pos c_83] at hE
            refine lv_iconst (v := (0 : Int32)) hx hb dX6_leads_103 (by decide) ?_
            refine lv_istore (lv' := [(5, .int (0 : Int32)), (4, .int ((cell - cell / (6 : Int32) * (6 : Int32)) + (-1 : Int32))), (3, .int (cell / (6 : Int32))), (0, .ref (md 0)), (1, .int cell), (2, .int by_)]) hx hb dX6_leads_104 hl (by decide) rfl (fun ls hl => ?_)
            refine lv_iload hx hb dX6_leads_106 (lv_at hl 0 rfl) ?_
            refine lv_if_eq (tgt := 140) hx hb dX6_leads_108 (by decide) (fun c_108 => ?_) (fun c_108 => ?_)
            · have e_108 := congrArg Int32.toInt c_108
              rw [if_pos c_108] at hE
              refine lv_iconst (v := (-1 : Int32)) hx hb dX6_leads_140 (by decide) ?_
              subst hE
              rw [← hQ]
              exact W.iret hx hb hr (fun t ht hW => ⟨_, rfl, rfl, ht⟩) (fun q h => absurd h List.not_mem_nil) dX6_leads_141
            · have e_108 := mt Int32.toInt_inj.mp c_108
              rw [if_neg c_108] at hE
              refine lv_aload_n hx hb dX6_leads_111 rfl (lv_at hl 3 rfl) ?_
              refine va_get (D := (dC, dI)) (ci := 6) (v := .long md_rockBits) (C := RX6) (T := TX6) (N := 30) hx hb hts in_X6 hown hK hP 0 rfl rfl 5 (by decide) t_fieldLink_RX6_105_FourLodgersModel_rockBits_J (fun _ h9 => h9) rfl dX6_leads_112 ?_
              refine lv_bipush (v := (6 : Int32)) hx hb dX6_leads_115 (by decide) ?_
              refine lv_iload_n hx hb dX6_leads_117 rfl (lv_at hl 2 rfl) ?_
              refine lv_imul hx hb dX6_leads_118 ?_
              refine lv_iload hx hb dX6_leads_119 (lv_at hl 1 rfl) ?_
              refine lv_iadd hx hb dX6_leads_121 ?_
              refine lv_lshr hx hb dX6_leads_122 rfl ?_
              refine lv_lconst (v := (1 : Int64)) hx hb dX6_leads_123 (by decide) ?_
              refine lv_land hx hb dX6_leads_124 ?_
              refine lv_lconst (v := (0 : Int64)) hx hb dX6_leads_125 (by decide) ?_
              refine W.lcmp hx hb dX6_leads_126 ?_
              refine lv_if_ne (tgt := 140) hx hb dX6_leads_127 (by decide) (fun c_127 => ?_) (fun c_127 => ?_)
              · replace c_127 : ¬ ((md_rockBits >>> ((((6 : Int32) * (cell / (6 : Int32))) + ((cell - cell / (6 : Int32) * (6 : Int32)) + (-1 : Int32))).toInt64 &&& 63)) &&& (1 : Int64)) = (0 : Int64) := fun q => c_127 ((lg_cmp_eq _ _).mpr q)
                rw [if_neg c_127] at hE
                refine lv_iconst (v := (-1 : Int32)) hx hb dX6_leads_140 (by decide) ?_
                subst hE
                rw [← hQ]
                exact W.iret hx hb hr (fun t ht hW => ⟨_, rfl, rfl, ht⟩) (fun q h => absurd h List.not_mem_nil) dX6_leads_141
              · replace c_127 : ((md_rockBits >>> ((((6 : Int32) * (cell / (6 : Int32))) + ((cell - cell / (6 : Int32) * (6 : Int32)) + (-1 : Int32))).toInt64 &&& 63)) &&& (1 : Int64)) = (0 : Int64) := (lg_cmp_eq _ _).mp c_127
                rw [if_pos c_127] at hE
                refine lv_bipush (v := (6 : Int32)) hx hb dX6_leads_130 (by decide) ?_
                refine lv_iload_n hx hb dX6_leads_132 rfl (lv_at hl 2 rfl) ?_
                refine lv_imul hx hb dX6_leads_133 ?_
                refine lv_iload hx hb dX6_leads_134 (lv_at hl 1 rfl) ?_
                refine lv_iadd hx hb dX6_leads_136 ?_
                refine lv_goto (tgt := 141) hx hb dX6_leads_137 (by decide) ?_
                subst hE
                rw [← hQ]
                exact W.iret hx hb hr (fun t ht hW => ⟨_, rfl, rfl, ht⟩) (fun q h => absurd h List.not_mem_nil) dX6_leads_141
          · rw [if_neg c_83] at hE
            refine lv_iload hx hb dX6_leads_86 (lv_at hl 0 rfl) ?_
            refine lv_i2l hx hb dX6_leads_88 rfl ?_
            refine lv_lconst (v := (0 : Int64)) hx hb dX6_leads_89 (by decide) ?_
            refine lv_ldc2 hx hb hown t_constantLong_RX6_137_5 dX6_leads_90 ?_
            refine rcSi (As := [.long ((cell - cell / (6 : Int32) * (6 : Int32)) + (-1 : Int32)).toInt64, .long (0 : Int64), .long (5 : Int64)]) (rest := []) ⟨hx, hb, hml, hown, hts⟩ (kX6_in l dC dI cI cJ ((cell - cell / (6 : Int32) * (6 : Int32)) + (-1 : Int32)).toInt64 (0 : Int64) (5 : Int64)) (va_cwS 3 hts gX6_leads_X6_in rfl rfl rfl (by decide +kernel) ⟨Nat.le_of_ble_eq_true rfl, Nat.le_of_ble_eq_true rfl⟩) hK hP hst hS [] rfl rfl hl.1 rfl (Nat.le_of_ble_eq_true rfl) dX6_leads_93 ⟨Nat.zero_le _, Nat.zero_le _⟩ (fun r w_15 => ?_)
            obtain ⟨w_15, nb_16⟩ := w_15; rw [w_15] at nb_16 ⊢
            refine lv_if_eq (tgt := 103) hx hb dX6_leads_96 (by decide) (fun c_96 => ?_) (fun c_96 => ?_)
            · rw [if_pos c_96] at hE
              refine lv_iconst (v := (0 : Int32)) hx hb dX6_leads_103 (by decide) ?_
              refine lv_istore (lv' := [(5, .int (0 : Int32)), (4, .int ((cell - cell / (6 : Int32) * (6 : Int32)) + (-1 : Int32))), (3, .int (cell / (6 : Int32))), (0, .ref (md 0)), (1, .int cell), (2, .int by_)]) hx hb dX6_leads_104 hl (by decide) rfl (fun ls hl => ?_)
              refine lv_iload hx hb dX6_leads_106 (lv_at hl 0 rfl) ?_
              refine lv_if_eq (tgt := 140) hx hb dX6_leads_108 (by decide) (fun c_108 => ?_) (fun c_108 => ?_)
              · have e_108 := congrArg Int32.toInt c_108
                rw [if_pos c_108] at hE
                refine lv_iconst (v := (-1 : Int32)) hx hb dX6_leads_140 (by decide) ?_
                subst hE
                rw [← hQ]
                exact W.iret hx hb hr (fun t ht hW => ⟨_, rfl, rfl, ht⟩) (fun q h => absurd h List.not_mem_nil) dX6_leads_141
              · have e_108 := mt Int32.toInt_inj.mp c_108
                rw [if_neg c_108] at hE
                refine lv_aload_n hx hb dX6_leads_111 rfl (lv_at hl 3 rfl) ?_
                refine va_get (D := (dC, dI)) (ci := 6) (v := .long md_rockBits) (C := RX6) (T := TX6) (N := 30) hx hb hts in_X6 hown hK hP 0 rfl rfl 5 (by decide) t_fieldLink_RX6_105_FourLodgersModel_rockBits_J (fun _ h9 => h9) rfl dX6_leads_112 ?_
                refine lv_bipush (v := (6 : Int32)) hx hb dX6_leads_115 (by decide) ?_
                refine lv_iload_n hx hb dX6_leads_117 rfl (lv_at hl 2 rfl) ?_
                refine lv_imul hx hb dX6_leads_118 ?_
                refine lv_iload hx hb dX6_leads_119 (lv_at hl 1 rfl) ?_
                refine lv_iadd hx hb dX6_leads_121 ?_
                refine lv_lshr hx hb dX6_leads_122 rfl ?_
                refine lv_lconst (v := (1 : Int64)) hx hb dX6_leads_123 (by decide) ?_
                refine lv_land hx hb dX6_leads_124 ?_
                refine lv_lconst (v := (0 : Int64)) hx hb dX6_leads_125 (by decide) ?_
                refine W.lcmp hx hb dX6_leads_126 ?_
                refine lv_if_ne (tgt := 140) hx hb dX6_leads_127 (by decide) (fun c_127 => ?_) (fun c_127 => ?_)
                · replace c_127 : ¬ ((md_rockBits >>> ((((6 : Int32) * (cell / (6 : Int32))) + ((cell - cell / (6 : Int32) * (6 : Int32)) + (-1 : Int32))).toInt64 &&& 63)) &&& (1 : Int64)) = (0 : Int64) := fun q => c_127 ((lg_cmp_eq _ _).mpr q)
                  rw [if_neg c_127] at hE
                  refine lv_iconst (v := (-1 : Int32)) hx hb dX6_leads_140 (by decide) ?_
                  subst hE
                  rw [← hQ]
                  exact W.iret hx hb hr (fun t ht hW => ⟨_, rfl, rfl, ht⟩) (fun q h => absurd h List.not_mem_nil) dX6_leads_141
                · replace c_127 : ((md_rockBits >>> ((((6 : Int32) * (cell / (6 : Int32))) + ((cell - cell / (6 : Int32) * (6 : Int32)) + (-1 : Int32))).toInt64 &&& 63)) &&& (1 : Int64)) = (0 : Int64) := (lg_cmp_eq _ _).mp c_127
                  rw [if_pos c_127] at hE
                  refine lv_bipush (v := (6 : Int32)) hx hb dX6_leads_130 (by decide) ?_
                  refine lv_iload_n hx hb dX6_leads_132 rfl (lv_at hl 2 rfl) ?_
                  refine lv_imul hx hb dX6_leads_133 ?_
                  refine lv_iload hx hb dX6_leads_134 (lv_at hl 1 rfl) ?_
                  refine lv_iadd hx hb dX6_leads_136 ?_
                  refine lv_goto (tgt := 141) hx hb dX6_leads_137 (by decide) ?_
                  subst hE
                  rw [← hQ]
                  exact W.iret hx hb hr (fun t ht hW => ⟨_, rfl, rfl, ht⟩) (fun q h => absurd h List.not_mem_nil) dX6_leads_141
            · rw [if_neg c_96] at hE
              refine lv_iconst (v := (1 : Int32)) hx hb dX6_leads_99 (by decide) ?_
              refine lv_goto (tgt := 104) hx hb dX6_leads_100 (by decide) ?_
              refine lv_istore (lv' := [(5, .int (1 : Int32)), (4, .int ((cell - cell / (6 : Int32) * (6 : Int32)) + (-1 : Int32))), (3, .int (cell / (6 : Int32))), (0, .ref (md 0)), (1, .int cell), (2, .int by_)]) hx hb dX6_leads_104 hl (by decide) rfl (fun ls hl => ?_)
              refine lv_iload hx hb dX6_leads_106 (lv_at hl 0 rfl) ?_
              refine lv_if_eq (tgt := 140) hx hb dX6_leads_108 (by decide) (fun c_108 => ?_) (fun c_108 => ?_)
              · have e_108 := congrArg Int32.toInt c_108
                rw [if_pos c_108] at hE
                refine lv_iconst (v := (-1 : Int32)) hx hb dX6_leads_140 (by decide) ?_
                subst hE
                rw [← hQ]
                exact W.iret hx hb hr (fun t ht hW => ⟨_, rfl, rfl, ht⟩) (fun q h => absurd h List.not_mem_nil) dX6_leads_141
              · have e_108 := mt Int32.toInt_inj.mp c_108
                rw [if_neg c_108] at hE
                refine lv_aload_n hx hb dX6_leads_111 rfl (lv_at hl 3 rfl) ?_
                refine va_get (D := (dC, dI)) (ci := 6) (v := .long md_rockBits) (C := RX6) (T := TX6) (N := 30) hx hb hts in_X6 hown hK hP 0 rfl rfl 5 (by decide) t_fieldLink_RX6_105_FourLodgersModel_rockBits_J (fun _ h9 => h9) rfl dX6_leads_112 ?_
                refine lv_bipush (v := (6 : Int32)) hx hb dX6_leads_115 (by decide) ?_
                refine lv_iload_n hx hb dX6_leads_117 rfl (lv_at hl 2 rfl) ?_
                refine lv_imul hx hb dX6_leads_118 ?_
                refine lv_iload hx hb dX6_leads_119 (lv_at hl 1 rfl) ?_
                refine lv_iadd hx hb dX6_leads_121 ?_
                refine lv_lshr hx hb dX6_leads_122 rfl ?_
                refine lv_lconst (v := (1 : Int64)) hx hb dX6_leads_123 (by decide) ?_
                refine lv_land hx hb dX6_leads_124 ?_
                refine lv_lconst (v := (0 : Int64)) hx hb dX6_leads_125 (by decide) ?_
                refine W.lcmp hx hb dX6_leads_126 ?_
                refine lv_if_ne (tgt := 140) hx hb dX6_leads_127 (by decide) (fun c_127 => ?_) (fun c_127 => ?_)
                · replace c_127 : ¬ ((md_rockBits >>> ((((6 : Int32) * (cell / (6 : Int32))) + ((cell - cell / (6 : Int32) * (6 : Int32)) + (-1 : Int32))).toInt64 &&& 63)) &&& (1 : Int64)) = (0 : Int64) := fun q => c_127 ((lg_cmp_eq _ _).mpr q)
                  rw [if_neg c_127] at hE
                  refine lv_iconst (v := (-1 : Int32)) hx hb dX6_leads_140 (by decide) ?_
                  subst hE
                  rw [← hQ]
                  exact W.iret hx hb hr (fun t ht hW => ⟨_, rfl, rfl, ht⟩) (fun q h => absurd h List.not_mem_nil) dX6_leads_141
                · replace c_127 : ((md_rockBits >>> ((((6 : Int32) * (cell / (6 : Int32))) + ((cell - cell / (6 : Int32) * (6 : Int32)) + (-1 : Int32))).toInt64 &&& 63)) &&& (1 : Int64)) = (0 : Int64) := (lg_cmp_eq _ _).mp c_127
                  rw [if_pos c_127] at hE
                  refine lv_bipush (v := (6 : Int32)) hx hb dX6_leads_130 (by decide) ?_
                  refine lv_iload_n hx hb dX6_leads_132 rfl (lv_at hl 2 rfl) ?_
                  refine lv_imul hx hb dX6_leads_133 ?_
                  refine lv_iload hx hb dX6_leads_134 (lv_at hl 1 rfl) ?_
                  refine lv_iadd hx hb dX6_leads_136 ?_
                  refine lv_goto (tgt := 141) hx hb dX6_leads_137 (by decide) ?_
                  subst hE
                  rw [← hQ]
                  exact W.iret hx hb hr (fun t ht hW => ⟨_, rfl, rfl, ht⟩) (fun q h => absurd h List.not_mem_nil) dX6_leads_141
        · rw [if_neg c_12_3] at hE
          have e_12_3 := mt Int32.toInt_inj.mp c_12_3
          refine lv_tableOut (tgt := 68) hx hb dX6_leads_12 (tab_o_0_4 (lv_neT c_12_0 (a := 0) (by decide)) (lv_neT c_12_1 (a := 1) (by decide)) (lv_neT c_12_2 (a := 2) (by decide)) (lv_neT c_12_3 (a := 3) (by decide))) (by decide) ?_
          refine lv_iinc (v := ((cell / (6 : Int32)) + (1 : Int32))) (lv' := [(3, .int ((cell / (6 : Int32)) + (1 : Int32))), (4, .int (cell - cell / (6 : Int32) * (6 : Int32))), (0, .ref (md 0)), (1, .int cell), (2, .int by_)]) hx hb dX6_leads_68 hl (k := 1) rfl rfl (by decide) rfl (fun ls hl => ?_)
          refine lv_iinc (v := ((cell - cell / (6 : Int32) * (6 : Int32)) + (2 : Int32))) (lv' := [(4, .int ((cell - cell / (6 : Int32) * (6 : Int32)) + (2 : Int32))), (3, .int ((cell / (6 : Int32)) + (1 : Int32))), (0, .ref (md 0)), (1, .int cell), (2, .int by_)]) hx hb dX6_leads_71 hl (k := 1) rfl rfl (by decide) rfl (fun ls hl => ?_)
          refine lv_iload_n hx hb dX6_leads_74 rfl (lv_at hl 1 rfl) ?_
          refine lv_i2l hx hb dX6_leads_75 rfl ?_
          refine lv_lconst (v := (0 : Int64)) hx hb dX6_leads_76 (by decide) ?_
          refine lv_ldc2 hx hb hown t_constantLong_RX6_137_5 dX6_leads_77 ?_
          refine rcSi (As := [.long ((cell / (6 : Int32)) + (1 : Int32)).toInt64, .long (0 : Int64), .long (5 : Int64)]) (rest := []) ⟨hx, hb, hml, hown, hts⟩ (kX6_in l dC dI cI cJ ((cell / (6 : Int32)) + (1 : Int32)).toInt64 (0 : Int64) (5 : Int64)) (va_cwS 3 hts gX6_leads_X6_in rfl rfl rfl (by decide +kernel) ⟨Nat.le_of_ble_eq_true rfl, Nat.le_of_ble_eq_true rfl⟩) hK hP hst hS [] rfl rfl hl.1 rfl (Nat.le_of_ble_eq_true rfl) dX6_leads_80 ⟨Nat.zero_le _, Nat.zero_le _⟩ (fun r w_17 => ?_)
          obtain ⟨w_17, nb_18⟩ := w_17; rw [w_17] at nb_18 ⊢
          refine lv_if_eq (tgt := 103) hx hb dX6_leads_83 (by decide) (fun c_83 => ?_) (fun c_83 => ?_)
          · rw [if_pos c_83] at hE
            refine lv_iconst (v := (0 : Int32)) hx hb dX6_leads_103 (by decide) ?_
            refine lv_istore (lv' := [(5, .int (0 : Int32)), (4, .int ((cell - cell / (6 : Int32) * (6 : Int32)) + (2 : Int32))), (3, .int ((cell / (6 : Int32)) + (1 : Int32))), (0, .ref (md 0)), (1, .int cell), (2, .int by_)]) hx hb dX6_leads_104 hl (by decide) rfl (fun ls hl => ?_)
            refine lv_iload hx hb dX6_leads_106 (lv_at hl 0 rfl) ?_
            refine lv_if_eq (tgt := 140) hx hb dX6_leads_108 (by decide) (fun c_108 => ?_) (fun c_108 => ?_)
            · have e_108 := congrArg Int32.toInt c_108
              rw [if_pos c_108] at hE
              refine lv_iconst (v := (-1 : Int32)) hx hb dX6_leads_140 (by decide) ?_
              subst hE
              rw [← hQ]
              exact W.iret hx hb hr (fun t ht hW => ⟨_, rfl, rfl, ht⟩) (fun q h => absurd h List.not_mem_nil) dX6_leads_141
            · have e_108 := mt Int32.toInt_inj.mp c_108
              rw [if_neg c_108] at hE
              refine lv_aload_n hx hb dX6_leads_111 rfl (lv_at hl 3 rfl) ?_
              refine va_get (D := (dC, dI)) (ci := 6) (v := .long md_rockBits) (C := RX6) (T := TX6) (N := 30) hx hb hts in_X6 hown hK hP 0 rfl rfl 5 (by decide) t_fieldLink_RX6_105_FourLodgersModel_rockBits_J (fun _ h9 => h9) rfl dX6_leads_112 ?_
              refine lv_bipush (v := (6 : Int32)) hx hb dX6_leads_115 (by decide) ?_
              refine lv_iload_n hx hb dX6_leads_117 rfl (lv_at hl 2 rfl) ?_
              refine lv_imul hx hb dX6_leads_118 ?_
              refine lv_iload hx hb dX6_leads_119 (lv_at hl 1 rfl) ?_
              refine lv_iadd hx hb dX6_leads_121 ?_
              refine lv_lshr hx hb dX6_leads_122 rfl ?_
              refine lv_lconst (v := (1 : Int64)) hx hb dX6_leads_123 (by decide) ?_
              refine lv_land hx hb dX6_leads_124 ?_
              refine lv_lconst (v := (0 : Int64)) hx hb dX6_leads_125 (by decide) ?_
              refine W.lcmp hx hb dX6_leads_126 ?_
              refine lv_if_ne (tgt := 140) hx hb dX6_leads_127 (by decide) (fun c_127 => ?_) (fun c_127 => ?_)
              · replace c_127 : ¬ ((md_rockBits >>> ((((6 : Int32) * ((cell / (6 : Int32)) + (1 : Int32))) + ((cell - cell / (6 : Int32) * (6 : Int32)) + (2 : Int32))).toInt64 &&& 63)) &&& (1 : Int64)) = (0 : Int64) := fun q => c_127 ((lg_cmp_eq _ _).mpr q)
                rw [if_neg c_127] at hE
                refine lv_iconst (v := (-1 : Int32)) hx hb dX6_leads_140 (by decide) ?_
                subst hE
                rw [← hQ]
                exact W.iret hx hb hr (fun t ht hW => ⟨_, rfl, rfl, ht⟩) (fun q h => absurd h List.not_mem_nil) dX6_leads_141
              · replace c_127 : ((md_rockBits >>> ((((6 : Int32) * ((cell / (6 : Int32)) + (1 : Int32))) + ((cell - cell / (6 : Int32) * (6 : Int32)) + (2 : Int32))).toInt64 &&& 63)) &&& (1 : Int64)) = (0 : Int64) := (lg_cmp_eq _ _).mp c_127
                rw [if_pos c_127] at hE
                refine lv_bipush (v := (6 : Int32)) hx hb dX6_leads_130 (by decide) ?_
                refine lv_iload_n hx hb dX6_leads_132 rfl (lv_at hl 2 rfl) ?_
                refine lv_imul hx hb dX6_leads_133 ?_
                refine lv_iload hx hb dX6_leads_134 (lv_at hl 1 rfl) ?_
                refine lv_iadd hx hb dX6_leads_136 ?_
                refine lv_goto (tgt := 141) hx hb dX6_leads_137 (by decide) ?_
                subst hE
                rw [← hQ]
                exact W.iret hx hb hr (fun t ht hW => ⟨_, rfl, rfl, ht⟩) (fun q h => absurd h List.not_mem_nil) dX6_leads_141
          · rw [if_neg c_83] at hE
            refine lv_iload hx hb dX6_leads_86 (lv_at hl 0 rfl) ?_
            refine lv_i2l hx hb dX6_leads_88 rfl ?_
            refine lv_lconst (v := (0 : Int64)) hx hb dX6_leads_89 (by decide) ?_
            refine lv_ldc2 hx hb hown t_constantLong_RX6_137_5 dX6_leads_90 ?_
            refine rcSi (As := [.long ((cell - cell / (6 : Int32) * (6 : Int32)) + (2 : Int32)).toInt64, .long (0 : Int64), .long (5 : Int64)]) (rest := []) ⟨hx, hb, hml, hown, hts⟩ (kX6_in l dC dI cI cJ ((cell - cell / (6 : Int32) * (6 : Int32)) + (2 : Int32)).toInt64 (0 : Int64) (5 : Int64)) (va_cwS 3 hts gX6_leads_X6_in rfl rfl rfl (by decide +kernel) ⟨Nat.le_of_ble_eq_true rfl, Nat.le_of_ble_eq_true rfl⟩) hK hP hst hS [] rfl rfl hl.1 rfl (Nat.le_of_ble_eq_true rfl) dX6_leads_93 ⟨Nat.zero_le _, Nat.zero_le _⟩ (fun r w_19 => ?_)
            obtain ⟨w_19, nb_20⟩ := w_19; rw [w_19] at nb_20 ⊢
            refine lv_if_eq (tgt := 103) hx hb dX6_leads_96 (by decide) (fun c_96 => ?_) (fun c_96 => ?_)
            · rw [if_pos c_96] at hE
              refine lv_iconst (v := (0 : Int32)) hx hb dX6_leads_103 (by decide) ?_
              refine lv_istore (lv' := [(5, .int (0 : Int32)), (4, .int ((cell - cell / (6 : Int32) * (6 : Int32)) + (2 : Int32))), (3, .int ((cell / (6 : Int32)) + (1 : Int32))), (0, .ref (md 0)), (1, .int cell), (2, .int by_)]) hx hb dX6_leads_104 hl (by decide) rfl (fun ls hl => ?_)
              refine lv_iload hx hb dX6_leads_106 (lv_at hl 0 rfl) ?_
              refine lv_if_eq (tgt := 140) hx hb dX6_leads_108 (by decide) (fun c_108 => ?_) (fun c_108 => ?_)
              · have e_108 := congrArg Int32.toInt c_108
                rw [if_pos c_108] at hE
                refine lv_iconst (v := (-1 : Int32)) hx hb dX6_leads_140 (by decide) ?_
                subst hE
                rw [← hQ]
                exact W.iret hx hb hr (fun t ht hW => ⟨_, rfl, rfl, ht⟩) (fun q h => absurd h List.not_mem_nil) dX6_leads_141
              · have e_108 := mt Int32.toInt_inj.mp c_108
                rw [if_neg c_108] at hE
                refine lv_aload_n hx hb dX6_leads_111 rfl (lv_at hl 3 rfl) ?_
                refine va_get (D := (dC, dI)) (ci := 6) (v := .long md_rockBits) (C := RX6) (T := TX6) (N := 30) hx hb hts in_X6 hown hK hP 0 rfl rfl 5 (by decide) t_fieldLink_RX6_105_FourLodgersModel_rockBits_J (fun _ h9 => h9) rfl dX6_leads_112 ?_
                refine lv_bipush (v := (6 : Int32)) hx hb dX6_leads_115 (by decide) ?_
                refine lv_iload_n hx hb dX6_leads_117 rfl (lv_at hl 2 rfl) ?_
                refine lv_imul hx hb dX6_leads_118 ?_
                refine lv_iload hx hb dX6_leads_119 (lv_at hl 1 rfl) ?_
                refine lv_iadd hx hb dX6_leads_121 ?_
                refine lv_lshr hx hb dX6_leads_122 rfl ?_
                refine lv_lconst (v := (1 : Int64)) hx hb dX6_leads_123 (by decide) ?_
                refine lv_land hx hb dX6_leads_124 ?_
                refine lv_lconst (v := (0 : Int64)) hx hb dX6_leads_125 (by decide) ?_
                refine W.lcmp hx hb dX6_leads_126 ?_
                refine lv_if_ne (tgt := 140) hx hb dX6_leads_127 (by decide) (fun c_127 => ?_) (fun c_127 => ?_)
                · replace c_127 : ¬ ((md_rockBits >>> ((((6 : Int32) * ((cell / (6 : Int32)) + (1 : Int32))) + ((cell - cell / (6 : Int32) * (6 : Int32)) + (2 : Int32))).toInt64 &&& 63)) &&& (1 : Int64)) = (0 : Int64) := fun q => c_127 ((lg_cmp_eq _ _).mpr q)
                  rw [if_neg c_127] at hE
                  refine lv_iconst (v := (-1 : Int32)) hx hb dX6_leads_140 (by decide) ?_
                  subst hE
                  rw [← hQ]
                  exact W.iret hx hb hr (fun t ht hW => ⟨_, rfl, rfl, ht⟩) (fun q h => absurd h List.not_mem_nil) dX6_leads_141
                · replace c_127 : ((md_rockBits >>> ((((6 : Int32) * ((cell / (6 : Int32)) + (1 : Int32))) + ((cell - cell / (6 : Int32) * (6 : Int32)) + (2 : Int32))).toInt64 &&& 63)) &&& (1 : Int64)) = (0 : Int64) := (lg_cmp_eq _ _).mp c_127
                  rw [if_pos c_127] at hE
                  refine lv_bipush (v := (6 : Int32)) hx hb dX6_leads_130 (by decide) ?_
                  refine lv_iload_n hx hb dX6_leads_132 rfl (lv_at hl 2 rfl) ?_
                  refine lv_imul hx hb dX6_leads_133 ?_
                  refine lv_iload hx hb dX6_leads_134 (lv_at hl 1 rfl) ?_
                  refine lv_iadd hx hb dX6_leads_136 ?_
                  refine lv_goto (tgt := 141) hx hb dX6_leads_137 (by decide) ?_
                  subst hE
                  rw [← hQ]
                  exact W.iret hx hb hr (fun t ht hW => ⟨_, rfl, rfl, ht⟩) (fun q h => absurd h List.not_mem_nil) dX6_leads_141
            · rw [if_neg c_96] at hE
              refine lv_iconst (v := (1 : Int32)) hx hb dX6_leads_99 (by decide) ?_
              refine lv_goto (tgt := 104) hx hb dX6_leads_100 (by decide) ?_
              refine lv_istore (lv' := [(5, .int (1 : Int32)), (4, .int ((cell - cell / (6 : Int32) * (6 : Int32)) + (2 : Int32))), (3, .int ((cell / (6 : Int32)) + (1 : Int32))), (0, .ref (md 0)), (1, .int cell), (2, .int by_)]) hx hb dX6_leads_104 hl (by decide) rfl (fun ls hl => ?_)
              refine lv_iload hx hb dX6_leads_106 (lv_at hl 0 rfl) ?_
              refine lv_if_eq (tgt := 140) hx hb dX6_leads_108 (by decide) (fun c_108 => ?_) (fun c_108 => ?_)
              · have e_108 := congrArg Int32.toInt c_108
                rw [if_pos c_108] at hE
                refine lv_iconst (v := (-1 : Int32)) hx hb dX6_leads_140 (by decide) ?_
                subst hE
                rw [← hQ]
                exact W.iret hx hb hr (fun t ht hW => ⟨_, rfl, rfl, ht⟩) (fun q h => absurd h List.not_mem_nil) dX6_leads_141
              · have e_108 := mt Int32.toInt_inj.mp c_108
                rw [if_neg c_108] at hE
                refine lv_aload_n hx hb dX6_leads_111 rfl (lv_at hl 3 rfl) ?_
                refine va_get (D := (dC, dI)) (ci := 6) (v := .long md_rockBits) (C := RX6) (T := TX6) (N := 30) hx hb hts in_X6 hown hK hP 0 rfl rfl 5 (by decide) t_fieldLink_RX6_105_FourLodgersModel_rockBits_J (fun _ h9 => h9) rfl dX6_leads_112 ?_
                refine lv_bipush (v := (6 : Int32)) hx hb dX6_leads_115 (by decide) ?_
                refine lv_iload_n hx hb dX6_leads_117 rfl (lv_at hl 2 rfl) ?_
                refine lv_imul hx hb dX6_leads_118 ?_
                refine lv_iload hx hb dX6_leads_119 (lv_at hl 1 rfl) ?_
                refine lv_iadd hx hb dX6_leads_121 ?_
                refine lv_lshr hx hb dX6_leads_122 rfl ?_
                refine lv_lconst (v := (1 : Int64)) hx hb dX6_leads_123 (by decide) ?_
                refine lv_land hx hb dX6_leads_124 ?_
                refine lv_lconst (v := (0 : Int64)) hx hb dX6_leads_125 (by decide) ?_
                refine W.lcmp hx hb dX6_leads_126 ?_
                refine lv_if_ne (tgt := 140) hx hb dX6_leads_127 (by decide) (fun c_127 => ?_) (fun c_127 => ?_)
                · replace c_127 : ¬ ((md_rockBits >>> ((((6 : Int32) * ((cell / (6 : Int32)) + (1 : Int32))) + ((cell - cell / (6 : Int32) * (6 : Int32)) + (2 : Int32))).toInt64 &&& 63)) &&& (1 : Int64)) = (0 : Int64) := fun q => c_127 ((lg_cmp_eq _ _).mpr q)
                  rw [if_neg c_127] at hE
                  refine lv_iconst (v := (-1 : Int32)) hx hb dX6_leads_140 (by decide) ?_
                  subst hE
                  rw [← hQ]
                  exact W.iret hx hb hr (fun t ht hW => ⟨_, rfl, rfl, ht⟩) (fun q h => absurd h List.not_mem_nil) dX6_leads_141
                · replace c_127 : ((md_rockBits >>> ((((6 : Int32) * ((cell / (6 : Int32)) + (1 : Int32))) + ((cell - cell / (6 : Int32) * (6 : Int32)) + (2 : Int32))).toInt64 &&& 63)) &&& (1 : Int64)) = (0 : Int64) := (lg_cmp_eq _ _).mp c_127
                  rw [if_pos c_127] at hE
                  refine lv_bipush (v := (6 : Int32)) hx hb dX6_leads_130 (by decide) ?_
                  refine lv_iload_n hx hb dX6_leads_132 rfl (lv_at hl 2 rfl) ?_
                  refine lv_imul hx hb dX6_leads_133 ?_
                  refine lv_iload hx hb dX6_leads_134 (lv_at hl 1 rfl) ?_
                  refine lv_iadd hx hb dX6_leads_136 ?_
                  refine lv_goto (tgt := 141) hx hb dX6_leads_137 (by decide) ?_
                  subst hE
                  rw [← hQ]
                  exact W.iret hx hb hr (fun t ht hW => ⟨_, rfl, rfl, ht⟩) (fun q h => absurd h List.not_mem_nil) dX6_leads_141
def fX6_illFor (md_day : Int32) (md_ills : Nat → Int32) (k_ : Int32) : Int32 := (if (md_ills k_.toNatClampNeg) ≤ md_day then (0 : Int32) else ((md_ills k_.toNatClampNeg) - md_day))
set_option maxHeartbeats 4000000 in
set_option maxRecDepth 100000 in
theorem kX6_illFor (l : Launch) (dC : Nat → ClassId) (dI : Nat → Nat → Nat) (cI cJ : ClassId) (md : Nat → Nat) (md_page : Nat → Int32) (md_pageMany : Int32) (md_end : Int32) (md_ships : Int32) (md_rocks : Int32) (md_rockBits : Int64) (md_day : Int32) (md_isHired : Int32) (md_sails : Int32) (md_seasRead : Int32) (md_kinds : Nat → Int32) (md_ills : Nat → Int32) (md_cells : Nat → Int32) (md_sailed : Nat → Int32) (md_must : Nat → Int64) (md_seenMany : Int32) (md_sights : Nat → Int32) (md_seedNow : Int32) (md_cellsThen : Nat → Int32) (md_keptSea : Int32) (md_keptDay : Int32) (md_keptHired : Int32) (md_keptSails : Int32) (md_keptSeen : Int32) (md_keptKinds : Nat → Int32) (md_keptIlls : Nat → Int32) (md_keptCells : Nat → Int32) (md_keptSailed : Nat → Int32) (md_keptSights : Nat → Int32) (md_hash : Int64) (k_ : Int32) (p_1 : vp_in k_ 4) : Met l yX6_illFor wsX6_illFor ({ frames := 0, cells := 0, slots := 0, locals := 0 } : Room) (gR (dC, dI) cI cJ (kMd cI cJ md md_page md_pageMany md_end md_ships md_rocks md_rockBits md_day md_isHired md_sails md_seasRead md_kinds md_ills md_cells md_sailed md_must md_seenMany md_sights md_seedNow md_cellsThen md_keptSea md_keptDay md_keptHired md_keptSails md_keptSeen md_keptKinds md_keptIlls md_keptCells md_keptSailed md_keptSights md_hash) ([.ref (md 0), .int k_] : List Value)) (vp_Si (fun r => r = (fX6_illFor md_day md_ills k_))) 0 0 (fun _ => False) := by
  refine Met.ofW (cc := cX6_illFor) (maxL := 2) (ret := (some .int)) (by decide) rfl ?_
  intro p e s m args below meth c s₁ B hml hv
  obtain ⟨rfl, hP, hK, hst⟩ := hv
  have hx := B.exec
  have hb := B.bytes
  have hr := B.returns
  have hts := atoms_spec (ws := wsX6_illFor) B.pre
  have hown : s.vm.findClass RX6 = some m.cls := findClass_of_methodNamed B.named
  have hlocks := B.notSynchronized
  have hS : va_S (fun _ => False) s.heap s.heap [] := va_S.rf
  generalize hE : (fX6_illFor md_day md_ills k_) = RES
  generalize hQ : MQ below (vp_Si (fun r => r = RES)) ([.ref (md 0), .int k_] : List Value).toArray s 0 0 (fun _ => False) = Q
  have hl := lv_entry ([.ref (md 0), .int k_] : List Value) (n := 2) (Nat.le_of_ble_eq_true rfl)
  rw [lg_entry_eq]
  generalize (lg_sl ([.ref (md 0), .int k_] : List Value) ++ List.replicate (2 - (lg_sl ([.ref (md 0), .int k_] : List Value)).length) Slot.unset).toArray = ls at hl ⊢
  have hl : lv_has ls 2 [(0, .ref (md 0)), (1, .int k_)] := hl
  have in_X6 : ∀ w ∈ u_ws RX6 TX6 30, w ∈ wsX6_illFor := fun _ h => List.mem_cons_of_mem _ (List.mem_append_right _ h)
  have t_fieldLink_RX6_109_FourLodgersModel_day_I := hts (.fieldLink RX6 109 "FourLodgersModel" "day" "I") (List.mem_of_getElem? (i := 2) rfl)
  have t_fieldLink_RX6_16_FourLodgersModel_ills_I := hts (.fieldLink RX6 16 "FourLodgersModel" "ills" "[I") (List.mem_of_getElem? (i := 1) rfl)
  have i_0 : (0 : Int32).toInt = 0 := by decide
  have p_1' := vp_in_iff.mp p_1
  rw [fX6_illFor] at hE
  refine lv_aload_n hx hb dX6_illFor_0 rfl (lv_at hl 0 rfl) ?_
  refine va_get (D := (dC, dI)) (ci := 6) (v := .ref (md 3)) (C := RX6) (T := TX6) (N := 30) hx hb hts in_X6 hown hK hP 0 rfl rfl 11 (by decide) t_fieldLink_RX6_16_FourLodgersModel_ills_I (fun _ h9 => h9) rfl dX6_illFor_1 ?_
  refine lv_iload_n hx hb dX6_illFor_4 rfl (lv_at hl 1 rfl) ?_
  refine va_iald hx hb hK hP 3 0 rfl rfl (i := k_) (by first | assumption | exact vp_in_iff.mpr ⟨by omega, by omega⟩ | omega | decide) dX6_illFor_5 ?_
  refine lv_aload_n hx hb dX6_illFor_6 rfl (lv_at hl 0 rfl) ?_
  refine va_get (D := (dC, dI)) (ci := 6) (v := .int md_day) (C := RX6) (T := TX6) (N := 30) hx hb hts in_X6 hown hK hP 0 rfl rfl 6 (by decide) t_fieldLink_RX6_109_FourLodgersModel_day_I (fun _ h9 => h9) rfl dX6_illFor_7 ?_
  refine lv_icmp_le (tgt := 27) hx hb dX6_illFor_10 (by decide) (fun c_10 => ?_) (fun c_10 => ?_)
  · have e_10 := Int32.le_iff_toInt_le.mp c_10
    rw [if_pos c_10] at hE
    refine lv_iconst (v := (0 : Int32)) hx hb dX6_illFor_27 (by decide) ?_
    subst hE
    rw [← hQ]
    exact W.iret hx hb hr (fun t ht hW => ⟨_, rfl, rfl, ht⟩) (fun q h => absurd h List.not_mem_nil) dX6_illFor_28
  · have e_10 := mt Int32.le_iff_toInt_le.mpr c_10
    rw [if_neg c_10] at hE
    refine lv_aload_n hx hb dX6_illFor_13 rfl (lv_at hl 0 rfl) ?_
    refine va_get (D := (dC, dI)) (ci := 6) (v := .ref (md 3)) (C := RX6) (T := TX6) (N := 30) hx hb hts in_X6 hown hK hP 0 rfl rfl 11 (by decide) t_fieldLink_RX6_16_FourLodgersModel_ills_I (fun _ h9 => h9) rfl dX6_illFor_14 ?_
    refine lv_iload_n hx hb dX6_illFor_17 rfl (lv_at hl 1 rfl) ?_
    refine va_iald hx hb hK hP 3 0 rfl rfl (i := k_) (by first | assumption | exact vp_in_iff.mpr ⟨by omega, by omega⟩ | omega | decide) dX6_illFor_18 ?_
    refine lv_aload_n hx hb dX6_illFor_19 rfl (lv_at hl 0 rfl) ?_
    refine va_get (D := (dC, dI)) (ci := 6) (v := .int md_day) (C := RX6) (T := TX6) (N := 30) hx hb hts in_X6 hown hK hP 0 rfl rfl 6 (by decide) t_fieldLink_RX6_109_FourLodgersModel_day_I (fun _ h9 => h9) rfl dX6_illFor_20 ?_
    refine lv_isub hx hb dX6_illFor_23 ?_
    refine lv_goto (tgt := 28) hx hb dX6_illFor_24 (by decide) ?_
    subst hE
    rw [← hQ]
    exact W.iret hx hb hr (fun t ht hW => ⟨_, rfl, rfl, ht⟩) (fun q h => absurd h List.not_mem_nil) dX6_illFor_28
def fX6_upDays_4 (md_day : Int32) (md_isHired : Int32) (md_kinds : Nat → Int32) (md_ills : Nat → Int32) (k_ : Int32) : Nat → Int32 → Nat → Int32
  | 0, _, _ => 0
  | n_ + 1, x2, i => (if (28 : Int32) ≤ (nI i) then x2 else (if (fX6_isUp md_isHired md_kinds md_ills k_ (md_day + (nI i))) = (0 : Int32) then (fX6_upDays_4 md_day md_isHired md_kinds md_ills k_ n_ (x2 + (0 : Int32)) ((i + 1))) else (fX6_upDays_4 md_day md_isHired md_kinds md_ills k_ n_ (x2 + (1 : Int32)) ((i + 1)))))
def fX6_upDays (md_day : Int32) (md_isHired : Int32) (md_kinds : Nat → Int32) (md_ills : Nat → Int32) (k_ : Int32) : Int32 := (fX6_upDays_4 md_day md_isHired md_kinds md_ills k_ 29 (0 : Int32) (0))
set_option maxHeartbeats 4000000 in
set_option maxRecDepth 100000 in
theorem kX6_upDays (l : Launch) (dC : Nat → ClassId) (dI : Nat → Nat → Nat) (cI cJ : ClassId) (md : Nat → Nat) (md_page : Nat → Int32) (md_pageMany : Int32) (md_end : Int32) (md_ships : Int32) (md_rocks : Int32) (md_rockBits : Int64) (md_day : Int32) (md_isHired : Int32) (md_sails : Int32) (md_seasRead : Int32) (md_kinds : Nat → Int32) (md_ills : Nat → Int32) (md_cells : Nat → Int32) (md_sailed : Nat → Int32) (md_must : Nat → Int64) (md_seenMany : Int32) (md_sights : Nat → Int32) (md_seedNow : Int32) (md_cellsThen : Nat → Int32) (md_keptSea : Int32) (md_keptDay : Int32) (md_keptHired : Int32) (md_keptSails : Int32) (md_keptSeen : Int32) (md_keptKinds : Nat → Int32) (md_keptIlls : Nat → Int32) (md_keptCells : Nat → Int32) (md_keptSailed : Nat → Int32) (md_keptSights : Nat → Int32) (md_hash : Int64) (k_ : Int32) (p_1 : vp_in k_ 4) : Met l yX6_upDays wsX6_upDays ({ frames := 2, cells := 0, slots := 0, locals := 44 } : Room) (gR (dC, dI) cI cJ (kMd cI cJ md md_page md_pageMany md_end md_ships md_rocks md_rockBits md_day md_isHired md_sails md_seasRead md_kinds md_ills md_cells md_sailed md_must md_seenMany md_sights md_seedNow md_cellsThen md_keptSea md_keptDay md_keptHired md_keptSails md_keptSeen md_keptKinds md_keptIlls md_keptCells md_keptSailed md_keptSights md_hash) ([.ref (md 0), .int k_] : List Value)) (vp_Si (fun r => r = (fX6_upDays md_day md_isHired md_kinds md_ills k_))) 0 0 (fun _ => False) := by
  refine Met.ofW (cc := cX6_upDays) (maxL := 4) (ret := (some .int)) (by decide) rfl ?_
  intro p e s m args below meth c s₁ B hml hv
  obtain ⟨rfl, hP, hK, hst⟩ := hv
  have hx := B.exec
  have hb := B.bytes
  have hr := B.returns
  have hts := atoms_spec (ws := wsX6_upDays) B.pre
  have hown : s.vm.findClass RX6 = some m.cls := findClass_of_methodNamed B.named
  have hlocks := B.notSynchronized
  have hS : va_S (fun _ => False) s.heap s.heap [] := va_S.rf
  generalize hE : (fX6_upDays md_day md_isHired md_kinds md_ills k_) = RES
  generalize hQ : MQ below (vp_Si (fun r => r = RES)) ([.ref (md 0), .int k_] : List Value).toArray s 0 0 (fun _ => False) = Q
  have hl := lv_entry ([.ref (md 0), .int k_] : List Value) (n := 4) (Nat.le_of_ble_eq_true rfl)
  rw [lg_entry_eq]
  generalize (lg_sl ([.ref (md 0), .int k_] : List Value) ++ List.replicate (4 - (lg_sl ([.ref (md 0), .int k_] : List Value)).length) Slot.unset).toArray = ls at hl ⊢
  have hl : lv_has ls 4 [(0, .ref (md 0)), (1, .int k_)] := hl
  have in_X6 : ∀ w ∈ u_ws RX6 TX6 30, w ∈ wsX6_upDays := fun _ h => List.mem_cons_of_mem _ (List.mem_append_right _ h)
  have t_fieldLink_RX6_109_FourLodgersModel_day_I := hts (.fieldLink RX6 109 "FourLodgersModel" "day" "I") (List.mem_of_getElem? (i := 1) rfl)
  have i_0 : (0 : Int32).toInt = 0 := by decide
  have i_1 : (1 : Int32).toInt = 1 := by decide
  have i_28 : (28 : Int32).toInt = 28 := by decide
  have p_1' := vp_in_iff.mp p_1
  rw [fX6_upDays] at hE
  refine lv_iconst (v := (0 : Int32)) hx hb dX6_upDays_0 (by decide) ?_
  refine lv_istore_n (lv' := [(2, .int (0 : Int32)), (0, .ref (md 0)), (1, .int k_)]) hx hb dX6_upDays_1 rfl hl (by decide) rfl (fun ls hl => ?_)
  refine lv_iconst (v := (0 : Int32)) hx hb dX6_upDays_2 (by decide) ?_
  refine lv_istore_n (lv' := [(3, .int (0 : Int32)), (2, .int (0 : Int32)), (0, .ref (md 0)), (1, .int k_)]) hx hb dX6_upDays_3 rfl hl (by decide) rfl (fun ls hl => ?_)
  have L4 : ∀ (n_ : Nat) (x2 : Int32) (i : Nat) , (i ≤ 28) → 28 - i < n_ → (fX6_upDays_4 md_day md_isHired md_kinds md_ills k_ n_ x2 i) = RES → ∀ ls : Array Slot, lv_has ls 4 [(0, .ref (md 0)), (1, .int k_), (2, .int x2), (3, .int (nI i))] → W p l e (headSpec wsX6_upDays ({ frames := 2, cells := 0, slots := 0, locals := 44 } : Room)).room s m ([.ref (md 0), .int k_] : List Value).toArray below meth c s.heap [] 0 0 Q (F0 m 4 ls []) := by
    intro n_
    induction n_ with
    | zero => intro x2 i  hi hn; exact absurd hn (Nat.not_lt_zero _)
    | succ n_ ih =>
      intro x2 i  hi hn hE ls hl
      rw [fX6_upDays_4] at hE
      have tn_i : (nI i).toInt = (i : Int) := nI_toInt (by omega)
      refine lv_iload_n hx hb dX6_upDays_4 rfl (lv_at hl 3 rfl) ?_
      refine lv_bipush (v := (28 : Int32)) hx hb dX6_upDays_5 (by decide) ?_
      refine lv_icmp_ge (tgt := 38) hx hb dX6_upDays_7 (by decide) (fun c_7 => ?_) (fun c_7 => ?_)
      · have e_7 := Int32.le_iff_toInt_le.mp c_7
        rw [if_pos c_7] at hE
        refine lv_iload_n hx hb dX6_upDays_38 rfl (lv_at hl 2 rfl) ?_
        subst hE
        rw [← hQ]
        exact W.iret hx hb hr (fun t ht hW => ⟨_, rfl, rfl, ht⟩) (fun q h => absurd h List.not_mem_nil) dX6_upDays_39
      · have e_7 := mt Int32.le_iff_toInt_le.mpr c_7
        rw [if_neg c_7] at hE
        refine lv_iload_n hx hb dX6_upDays_10 rfl (lv_at hl 2 rfl) ?_
        refine lv_aload_n hx hb dX6_upDays_11 rfl (lv_at hl 0 rfl) ?_
        refine lv_iload_n hx hb dX6_upDays_12 rfl (lv_at hl 1 rfl) ?_
        refine lv_aload_n hx hb dX6_upDays_13 rfl (lv_at hl 0 rfl) ?_
        refine va_get (D := (dC, dI)) (ci := 6) (v := .int md_day) (C := RX6) (T := TX6) (N := 30) hx hb hts in_X6 hown hK hP 0 rfl rfl 6 (by decide) t_fieldLink_RX6_109_FourLodgersModel_day_I (fun _ h9 => h9) rfl dX6_upDays_14 ?_
        refine lv_iload_n hx hb dX6_upDays_17 rfl (lv_at hl 3 rfl) ?_
        refine lv_iadd hx hb dX6_upDays_18 ?_
        refine rcVi (As := [.int k_, .int (md_day + (nI i))]) (rest := [.int x2]) ⟨hx, hb, hml, hown, hts⟩ (kX6_isUp l dC dI cI cJ md md_page md_pageMany md_end md_ships md_rocks md_rockBits md_day md_isHired md_sails md_seasRead md_kinds md_ills md_cells md_sailed md_must md_seenMany md_sights md_seedNow md_cellsThen md_keptSea md_keptDay md_keptHired md_keptSails md_keptSeen md_keptKinds md_keptIlls md_keptCells md_keptSailed md_keptSights md_hash k_ (md_day + (nI i)) (by first | assumption | exact vp_in_iff.mpr ⟨by omega, by omega⟩ | omega | decide)) (cwV 2 hts gX6_upDays_X6_isUp rfl rfl rfl (by decide +kernel) ⟨Nat.le_of_ble_eq_true rfl, Nat.le_of_ble_eq_true rfl⟩) hK hP hst hS [0, 1, 2, 3, 4, 5, 6, 7, 8, 9, 10, 11, 12, 13] rfl 0 rfl rfl rfl hl.1 rfl (Nat.le_of_ble_eq_true rfl) dX6_upDays_19 ⟨Nat.zero_le _, Nat.zero_le _⟩ (fun r w_1 => ?_)
        obtain ⟨rfl, nb_2⟩ := w_1
        refine lv_if_eq (tgt := 29) hx hb dX6_upDays_22 (by decide) (fun c_22 => ?_) (fun c_22 => ?_)
        · rw [if_pos c_22] at hE
          refine lv_iconst (v := (0 : Int32)) hx hb dX6_upDays_29 (by decide) ?_
          refine lv_iadd hx hb dX6_upDays_30 ?_
          refine lv_istore_n (lv' := [(2, .int (x2 + (0 : Int32))), (0, .ref (md 0)), (1, .int k_), (3, .int (nI i))]) hx hb dX6_upDays_31 rfl hl (by decide) rfl (fun ls hl => ?_)
          refine lv_iinc (v := (nI (i + 1))) (lv' := [(3, .int (nI (i + 1))), (2, .int (x2 + (0 : Int32))), (0, .ref (md 0)), (1, .int k_)]) hx hb dX6_upDays_32 hl (k := 3) rfl (by rw [show Int32.ofInt 1 = nI 1 from rfl, nI_add]) (by decide) rfl (fun ls hl => ?_)
          refine lv_goto (tgt := 4) hx hb dX6_upDays_35 (by decide) ?_
          exact ih (x2 + (0 : Int32)) ((i + 1))  (by omega) (by omega) hE ls (lv_sub hl [2, 3, 1, 0] rfl)
        · rw [if_neg c_22] at hE
          refine lv_iconst (v := (1 : Int32)) hx hb dX6_upDays_25 (by decide) ?_
          refine lv_goto (tgt := 30) hx hb dX6_upDays_26 (by decide) ?_
          refine lv_iadd hx hb dX6_upDays_30 ?_
          refine lv_istore_n (lv' := [(2, .int (x2 + (1 : Int32))), (0, .ref (md 0)), (1, .int k_), (3, .int (nI i))]) hx hb dX6_upDays_31 rfl hl (by decide) rfl (fun ls hl => ?_)
          refine lv_iinc (v := (nI (i + 1))) (lv' := [(3, .int (nI (i + 1))), (2, .int (x2 + (1 : Int32))), (0, .ref (md 0)), (1, .int k_)]) hx hb dX6_upDays_32 hl (k := 3) rfl (by rw [show Int32.ofInt 1 = nI 1 from rfl, nI_add]) (by decide) rfl (fun ls hl => ?_)
          refine lv_goto (tgt := 4) hx hb dX6_upDays_35 (by decide) ?_
          exact ih (x2 + (1 : Int32)) ((i + 1))  (by omega) (by omega) hE ls (lv_sub hl [2, 3, 1, 0] rfl)
  exact L4 29 (0 : Int32) (0)  (by omega) (by omega) hE ls (lv_sub hl [2, 3, 1, 0] rfl)
def fX6_upIf (md_day : Int32) (md_ills : Nat → Int32) (k_ : Int32) (kind : Int32) (ahead : Int32) : Int32 := (if (md_ills k_.toNatClampNeg) ≤ (md_day + ahead) then (if (fX6_isUpBy kind (0 : Int32) (md_day + ahead)) = (0 : Int32) then (0 : Int32) else (1 : Int32)) else (if (fX6_isUpBy kind (1 : Int32) (md_day + ahead)) = (0 : Int32) then (0 : Int32) else (1 : Int32)))
set_option maxHeartbeats 4000000 in
set_option maxRecDepth 100000 in
theorem kX6_upIf (l : Launch) (dC : Nat → ClassId) (dI : Nat → Nat → Nat) (cI cJ : ClassId) (md : Nat → Nat) (md_page : Nat → Int32) (md_pageMany : Int32) (md_end : Int32) (md_ships : Int32) (md_rocks : Int32) (md_rockBits : Int64) (md_day : Int32) (md_isHired : Int32) (md_sails : Int32) (md_seasRead : Int32) (md_kinds : Nat → Int32) (md_ills : Nat → Int32) (md_cells : Nat → Int32) (md_sailed : Nat → Int32) (md_must : Nat → Int64) (md_seenMany : Int32) (md_sights : Nat → Int32) (md_seedNow : Int32) (md_cellsThen : Nat → Int32) (md_keptSea : Int32) (md_keptDay : Int32) (md_keptHired : Int32) (md_keptSails : Int32) (md_keptSeen : Int32) (md_keptKinds : Nat → Int32) (md_keptIlls : Nat → Int32) (md_keptCells : Nat → Int32) (md_keptSailed : Nat → Int32) (md_keptSights : Nat → Int32) (md_hash : Int64) (k_ : Int32) (kind : Int32) (ahead : Int32) (p_1 : vp_in k_ 4) : Met l yX6_upIf wsX6_upIf ({ frames := 1, cells := 0, slots := 0, locals := 22 } : Room) (gR (dC, dI) cI cJ (kMd cI cJ md md_page md_pageMany md_end md_ships md_rocks md_rockBits md_day md_isHired md_sails md_seasRead md_kinds md_ills md_cells md_sailed md_must md_seenMany md_sights md_seedNow md_cellsThen md_keptSea md_keptDay md_keptHired md_keptSails md_keptSeen md_keptKinds md_keptIlls md_keptCells md_keptSailed md_keptSights md_hash) ([.ref (md 0), .int k_, .int kind, .int ahead] : List Value)) (vp_Si (fun r => r = (fX6_upIf md_day md_ills k_ kind ahead))) 0 0 (fun _ => False) := by
  refine Met.ofW (cc := cX6_upIf) (maxL := 4) (ret := (some .int)) (by decide) rfl ?_
  intro p e s m args below meth c s₁ B hml hv
  obtain ⟨rfl, hP, hK, hst⟩ := hv
  have hx := B.exec
  have hb := B.bytes
  have hr := B.returns
  have hts := atoms_spec (ws := wsX6_upIf) B.pre
  have hown : s.vm.findClass RX6 = some m.cls := findClass_of_methodNamed B.named
  have hlocks := B.notSynchronized
  have hS : va_S (fun _ => False) s.heap s.heap [] := va_S.rf
  generalize hE : (fX6_upIf md_day md_ills k_ kind ahead) = RES
  generalize hQ : MQ below (vp_Si (fun r => r = RES)) ([.ref (md 0), .int k_, .int kind, .int ahead] : List Value).toArray s 0 0 (fun _ => False) = Q
  have hl := lv_entry ([.ref (md 0), .int k_, .int kind, .int ahead] : List Value) (n := 4) (Nat.le_of_ble_eq_true rfl)
  rw [lg_entry_eq]
  generalize (lg_sl ([.ref (md 0), .int k_, .int kind, .int ahead] : List Value) ++ List.replicate (4 - (lg_sl ([.ref (md 0), .int k_, .int kind, .int ahead] : List Value)).length) Slot.unset).toArray = ls at hl ⊢
  have hl : lv_has ls 4 [(0, .ref (md 0)), (1, .int k_), (2, .int kind), (3, .int ahead)] := hl
  have in_X6 : ∀ w ∈ u_ws RX6 TX6 30, w ∈ wsX6_upIf := fun _ h => List.mem_cons_of_mem _ (List.mem_append_right _ h)
  have t_fieldLink_RX6_109_FourLodgersModel_day_I := hts (.fieldLink RX6 109 "FourLodgersModel" "day" "I") (List.mem_of_getElem? (i := 1) rfl)
  have t_fieldLink_RX6_16_FourLodgersModel_ills_I := hts (.fieldLink RX6 16 "FourLodgersModel" "ills" "[I") (List.mem_of_getElem? (i := 2) rfl)
  have i_0 : (0 : Int32).toInt = 0 := by decide
  have i_1 : (1 : Int32).toInt = 1 := by decide
  have p_1' := vp_in_iff.mp p_1
  rw [fX6_upIf] at hE
  refine lv_iload_n hx hb dX6_upIf_0 rfl (lv_at hl 2 rfl) ?_
  refine lv_aload_n hx hb dX6_upIf_1 rfl (lv_at hl 0 rfl) ?_
  refine va_get (D := (dC, dI)) (ci := 6) (v := .int md_day) (C := RX6) (T := TX6) (N := 30) hx hb hts in_X6 hown hK hP 0 rfl rfl 6 (by decide) t_fieldLink_RX6_109_FourLodgersModel_day_I (fun _ h9 => h9) rfl dX6_upIf_2 ?_
  refine lv_iload_n hx hb dX6_upIf_5 rfl (lv_at hl 3 rfl) ?_
  refine lv_iadd hx hb dX6_upIf_6 ?_
  refine lv_aload_n hx hb dX6_upIf_7 rfl (lv_at hl 0 rfl) ?_
  refine va_get (D := (dC, dI)) (ci := 6) (v := .ref (md 3)) (C := RX6) (T := TX6) (N := 30) hx hb hts in_X6 hown hK hP 0 rfl rfl 11 (by decide) t_fieldLink_RX6_16_FourLodgersModel_ills_I (fun _ h9 => h9) rfl dX6_upIf_8 ?_
  refine lv_iload_n hx hb dX6_upIf_11 rfl (lv_at hl 1 rfl) ?_
  refine va_iald hx hb hK hP 3 0 rfl rfl (i := k_) (by first | assumption | exact vp_in_iff.mpr ⟨by omega, by omega⟩ | omega | decide) dX6_upIf_12 ?_
  refine lv_icmp_ge (tgt := 20) hx hb dX6_upIf_13 (by decide) (fun c_13 => ?_) (fun c_13 => ?_)
  · have e_13 := Int32.le_iff_toInt_le.mp c_13
    rw [if_pos c_13] at hE
    refine lv_iconst (v := (0 : Int32)) hx hb dX6_upIf_20 (by decide) ?_
    refine lv_aload_n hx hb dX6_upIf_21 rfl (lv_at hl 0 rfl) ?_
    refine va_get (D := (dC, dI)) (ci := 6) (v := .int md_day) (C := RX6) (T := TX6) (N := 30) hx hb hts in_X6 hown hK hP 0 rfl rfl 6 (by decide) t_fieldLink_RX6_109_FourLodgersModel_day_I (fun _ h9 => h9) rfl dX6_upIf_22 ?_
    refine lv_iload_n hx hb dX6_upIf_25 rfl (lv_at hl 3 rfl) ?_
    refine lv_iadd hx hb dX6_upIf_26 ?_
    refine rcSi (As := [.int kind, .int (0 : Int32), .int (md_day + ahead)]) (rest := []) ⟨hx, hb, hml, hown, hts⟩ (kX6_isUpBy l dC dI cI cJ kind (0 : Int32) (md_day + ahead)) (va_cwS 3 hts gX6_upIf_X6_isUpBy rfl rfl rfl (by decide +kernel) ⟨Nat.le_of_ble_eq_true rfl, Nat.le_of_ble_eq_true rfl⟩) hK hP hst hS [] rfl rfl hl.1 rfl (Nat.le_of_ble_eq_true rfl) dX6_upIf_27 ⟨Nat.zero_le _, Nat.zero_le _⟩ (fun r w_1 => ?_)
    obtain ⟨rfl, nb_2⟩ := w_1
    refine lv_if_eq (tgt := 37) hx hb dX6_upIf_30 (by decide) (fun c_30 => ?_) (fun c_30 => ?_)
    · rw [if_pos c_30] at hE
      refine lv_iconst (v := (0 : Int32)) hx hb dX6_upIf_37 (by decide) ?_
      subst hE
      rw [← hQ]
      exact W.iret hx hb hr (fun t ht hW => ⟨_, rfl, rfl, ht⟩) (fun q h => absurd h List.not_mem_nil) dX6_upIf_38
    · rw [if_neg c_30] at hE
      refine lv_iconst (v := (1 : Int32)) hx hb dX6_upIf_33 (by decide) ?_
      refine lv_goto (tgt := 38) hx hb dX6_upIf_34 (by decide) ?_
      subst hE
      rw [← hQ]
      exact W.iret hx hb hr (fun t ht hW => ⟨_, rfl, rfl, ht⟩) (fun q h => absurd h List.not_mem_nil) dX6_upIf_38
  · have e_13 := mt Int32.le_iff_toInt_le.mpr c_13
    rw [if_neg c_13] at hE
    refine lv_iconst (v := (1 : Int32)) hx hb dX6_upIf_16 (by decide) ?_
    refine lv_goto (tgt := 21) hx hb dX6_upIf_17 (by decide) ?_
    refine lv_aload_n hx hb dX6_upIf_21 rfl (lv_at hl 0 rfl) ?_
    refine va_get (D := (dC, dI)) (ci := 6) (v := .int md_day) (C := RX6) (T := TX6) (N := 30) hx hb hts in_X6 hown hK hP 0 rfl rfl 6 (by decide) t_fieldLink_RX6_109_FourLodgersModel_day_I (fun _ h9 => h9) rfl dX6_upIf_22 ?_
    refine lv_iload_n hx hb dX6_upIf_25 rfl (lv_at hl 3 rfl) ?_
    refine lv_iadd hx hb dX6_upIf_26 ?_
    refine rcSi (As := [.int kind, .int (1 : Int32), .int (md_day + ahead)]) (rest := []) ⟨hx, hb, hml, hown, hts⟩ (kX6_isUpBy l dC dI cI cJ kind (1 : Int32) (md_day + ahead)) (va_cwS 3 hts gX6_upIf_X6_isUpBy rfl rfl rfl (by decide +kernel) ⟨Nat.le_of_ble_eq_true rfl, Nat.le_of_ble_eq_true rfl⟩) hK hP hst hS [] rfl rfl hl.1 rfl (Nat.le_of_ble_eq_true rfl) dX6_upIf_27 ⟨Nat.zero_le _, Nat.zero_le _⟩ (fun r w_3 => ?_)
    obtain ⟨rfl, nb_4⟩ := w_3
    refine lv_if_eq (tgt := 37) hx hb dX6_upIf_30 (by decide) (fun c_30 => ?_) (fun c_30 => ?_)
    · rw [if_pos c_30] at hE
      refine lv_iconst (v := (0 : Int32)) hx hb dX6_upIf_37 (by decide) ?_
      subst hE
      rw [← hQ]
      exact W.iret hx hb hr (fun t ht hW => ⟨_, rfl, rfl, ht⟩) (fun q h => absurd h List.not_mem_nil) dX6_upIf_38
    · rw [if_neg c_30] at hE
      refine lv_iconst (v := (1 : Int32)) hx hb dX6_upIf_33 (by decide) ?_
      refine lv_goto (tgt := 38) hx hb dX6_upIf_34 (by decide) ?_
      subst hE
      rw [← hQ]
      exact W.iret hx hb hr (fun t ht hW => ⟨_, rfl, rfl, ht⟩) (fun q h => absurd h List.not_mem_nil) dX6_upIf_38
def fX6_kindsOf_15 (md_day : Int32) (md_ills : Nat → Int32) (md_seenMany : Int32) (md_sights : Nat → Int32) (k_ : Int32) (i : Nat) : Nat → Int32 → Nat → Int32 × Nat
  | 0, y4, j => (y4, j)
  | n_ + 1, y4, j => (if ((3 : Int32) * md_seenMany) ≤ (nI j) then (y4, j) else (if y4 = (0 : Int32) then (fX6_kindsOf_15 md_day md_ills md_seenMany md_sights k_ i n_ (0 : Int32) ((j + 3))) else (if (md_sights (nI j).toNatClampNeg) = k_ then (if (fX6_upIf md_day md_ills k_ (nI i) (md_sights ((nI j) + (1 : Int32)).toNatClampNeg)) = (md_sights ((nI j) + (2 : Int32)).toNatClampNeg) then (fX6_kindsOf_15 md_day md_ills md_seenMany md_sights k_ i n_ (1 : Int32) ((j + 3))) else (fX6_kindsOf_15 md_day md_ills md_seenMany md_sights k_ i n_ (0 : Int32) ((j + 3)))) else (fX6_kindsOf_15 md_day md_ills md_seenMany md_sights k_ i n_ (1 : Int32) ((j + 3))))))
def fX6_kindsOf_4 (md_day : Int32) (md_ills : Nat → Int32) (md_seenMany : Int32) (md_sights : Nat → Int32) (k_ : Int32) : Nat → Int32 → Nat → Int32
  | 0, _, _ => 0
  | n_ + 1, x2, i => (if (5 : Int32) ≤ (nI i) then x2 else (if ((fX6_kindsOf_15 md_day md_ills md_seenMany md_sights k_ i 19 (1 : Int32) (0)).1) = (0 : Int32) then (fX6_kindsOf_4 md_day md_ills md_seenMany md_sights k_ n_ (x2 ||| (0 : Int32)) ((i + 1))) else (fX6_kindsOf_4 md_day md_ills md_seenMany md_sights k_ n_ (x2 ||| ((1 : Int32) <<< ((nI i) &&& 31))) ((i + 1)))))
def fX6_kindsOf (md_day : Int32) (md_ills : Nat → Int32) (md_seenMany : Int32) (md_sights : Nat → Int32) (k_ : Int32) : Int32 := (fX6_kindsOf_4 md_day md_ills md_seenMany md_sights k_ 6 (0 : Int32) (0))
set_option maxHeartbeats 4000000 in
set_option maxRecDepth 100000 in
theorem kX6_kindsOf (l : Launch) (dC : Nat → ClassId) (dI : Nat → Nat → Nat) (cI cJ : ClassId) (md : Nat → Nat) (md_page : Nat → Int32) (md_pageMany : Int32) (md_end : Int32) (md_ships : Int32) (md_rocks : Int32) (md_rockBits : Int64) (md_day : Int32) (md_isHired : Int32) (md_sails : Int32) (md_seasRead : Int32) (md_kinds : Nat → Int32) (md_ills : Nat → Int32) (md_cells : Nat → Int32) (md_sailed : Nat → Int32) (md_must : Nat → Int64) (md_seenMany : Int32) (md_sights : Nat → Int32) (md_seedNow : Int32) (md_cellsThen : Nat → Int32) (md_keptSea : Int32) (md_keptDay : Int32) (md_keptHired : Int32) (md_keptSails : Int32) (md_keptSeen : Int32) (md_keptKinds : Nat → Int32) (md_keptIlls : Nat → Int32) (md_keptCells : Nat → Int32) (md_keptSailed : Nat → Int32) (md_keptSights : Nat → Int32) (md_hash : Int64) (k_ : Int32) (p_1 : vp_in k_ 4) (p_2 : 0 ≤ md_seenMany.toInt) (p_3 : md_seenMany.toInt ≤ 6) : Met l yX6_kindsOf wsX6_kindsOf ({ frames := 2, cells := 0, slots := 0, locals := 45 } : Room) (gR (dC, dI) cI cJ (kMd cI cJ md md_page md_pageMany md_end md_ships md_rocks md_rockBits md_day md_isHired md_sails md_seasRead md_kinds md_ills md_cells md_sailed md_must md_seenMany md_sights md_seedNow md_cellsThen md_keptSea md_keptDay md_keptHired md_keptSails md_keptSeen md_keptKinds md_keptIlls md_keptCells md_keptSailed md_keptSights md_hash) ([.ref (md 0), .int k_] : List Value)) (vp_Si (fun r => r = (fX6_kindsOf md_day md_ills md_seenMany md_sights k_))) 0 0 (fun _ => False) := by
  refine Met.ofW (cc := cX6_kindsOf) (maxL := 6) (ret := (some .int)) (by decide) rfl ?_
  intro p e s m args below meth c s₁ B hml hv
  obtain ⟨rfl, hP, hK, hst⟩ := hv
  have hx := B.exec
  have hb := B.bytes
  have hr := B.returns
  have hts := atoms_spec (ws := wsX6_kindsOf) B.pre
  have hown : s.vm.findClass RX6 = some m.cls := findClass_of_methodNamed B.named
  have hlocks := B.notSynchronized
  have hS : va_S (fun _ => False) s.heap s.heap [] := va_S.rf
  generalize hE : (fX6_kindsOf md_day md_ills md_seenMany md_sights k_) = RES
  generalize hQ : MQ below (vp_Si (fun r => r = RES)) ([.ref (md 0), .int k_] : List Value).toArray s 0 0 (fun _ => False) = Q
  have hl := lv_entry ([.ref (md 0), .int k_] : List Value) (n := 6) (Nat.le_of_ble_eq_true rfl)
  rw [lg_entry_eq]
  generalize (lg_sl ([.ref (md 0), .int k_] : List Value) ++ List.replicate (6 - (lg_sl ([.ref (md 0), .int k_] : List Value)).length) Slot.unset).toArray = ls at hl ⊢
  have hl : lv_has ls 6 [(0, .ref (md 0)), (1, .int k_)] := hl
  have in_X6 : ∀ w ∈ u_ws RX6 TX6 30, w ∈ wsX6_kindsOf := fun _ h => List.mem_cons_of_mem _ (List.mem_append_right _ h)
  have t_fieldLink_RX6_119_FourLodgersModel_seenMany_I := hts (.fieldLink RX6 119 "FourLodgersModel" "seenMany" "I") (List.mem_of_getElem? (i := 1) rfl)
  have t_fieldLink_RX6_29_FourLodgersModel_sights_I := hts (.fieldLink RX6 29 "FourLodgersModel" "sights" "[I") (List.mem_of_getElem? (i := 2) rfl)
  have i_0 : (0 : Int32).toInt = 0 := by decide
  have i_1 : (1 : Int32).toInt = 1 := by decide
  have i_2 : (2 : Int32).toInt = 2 := by decide
  have i_3 : (3 : Int32).toInt = 3 := by decide
  have i_5 : (5 : Int32).toInt = 5 := by decide
  have p_1' := vp_in_iff.mp p_1
  rw [fX6_kindsOf] at hE
  refine lv_iconst (v := (0 : Int32)) hx hb dX6_kindsOf_0 (by decide) ?_
  refine lv_istore_n (lv' := [(2, .int (0 : Int32)), (0, .ref (md 0)), (1, .int k_)]) hx hb dX6_kindsOf_1 rfl hl (by decide) rfl (fun ls hl => ?_)
  refine lv_iconst (v := (0 : Int32)) hx hb dX6_kindsOf_2 (by decide) ?_
  refine lv_istore_n (lv' := [(3, .int (0 : Int32)), (2, .int (0 : Int32)), (0, .ref (md 0)), (1, .int k_)]) hx hb dX6_kindsOf_3 rfl hl (by decide) rfl (fun ls hl => ?_)
  have L4 : ∀ (n_ : Nat) (x2 : Int32) (i : Nat) , (i ≤ 5) → 5 - i < n_ → (fX6_kindsOf_4 md_day md_ills md_seenMany md_sights k_ n_ x2 i) = RES → ∀ ls : Array Slot, lv_has ls 6 [(0, .ref (md 0)), (1, .int k_), (2, .int x2), (3, .int (nI i))] → W p l e (headSpec wsX6_kindsOf ({ frames := 2, cells := 0, slots := 0, locals := 45 } : Room)).room s m ([.ref (md 0), .int k_] : List Value).toArray below meth c s.heap [] 0 0 Q (F0 m 4 ls []) := by
    intro n_
    induction n_ with
    | zero => intro x2 i  hi hn; exact absurd hn (Nat.not_lt_zero _)
    | succ n_ ih =>
      intro x2 i  hi hn hE ls hl
      rw [fX6_kindsOf_4] at hE
      have tn_i : (nI i).toInt = (i : Int) := nI_toInt (by omega)
      refine lv_iload_n hx hb dX6_kindsOf_4 rfl (lv_at hl 3 rfl) ?_
      refine lv_iconst (v := (5 : Int32)) hx hb dX6_kindsOf_5 (by decide) ?_
      refine lv_icmp_ge (tgt := 103) hx hb dX6_kindsOf_6 (by decide) (fun c_6 => ?_) (fun c_6 => ?_)
      · have e_6 := Int32.le_iff_toInt_le.mp c_6
        rw [if_pos c_6] at hE
        refine lv_iload_n hx hb dX6_kindsOf_103 rfl (lv_at hl 2 rfl) ?_
        subst hE
        rw [← hQ]
        exact W.iret hx hb hr (fun t ht hW => ⟨_, rfl, rfl, ht⟩) (fun q h => absurd h List.not_mem_nil) dX6_kindsOf_104
      · have e_6 := mt Int32.le_iff_toInt_le.mpr c_6
        rw [if_neg c_6] at hE
        refine lv_iconst (v := (1 : Int32)) hx hb dX6_kindsOf_9 (by decide) ?_
        refine lv_istore (lv' := [(4, .int (1 : Int32)), (0, .ref (md 0)), (1, .int k_), (2, .int x2), (3, .int (nI i))]) hx hb dX6_kindsOf_10 hl (by decide) rfl (fun ls hl => ?_)
        refine lv_iconst (v := (0 : Int32)) hx hb dX6_kindsOf_12 (by decide) ?_
        refine lv_istore (lv' := [(5, .int (0 : Int32)), (4, .int (1 : Int32)), (0, .ref (md 0)), (1, .int k_), (2, .int x2), (3, .int (nI i))]) hx hb dX6_kindsOf_13 hl (by decide) rfl (fun ls hl => ?_)
        have L15 : ∀ (n_ : Nat) (y4 : Int32) (j : Nat) , (j ≤ 18 ∧ j % 3 = 0) → 18 - j < n_ → ∀ (RES15 : Int32 × Nat), (fX6_kindsOf_15 md_day md_ills md_seenMany md_sights k_ i n_ y4 j) = RES15 → (∀ ls : Array Slot, lv_has ls 6 [(0, .ref (md 0)), (1, .int k_), (2, .int x2), (3, .int (nI i)), (4, .int (RES15.1))] → W p l e (headSpec wsX6_kindsOf ({ frames := 2, cells := 0, slots := 0, locals := 45 } : Room)).room s m ([.ref (md 0), .int k_] : List Value).toArray below meth c s.heap [] 0 0 Q (F0 m 82 ls [])) → ∀ ls : Array Slot, lv_has ls 6 [(0, .ref (md 0)), (1, .int k_), (2, .int x2), (3, .int (nI i)), (4, .int y4), (5, .int (nI j))] → W p l e (headSpec wsX6_kindsOf ({ frames := 2, cells := 0, slots := 0, locals := 45 } : Room)).room s m ([.ref (md 0), .int k_] : List Value).toArray below meth c s.heap [] 0 0 Q (F0 m 15 ls []) := by
          intro n_
          induction n_ with
          | zero => intro y4 j  hi hn; exact absurd hn (Nat.not_lt_zero _)
          | succ n_ ih =>
            intro y4 j  hi hn RES15 hE hk15 ls hl
            rw [fX6_kindsOf_15] at hE
            have tn_j : (nI j).toInt = (j : Int) := nI_toInt (by omega)
            refine lv_iload hx hb dX6_kindsOf_15 (lv_at hl 5 rfl) ?_
            refine lv_iconst (v := (3 : Int32)) hx hb dX6_kindsOf_17 (by decide) ?_
            refine lv_aload_n hx hb dX6_kindsOf_18 rfl (lv_at hl 0 rfl) ?_
            refine va_get (D := (dC, dI)) (ci := 6) (v := .int md_seenMany) (C := RX6) (T := TX6) (N := 30) hx hb hts in_X6 hown hK hP 0 rfl rfl 15 (by decide) t_fieldLink_RX6_119_FourLodgersModel_seenMany_I (fun _ h9 => h9) rfl dX6_kindsOf_19 ?_
            refine lv_imul hx hb dX6_kindsOf_22 ?_
            refine lv_icmp_ge (tgt := 82) hx hb dX6_kindsOf_23 (by decide) (fun c_23 => ?_) (fun c_23 => ?_)
            · rw [if_pos c_23] at hE
              subst hE
              exact hk15  ls (lv_sub hl [0, 1, 2, 3, 4] rfl)
            · rw [if_neg c_23] at hE
              have e_23 := mt Int32.le_iff_toInt_le.mpr c_23
              rw [mul3_toInt p_2 p_3] at e_23
              refine lv_iload hx hb dX6_kindsOf_26 (lv_at hl 4 rfl) ?_
              refine lv_if_eq (tgt := 73) hx hb dX6_kindsOf_28 (by decide) (fun c_28 => ?_) (fun c_28 => ?_)
              · have e_28 := congrArg Int32.toInt c_28
                rw [if_pos c_28] at hE
                refine lv_iconst (v := (0 : Int32)) hx hb dX6_kindsOf_73 (by decide) ?_
                refine lv_istore (lv' := [(4, .int (0 : Int32)), (0, .ref (md 0)), (1, .int k_), (2, .int x2), (3, .int (nI i)), (5, .int (nI j))]) hx hb dX6_kindsOf_74 hl (by decide) rfl (fun ls hl => ?_)
                refine lv_iinc (v := (nI (j + 3))) (lv' := [(5, .int (nI (j + 3))), (4, .int (0 : Int32)), (0, .ref (md 0)), (1, .int k_), (2, .int x2), (3, .int (nI i))]) hx hb dX6_kindsOf_76 hl (k := 5) rfl (by rw [show Int32.ofInt 3 = nI 3 from rfl, nI_add]) (by decide) rfl (fun ls hl => ?_)
                refine lv_goto (tgt := 15) hx hb dX6_kindsOf_79 (by decide) ?_
                exact ih (0 : Int32) ((j + 3))  (by omega) (by omega) RES15 hE hk15 ls (lv_sub hl [2, 3, 4, 5, 1, 0] rfl)
              · have e_28 := mt Int32.toInt_inj.mp c_28
                rw [if_neg c_28] at hE
                refine lv_aload_n hx hb dX6_kindsOf_31 rfl (lv_at hl 0 rfl) ?_
                refine va_get (D := (dC, dI)) (ci := 6) (v := .ref (md 7)) (C := RX6) (T := TX6) (N := 30) hx hb hts in_X6 hown hK hP 0 rfl rfl 16 (by decide) t_fieldLink_RX6_29_FourLodgersModel_sights_I (fun _ h9 => h9) rfl dX6_kindsOf_32 ?_
                refine lv_iload hx hb dX6_kindsOf_35 (lv_at hl 5 rfl) ?_
                refine va_iald hx hb hK hP 7 0 rfl rfl (i := (nI j)) (by first | assumption | exact vp_in_iff.mpr ⟨by omega, by omega⟩ | omega | decide) dX6_kindsOf_37 ?_
                refine lv_iload_n hx hb dX6_kindsOf_38 rfl (lv_at hl 1 rfl) ?_
                refine lv_icmp_ne (tgt := 69) hx hb dX6_kindsOf_39 (by decide) (fun c_39 => ?_) (fun c_39 => ?_)
                · have e_39 := mt Int32.toInt_inj.mp c_39
                  rw [if_neg c_39] at hE
                  refine lv_iconst (v := (1 : Int32)) hx hb dX6_kindsOf_69 (by decide) ?_
                  refine lv_goto (tgt := 74) hx hb dX6_kindsOf_70 (by decide) ?_
                  refine lv_istore (lv' := [(4, .int (1 : Int32)), (0, .ref (md 0)), (1, .int k_), (2, .int x2), (3, .int (nI i)), (5, .int (nI j))]) hx hb dX6_kindsOf_74 hl (by decide) rfl (fun ls hl => ?_)
                  refine lv_iinc (v := (nI (j + 3))) (lv' := [(5, .int (nI (j + 3))), (4, .int (1 : Int32)), (0, .ref (md 0)), (1, .int k_), (2, .int x2), (3, .int (nI i))]) hx hb dX6_kindsOf_76 hl (k := 5) rfl (by rw [show Int32.ofInt 3 = nI 3 from rfl, nI_add]) (by decide) rfl (fun ls hl => ?_)
                  refine lv_goto (tgt := 15) hx hb dX6_kindsOf_79 (by decide) ?_
                  exact ih (1 : Int32) ((j + 3))  (by omega) (by omega) RES15 hE hk15 ls (lv_sub hl [2, 3, 4, 5, 1, 0] rfl)
                · have e_39 := congrArg Int32.toInt c_39
                  rw [if_pos c_39] at hE
                  refine lv_aload_n hx hb dX6_kindsOf_42 rfl (lv_at hl 0 rfl) ?_
                  refine lv_iload_n hx hb dX6_kindsOf_43 rfl (lv_at hl 1 rfl) ?_
                  refine lv_iload_n hx hb dX6_kindsOf_44 rfl (lv_at hl 3 rfl) ?_
                  refine lv_aload_n hx hb dX6_kindsOf_45 rfl (lv_at hl 0 rfl) ?_
                  refine va_get (D := (dC, dI)) (ci := 6) (v := .ref (md 7)) (C := RX6) (T := TX6) (N := 30) hx hb hts in_X6 hown hK hP 0 rfl rfl 16 (by decide) t_fieldLink_RX6_29_FourLodgersModel_sights_I (fun _ h9 => h9) rfl dX6_kindsOf_46 ?_
                  refine lv_iload hx hb dX6_kindsOf_49 (lv_at hl 5 rfl) ?_
                  refine lv_iconst (v := (1 : Int32)) hx hb dX6_kindsOf_51 (by decide) ?_
                  refine lv_iadd hx hb dX6_kindsOf_52 ?_
                  refine va_iald hx hb hK hP 7 0 rfl rfl (i := ((nI j) + (1 : Int32))) (by rw [show (1 : Int32) = nI 1 from rfl, nI_add]; exact vp_in_nI (by omega) (by decide)) dX6_kindsOf_53 ?_
                  refine rcVi (As := [.int k_, .int (nI i), .int (md_sights ((nI j) + (1 : Int32)).toNatClampNeg)]) (rest := []) ⟨hx, hb, hml, hown, hts⟩ (kX6_upIf l dC dI cI cJ md md_page md_pageMany md_end md_ships md_rocks md_rockBits md_day md_isHired md_sails md_seasRead md_kinds md_ills md_cells md_sailed md_must md_seenMany md_sights md_seedNow md_cellsThen md_keptSea md_keptDay md_keptHired md_keptSails md_keptSeen md_keptKinds md_keptIlls md_keptCells md_keptSailed md_keptSights md_hash k_ (nI i) (md_sights ((nI j) + (1 : Int32)).toNatClampNeg) p_1) (cwV 3 hts gX6_kindsOf_X6_upIf rfl rfl rfl (by decide +kernel) ⟨Nat.le_of_ble_eq_true rfl, Nat.le_of_ble_eq_true rfl⟩) hK hP hst hS [0, 1, 2, 3, 4, 5, 6, 7, 8, 9, 10, 11, 12, 13] rfl 0 rfl rfl rfl hl.1 rfl (Nat.le_of_ble_eq_true rfl) dX6_kindsOf_54 ⟨Nat.zero_le _, Nat.zero_le _⟩ (fun r w_1 => ?_)
                  subst w_1
                  refine lv_aload_n hx hb dX6_kindsOf_57 rfl (lv_at hl 0 rfl) ?_
                  refine va_get (D := (dC, dI)) (ci := 6) (v := .ref (md 7)) (C := RX6) (T := TX6) (N := 30) hx hb hts in_X6 hown hK hP 0 rfl rfl 16 (by decide) t_fieldLink_RX6_29_FourLodgersModel_sights_I (fun _ h9 => h9) rfl dX6_kindsOf_58 ?_
                  refine lv_iload hx hb dX6_kindsOf_61 (lv_at hl 5 rfl) ?_
                  refine lv_iconst (v := (2 : Int32)) hx hb dX6_kindsOf_63 (by decide) ?_
                  refine lv_iadd hx hb dX6_kindsOf_64 ?_
                  refine va_iald hx hb hK hP 7 0 rfl rfl (i := ((nI j) + (2 : Int32))) (by rw [show (2 : Int32) = nI 2 from rfl, nI_add]; exact vp_in_nI (by omega) (by decide)) dX6_kindsOf_65 ?_
                  refine lv_icmp_ne (tgt := 73) hx hb dX6_kindsOf_66 (by decide) (fun c_66 => ?_) (fun c_66 => ?_)
                  · rw [if_neg c_66] at hE
                    refine lv_iconst (v := (0 : Int32)) hx hb dX6_kindsOf_73 (by decide) ?_
                    refine lv_istore (lv' := [(4, .int (0 : Int32)), (0, .ref (md 0)), (1, .int k_), (2, .int x2), (3, .int (nI i)), (5, .int (nI j))]) hx hb dX6_kindsOf_74 hl (by decide) rfl (fun ls hl => ?_)
                    refine lv_iinc (v := (nI (j + 3))) (lv' := [(5, .int (nI (j + 3))), (4, .int (0 : Int32)), (0, .ref (md 0)), (1, .int k_), (2, .int x2), (3, .int (nI i))]) hx hb dX6_kindsOf_76 hl (k := 5) rfl (by rw [show Int32.ofInt 3 = nI 3 from rfl, nI_add]) (by decide) rfl (fun ls hl => ?_)
                    refine lv_goto (tgt := 15) hx hb dX6_kindsOf_79 (by decide) ?_
                    exact ih (0 : Int32) ((j + 3))  (by omega) (by omega) RES15 hE hk15 ls (lv_sub hl [2, 3, 4, 5, 1, 0] rfl)
                  · rw [if_pos c_66] at hE
                    refine lv_iconst (v := (1 : Int32)) hx hb dX6_kindsOf_69 (by decide) ?_
                    refine lv_goto (tgt := 74) hx hb dX6_kindsOf_70 (by decide) ?_
                    refine lv_istore (lv' := [(4, .int (1 : Int32)), (0, .ref (md 0)), (1, .int k_), (2, .int x2), (3, .int (nI i)), (5, .int (nI j))]) hx hb dX6_kindsOf_74 hl (by decide) rfl (fun ls hl => ?_)
                    refine lv_iinc (v := (nI (j + 3))) (lv' := [(5, .int (nI (j + 3))), (4, .int (1 : Int32)), (0, .ref (md 0)), (1, .int k_), (2, .int x2), (3, .int (nI i))]) hx hb dX6_kindsOf_76 hl (k := 5) rfl (by rw [show Int32.ofInt 3 = nI 3 from rfl, nI_add]) (by decide) rfl (fun ls hl => ?_)
                    refine lv_goto (tgt := 15) hx hb dX6_kindsOf_79 (by decide) ?_
                    exact ih (1 : Int32) ((j + 3))  (by omega) (by omega) RES15 hE hk15 ls (lv_sub hl [2, 3, 4, 5, 1, 0] rfl)
        refine L15 19 (1 : Int32) (0)  (by omega) (by omega) _ rfl (fun ls hl => ?_) ls (lv_sub hl [2, 3, 4, 5, 1, 0] rfl)
        refine lv_iload_n hx hb dX6_kindsOf_82 rfl (lv_at hl 2 rfl) ?_
        refine lv_iload hx hb dX6_kindsOf_83 (lv_at hl 4 rfl) ?_
        refine lv_if_eq (tgt := 94) hx hb dX6_kindsOf_85 (by decide) (fun c_85 => ?_) (fun c_85 => ?_)
        · rw [if_pos c_85] at hE
          refine lv_iconst (v := (0 : Int32)) hx hb dX6_kindsOf_94 (by decide) ?_
          refine lv_ior hx hb dX6_kindsOf_95 ?_
          refine lv_istore_n (lv' := [(2, .int (x2 ||| (0 : Int32))), (0, .ref (md 0)), (1, .int k_), (3, .int (nI i)), (4, .int ((fX6_kindsOf_15 md_day md_ills md_seenMany md_sights k_ i 19 (1 : Int32) (0)).1))]) hx hb dX6_kindsOf_96 rfl hl (by decide) rfl (fun ls hl => ?_)
          refine lv_iinc (v := (nI (i + 1))) (lv' := [(3, .int (nI (i + 1))), (2, .int (x2 ||| (0 : Int32))), (0, .ref (md 0)), (1, .int k_), (4, .int ((fX6_kindsOf_15 md_day md_ills md_seenMany md_sights k_ i 19 (1 : Int32) (0)).1))]) hx hb dX6_kindsOf_97 hl (k := 3) rfl (by rw [show Int32.ofInt 1 = nI 1 from rfl, nI_add]) (by decide) rfl (fun ls hl => ?_)
          refine lv_goto (tgt := 4) hx hb dX6_kindsOf_100 (by decide) ?_
          exact ih (x2 ||| (0 : Int32)) ((i + 1))  (by omega) (by omega) hE ls (lv_sub hl [2, 3, 1, 0] rfl)
        · rw [if_neg c_85] at hE
          refine lv_iconst (v := (1 : Int32)) hx hb dX6_kindsOf_88 (by decide) ?_
          refine lv_iload_n hx hb dX6_kindsOf_89 rfl (lv_at hl 3 rfl) ?_
          refine lv_ishl hx hb dX6_kindsOf_90 ?_
          refine lv_goto (tgt := 95) hx hb dX6_kindsOf_91 (by decide) ?_
          refine lv_ior hx hb dX6_kindsOf_95 ?_
          refine lv_istore_n (lv' := [(2, .int (x2 ||| ((1 : Int32) <<< ((nI i) &&& 31)))), (0, .ref (md 0)), (1, .int k_), (3, .int (nI i)), (4, .int ((fX6_kindsOf_15 md_day md_ills md_seenMany md_sights k_ i 19 (1 : Int32) (0)).1))]) hx hb dX6_kindsOf_96 rfl hl (by decide) rfl (fun ls hl => ?_)
          refine lv_iinc (v := (nI (i + 1))) (lv' := [(3, .int (nI (i + 1))), (2, .int (x2 ||| ((1 : Int32) <<< ((nI i) &&& 31)))), (0, .ref (md 0)), (1, .int k_), (4, .int ((fX6_kindsOf_15 md_day md_ills md_seenMany md_sights k_ i 19 (1 : Int32) (0)).1))]) hx hb dX6_kindsOf_97 hl (k := 3) rfl (by rw [show Int32.ofInt 1 = nI 1 from rfl, nI_add]) (by decide) rfl (fun ls hl => ?_)
          refine lv_goto (tgt := 4) hx hb dX6_kindsOf_100 (by decide) ?_
          exact ih (x2 ||| ((1 : Int32) <<< ((nI i) &&& 31))) ((i + 1))  (by omega) (by omega) hE ls (lv_sub hl [2, 3, 1, 0] rfl)
  exact L4 6 (0 : Int32) (0)  (by omega) (by omega) hE ls (lv_sub hl [2, 3, 1, 0] rfl)
def fX6_lookOf_35 (md_day : Int32) (md_ills : Nat → Int32) (md_seenMany : Int32) (md_sights : Nat → Int32) (k_ : Int32) (i : Nat) : Nat → Int32 → Int32 → Nat → Int32 × Int32 × Nat
  | 0, y6, y7, j => (y6, y7, j)
  | n_ + 1, y6, y7, j => (if (5 : Int32) ≤ (nI j) then (y6, y7, j) else (fX6_lookOf_35 md_day md_ills md_seenMany md_sights k_ i n_ (y6 + ((((fX6_kindsOf md_day md_ills md_seenMany md_sights k_) >>> ((nI j) &&& 31)) &&& (1 : Int32)) * (fX6_upIf md_day md_ills k_ (nI j) (nI i)))) (y7 + ((((fX6_kindsOf md_day md_ills md_seenMany md_sights k_) >>> ((nI j) &&& 31)) &&& (1 : Int32)) * ((1 : Int32) - (fX6_upIf md_day md_ills k_ (nI j) (nI i))))) ((j + 1))))
def fX6_lookOf_15 (md_day : Int32) (md_ills : Nat → Int32) (md_seenMany : Int32) (md_sights : Nat → Int32) (k_ : Int32) : Nat → Int32 → Int32 → Nat → Int32
  | 0, _, _, _ => 0
  | n_ + 1, x3, x4, i => (if (21 : Int32) ≤ (nI i) then x3 else (if (fX6_kindsOf md_day md_ills md_seenMany md_sights k_) = (0 : Int32) then x3 else (if ((fX6_lookOf_35 md_day md_ills md_seenMany md_sights k_ i 6 (0 : Int32) (0 : Int32) (0)).1) ≤ ((fX6_lookOf_35 md_day md_ills md_seenMany md_sights k_ i 6 (0 : Int32) (0 : Int32) (0)).2.1) then (if x4 ≤ ((fX6_lookOf_35 md_day md_ills md_seenMany md_sights k_ i 6 (0 : Int32) (0 : Int32) (0)).2.1) then (if x4 ≤ ((fX6_lookOf_35 md_day md_ills md_seenMany md_sights k_ i 6 (0 : Int32) (0 : Int32) (0)).2.1) then (fX6_lookOf_15 md_day md_ills md_seenMany md_sights k_ n_ x3 x4 ((i + 1))) else (fX6_lookOf_15 md_day md_ills md_seenMany md_sights k_ n_ x3 ((fX6_lookOf_35 md_day md_ills md_seenMany md_sights k_ i 6 (0 : Int32) (0 : Int32) (0)).2.1) ((i + 1)))) else (if x4 ≤ ((fX6_lookOf_35 md_day md_ills md_seenMany md_sights k_ i 6 (0 : Int32) (0 : Int32) (0)).2.1) then (fX6_lookOf_15 md_day md_ills md_seenMany md_sights k_ n_ (nI i) x4 ((i + 1))) else (fX6_lookOf_15 md_day md_ills md_seenMany md_sights k_ n_ (nI i) ((fX6_lookOf_35 md_day md_ills md_seenMany md_sights k_ i 6 (0 : Int32) (0 : Int32) (0)).2.1) ((i + 1))))) else (if x4 ≤ ((fX6_lookOf_35 md_day md_ills md_seenMany md_sights k_ i 6 (0 : Int32) (0 : Int32) (0)).1) then (if x4 ≤ ((fX6_lookOf_35 md_day md_ills md_seenMany md_sights k_ i 6 (0 : Int32) (0 : Int32) (0)).1) then (fX6_lookOf_15 md_day md_ills md_seenMany md_sights k_ n_ x3 x4 ((i + 1))) else (fX6_lookOf_15 md_day md_ills md_seenMany md_sights k_ n_ x3 ((fX6_lookOf_35 md_day md_ills md_seenMany md_sights k_ i 6 (0 : Int32) (0 : Int32) (0)).1) ((i + 1)))) else (if x4 ≤ ((fX6_lookOf_35 md_day md_ills md_seenMany md_sights k_ i 6 (0 : Int32) (0 : Int32) (0)).1) then (fX6_lookOf_15 md_day md_ills md_seenMany md_sights k_ n_ (nI i) x4 ((i + 1))) else (fX6_lookOf_15 md_day md_ills md_seenMany md_sights k_ n_ (nI i) ((fX6_lookOf_35 md_day md_ills md_seenMany md_sights k_ i 6 (0 : Int32) (0 : Int32) (0)).1) ((i + 1))))))))
def fX6_lookOf (md_day : Int32) (md_ills : Nat → Int32) (md_seenMany : Int32) (md_sights : Nat → Int32) (k_ : Int32) : Int32 := (fX6_lookOf_15 md_day md_ills md_seenMany md_sights k_ 22 (-1 : Int32) (6 : Int32) (0))
set_option maxHeartbeats 4000000 in
set_option maxRecDepth 100000 in
theorem kX6_lookOf (l : Launch) (dC : Nat → ClassId) (dI : Nat → Nat → Nat) (cI cJ : ClassId) (md : Nat → Nat) (md_page : Nat → Int32) (md_pageMany : Int32) (md_end : Int32) (md_ships : Int32) (md_rocks : Int32) (md_rockBits : Int64) (md_day : Int32) (md_isHired : Int32) (md_sails : Int32) (md_seasRead : Int32) (md_kinds : Nat → Int32) (md_ills : Nat → Int32) (md_cells : Nat → Int32) (md_sailed : Nat → Int32) (md_must : Nat → Int64) (md_seenMany : Int32) (md_sights : Nat → Int32) (md_seedNow : Int32) (md_cellsThen : Nat → Int32) (md_keptSea : Int32) (md_keptDay : Int32) (md_keptHired : Int32) (md_keptSails : Int32) (md_keptSeen : Int32) (md_keptKinds : Nat → Int32) (md_keptIlls : Nat → Int32) (md_keptCells : Nat → Int32) (md_keptSailed : Nat → Int32) (md_keptSights : Nat → Int32) (md_hash : Int64) (k_ : Int32) (p_1 : vp_in k_ 4) (p_2 : 0 ≤ md_seenMany.toInt) (p_3 : md_seenMany.toInt ≤ 6) : Met l yX6_lookOf wsX6_lookOf ({ frames := 3, cells := 0, slots := 0, locals := 70 } : Room) (gR (dC, dI) cI cJ (kMd cI cJ md md_page md_pageMany md_end md_ships md_rocks md_rockBits md_day md_isHired md_sails md_seasRead md_kinds md_ills md_cells md_sailed md_must md_seenMany md_sights md_seedNow md_cellsThen md_keptSea md_keptDay md_keptHired md_keptSails md_keptSeen md_keptKinds md_keptIlls md_keptCells md_keptSailed md_keptSights md_hash) ([.ref (md 0), .int k_] : List Value)) (vp_Si (fun r => r = (fX6_lookOf md_day md_ills md_seenMany md_sights k_))) 0 0 (fun _ => False) := by
  refine Met.ofW (cc := cX6_lookOf) (maxL := 10) (ret := (some .int)) (by decide) rfl ?_
  intro p e s m args below meth c s₁ B hml hv
  obtain ⟨rfl, hP, hK, hst⟩ := hv
  have hx := B.exec
  have hb := B.bytes
  have hr := B.returns
  have hts := atoms_spec (ws := wsX6_lookOf) B.pre
  have hown : s.vm.findClass RX6 = some m.cls := findClass_of_methodNamed B.named
  have hlocks := B.notSynchronized
  have hS : va_S (fun _ => False) s.heap s.heap [] := va_S.rf
  generalize hE : (fX6_lookOf md_day md_ills md_seenMany md_sights k_) = RES
  generalize hQ : MQ below (vp_Si (fun r => r = RES)) ([.ref (md 0), .int k_] : List Value).toArray s 0 0 (fun _ => False) = Q
  have hl := lv_entry ([.ref (md 0), .int k_] : List Value) (n := 10) (Nat.le_of_ble_eq_true rfl)
  rw [lg_entry_eq]
  generalize (lg_sl ([.ref (md 0), .int k_] : List Value) ++ List.replicate (10 - (lg_sl ([.ref (md 0), .int k_] : List Value)).length) Slot.unset).toArray = ls at hl ⊢
  have hl : lv_has ls 10 [(0, .ref (md 0)), (1, .int k_)] := hl
  have i_m1 : (-1 : Int32).toInt = -1 := by decide
  have i_0 : (0 : Int32).toInt = 0 := by decide
  have i_1 : (1 : Int32).toInt = 1 := by decide
  have i_5 : (5 : Int32).toInt = 5 := by decide
  have i_6 : (6 : Int32).toInt = 6 := by decide
  have i_21 : (21 : Int32).toInt = 21 := by decide
  have p_1' := vp_in_iff.mp p_1
  rw [fX6_lookOf] at hE
  refine lv_aload_n hx hb dX6_lookOf_0 rfl (lv_at hl 0 rfl) ?_
  refine lv_iload_n hx hb dX6_lookOf_1 rfl (lv_at hl 1 rfl) ?_
  refine rcVi (As := [.int k_]) (rest := []) ⟨hx, hb, hml, hown, hts⟩ (kX6_kindsOf l dC dI cI cJ md md_page md_pageMany md_end md_ships md_rocks md_rockBits md_day md_isHired md_sails md_seasRead md_kinds md_ills md_cells md_sailed md_must md_seenMany md_sights md_seedNow md_cellsThen md_keptSea md_keptDay md_keptHired md_keptSails md_keptSeen md_keptKinds md_keptIlls md_keptCells md_keptSailed md_keptSights md_hash k_ p_1 p_2 p_3) (cwV 1 hts gX6_lookOf_X6_kindsOf rfl rfl rfl (by decide +kernel) ⟨Nat.le_of_ble_eq_true rfl, Nat.le_of_ble_eq_true rfl⟩) hK hP hst hS [0, 1, 2, 3, 4, 5, 6, 7, 8, 9, 10, 11, 12, 13] rfl 0 rfl rfl rfl hl.1 rfl (Nat.le_of_ble_eq_true rfl) dX6_lookOf_2 ⟨Nat.zero_le _, Nat.zero_le _⟩ (fun r w_1 => ?_)
  subst w_1
  refine lv_istore_n (lv' := [(2, .int (fX6_kindsOf md_day md_ills md_seenMany md_sights k_)), (0, .ref (md 0)), (1, .int k_)]) hx hb dX6_lookOf_5 rfl hl (by decide) rfl (fun ls hl => ?_)
  refine lv_iconst (v := (-1 : Int32)) hx hb dX6_lookOf_6 (by decide) ?_
  refine lv_istore_n (lv' := [(3, .int (-1 : Int32)), (2, .int (fX6_kindsOf md_day md_ills md_seenMany md_sights k_)), (0, .ref (md 0)), (1, .int k_)]) hx hb dX6_lookOf_7 rfl hl (by decide) rfl (fun ls hl => ?_)
  refine lv_bipush (v := (6 : Int32)) hx hb dX6_lookOf_8 (by decide) ?_
  refine lv_istore (lv' := [(4, .int (6 : Int32)), (3, .int (-1 : Int32)), (2, .int (fX6_kindsOf md_day md_ills md_seenMany md_sights k_)), (0, .ref (md 0)), (1, .int k_)]) hx hb dX6_lookOf_10 hl (by decide) rfl (fun ls hl => ?_)
  refine lv_iconst (v := (0 : Int32)) hx hb dX6_lookOf_12 (by decide) ?_
  refine lv_istore (lv' := [(5, .int (0 : Int32)), (4, .int (6 : Int32)), (3, .int (-1 : Int32)), (2, .int (fX6_kindsOf md_day md_ills md_seenMany md_sights k_)), (0, .ref (md 0)), (1, .int k_)]) hx hb dX6_lookOf_13 hl (by decide) rfl (fun ls hl => ?_)
  have L15 : ∀ (n_ : Nat) (x3 : Int32) (x4 : Int32) (i : Nat) , (i ≤ 21) → 21 - i < n_ → (fX6_lookOf_15 md_day md_ills md_seenMany md_sights k_ n_ x3 x4 i) = RES → ∀ ls : Array Slot, lv_has ls 10 [(0, .ref (md 0)), (1, .int k_), (2, .int (fX6_kindsOf md_day md_ills md_seenMany md_sights k_)), (3, .int x3), (4, .int x4), (5, .int (nI i))] → W p l e (headSpec wsX6_lookOf ({ frames := 3, cells := 0, slots := 0, locals := 70 } : Room)).room s m ([.ref (md 0), .int k_] : List Value).toArray below meth c s.heap [] 0 0 Q (F0 m 15 ls []) := by
    intro n_
    induction n_ with
    | zero => intro x3 x4 i  hi hn; exact absurd hn (Nat.not_lt_zero _)
    | succ n_ ih =>
      intro x3 x4 i  hi hn hE ls hl
      rw [fX6_lookOf_15] at hE
      have tn_i : (nI i).toInt = (i : Int) := nI_toInt (by omega)
      refine lv_iload hx hb dX6_lookOf_15 (lv_at hl 5 rfl) ?_
      refine lv_bipush (v := (21 : Int32)) hx hb dX6_lookOf_17 (by decide) ?_
      refine lv_icmp_ge (tgt := 143) hx hb dX6_lookOf_19 (by decide) (fun c_19 => ?_) (fun c_19 => ?_)
      · have e_19 := Int32.le_iff_toInt_le.mp c_19
        rw [if_pos c_19] at hE
        refine lv_iload_n hx hb dX6_lookOf_143 rfl (lv_at hl 3 rfl) ?_
        subst hE
        rw [← hQ]
        exact W.iret hx hb hr (fun t ht hW => ⟨_, rfl, rfl, ht⟩) (fun q h => absurd h List.not_mem_nil) dX6_lookOf_144
      · have e_19 := mt Int32.le_iff_toInt_le.mpr c_19
        rw [if_neg c_19] at hE
        refine lv_iload_n hx hb dX6_lookOf_22 rfl (lv_at hl 2 rfl) ?_
        refine lv_if_eq (tgt := 143) hx hb dX6_lookOf_23 (by decide) (fun c_23 => ?_) (fun c_23 => ?_)
        · rw [if_pos c_23] at hE
          refine lv_iload_n hx hb dX6_lookOf_143 rfl (lv_at hl 3 rfl) ?_
          subst hE
          rw [← hQ]
          exact W.iret hx hb hr (fun t ht hW => ⟨_, rfl, rfl, ht⟩) (fun q h => absurd h List.not_mem_nil) dX6_lookOf_144
        · rw [if_neg c_23] at hE
          refine lv_iconst (v := (0 : Int32)) hx hb dX6_lookOf_26 (by decide) ?_
          refine lv_istore (lv' := [(6, .int (0 : Int32)), (0, .ref (md 0)), (1, .int k_), (2, .int (fX6_kindsOf md_day md_ills md_seenMany md_sights k_)), (3, .int x3), (4, .int x4), (5, .int (nI i))]) hx hb dX6_lookOf_27 hl (by decide) rfl (fun ls hl => ?_)
          refine lv_iconst (v := (0 : Int32)) hx hb dX6_lookOf_29 (by decide) ?_
          refine lv_istore (lv' := [(7, .int (0 : Int32)), (6, .int (0 : Int32)), (0, .ref (md 0)), (1, .int k_), (2, .int (fX6_kindsOf md_day md_ills md_seenMany md_sights k_)), (3, .int x3), (4, .int x4), (5, .int (nI i))]) hx hb dX6_lookOf_30 hl (by decide) rfl (fun ls hl => ?_)
          refine lv_iconst (v := (0 : Int32)) hx hb dX6_lookOf_32 (by decide) ?_
          refine lv_istore (lv' := [(8, .int (0 : Int32)), (7, .int (0 : Int32)), (6, .int (0 : Int32)), (0, .ref (md 0)), (1, .int k_), (2, .int (fX6_kindsOf md_day md_ills md_seenMany md_sights k_)), (3, .int x3), (4, .int x4), (5, .int (nI i))]) hx hb dX6_lookOf_33 hl (by decide) rfl (fun ls hl => ?_)
          have L35 : ∀ (n_ : Nat) (y6 : Int32) (y7 : Int32) (j : Nat) , (j ≤ 5) → 5 - j < n_ → ∀ (RES35 : Int32 × Int32 × Nat), (fX6_lookOf_35 md_day md_ills md_seenMany md_sights k_ i n_ y6 y7 j) = RES35 → (∀ ls : Array Slot, lv_has ls 10 [(0, .ref (md 0)), (1, .int k_), (2, .int (fX6_kindsOf md_day md_ills md_seenMany md_sights k_)), (3, .int x3), (4, .int x4), (5, .int (nI i)), (6, .int (RES35.1)), (7, .int (RES35.2.1))] → W p l e (headSpec wsX6_lookOf ({ frames := 3, cells := 0, slots := 0, locals := 70 } : Room)).room s m ([.ref (md 0), .int k_] : List Value).toArray below meth c s.heap [] 0 0 Q (F0 m 91 ls [])) → ∀ ls : Array Slot, lv_has ls 10 [(0, .ref (md 0)), (1, .int k_), (2, .int (fX6_kindsOf md_day md_ills md_seenMany md_sights k_)), (3, .int x3), (4, .int x4), (5, .int (nI i)), (6, .int y6), (7, .int y7), (8, .int (nI j))] → W p l e (headSpec wsX6_lookOf ({ frames := 3, cells := 0, slots := 0, locals := 70 } : Room)).room s m ([.ref (md 0), .int k_] : List Value).toArray below meth c s.heap [] 0 0 Q (F0 m 35 ls []) := by
            intro n_
            induction n_ with
            | zero => intro y6 y7 j  hi hn; exact absurd hn (Nat.not_lt_zero _)
            | succ n_ ih =>
              intro y6 y7 j  hi hn RES35 hE hk35 ls hl
              rw [fX6_lookOf_35] at hE
              have tn_j : (nI j).toInt = (j : Int) := nI_toInt (by omega)
              refine lv_iload hx hb dX6_lookOf_35 (lv_at hl 8 rfl) ?_
              refine lv_iconst (v := (5 : Int32)) hx hb dX6_lookOf_37 (by decide) ?_
              refine lv_icmp_ge (tgt := 91) hx hb dX6_lookOf_38 (by decide) (fun c_38 => ?_) (fun c_38 => ?_)
              · have e_38 := Int32.le_iff_toInt_le.mp c_38
                rw [if_pos c_38] at hE
                subst hE
                exact hk35  ls (lv_sub hl [0, 1, 2, 3, 4, 5, 6, 7] rfl)
              · have e_38 := mt Int32.le_iff_toInt_le.mpr c_38
                rw [if_neg c_38] at hE
                refine lv_iload_n hx hb dX6_lookOf_41 rfl (lv_at hl 2 rfl) ?_
                refine lv_iload hx hb dX6_lookOf_42 (lv_at hl 8 rfl) ?_
                refine lv_ishr hx hb dX6_lookOf_44 ?_
                refine lv_iconst (v := (1 : Int32)) hx hb dX6_lookOf_45 (by decide) ?_
                refine lv_iand hx hb dX6_lookOf_46 ?_
                refine lv_istore (lv' := [(9, .int (((fX6_kindsOf md_day md_ills md_seenMany md_sights k_) >>> ((nI j) &&& 31)) &&& (1 : Int32))), (0, .ref (md 0)), (1, .int k_), (2, .int (fX6_kindsOf md_day md_ills md_seenMany md_sights k_)), (3, .int x3), (4, .int x4), (5, .int (nI i)), (6, .int y6), (7, .int y7), (8, .int (nI j))]) hx hb dX6_lookOf_47 hl (by decide) rfl (fun ls hl => ?_)
                refine lv_iload hx hb dX6_lookOf_49 (lv_at hl 7 rfl) ?_
                refine lv_iload hx hb dX6_lookOf_51 (lv_at hl 0 rfl) ?_
                refine lv_aload_n hx hb dX6_lookOf_53 rfl (lv_at hl 1 rfl) ?_
                refine lv_iload_n hx hb dX6_lookOf_54 rfl (lv_at hl 2 rfl) ?_
                refine lv_iload hx hb dX6_lookOf_55 (lv_at hl 9 rfl) ?_
                refine lv_iload hx hb dX6_lookOf_57 (lv_at hl 6 rfl) ?_
                refine rcVi (As := [.int k_, .int (nI j), .int (nI i)]) (rest := [.int (((fX6_kindsOf md_day md_ills md_seenMany md_sights k_) >>> ((nI j) &&& 31)) &&& (1 : Int32)), .int y6]) ⟨hx, hb, hml, hown, hts⟩ (kX6_upIf l dC dI cI cJ md md_page md_pageMany md_end md_ships md_rocks md_rockBits md_day md_isHired md_sails md_seasRead md_kinds md_ills md_cells md_sailed md_must md_seenMany md_sights md_seedNow md_cellsThen md_keptSea md_keptDay md_keptHired md_keptSails md_keptSeen md_keptKinds md_keptIlls md_keptCells md_keptSailed md_keptSights md_hash k_ (nI j) (nI i) p_1) (cwV 3 hts gX6_lookOf_X6_upIf rfl rfl rfl (by decide +kernel) ⟨Nat.le_of_ble_eq_true rfl, Nat.le_of_ble_eq_true rfl⟩) hK hP hst hS [0, 1, 2, 3, 4, 5, 6, 7, 8, 9, 10, 11, 12, 13] rfl 0 rfl rfl rfl hl.1 rfl (Nat.le_of_ble_eq_true rfl) dX6_lookOf_59 ⟨Nat.zero_le _, Nat.zero_le _⟩ (fun r w_2 => ?_)
                subst w_2
                refine lv_imul hx hb dX6_lookOf_62 ?_
                refine lv_iadd hx hb dX6_lookOf_63 ?_
                refine lv_istore (lv' := [(6, .int (y6 + ((((fX6_kindsOf md_day md_ills md_seenMany md_sights k_) >>> ((nI j) &&& 31)) &&& (1 : Int32)) * (fX6_upIf md_day md_ills k_ (nI j) (nI i))))), (9, .int (((fX6_kindsOf md_day md_ills md_seenMany md_sights k_) >>> ((nI j) &&& 31)) &&& (1 : Int32))), (0, .ref (md 0)), (1, .int k_), (2, .int (fX6_kindsOf md_day md_ills md_seenMany md_sights k_)), (3, .int x3), (4, .int x4), (5, .int (nI i)), (7, .int y7), (8, .int (nI j))]) hx hb dX6_lookOf_64 hl (by decide) rfl (fun ls hl => ?_)
                refine lv_iload hx hb dX6_lookOf_66 (lv_at hl 8 rfl) ?_
                refine lv_iload hx hb dX6_lookOf_68 (lv_at hl 1 rfl) ?_
                refine lv_iconst (v := (1 : Int32)) hx hb dX6_lookOf_70 (by decide) ?_
                refine lv_aload_n hx hb dX6_lookOf_71 rfl (lv_at hl 2 rfl) ?_
                refine lv_iload_n hx hb dX6_lookOf_72 rfl (lv_at hl 3 rfl) ?_
                refine lv_iload hx hb dX6_lookOf_73 (lv_at hl 9 rfl) ?_
                refine lv_iload hx hb dX6_lookOf_75 (lv_at hl 7 rfl) ?_
                refine rcVi (As := [.int k_, .int (nI j), .int (nI i)]) (rest := [.int (1 : Int32), .int (((fX6_kindsOf md_day md_ills md_seenMany md_sights k_) >>> ((nI j) &&& 31)) &&& (1 : Int32)), .int y7]) ⟨hx, hb, hml, hown, hts⟩ (kX6_upIf l dC dI cI cJ md md_page md_pageMany md_end md_ships md_rocks md_rockBits md_day md_isHired md_sails md_seasRead md_kinds md_ills md_cells md_sailed md_must md_seenMany md_sights md_seedNow md_cellsThen md_keptSea md_keptDay md_keptHired md_keptSails md_keptSeen md_keptKinds md_keptIlls md_keptCells md_keptSailed md_keptSights md_hash k_ (nI j) (nI i) p_1) (cwV 3 hts gX6_lookOf_X6_upIf rfl rfl rfl (by decide +kernel) ⟨Nat.le_of_ble_eq_true rfl, Nat.le_of_ble_eq_true rfl⟩) hK hP hst hS [0, 1, 2, 3, 4, 5, 6, 7, 8, 9, 10, 11, 12, 13] rfl 0 rfl rfl rfl hl.1 rfl (Nat.le_of_ble_eq_true rfl) dX6_lookOf_77 ⟨Nat.zero_le _, Nat.zero_le _⟩ (fun r w_3 => ?_)
                subst w_3
                refine lv_isub hx hb dX6_lookOf_80 ?_
                refine lv_imul hx hb dX6_lookOf_81 ?_
                refine lv_iadd hx hb dX6_lookOf_82 ?_
                refine lv_istore (lv' := [(7, .int (y7 + ((((fX6_kindsOf md_day md_ills md_seenMany md_sights k_) >>> ((nI j) &&& 31)) &&& (1 : Int32)) * ((1 : Int32) - (fX6_upIf md_day md_ills k_ (nI j) (nI i)))))), (6, .int (y6 + ((((fX6_kindsOf md_day md_ills md_seenMany md_sights k_) >>> ((nI j) &&& 31)) &&& (1 : Int32)) * (fX6_upIf md_day md_ills k_ (nI j) (nI i))))), (9, .int (((fX6_kindsOf md_day md_ills md_seenMany md_sights k_) >>> ((nI j) &&& 31)) &&& (1 : Int32))), (0, .ref (md 0)), (1, .int k_), (2, .int (fX6_kindsOf md_day md_ills md_seenMany md_sights k_)), (3, .int x3), (4, .int x4), (5, .int (nI i)), (8, .int (nI j))]) hx hb dX6_lookOf_83 hl (by decide) rfl (fun ls hl => ?_)
                refine lv_iinc (v := (nI (j + 1))) (lv' := [(8, .int (nI (j + 1))), (7, .int (y7 + ((((fX6_kindsOf md_day md_ills md_seenMany md_sights k_) >>> ((nI j) &&& 31)) &&& (1 : Int32)) * ((1 : Int32) - (fX6_upIf md_day md_ills k_ (nI j) (nI i)))))), (6, .int (y6 + ((((fX6_kindsOf md_day md_ills md_seenMany md_sights k_) >>> ((nI j) &&& 31)) &&& (1 : Int32)) * (fX6_upIf md_day md_ills k_ (nI j) (nI i))))), (9, .int (((fX6_kindsOf md_day md_ills md_seenMany md_sights k_) >>> ((nI j) &&& 31)) &&& (1 : Int32))), (0, .ref (md 0)), (1, .int k_), (2, .int (fX6_kindsOf md_day md_ills md_seenMany md_sights k_)), (3, .int x3), (4, .int x4), (5, .int (nI i))]) hx hb dX6_lookOf_85 hl (k := 9) rfl (by rw [show Int32.ofInt 1 = nI 1 from rfl, nI_add]) (by decide) rfl (fun ls hl => ?_)
                refine lv_goto (tgt := 35) hx hb dX6_lookOf_88 (by decide) ?_
                exact ih (y6 + ((((fX6_kindsOf md_day md_ills md_seenMany md_sights k_) >>> ((nI j) &&& 31)) &&& (1 : Int32)) * (fX6_upIf md_day md_ills k_ (nI j) (nI i)))) (y7 + ((((fX6_kindsOf md_day md_ills md_seenMany md_sights k_) >>> ((nI j) &&& 31)) &&& (1 : Int32)) * ((1 : Int32) - (fX6_upIf md_day md_ills k_ (nI j) (nI i))))) ((j + 1))  (by omega) (by omega) RES35 hE hk35 ls (lv_sub hl [4, 5, 6, 7, 8, 9, 2, 1, 0] rfl)
          refine L35 6 (0 : Int32) (0 : Int32) (0)  (by omega) (by omega) _ rfl (fun ls hl => ?_) ls (lv_sub hl [3, 4, 5, 6, 7, 8, 2, 1, 0] rfl)
          refine lv_iload hx hb dX6_lookOf_91 (lv_at hl 6 rfl) ?_
          refine lv_iload hx hb dX6_lookOf_93 (lv_at hl 7 rfl) ?_
          refine lv_icmp_le (tgt := 103) hx hb dX6_lookOf_95 (by decide) (fun c_95 => ?_) (fun c_95 => ?_)
          · rw [if_pos c_95] at hE
            refine lv_iload hx hb dX6_lookOf_103 (lv_at hl 7 rfl) ?_
            refine lv_istore (lv' := [(8, .int ((fX6_lookOf_35 md_day md_ills md_seenMany md_sights k_ i 6 (0 : Int32) (0 : Int32) (0)).2.1)), (0, .ref (md 0)), (1, .int k_), (2, .int (fX6_kindsOf md_day md_ills md_seenMany md_sights k_)), (3, .int x3), (4, .int x4), (5, .int (nI i)), (6, .int ((fX6_lookOf_35 md_day md_ills md_seenMany md_sights k_ i 6 (0 : Int32) (0 : Int32) (0)).1)), (7, .int ((fX6_lookOf_35 md_day md_ills md_seenMany md_sights k_ i 6 (0 : Int32) (0 : Int32) (0)).2.1))]) hx hb dX6_lookOf_105 hl (by decide) rfl (fun ls hl => ?_)
            refine lv_iload hx hb dX6_lookOf_107 (lv_at hl 0 rfl) ?_
            refine lv_iload hx hb dX6_lookOf_109 (lv_at hl 5 rfl) ?_
            refine lv_icmp_ge (tgt := 119) hx hb dX6_lookOf_111 (by decide) (fun c_111 => ?_) (fun c_111 => ?_)
            · rw [if_pos c_111] at hE
              refine lv_iload_n hx hb dX6_lookOf_119 rfl (lv_at hl 4 rfl) ?_
              refine lv_istore_n (lv' := [(3, .int x3), (8, .int ((fX6_lookOf_35 md_day md_ills md_seenMany md_sights k_ i 6 (0 : Int32) (0 : Int32) (0)).2.1)), (0, .ref (md 0)), (1, .int k_), (2, .int (fX6_kindsOf md_day md_ills md_seenMany md_sights k_)), (4, .int x4), (5, .int (nI i)), (6, .int ((fX6_lookOf_35 md_day md_ills md_seenMany md_sights k_ i 6 (0 : Int32) (0 : Int32) (0)).1)), (7, .int ((fX6_lookOf_35 md_day md_ills md_seenMany md_sights k_ i 6 (0 : Int32) (0 : Int32) (0)).2.1))]) hx hb dX6_lookOf_120 rfl hl (by decide) rfl (fun ls hl => ?_)
              refine lv_iload hx hb dX6_lookOf_121 (lv_at hl 1 rfl) ?_
              refine lv_iload hx hb dX6_lookOf_123 (lv_at hl 5 rfl) ?_
              refine lv_icmp_ge (tgt := 133) hx hb dX6_lookOf_125 (by decide) (fun c_125 => ?_) (fun c_125 => ?_)
              · rw [if_pos c_125] at hE
                refine lv_iload hx hb dX6_lookOf_133 (lv_at hl 5 rfl) ?_
                refine lv_istore (lv' := [(4, .int x4), (3, .int x3), (8, .int ((fX6_lookOf_35 md_day md_ills md_seenMany md_sights k_ i 6 (0 : Int32) (0 : Int32) (0)).2.1)), (0, .ref (md 0)), (1, .int k_), (2, .int (fX6_kindsOf md_day md_ills md_seenMany md_sights k_)), (5, .int (nI i)), (6, .int ((fX6_lookOf_35 md_day md_ills md_seenMany md_sights k_ i 6 (0 : Int32) (0 : Int32) (0)).1)), (7, .int ((fX6_lookOf_35 md_day md_ills md_seenMany md_sights k_ i 6 (0 : Int32) (0 : Int32) (0)).2.1))]) hx hb dX6_lookOf_135 hl (by decide) rfl (fun ls hl => ?_)
                refine lv_iinc (v := (nI (i + 1))) (lv' := [(5, .int (nI (i + 1))), (4, .int x4), (3, .int x3), (8, .int ((fX6_lookOf_35 md_day md_ills md_seenMany md_sights k_ i 6 (0 : Int32) (0 : Int32) (0)).2.1)), (0, .ref (md 0)), (1, .int k_), (2, .int (fX6_kindsOf md_day md_ills md_seenMany md_sights k_)), (6, .int ((fX6_lookOf_35 md_day md_ills md_seenMany md_sights k_ i 6 (0 : Int32) (0 : Int32) (0)).1)), (7, .int ((fX6_lookOf_35 md_day md_ills md_seenMany md_sights k_ i 6 (0 : Int32) (0 : Int32) (0)).2.1))]) hx hb dX6_lookOf_137 hl (k := 6) rfl (by rw [show Int32.ofInt 1 = nI 1 from rfl, nI_add]) (by decide) rfl (fun ls hl => ?_)
                refine lv_goto (tgt := 15) hx hb dX6_lookOf_140 (by decide) ?_
                exact ih x3 x4 ((i + 1))  (by omega) (by omega) hE ls (lv_sub hl [4, 5, 6, 2, 1, 0] rfl)
              · rw [if_neg c_125] at hE
                refine lv_iload hx hb dX6_lookOf_128 (lv_at hl 1 rfl) ?_
                refine lv_goto (tgt := 135) hx hb dX6_lookOf_130 (by decide) ?_
                refine lv_istore (lv' := [(4, .int ((fX6_lookOf_35 md_day md_ills md_seenMany md_sights k_ i 6 (0 : Int32) (0 : Int32) (0)).2.1)), (3, .int x3), (8, .int ((fX6_lookOf_35 md_day md_ills md_seenMany md_sights k_ i 6 (0 : Int32) (0 : Int32) (0)).2.1)), (0, .ref (md 0)), (1, .int k_), (2, .int (fX6_kindsOf md_day md_ills md_seenMany md_sights k_)), (5, .int (nI i)), (6, .int ((fX6_lookOf_35 md_day md_ills md_seenMany md_sights k_ i 6 (0 : Int32) (0 : Int32) (0)).1)), (7, .int ((fX6_lookOf_35 md_day md_ills md_seenMany md_sights k_ i 6 (0 : Int32) (0 : Int32) (0)).2.1))]) hx hb dX6_lookOf_135 hl (by decide) rfl (fun ls hl => ?_)
                refine lv_iinc (v := (nI (i + 1))) (lv' := [(5, .int (nI (i + 1))), (4, .int ((fX6_lookOf_35 md_day md_ills md_seenMany md_sights k_ i 6 (0 : Int32) (0 : Int32) (0)).2.1)), (3, .int x3), (8, .int ((fX6_lookOf_35 md_day md_ills md_seenMany md_sights k_ i 6 (0 : Int32) (0 : Int32) (0)).2.1)), (0, .ref (md 0)), (1, .int k_), (2, .int (fX6_kindsOf md_day md_ills md_seenMany md_sights k_)), (6, .int ((fX6_lookOf_35 md_day md_ills md_seenMany md_sights k_ i 6 (0 : Int32) (0 : Int32) (0)).1)), (7, .int ((fX6_lookOf_35 md_day md_ills md_seenMany md_sights k_ i 6 (0 : Int32) (0 : Int32) (0)).2.1))]) hx hb dX6_lookOf_137 hl (k := 6) rfl (by rw [show Int32.ofInt 1 = nI 1 from rfl, nI_add]) (by decide) rfl (fun ls hl => ?_)
                refine lv_goto (tgt := 15) hx hb dX6_lookOf_140 (by decide) ?_
                exact ih x3 ((fX6_lookOf_35 md_day md_ills md_seenMany md_sights k_ i 6 (0 : Int32) (0 : Int32) (0)).2.1) ((i + 1))  (by omega) (by omega) hE ls (lv_sub hl [4, 5, 6, 2, 1, 0] rfl)
            · rw [if_neg c_111] at hE
              refine lv_iload hx hb dX6_lookOf_114 (lv_at hl 6 rfl) ?_
              refine lv_goto (tgt := 120) hx hb dX6_lookOf_116 (by decide) ?_
              refine lv_istore_n (lv' := [(3, .int (nI i)), (8, .int ((fX6_lookOf_35 md_day md_ills md_seenMany md_sights k_ i 6 (0 : Int32) (0 : Int32) (0)).2.1)), (0, .ref (md 0)), (1, .int k_), (2, .int (fX6_kindsOf md_day md_ills md_seenMany md_sights k_)), (4, .int x4), (5, .int (nI i)), (6, .int ((fX6_lookOf_35 md_day md_ills md_seenMany md_sights k_ i 6 (0 : Int32) (0 : Int32) (0)).1)), (7, .int ((fX6_lookOf_35 md_day md_ills md_seenMany md_sights k_ i 6 (0 : Int32) (0 : Int32) (0)).2.1))]) hx hb dX6_lookOf_120 rfl hl (by decide) rfl (fun ls hl => ?_)
              refine lv_iload hx hb dX6_lookOf_121 (lv_at hl 1 rfl) ?_
              refine lv_iload hx hb dX6_lookOf_123 (lv_at hl 5 rfl) ?_
              refine lv_icmp_ge (tgt := 133) hx hb dX6_lookOf_125 (by decide) (fun c_125 => ?_) (fun c_125 => ?_)
              · rw [if_pos c_125] at hE
                refine lv_iload hx hb dX6_lookOf_133 (lv_at hl 5 rfl) ?_
                refine lv_istore (lv' := [(4, .int x4), (3, .int (nI i)), (8, .int ((fX6_lookOf_35 md_day md_ills md_seenMany md_sights k_ i 6 (0 : Int32) (0 : Int32) (0)).2.1)), (0, .ref (md 0)), (1, .int k_), (2, .int (fX6_kindsOf md_day md_ills md_seenMany md_sights k_)), (5, .int (nI i)), (6, .int ((fX6_lookOf_35 md_day md_ills md_seenMany md_sights k_ i 6 (0 : Int32) (0 : Int32) (0)).1)), (7, .int ((fX6_lookOf_35 md_day md_ills md_seenMany md_sights k_ i 6 (0 : Int32) (0 : Int32) (0)).2.1))]) hx hb dX6_lookOf_135 hl (by decide) rfl (fun ls hl => ?_)
                refine lv_iinc (v := (nI (i + 1))) (lv' := [(5, .int (nI (i + 1))), (4, .int x4), (3, .int (nI i)), (8, .int ((fX6_lookOf_35 md_day md_ills md_seenMany md_sights k_ i 6 (0 : Int32) (0 : Int32) (0)).2.1)), (0, .ref (md 0)), (1, .int k_), (2, .int (fX6_kindsOf md_day md_ills md_seenMany md_sights k_)), (6, .int ((fX6_lookOf_35 md_day md_ills md_seenMany md_sights k_ i 6 (0 : Int32) (0 : Int32) (0)).1)), (7, .int ((fX6_lookOf_35 md_day md_ills md_seenMany md_sights k_ i 6 (0 : Int32) (0 : Int32) (0)).2.1))]) hx hb dX6_lookOf_137 hl (k := 6) rfl (by rw [show Int32.ofInt 1 = nI 1 from rfl, nI_add]) (by decide) rfl (fun ls hl => ?_)
                refine lv_goto (tgt := 15) hx hb dX6_lookOf_140 (by decide) ?_
                exact ih (nI i) x4 ((i + 1))  (by omega) (by omega) hE ls (lv_sub hl [4, 5, 6, 2, 1, 0] rfl)
              · rw [if_neg c_125] at hE
                refine lv_iload hx hb dX6_lookOf_128 (lv_at hl 1 rfl) ?_
                refine lv_goto (tgt := 135) hx hb dX6_lookOf_130 (by decide) ?_
                refine lv_istore (lv' := [(4, .int ((fX6_lookOf_35 md_day md_ills md_seenMany md_sights k_ i 6 (0 : Int32) (0 : Int32) (0)).2.1)), (3, .int (nI i)), (8, .int ((fX6_lookOf_35 md_day md_ills md_seenMany md_sights k_ i 6 (0 : Int32) (0 : Int32) (0)).2.1)), (0, .ref (md 0)), (1, .int k_), (2, .int (fX6_kindsOf md_day md_ills md_seenMany md_sights k_)), (5, .int (nI i)), (6, .int ((fX6_lookOf_35 md_day md_ills md_seenMany md_sights k_ i 6 (0 : Int32) (0 : Int32) (0)).1)), (7, .int ((fX6_lookOf_35 md_day md_ills md_seenMany md_sights k_ i 6 (0 : Int32) (0 : Int32) (0)).2.1))]) hx hb dX6_lookOf_135 hl (by decide) rfl (fun ls hl => ?_)
                refine lv_iinc (v := (nI (i + 1))) (lv' := [(5, .int (nI (i + 1))), (4, .int ((fX6_lookOf_35 md_day md_ills md_seenMany md_sights k_ i 6 (0 : Int32) (0 : Int32) (0)).2.1)), (3, .int (nI i)), (8, .int ((fX6_lookOf_35 md_day md_ills md_seenMany md_sights k_ i 6 (0 : Int32) (0 : Int32) (0)).2.1)), (0, .ref (md 0)), (1, .int k_), (2, .int (fX6_kindsOf md_day md_ills md_seenMany md_sights k_)), (6, .int ((fX6_lookOf_35 md_day md_ills md_seenMany md_sights k_ i 6 (0 : Int32) (0 : Int32) (0)).1)), (7, .int ((fX6_lookOf_35 md_day md_ills md_seenMany md_sights k_ i 6 (0 : Int32) (0 : Int32) (0)).2.1))]) hx hb dX6_lookOf_137 hl (k := 6) rfl (by rw [show Int32.ofInt 1 = nI 1 from rfl, nI_add]) (by decide) rfl (fun ls hl => ?_)
                refine lv_goto (tgt := 15) hx hb dX6_lookOf_140 (by decide) ?_
                exact ih (nI i) ((fX6_lookOf_35 md_day md_ills md_seenMany md_sights k_ i 6 (0 : Int32) (0 : Int32) (0)).2.1) ((i + 1))  (by omega) (by omega) hE ls (lv_sub hl [4, 5, 6, 2, 1, 0] rfl)
          · rw [if_neg c_95] at hE
            refine lv_iload hx hb dX6_lookOf_98 (lv_at hl 6 rfl) ?_
            refine lv_goto (tgt := 105) hx hb dX6_lookOf_100 (by decide) ?_
            refine lv_istore (lv' := [(8, .int ((fX6_lookOf_35 md_day md_ills md_seenMany md_sights k_ i 6 (0 : Int32) (0 : Int32) (0)).1)), (0, .ref (md 0)), (1, .int k_), (2, .int (fX6_kindsOf md_day md_ills md_seenMany md_sights k_)), (3, .int x3), (4, .int x4), (5, .int (nI i)), (6, .int ((fX6_lookOf_35 md_day md_ills md_seenMany md_sights k_ i 6 (0 : Int32) (0 : Int32) (0)).1)), (7, .int ((fX6_lookOf_35 md_day md_ills md_seenMany md_sights k_ i 6 (0 : Int32) (0 : Int32) (0)).2.1))]) hx hb dX6_lookOf_105 hl (by decide) rfl (fun ls hl => ?_)
            refine lv_iload hx hb dX6_lookOf_107 (lv_at hl 0 rfl) ?_
            refine lv_iload hx hb dX6_lookOf_109 (lv_at hl 5 rfl) ?_
            refine lv_icmp_ge (tgt := 119) hx hb dX6_lookOf_111 (by decide) (fun c_111 => ?_) (fun c_111 => ?_)
            · rw [if_pos c_111] at hE
              refine lv_iload_n hx hb dX6_lookOf_119 rfl (lv_at hl 4 rfl) ?_
              refine lv_istore_n (lv' := [(3, .int x3), (8, .int ((fX6_lookOf_35 md_day md_ills md_seenMany md_sights k_ i 6 (0 : Int32) (0 : Int32) (0)).1)), (0, .ref (md 0)), (1, .int k_), (2, .int (fX6_kindsOf md_day md_ills md_seenMany md_sights k_)), (4, .int x4), (5, .int (nI i)), (6, .int ((fX6_lookOf_35 md_day md_ills md_seenMany md_sights k_ i 6 (0 : Int32) (0 : Int32) (0)).1)), (7, .int ((fX6_lookOf_35 md_day md_ills md_seenMany md_sights k_ i 6 (0 : Int32) (0 : Int32) (0)).2.1))]) hx hb dX6_lookOf_120 rfl hl (by decide) rfl (fun ls hl => ?_)
              refine lv_iload hx hb dX6_lookOf_121 (lv_at hl 1 rfl) ?_
              refine lv_iload hx hb dX6_lookOf_123 (lv_at hl 5 rfl) ?_
              refine lv_icmp_ge (tgt := 133) hx hb dX6_lookOf_125 (by decide) (fun c_125 => ?_) (fun c_125 => ?_)
              · rw [if_pos c_125] at hE
                refine lv_iload hx hb dX6_lookOf_133 (lv_at hl 5 rfl) ?_
                refine lv_istore (lv' := [(4, .int x4), (3, .int x3), (8, .int ((fX6_lookOf_35 md_day md_ills md_seenMany md_sights k_ i 6 (0 : Int32) (0 : Int32) (0)).1)), (0, .ref (md 0)), (1, .int k_), (2, .int (fX6_kindsOf md_day md_ills md_seenMany md_sights k_)), (5, .int (nI i)), (6, .int ((fX6_lookOf_35 md_day md_ills md_seenMany md_sights k_ i 6 (0 : Int32) (0 : Int32) (0)).1)), (7, .int ((fX6_lookOf_35 md_day md_ills md_seenMany md_sights k_ i 6 (0 : Int32) (0 : Int32) (0)).2.1))]) hx hb dX6_lookOf_135 hl (by decide) rfl (fun ls hl => ?_)
                refine lv_iinc (v := (nI (i + 1))) (lv' := [(5, .int (nI (i + 1))), (4, .int x4), (3, .int x3), (8, .int ((fX6_lookOf_35 md_day md_ills md_seenMany md_sights k_ i 6 (0 : Int32) (0 : Int32) (0)).1)), (0, .ref (md 0)), (1, .int k_), (2, .int (fX6_kindsOf md_day md_ills md_seenMany md_sights k_)), (6, .int ((fX6_lookOf_35 md_day md_ills md_seenMany md_sights k_ i 6 (0 : Int32) (0 : Int32) (0)).1)), (7, .int ((fX6_lookOf_35 md_day md_ills md_seenMany md_sights k_ i 6 (0 : Int32) (0 : Int32) (0)).2.1))]) hx hb dX6_lookOf_137 hl (k := 6) rfl (by rw [show Int32.ofInt 1 = nI 1 from rfl, nI_add]) (by decide) rfl (fun ls hl => ?_)
                refine lv_goto (tgt := 15) hx hb dX6_lookOf_140 (by decide) ?_
                exact ih x3 x4 ((i + 1))  (by omega) (by omega) hE ls (lv_sub hl [4, 5, 6, 2, 1, 0] rfl)
              · rw [if_neg c_125] at hE
                refine lv_iload hx hb dX6_lookOf_128 (lv_at hl 1 rfl) ?_
                refine lv_goto (tgt := 135) hx hb dX6_lookOf_130 (by decide) ?_
                refine lv_istore (lv' := [(4, .int ((fX6_lookOf_35 md_day md_ills md_seenMany md_sights k_ i 6 (0 : Int32) (0 : Int32) (0)).1)), (3, .int x3), (8, .int ((fX6_lookOf_35 md_day md_ills md_seenMany md_sights k_ i 6 (0 : Int32) (0 : Int32) (0)).1)), (0, .ref (md 0)), (1, .int k_), (2, .int (fX6_kindsOf md_day md_ills md_seenMany md_sights k_)), (5, .int (nI i)), (6, .int ((fX6_lookOf_35 md_day md_ills md_seenMany md_sights k_ i 6 (0 : Int32) (0 : Int32) (0)).1)), (7, .int ((fX6_lookOf_35 md_day md_ills md_seenMany md_sights k_ i 6 (0 : Int32) (0 : Int32) (0)).2.1))]) hx hb dX6_lookOf_135 hl (by decide) rfl (fun ls hl => ?_)
                refine lv_iinc (v := (nI (i + 1))) (lv' := [(5, .int (nI (i + 1))), (4, .int ((fX6_lookOf_35 md_day md_ills md_seenMany md_sights k_ i 6 (0 : Int32) (0 : Int32) (0)).1)), (3, .int x3), (8, .int ((fX6_lookOf_35 md_day md_ills md_seenMany md_sights k_ i 6 (0 : Int32) (0 : Int32) (0)).1)), (0, .ref (md 0)), (1, .int k_), (2, .int (fX6_kindsOf md_day md_ills md_seenMany md_sights k_)), (6, .int ((fX6_lookOf_35 md_day md_ills md_seenMany md_sights k_ i 6 (0 : Int32) (0 : Int32) (0)).1)), (7, .int ((fX6_lookOf_35 md_day md_ills md_seenMany md_sights k_ i 6 (0 : Int32) (0 : Int32) (0)).2.1))]) hx hb dX6_lookOf_137 hl (k := 6) rfl (by rw [show Int32.ofInt 1 = nI 1 from rfl, nI_add]) (by decide) rfl (fun ls hl => ?_)
                refine lv_goto (tgt := 15) hx hb dX6_lookOf_140 (by decide) ?_
                exact ih x3 ((fX6_lookOf_35 md_day md_ills md_seenMany md_sights k_ i 6 (0 : Int32) (0 : Int32) (0)).1) ((i + 1))  (by omega) (by omega) hE ls (lv_sub hl [4, 5, 6, 2, 1, 0] rfl)
            · rw [if_neg c_111] at hE
              refine lv_iload hx hb dX6_lookOf_114 (lv_at hl 6 rfl) ?_
              refine lv_goto (tgt := 120) hx hb dX6_lookOf_116 (by decide) ?_
              refine lv_istore_n (lv' := [(3, .int (nI i)), (8, .int ((fX6_lookOf_35 md_day md_ills md_seenMany md_sights k_ i 6 (0 : Int32) (0 : Int32) (0)).1)), (0, .ref (md 0)), (1, .int k_), (2, .int (fX6_kindsOf md_day md_ills md_seenMany md_sights k_)), (4, .int x4), (5, .int (nI i)), (6, .int ((fX6_lookOf_35 md_day md_ills md_seenMany md_sights k_ i 6 (0 : Int32) (0 : Int32) (0)).1)), (7, .int ((fX6_lookOf_35 md_day md_ills md_seenMany md_sights k_ i 6 (0 : Int32) (0 : Int32) (0)).2.1))]) hx hb dX6_lookOf_120 rfl hl (by decide) rfl (fun ls hl => ?_)
              refine lv_iload hx hb dX6_lookOf_121 (lv_at hl 1 rfl) ?_
              refine lv_iload hx hb dX6_lookOf_123 (lv_at hl 5 rfl) ?_
              refine lv_icmp_ge (tgt := 133) hx hb dX6_lookOf_125 (by decide) (fun c_125 => ?_) (fun c_125 => ?_)
              · rw [if_pos c_125] at hE
                refine lv_iload hx hb dX6_lookOf_133 (lv_at hl 5 rfl) ?_
                refine lv_istore (lv' := [(4, .int x4), (3, .int (nI i)), (8, .int ((fX6_lookOf_35 md_day md_ills md_seenMany md_sights k_ i 6 (0 : Int32) (0 : Int32) (0)).1)), (0, .ref (md 0)), (1, .int k_), (2, .int (fX6_kindsOf md_day md_ills md_seenMany md_sights k_)), (5, .int (nI i)), (6, .int ((fX6_lookOf_35 md_day md_ills md_seenMany md_sights k_ i 6 (0 : Int32) (0 : Int32) (0)).1)), (7, .int ((fX6_lookOf_35 md_day md_ills md_seenMany md_sights k_ i 6 (0 : Int32) (0 : Int32) (0)).2.1))]) hx hb dX6_lookOf_135 hl (by decide) rfl (fun ls hl => ?_)
                refine lv_iinc (v := (nI (i + 1))) (lv' := [(5, .int (nI (i + 1))), (4, .int x4), (3, .int (nI i)), (8, .int ((fX6_lookOf_35 md_day md_ills md_seenMany md_sights k_ i 6 (0 : Int32) (0 : Int32) (0)).1)), (0, .ref (md 0)), (1, .int k_), (2, .int (fX6_kindsOf md_day md_ills md_seenMany md_sights k_)), (6, .int ((fX6_lookOf_35 md_day md_ills md_seenMany md_sights k_ i 6 (0 : Int32) (0 : Int32) (0)).1)), (7, .int ((fX6_lookOf_35 md_day md_ills md_seenMany md_sights k_ i 6 (0 : Int32) (0 : Int32) (0)).2.1))]) hx hb dX6_lookOf_137 hl (k := 6) rfl (by rw [show Int32.ofInt 1 = nI 1 from rfl, nI_add]) (by decide) rfl (fun ls hl => ?_)
                refine lv_goto (tgt := 15) hx hb dX6_lookOf_140 (by decide) ?_
                exact ih (nI i) x4 ((i + 1))  (by omega) (by omega) hE ls (lv_sub hl [4, 5, 6, 2, 1, 0] rfl)
              · rw [if_neg c_125] at hE
                refine lv_iload hx hb dX6_lookOf_128 (lv_at hl 1 rfl) ?_
                refine lv_goto (tgt := 135) hx hb dX6_lookOf_130 (by decide) ?_
                refine lv_istore (lv' := [(4, .int ((fX6_lookOf_35 md_day md_ills md_seenMany md_sights k_ i 6 (0 : Int32) (0 : Int32) (0)).1)), (3, .int (nI i)), (8, .int ((fX6_lookOf_35 md_day md_ills md_seenMany md_sights k_ i 6 (0 : Int32) (0 : Int32) (0)).1)), (0, .ref (md 0)), (1, .int k_), (2, .int (fX6_kindsOf md_day md_ills md_seenMany md_sights k_)), (5, .int (nI i)), (6, .int ((fX6_lookOf_35 md_day md_ills md_seenMany md_sights k_ i 6 (0 : Int32) (0 : Int32) (0)).1)), (7, .int ((fX6_lookOf_35 md_day md_ills md_seenMany md_sights k_ i 6 (0 : Int32) (0 : Int32) (0)).2.1))]) hx hb dX6_lookOf_135 hl (by decide) rfl (fun ls hl => ?_)
                refine lv_iinc (v := (nI (i + 1))) (lv' := [(5, .int (nI (i + 1))), (4, .int ((fX6_lookOf_35 md_day md_ills md_seenMany md_sights k_ i 6 (0 : Int32) (0 : Int32) (0)).1)), (3, .int (nI i)), (8, .int ((fX6_lookOf_35 md_day md_ills md_seenMany md_sights k_ i 6 (0 : Int32) (0 : Int32) (0)).1)), (0, .ref (md 0)), (1, .int k_), (2, .int (fX6_kindsOf md_day md_ills md_seenMany md_sights k_)), (6, .int ((fX6_lookOf_35 md_day md_ills md_seenMany md_sights k_ i 6 (0 : Int32) (0 : Int32) (0)).1)), (7, .int ((fX6_lookOf_35 md_day md_ills md_seenMany md_sights k_ i 6 (0 : Int32) (0 : Int32) (0)).2.1))]) hx hb dX6_lookOf_137 hl (k := 6) rfl (by rw [show Int32.ofInt 1 = nI 1 from rfl, nI_add]) (by decide) rfl (fun ls hl => ?_)
                refine lv_goto (tgt := 15) hx hb dX6_lookOf_140 (by decide) ?_
                exact ih (nI i) ((fX6_lookOf_35 md_day md_ills md_seenMany md_sights k_ i 6 (0 : Int32) (0 : Int32) (0)).1) ((i + 1))  (by omega) (by omega) hE ls (lv_sub hl [4, 5, 6, 2, 1, 0] rfl)
  exact L15 22 (-1 : Int32) (6 : Int32) (0)  (by omega) (by omega) hE ls (lv_sub hl [4, 5, 3, 2, 1, 0] rfl)
def fX6_tellLodger (md_day : Int32) (md_isHired : Int32) (md_kinds : Nat → Int32) (md_ills : Nat → Int32) (md_seenMany : Int32) (md_sights : Nat → Int32) (k_ : Int32) (what_ : Int32) : Int32 := (if what_ = (0 : Int32) then (md_kinds k_.toNatClampNeg) else (if what_ = (1 : Int32) then (fX6_illFor md_day md_ills k_) else (if what_ = (2 : Int32) then (if (fX6_isUp md_isHired md_kinds md_ills k_ md_day) = (0 : Int32) then (0 : Int32) else (1 : Int32)) else (if what_ = (3 : Int32) then (fX6_kindsOf md_day md_ills md_seenMany md_sights k_) else (if what_ = (4 : Int32) then (fX6_lookOf md_day md_ills md_seenMany md_sights k_) else (if what_ = (5 : Int32) then (fX6_upDays md_day md_isHired md_kinds md_ills k_) else (-102 : Int32)))))))
set_option maxHeartbeats 4000000 in
set_option maxRecDepth 100000 in
theorem kX6_tellLodger (l : Launch) (dC : Nat → ClassId) (dI : Nat → Nat → Nat) (cI cJ : ClassId) (md : Nat → Nat) (md_page : Nat → Int32) (md_pageMany : Int32) (md_end : Int32) (md_ships : Int32) (md_rocks : Int32) (md_rockBits : Int64) (md_day : Int32) (md_isHired : Int32) (md_sails : Int32) (md_seasRead : Int32) (md_kinds : Nat → Int32) (md_ills : Nat → Int32) (md_cells : Nat → Int32) (md_sailed : Nat → Int32) (md_must : Nat → Int64) (md_seenMany : Int32) (md_sights : Nat → Int32) (md_seedNow : Int32) (md_cellsThen : Nat → Int32) (md_keptSea : Int32) (md_keptDay : Int32) (md_keptHired : Int32) (md_keptSails : Int32) (md_keptSeen : Int32) (md_keptKinds : Nat → Int32) (md_keptIlls : Nat → Int32) (md_keptCells : Nat → Int32) (md_keptSailed : Nat → Int32) (md_keptSights : Nat → Int32) (md_hash : Int64) (k_ : Int32) (what_ : Int32) (p_1 : vp_in k_ 4) (p_2 : 0 ≤ md_seenMany.toInt) (p_3 : md_seenMany.toInt ≤ 6) : Met l yX6_tellLodger wsX6_tellLodger ({ frames := 4, cells := 0, slots := 0, locals := 99 } : Room) (gR (dC, dI) cI cJ (kMd cI cJ md md_page md_pageMany md_end md_ships md_rocks md_rockBits md_day md_isHired md_sails md_seasRead md_kinds md_ills md_cells md_sailed md_must md_seenMany md_sights md_seedNow md_cellsThen md_keptSea md_keptDay md_keptHired md_keptSails md_keptSeen md_keptKinds md_keptIlls md_keptCells md_keptSailed md_keptSights md_hash) ([.ref (md 0), .int k_, .int what_] : List Value)) (vp_Si (fun r => r = (fX6_tellLodger md_day md_isHired md_kinds md_ills md_seenMany md_sights k_ what_))) 0 0 (fun _ => False) := by
  refine Met.ofW (cc := cX6_tellLodger) (maxL := 3) (ret := (some .int)) (by decide) rfl ?_
  intro p e s m args below meth c s₁ B hml hv
  obtain ⟨rfl, hP, hK, hst⟩ := hv
  have hx := B.exec
  have hb := B.bytes
  have hr := B.returns
  have hts := atoms_spec (ws := wsX6_tellLodger) B.pre
  have hown : s.vm.findClass RX6 = some m.cls := findClass_of_methodNamed B.named
  have hlocks := B.notSynchronized
  have hS : va_S (fun _ => False) s.heap s.heap [] := va_S.rf
  generalize hE : (fX6_tellLodger md_day md_isHired md_kinds md_ills md_seenMany md_sights k_ what_) = RES
  generalize hQ : MQ below (vp_Si (fun r => r = RES)) ([.ref (md 0), .int k_, .int what_] : List Value).toArray s 0 0 (fun _ => False) = Q
  have hl := lv_entry ([.ref (md 0), .int k_, .int what_] : List Value) (n := 3) (Nat.le_of_ble_eq_true rfl)
  rw [lg_entry_eq]
  generalize (lg_sl ([.ref (md 0), .int k_, .int what_] : List Value) ++ List.replicate (3 - (lg_sl ([.ref (md 0), .int k_, .int what_] : List Value)).length) Slot.unset).toArray = ls at hl ⊢
  have hl : lv_has ls 3 [(0, .ref (md 0)), (1, .int k_), (2, .int what_)] := hl
  have in_X6 : ∀ w ∈ u_ws RX6 TX6 30, w ∈ wsX6_tellLodger := fun _ h => List.mem_cons_of_mem _ (List.mem_append_right _ h)
  have t_fieldLink_RX6_109_FourLodgersModel_day_I := hts (.fieldLink RX6 109 "FourLodgersModel" "day" "I") (List.mem_of_getElem? (i := 2) rfl)
  have t_fieldLink_RX6_13_FourLodgersModel_kinds_I := hts (.fieldLink RX6 13 "FourLodgersModel" "kinds" "[I") (List.mem_of_getElem? (i := 1) rfl)
  have i_m102 : (-102 : Int32).toInt = -102 := by decide
  have i_0 : (0 : Int32).toInt = 0 := by decide
  have i_1 : (1 : Int32).toInt = 1 := by decide
  have i_2 : (2 : Int32).toInt = 2 := by decide
  have i_3 : (3 : Int32).toInt = 3 := by decide
  have i_4 : (4 : Int32).toInt = 4 := by decide
  have i_5 : (5 : Int32).toInt = 5 := by decide
  have p_1' := vp_in_iff.mp p_1
  rw [fX6_tellLodger] at hE
  refine lv_iload_n hx hb dX6_tellLodger_0 rfl (lv_at hl 2 rfl) ?_
  by_cases c_1_0 : what_ = (0 : Int32)
  · have e_1_0 := congrArg Int32.toInt c_1_0
    rw [if_pos c_1_0] at hE
    refine lv_tableIn (off := 39) (tgt := 40) hx hb dX6_tellLodger_1 (by rw [c_1_0]; decide) (by rw [c_1_0]; decide) (by rw [c_1_0]; rfl) (by decide) ?_
    refine lv_aload_n hx hb dX6_tellLodger_40 rfl (lv_at hl 0 rfl) ?_
    refine va_get (D := (dC, dI)) (ci := 6) (v := .ref (md 2)) (C := RX6) (T := TX6) (N := 30) hx hb hts in_X6 hown hK hP 0 rfl rfl 10 (by decide) t_fieldLink_RX6_13_FourLodgersModel_kinds_I (fun _ h9 => h9) rfl dX6_tellLodger_41 ?_
    refine lv_iload_n hx hb dX6_tellLodger_44 rfl (lv_at hl 1 rfl) ?_
    refine va_iald hx hb hK hP 2 0 rfl rfl (i := k_) (by first | assumption | exact vp_in_iff.mpr ⟨by omega, by omega⟩ | omega | decide) dX6_tellLodger_45 ?_
    subst hE
    rw [← hQ]
    exact W.iret hx hb hr (fun t ht hW => ⟨_, rfl, rfl, ht⟩) (fun q h => absurd h List.not_mem_nil) dX6_tellLodger_46
  · rw [if_neg c_1_0] at hE
    have e_1_0 := mt Int32.toInt_inj.mp c_1_0
    by_cases c_1_1 : what_ = (1 : Int32)
    · have e_1_1 := congrArg Int32.toInt c_1_1
      rw [if_pos c_1_1] at hE
      refine lv_tableIn (off := 46) (tgt := 47) hx hb dX6_tellLodger_1 (by rw [c_1_1]; decide) (by rw [c_1_1]; decide) (by rw [c_1_1]; rfl) (by decide) ?_
      refine lv_aload_n hx hb dX6_tellLodger_47 rfl (lv_at hl 0 rfl) ?_
      refine lv_iload_n hx hb dX6_tellLodger_48 rfl (lv_at hl 1 rfl) ?_
      refine rcVi (As := [.int k_]) (rest := []) ⟨hx, hb, hml, hown, hts⟩ (kX6_illFor l dC dI cI cJ md md_page md_pageMany md_end md_ships md_rocks md_rockBits md_day md_isHired md_sails md_seasRead md_kinds md_ills md_cells md_sailed md_must md_seenMany md_sights md_seedNow md_cellsThen md_keptSea md_keptDay md_keptHired md_keptSails md_keptSeen md_keptKinds md_keptIlls md_keptCells md_keptSailed md_keptSights md_hash k_ p_1) (cwV 1 hts gX6_tellLodger_X6_illFor rfl rfl rfl (by decide +kernel) ⟨Nat.le_of_ble_eq_true rfl, Nat.le_of_ble_eq_true rfl⟩) hK hP hst hS [0, 1, 2, 3, 4, 5, 6, 7, 8, 9, 10, 11, 12, 13] rfl 0 rfl rfl rfl hl.1 rfl (Nat.le_of_ble_eq_true rfl) dX6_tellLodger_49 ⟨Nat.zero_le _, Nat.zero_le _⟩ (fun r w_1 => ?_)
      subst w_1
      subst hE
      rw [← hQ]
      exact W.iret hx hb hr (fun t ht hW => ⟨_, rfl, rfl, ht⟩) (fun q h => absurd h List.not_mem_nil) dX6_tellLodger_52
    · rw [if_neg c_1_1] at hE
      have e_1_1 := mt Int32.toInt_inj.mp c_1_1
      by_cases c_1_2 : what_ = (2 : Int32)
      · have e_1_2 := congrArg Int32.toInt c_1_2
        rw [if_pos c_1_2] at hE
        refine lv_tableIn (off := 52) (tgt := 53) hx hb dX6_tellLodger_1 (by rw [c_1_2]; decide) (by rw [c_1_2]; decide) (by rw [c_1_2]; rfl) (by decide) ?_
        refine lv_aload_n hx hb dX6_tellLodger_53 rfl (lv_at hl 0 rfl) ?_
        refine lv_iload_n hx hb dX6_tellLodger_54 rfl (lv_at hl 1 rfl) ?_
        refine lv_aload_n hx hb dX6_tellLodger_55 rfl (lv_at hl 0 rfl) ?_
        refine va_get (D := (dC, dI)) (ci := 6) (v := .int md_day) (C := RX6) (T := TX6) (N := 30) hx hb hts in_X6 hown hK hP 0 rfl rfl 6 (by decide) t_fieldLink_RX6_109_FourLodgersModel_day_I (fun _ h9 => h9) rfl dX6_tellLodger_56 ?_
        refine rcVi (As := [.int k_, .int md_day]) (rest := []) ⟨hx, hb, hml, hown, hts⟩ (kX6_isUp l dC dI cI cJ md md_page md_pageMany md_end md_ships md_rocks md_rockBits md_day md_isHired md_sails md_seasRead md_kinds md_ills md_cells md_sailed md_must md_seenMany md_sights md_seedNow md_cellsThen md_keptSea md_keptDay md_keptHired md_keptSails md_keptSeen md_keptKinds md_keptIlls md_keptCells md_keptSailed md_keptSights md_hash k_ md_day (by first | assumption | exact vp_in_iff.mpr ⟨by omega, by omega⟩ | omega | decide)) (cwV 2 hts gX6_tellLodger_X6_isUp rfl rfl rfl (by decide +kernel) ⟨Nat.le_of_ble_eq_true rfl, Nat.le_of_ble_eq_true rfl⟩) hK hP hst hS [0, 1, 2, 3, 4, 5, 6, 7, 8, 9, 10, 11, 12, 13] rfl 0 rfl rfl rfl hl.1 rfl (Nat.le_of_ble_eq_true rfl) dX6_tellLodger_59 ⟨Nat.zero_le _, Nat.zero_le _⟩ (fun r w_2 => ?_)
        obtain ⟨rfl, nb_3⟩ := w_2
        refine lv_if_eq (tgt := 69) hx hb dX6_tellLodger_62 (by decide) (fun c_62 => ?_) (fun c_62 => ?_)
        · rw [if_pos c_62] at hE
          refine lv_iconst (v := (0 : Int32)) hx hb dX6_tellLodger_69 (by decide) ?_
          subst hE
          rw [← hQ]
          exact W.iret hx hb hr (fun t ht hW => ⟨_, rfl, rfl, ht⟩) (fun q h => absurd h List.not_mem_nil) dX6_tellLodger_70
        · rw [if_neg c_62] at hE
          refine lv_iconst (v := (1 : Int32)) hx hb dX6_tellLodger_65 (by decide) ?_
          refine lv_goto (tgt := 70) hx hb dX6_tellLodger_66 (by decide) ?_
          subst hE
          rw [← hQ]
          exact W.iret hx hb hr (fun t ht hW => ⟨_, rfl, rfl, ht⟩) (fun q h => absurd h List.not_mem_nil) dX6_tellLodger_70
      · rw [if_neg c_1_2] at hE
        have e_1_2 := mt Int32.toInt_inj.mp c_1_2
        by_cases c_1_3 : what_ = (3 : Int32)
        · have e_1_3 := congrArg Int32.toInt c_1_3
          rw [if_pos c_1_3] at hE
          refine lv_tableIn (off := 70) (tgt := 71) hx hb dX6_tellLodger_1 (by rw [c_1_3]; decide) (by rw [c_1_3]; decide) (by rw [c_1_3]; rfl) (by decide) ?_
          refine lv_aload_n hx hb dX6_tellLodger_71 rfl (lv_at hl 0 rfl) ?_
          refine lv_iload_n hx hb dX6_tellLodger_72 rfl (lv_at hl 1 rfl) ?_
          refine rcVi (As := [.int k_]) (rest := []) ⟨hx, hb, hml, hown, hts⟩ (kX6_kindsOf l dC dI cI cJ md md_page md_pageMany md_end md_ships md_rocks md_rockBits md_day md_isHired md_sails md_seasRead md_kinds md_ills md_cells md_sailed md_must md_seenMany md_sights md_seedNow md_cellsThen md_keptSea md_keptDay md_keptHired md_keptSails md_keptSeen md_keptKinds md_keptIlls md_keptCells md_keptSailed md_keptSights md_hash k_ p_1 p_2 p_3) (cwV 1 hts gX6_tellLodger_X6_kindsOf rfl rfl rfl (by decide +kernel) ⟨Nat.le_of_ble_eq_true rfl, Nat.le_of_ble_eq_true rfl⟩) hK hP hst hS [0, 1, 2, 3, 4, 5, 6, 7, 8, 9, 10, 11, 12, 13] rfl 0 rfl rfl rfl hl.1 rfl (Nat.le_of_ble_eq_true rfl) dX6_tellLodger_73 ⟨Nat.zero_le _, Nat.zero_le _⟩ (fun r w_4 => ?_)
          subst w_4
          subst hE
          rw [← hQ]
          exact W.iret hx hb hr (fun t ht hW => ⟨_, rfl, rfl, ht⟩) (fun q h => absurd h List.not_mem_nil) dX6_tellLodger_76
        · rw [if_neg c_1_3] at hE
          have e_1_3 := mt Int32.toInt_inj.mp c_1_3
          by_cases c_1_4 : what_ = (4 : Int32)
          · have e_1_4 := congrArg Int32.toInt c_1_4
            rw [if_pos c_1_4] at hE
            refine lv_tableIn (off := 76) (tgt := 77) hx hb dX6_tellLodger_1 (by rw [c_1_4]; decide) (by rw [c_1_4]; decide) (by rw [c_1_4]; rfl) (by decide) ?_
            refine lv_aload_n hx hb dX6_tellLodger_77 rfl (lv_at hl 0 rfl) ?_
            refine lv_iload_n hx hb dX6_tellLodger_78 rfl (lv_at hl 1 rfl) ?_
            refine rcVi (As := [.int k_]) (rest := []) ⟨hx, hb, hml, hown, hts⟩ (kX6_lookOf l dC dI cI cJ md md_page md_pageMany md_end md_ships md_rocks md_rockBits md_day md_isHired md_sails md_seasRead md_kinds md_ills md_cells md_sailed md_must md_seenMany md_sights md_seedNow md_cellsThen md_keptSea md_keptDay md_keptHired md_keptSails md_keptSeen md_keptKinds md_keptIlls md_keptCells md_keptSailed md_keptSights md_hash k_ p_1 p_2 p_3) (cwV 1 hts gX6_tellLodger_X6_lookOf rfl rfl rfl (by decide +kernel) ⟨Nat.le_of_ble_eq_true rfl, Nat.le_of_ble_eq_true rfl⟩) hK hP hst hS [0, 1, 2, 3, 4, 5, 6, 7, 8, 9, 10, 11, 12, 13] rfl 0 rfl rfl rfl hl.1 rfl (Nat.le_of_ble_eq_true rfl) dX6_tellLodger_79 ⟨Nat.zero_le _, Nat.zero_le _⟩ (fun r w_5 => ?_)
            subst w_5
            subst hE
            rw [← hQ]
            exact W.iret hx hb hr (fun t ht hW => ⟨_, rfl, rfl, ht⟩) (fun q h => absurd h List.not_mem_nil) dX6_tellLodger_82
          · rw [if_neg c_1_4] at hE
            have e_1_4 := mt Int32.toInt_inj.mp c_1_4
            by_cases c_1_5 : what_ = (5 : Int32)
            · have e_1_5 := congrArg Int32.toInt c_1_5
              rw [if_pos c_1_5] at hE
              refine lv_tableIn (off := 82) (tgt := 83) hx hb dX6_tellLodger_1 (by rw [c_1_5]; decide) (by rw [c_1_5]; decide) (by rw [c_1_5]; rfl) (by decide) ?_
              refine lv_aload_n hx hb dX6_tellLodger_83 rfl (lv_at hl 0 rfl) ?_
              refine lv_iload_n hx hb dX6_tellLodger_84 rfl (lv_at hl 1 rfl) ?_
              refine rcVi (As := [.int k_]) (rest := []) ⟨hx, hb, hml, hown, hts⟩ (kX6_upDays l dC dI cI cJ md md_page md_pageMany md_end md_ships md_rocks md_rockBits md_day md_isHired md_sails md_seasRead md_kinds md_ills md_cells md_sailed md_must md_seenMany md_sights md_seedNow md_cellsThen md_keptSea md_keptDay md_keptHired md_keptSails md_keptSeen md_keptKinds md_keptIlls md_keptCells md_keptSailed md_keptSights md_hash k_ p_1) (cwV 1 hts gX6_tellLodger_X6_upDays rfl rfl rfl (by decide +kernel) ⟨Nat.le_of_ble_eq_true rfl, Nat.le_of_ble_eq_true rfl⟩) hK hP hst hS [0, 1, 2, 3, 4, 5, 6, 7, 8, 9, 10, 11, 12, 13] rfl 0 rfl rfl rfl hl.1 rfl (Nat.le_of_ble_eq_true rfl) dX6_tellLodger_85 ⟨Nat.zero_le _, Nat.zero_le _⟩ (fun r w_6 => ?_)
              subst w_6
              subst hE
              rw [← hQ]
              exact W.iret hx hb hr (fun t ht hW => ⟨_, rfl, rfl, ht⟩) (fun q h => absurd h List.not_mem_nil) dX6_tellLodger_88
            · rw [if_neg c_1_5] at hE
              have e_1_5 := mt Int32.toInt_inj.mp c_1_5
              refine lv_tableOut (tgt := 89) hx hb dX6_tellLodger_1 (tab_out6 (lv_neT c_1_0 (a := 0) (by decide)) (lv_neT c_1_1 (a := 1) (by decide)) (lv_neT c_1_2 (a := 2) (by decide)) (lv_neT c_1_3 (a := 3) (by decide)) (lv_neT c_1_4 (a := 4) (by decide)) (lv_neT c_1_5 (a := 5) (by decide))) (by decide) ?_
              refine lv_bipush (v := (-102 : Int32)) hx hb dX6_tellLodger_89 (by decide) ?_
              subst hE
              rw [← hQ]
              exact W.iret hx hb hr (fun t ht hW => ⟨_, rfl, rfl, ht⟩) (fun q h => absurd h List.not_mem_nil) dX6_tellLodger_91
def fX6_maySail_4 (md_rockBits : Int64) (md_day : Int32) (md_isHired : Int32) (md_kinds : Nat → Int32) (md_ills : Nat → Int32) (md_cells : Nat → Int32) (md_sailed : Nat → Int32) (s_ : Int32) : Nat → Int32 → Nat → Int32
  | 0, _, _ => 0
  | n_ + 1, x2, i => (if (5 : Int32) ≤ (nI i) then x2 else (if (md_sailed s_.toNatClampNeg) = (0 : Int32) then (if (fX6_isUp md_isHired md_kinds md_ills (nI i) md_day) = (0 : Int32) then (fX6_maySail_4 md_rockBits md_day md_isHired md_kinds md_ills md_cells md_sailed s_ n_ (x2 ||| (0 : Int32)) ((i + 1))) else (if (fX6_leads md_rockBits (md_cells s_.toNatClampNeg) (nI i)) = (-1 : Int32) then (fX6_maySail_4 md_rockBits md_day md_isHired md_kinds md_ills md_cells md_sailed s_ n_ (x2 ||| (0 : Int32)) ((i + 1))) else (fX6_maySail_4 md_rockBits md_day md_isHired md_kinds md_ills md_cells md_sailed s_ n_ (x2 ||| ((1 : Int32) <<< ((nI i) &&& 31))) ((i + 1))))) else (fX6_maySail_4 md_rockBits md_day md_isHired md_kinds md_ills md_cells md_sailed s_ n_ (x2 ||| (0 : Int32)) ((i + 1)))))
def fX6_maySail (md_rockBits : Int64) (md_day : Int32) (md_isHired : Int32) (md_kinds : Nat → Int32) (md_ills : Nat → Int32) (md_cells : Nat → Int32) (md_sailed : Nat → Int32) (s_ : Int32) : Int32 := (fX6_maySail_4 md_rockBits md_day md_isHired md_kinds md_ills md_cells md_sailed s_ 6 (0 : Int32) (0))
set_option maxHeartbeats 4000000 in
set_option maxRecDepth 100000 in
theorem kX6_maySail (l : Launch) (dC : Nat → ClassId) (dI : Nat → Nat → Nat) (cI cJ : ClassId) (md : Nat → Nat) (md_page : Nat → Int32) (md_pageMany : Int32) (md_end : Int32) (md_ships : Int32) (md_rocks : Int32) (md_rockBits : Int64) (md_day : Int32) (md_isHired : Int32) (md_sails : Int32) (md_seasRead : Int32) (md_kinds : Nat → Int32) (md_ills : Nat → Int32) (md_cells : Nat → Int32) (md_sailed : Nat → Int32) (md_must : Nat → Int64) (md_seenMany : Int32) (md_sights : Nat → Int32) (md_seedNow : Int32) (md_cellsThen : Nat → Int32) (md_keptSea : Int32) (md_keptDay : Int32) (md_keptHired : Int32) (md_keptSails : Int32) (md_keptSeen : Int32) (md_keptKinds : Nat → Int32) (md_keptIlls : Nat → Int32) (md_keptCells : Nat → Int32) (md_keptSailed : Nat → Int32) (md_keptSights : Nat → Int32) (md_hash : Int64) (s_ : Int32) (p_1 : vp_in s_ 3) : Met l yX6_maySail wsX6_maySail ({ frames := 2, cells := 0, slots := 0, locals := 50 } : Room) (gR (dC, dI) cI cJ (kMd cI cJ md md_page md_pageMany md_end md_ships md_rocks md_rockBits md_day md_isHired md_sails md_seasRead md_kinds md_ills md_cells md_sailed md_must md_seenMany md_sights md_seedNow md_cellsThen md_keptSea md_keptDay md_keptHired md_keptSails md_keptSeen md_keptKinds md_keptIlls md_keptCells md_keptSailed md_keptSights md_hash) ([.ref (md 0), .int s_] : List Value)) (vp_Si (fun r => r = (fX6_maySail md_rockBits md_day md_isHired md_kinds md_ills md_cells md_sailed s_))) 0 0 (fun _ => False) := by
  refine Met.ofW (cc := cX6_maySail) (maxL := 4) (ret := (some .int)) (by decide) rfl ?_
  intro p e s m args below meth c s₁ B hml hv
  obtain ⟨rfl, hP, hK, hst⟩ := hv
  have hx := B.exec
  have hb := B.bytes
  have hr := B.returns
  have hts := atoms_spec (ws := wsX6_maySail) B.pre
  have hown : s.vm.findClass RX6 = some m.cls := findClass_of_methodNamed B.named
  have hlocks := B.notSynchronized
  have hS : va_S (fun _ => False) s.heap s.heap [] := va_S.rf
  generalize hE : (fX6_maySail md_rockBits md_day md_isHired md_kinds md_ills md_cells md_sailed s_) = RES
  generalize hQ : MQ below (vp_Si (fun r => r = RES)) ([.ref (md 0), .int s_] : List Value).toArray s 0 0 (fun _ => False) = Q
  have hl := lv_entry ([.ref (md 0), .int s_] : List Value) (n := 4) (Nat.le_of_ble_eq_true rfl)
  rw [lg_entry_eq]
  generalize (lg_sl ([.ref (md 0), .int s_] : List Value) ++ List.replicate (4 - (lg_sl ([.ref (md 0), .int s_] : List Value)).length) Slot.unset).toArray = ls at hl ⊢
  have hl : lv_has ls 4 [(0, .ref (md 0)), (1, .int s_)] := hl
  have in_X6 : ∀ w ∈ u_ws RX6 TX6 30, w ∈ wsX6_maySail := fun _ h => List.mem_cons_of_mem _ (List.mem_append_right _ h)
  have t_fieldLink_RX6_109_FourLodgersModel_day_I := hts (.fieldLink RX6 109 "FourLodgersModel" "day" "I") (List.mem_of_getElem? (i := 2) rfl)
  have t_fieldLink_RX6_19_FourLodgersModel_cells_I := hts (.fieldLink RX6 19 "FourLodgersModel" "cells" "[I") (List.mem_of_getElem? (i := 3) rfl)
  have t_fieldLink_RX6_22_FourLodgersModel_sailed_I := hts (.fieldLink RX6 22 "FourLodgersModel" "sailed" "[I") (List.mem_of_getElem? (i := 1) rfl)
  have i_m1 : (-1 : Int32).toInt = -1 := by decide
  have i_0 : (0 : Int32).toInt = 0 := by decide
  have i_1 : (1 : Int32).toInt = 1 := by decide
  have i_5 : (5 : Int32).toInt = 5 := by decide
  have p_1' := vp_in_iff.mp p_1
  rw [fX6_maySail] at hE
  refine lv_iconst (v := (0 : Int32)) hx hb dX6_maySail_0 (by decide) ?_
  refine lv_istore_n (lv' := [(2, .int (0 : Int32)), (0, .ref (md 0)), (1, .int s_)]) hx hb dX6_maySail_1 rfl hl (by decide) rfl (fun ls hl => ?_)
  refine lv_iconst (v := (0 : Int32)) hx hb dX6_maySail_2 (by decide) ?_
  refine lv_istore_n (lv' := [(3, .int (0 : Int32)), (2, .int (0 : Int32)), (0, .ref (md 0)), (1, .int s_)]) hx hb dX6_maySail_3 rfl hl (by decide) rfl (fun ls hl => ?_)
  have L4 : ∀ (n_ : Nat) (x2 : Int32) (i : Nat) , (i ≤ 5) → 5 - i < n_ → (fX6_maySail_4 md_rockBits md_day md_isHired md_kinds md_ills md_cells md_sailed s_ n_ x2 i) = RES → ∀ ls : Array Slot, lv_has ls 4 [(0, .ref (md 0)), (1, .int s_), (2, .int x2), (3, .int (nI i))] → W p l e (headSpec wsX6_maySail ({ frames := 2, cells := 0, slots := 0, locals := 50 } : Room)).room s m ([.ref (md 0), .int s_] : List Value).toArray below meth c s.heap [] 0 0 Q (F0 m 4 ls []) := by
    intro n_
    induction n_ with
    | zero => intro x2 i  hi hn; exact absurd hn (Nat.not_lt_zero _)
    | succ n_ ih =>
      intro x2 i  hi hn hE ls hl
      rw [fX6_maySail_4] at hE
      have tn_i : (nI i).toInt = (i : Int) := nI_toInt (by omega)
      refine lv_iload_n hx hb dX6_maySail_4 rfl (lv_at hl 3 rfl) ?_
      refine lv_iconst (v := (5 : Int32)) hx hb dX6_maySail_5 (by decide) ?_
      refine lv_icmp_ge (tgt := 61) hx hb dX6_maySail_6 (by decide) (fun c_6 => ?_) (fun c_6 => ?_)
      · have e_6 := Int32.le_iff_toInt_le.mp c_6
        rw [if_pos c_6] at hE
        refine lv_iload_n hx hb dX6_maySail_61 rfl (lv_at hl 2 rfl) ?_
        subst hE
        rw [← hQ]
        exact W.iret hx hb hr (fun t ht hW => ⟨_, rfl, rfl, ht⟩) (fun q h => absurd h List.not_mem_nil) dX6_maySail_62
      · have e_6 := mt Int32.le_iff_toInt_le.mpr c_6
        rw [if_neg c_6] at hE
        refine lv_iload_n hx hb dX6_maySail_9 rfl (lv_at hl 2 rfl) ?_
        refine lv_aload_n hx hb dX6_maySail_10 rfl (lv_at hl 0 rfl) ?_
        refine va_get (D := (dC, dI)) (ci := 6) (v := .ref (md 5)) (C := RX6) (T := TX6) (N := 30) hx hb hts in_X6 hown hK hP 0 rfl rfl 13 (by decide) t_fieldLink_RX6_22_FourLodgersModel_sailed_I (fun _ h9 => h9) rfl dX6_maySail_11 ?_
        refine lv_iload_n hx hb dX6_maySail_14 rfl (lv_at hl 1 rfl) ?_
        refine va_iald hx hb hK hP 5 0 rfl rfl (i := s_) (by first | assumption | exact vp_in_iff.mpr ⟨by omega, by omega⟩ | omega | decide) dX6_maySail_15 ?_
        refine lv_if_ne (tgt := 52) hx hb dX6_maySail_16 (by decide) (fun c_16 => ?_) (fun c_16 => ?_)
        · have e_16 := mt Int32.toInt_inj.mp c_16
          rw [if_neg c_16] at hE
          refine lv_iconst (v := (0 : Int32)) hx hb dX6_maySail_52 (by decide) ?_
          refine lv_ior hx hb dX6_maySail_53 ?_
          refine lv_istore_n (lv' := [(2, .int (x2 ||| (0 : Int32))), (0, .ref (md 0)), (1, .int s_), (3, .int (nI i))]) hx hb dX6_maySail_54 rfl hl (by decide) rfl (fun ls hl => ?_)
          refine lv_iinc (v := (nI (i + 1))) (lv' := [(3, .int (nI (i + 1))), (2, .int (x2 ||| (0 : Int32))), (0, .ref (md 0)), (1, .int s_)]) hx hb dX6_maySail_55 hl (k := 3) rfl (by rw [show Int32.ofInt 1 = nI 1 from rfl, nI_add]) (by decide) rfl (fun ls hl => ?_)
          refine lv_goto (tgt := 4) hx hb dX6_maySail_58 (by decide) ?_
          exact ih (x2 ||| (0 : Int32)) ((i + 1))  (by omega) (by omega) hE ls (lv_sub hl [2, 3, 1, 0] rfl)
        · have e_16 := congrArg Int32.toInt c_16
          rw [if_pos c_16] at hE
          refine lv_aload_n hx hb dX6_maySail_19 rfl (lv_at hl 0 rfl) ?_
          refine lv_iload_n hx hb dX6_maySail_20 rfl (lv_at hl 3 rfl) ?_
          refine lv_aload_n hx hb dX6_maySail_21 rfl (lv_at hl 0 rfl) ?_
          refine va_get (D := (dC, dI)) (ci := 6) (v := .int md_day) (C := RX6) (T := TX6) (N := 30) hx hb hts in_X6 hown hK hP 0 rfl rfl 6 (by decide) t_fieldLink_RX6_109_FourLodgersModel_day_I (fun _ h9 => h9) rfl dX6_maySail_22 ?_
          refine rcVi (As := [.int (nI i), .int md_day]) (rest := [.int x2]) ⟨hx, hb, hml, hown, hts⟩ (kX6_isUp l dC dI cI cJ md md_page md_pageMany md_end md_ships md_rocks md_rockBits md_day md_isHired md_sails md_seasRead md_kinds md_ills md_cells md_sailed md_must md_seenMany md_sights md_seedNow md_cellsThen md_keptSea md_keptDay md_keptHired md_keptSails md_keptSeen md_keptKinds md_keptIlls md_keptCells md_keptSailed md_keptSights md_hash (nI i) md_day (by first | assumption | exact vp_in_iff.mpr ⟨by omega, by omega⟩ | omega | decide)) (cwV 2 hts gX6_maySail_X6_isUp rfl rfl rfl (by decide +kernel) ⟨Nat.le_of_ble_eq_true rfl, Nat.le_of_ble_eq_true rfl⟩) hK hP hst hS [0, 1, 2, 3, 4, 5, 6, 7, 8, 9, 10, 11, 12, 13] rfl 0 rfl rfl rfl hl.1 rfl (Nat.le_of_ble_eq_true rfl) dX6_maySail_25 ⟨Nat.zero_le _, Nat.zero_le _⟩ (fun r w_1 => ?_)
          obtain ⟨rfl, nb_2⟩ := w_1
          refine lv_if_eq (tgt := 52) hx hb dX6_maySail_28 (by decide) (fun c_28 => ?_) (fun c_28 => ?_)
          · rw [if_pos c_28] at hE
            refine lv_iconst (v := (0 : Int32)) hx hb dX6_maySail_52 (by decide) ?_
            refine lv_ior hx hb dX6_maySail_53 ?_
            refine lv_istore_n (lv' := [(2, .int (x2 ||| (0 : Int32))), (0, .ref (md 0)), (1, .int s_), (3, .int (nI i))]) hx hb dX6_maySail_54 rfl hl (by decide) rfl (fun ls hl => ?_)
            refine lv_iinc (v := (nI (i + 1))) (lv' := [(3, .int (nI (i + 1))), (2, .int (x2 ||| (0 : Int32))), (0, .ref (md 0)), (1, .int s_)]) hx hb dX6_maySail_55 hl (k := 3) rfl (by rw [show Int32.ofInt 1 = nI 1 from rfl, nI_add]) (by decide) rfl (fun ls hl => ?_)
            refine lv_goto (tgt := 4) hx hb dX6_maySail_58 (by decide) ?_
            exact ih (x2 ||| (0 : Int32)) ((i + 1))  (by omega) (by omega) hE ls (lv_sub hl [2, 3, 1, 0] rfl)
          · rw [if_neg c_28] at hE
            refine lv_aload_n hx hb dX6_maySail_31 rfl (lv_at hl 0 rfl) ?_
            refine lv_aload_n hx hb dX6_maySail_32 rfl (lv_at hl 0 rfl) ?_
            refine va_get (D := (dC, dI)) (ci := 6) (v := .ref (md 4)) (C := RX6) (T := TX6) (N := 30) hx hb hts in_X6 hown hK hP 0 rfl rfl 12 (by decide) t_fieldLink_RX6_19_FourLodgersModel_cells_I (fun _ h9 => h9) rfl dX6_maySail_33 ?_
            refine lv_iload_n hx hb dX6_maySail_36 rfl (lv_at hl 1 rfl) ?_
            refine va_iald hx hb hK hP 4 0 rfl rfl (i := s_) (by first | assumption | exact vp_in_iff.mpr ⟨by omega, by omega⟩ | omega | decide) dX6_maySail_37 ?_
            refine lv_iload_n hx hb dX6_maySail_38 rfl (lv_at hl 3 rfl) ?_
            refine rcVi (As := [.int (md_cells s_.toNatClampNeg), .int (nI i)]) (rest := [.int x2]) ⟨hx, hb, hml, hown, hts⟩ (kX6_leads l dC dI cI cJ md md_page md_pageMany md_end md_ships md_rocks md_rockBits md_day md_isHired md_sails md_seasRead md_kinds md_ills md_cells md_sailed md_must md_seenMany md_sights md_seedNow md_cellsThen md_keptSea md_keptDay md_keptHired md_keptSails md_keptSeen md_keptKinds md_keptIlls md_keptCells md_keptSailed md_keptSights md_hash (md_cells s_.toNatClampNeg) (nI i)) (cwV 2 hts gX6_maySail_X6_leads rfl rfl rfl (by decide +kernel) ⟨Nat.le_of_ble_eq_true rfl, Nat.le_of_ble_eq_true rfl⟩) hK hP hst hS [0, 1, 2, 3, 4, 5, 6, 7, 8, 9, 10, 11, 12, 13] rfl 0 rfl rfl rfl hl.1 rfl (Nat.le_of_ble_eq_true rfl) dX6_maySail_39 ⟨Nat.zero_le _, Nat.zero_le _⟩ (fun r w_3 => ?_)
            subst w_3
            refine lv_iconst (v := (-1 : Int32)) hx hb dX6_maySail_42 (by decide) ?_
            refine lv_icmp_eq (tgt := 52) hx hb dX6_maySail_43 (by decide) (fun c_43 => ?_) (fun c_43 => ?_)
            · rw [if_pos c_43] at hE
              refine lv_iconst (v := (0 : Int32)) hx hb dX6_maySail_52 (by decide) ?_
              refine lv_ior hx hb dX6_maySail_53 ?_
              refine lv_istore_n (lv' := [(2, .int (x2 ||| (0 : Int32))), (0, .ref (md 0)), (1, .int s_), (3, .int (nI i))]) hx hb dX6_maySail_54 rfl hl (by decide) rfl (fun ls hl => ?_)
              refine lv_iinc (v := (nI (i + 1))) (lv' := [(3, .int (nI (i + 1))), (2, .int (x2 ||| (0 : Int32))), (0, .ref (md 0)), (1, .int s_)]) hx hb dX6_maySail_55 hl (k := 3) rfl (by rw [show Int32.ofInt 1 = nI 1 from rfl, nI_add]) (by decide) rfl (fun ls hl => ?_)
              refine lv_goto (tgt := 4) hx hb dX6_maySail_58 (by decide) ?_
              exact ih (x2 ||| (0 : Int32)) ((i + 1))  (by omega) (by omega) hE ls (lv_sub hl [2, 3, 1, 0] rfl)
            · rw [if_neg c_43] at hE
              refine lv_iconst (v := (1 : Int32)) hx hb dX6_maySail_46 (by decide) ?_
              refine lv_iload_n hx hb dX6_maySail_47 rfl (lv_at hl 3 rfl) ?_
              refine lv_ishl hx hb dX6_maySail_48 ?_
              refine lv_goto (tgt := 53) hx hb dX6_maySail_49 (by decide) ?_
              refine lv_ior hx hb dX6_maySail_53 ?_
              refine lv_istore_n (lv' := [(2, .int (x2 ||| ((1 : Int32) <<< ((nI i) &&& 31)))), (0, .ref (md 0)), (1, .int s_), (3, .int (nI i))]) hx hb dX6_maySail_54 rfl hl (by decide) rfl (fun ls hl => ?_)
              refine lv_iinc (v := (nI (i + 1))) (lv' := [(3, .int (nI (i + 1))), (2, .int (x2 ||| ((1 : Int32) <<< ((nI i) &&& 31)))), (0, .ref (md 0)), (1, .int s_)]) hx hb dX6_maySail_55 hl (k := 3) rfl (by rw [show Int32.ofInt 1 = nI 1 from rfl, nI_add]) (by decide) rfl (fun ls hl => ?_)
              refine lv_goto (tgt := 4) hx hb dX6_maySail_58 (by decide) ?_
              exact ih (x2 ||| ((1 : Int32) <<< ((nI i) &&& 31))) ((i + 1))  (by omega) (by omega) hE ls (lv_sub hl [2, 3, 1, 0] rfl)
  exact L4 6 (0 : Int32) (0)  (by omega) (by omega) hE ls (lv_sub hl [2, 3, 1, 0] rfl)
def fX6_tellShip (md_rockBits : Int64) (md_day : Int32) (md_isHired : Int32) (md_kinds : Nat → Int32) (md_ills : Nat → Int32) (md_cells : Nat → Int32) (md_sailed : Nat → Int32) (s_ : Int32) (what_ : Int32) : Int32 := (if what_ = (0 : Int32) then (md_cells s_.toNatClampNeg) else (if what_ = (1 : Int32) then (md_sailed s_.toNatClampNeg) else (if what_ = (2 : Int32) then (fX6_maySail md_rockBits md_day md_isHired md_kinds md_ills md_cells md_sailed s_) else (-102 : Int32))))
set_option maxHeartbeats 4000000 in
set_option maxRecDepth 100000 in
theorem kX6_tellShip (l : Launch) (dC : Nat → ClassId) (dI : Nat → Nat → Nat) (cI cJ : ClassId) (md : Nat → Nat) (md_page : Nat → Int32) (md_pageMany : Int32) (md_end : Int32) (md_ships : Int32) (md_rocks : Int32) (md_rockBits : Int64) (md_day : Int32) (md_isHired : Int32) (md_sails : Int32) (md_seasRead : Int32) (md_kinds : Nat → Int32) (md_ills : Nat → Int32) (md_cells : Nat → Int32) (md_sailed : Nat → Int32) (md_must : Nat → Int64) (md_seenMany : Int32) (md_sights : Nat → Int32) (md_seedNow : Int32) (md_cellsThen : Nat → Int32) (md_keptSea : Int32) (md_keptDay : Int32) (md_keptHired : Int32) (md_keptSails : Int32) (md_keptSeen : Int32) (md_keptKinds : Nat → Int32) (md_keptIlls : Nat → Int32) (md_keptCells : Nat → Int32) (md_keptSailed : Nat → Int32) (md_keptSights : Nat → Int32) (md_hash : Int64) (s_ : Int32) (what_ : Int32) (p_1 : vp_in s_ 3) : Met l yX6_tellShip wsX6_tellShip ({ frames := 3, cells := 0, slots := 0, locals := 73 } : Room) (gR (dC, dI) cI cJ (kMd cI cJ md md_page md_pageMany md_end md_ships md_rocks md_rockBits md_day md_isHired md_sails md_seasRead md_kinds md_ills md_cells md_sailed md_must md_seenMany md_sights md_seedNow md_cellsThen md_keptSea md_keptDay md_keptHired md_keptSails md_keptSeen md_keptKinds md_keptIlls md_keptCells md_keptSailed md_keptSights md_hash) ([.ref (md 0), .int s_, .int what_] : List Value)) (vp_Si (fun r => r = (fX6_tellShip md_rockBits md_day md_isHired md_kinds md_ills md_cells md_sailed s_ what_))) 0 0 (fun _ => False) := by
  refine Met.ofW (cc := cX6_tellShip) (maxL := 3) (ret := (some .int)) (by decide) rfl ?_
  intro p e s m args below meth c s₁ B hml hv
  obtain ⟨rfl, hP, hK, hst⟩ := hv
  have hx := B.exec
  have hb := B.bytes
  have hr := B.returns
  have hts := atoms_spec (ws := wsX6_tellShip) B.pre
  have hown : s.vm.findClass RX6 = some m.cls := findClass_of_methodNamed B.named
  have hlocks := B.notSynchronized
  have hS : va_S (fun _ => False) s.heap s.heap [] := va_S.rf
  generalize hE : (fX6_tellShip md_rockBits md_day md_isHired md_kinds md_ills md_cells md_sailed s_ what_) = RES
  generalize hQ : MQ below (vp_Si (fun r => r = RES)) ([.ref (md 0), .int s_, .int what_] : List Value).toArray s 0 0 (fun _ => False) = Q
  have hl := lv_entry ([.ref (md 0), .int s_, .int what_] : List Value) (n := 3) (Nat.le_of_ble_eq_true rfl)
  rw [lg_entry_eq]
  generalize (lg_sl ([.ref (md 0), .int s_, .int what_] : List Value) ++ List.replicate (3 - (lg_sl ([.ref (md 0), .int s_, .int what_] : List Value)).length) Slot.unset).toArray = ls at hl ⊢
  have hl : lv_has ls 3 [(0, .ref (md 0)), (1, .int s_), (2, .int what_)] := hl
  have in_X6 : ∀ w ∈ u_ws RX6 TX6 30, w ∈ wsX6_tellShip := fun _ h => List.mem_cons_of_mem _ (List.mem_append_right _ h)
  have t_fieldLink_RX6_19_FourLodgersModel_cells_I := hts (.fieldLink RX6 19 "FourLodgersModel" "cells" "[I") (List.mem_of_getElem? (i := 1) rfl)
  have t_fieldLink_RX6_22_FourLodgersModel_sailed_I := hts (.fieldLink RX6 22 "FourLodgersModel" "sailed" "[I") (List.mem_of_getElem? (i := 2) rfl)
  have i_m102 : (-102 : Int32).toInt = -102 := by decide
  have i_0 : (0 : Int32).toInt = 0 := by decide
  have i_1 : (1 : Int32).toInt = 1 := by decide
  have i_2 : (2 : Int32).toInt = 2 := by decide
  have p_1' := vp_in_iff.mp p_1
  rw [fX6_tellShip] at hE
  refine lv_iload_n hx hb dX6_tellShip_0 rfl (lv_at hl 2 rfl) ?_
  by_cases c_1_0 : what_ = (0 : Int32)
  · have e_1_0 := congrArg Int32.toInt c_1_0
    rw [if_pos c_1_0] at hE
    refine lv_tableIn (off := 27) (tgt := 28) hx hb dX6_tellShip_1 (by rw [c_1_0]; decide) (by rw [c_1_0]; decide) (by rw [c_1_0]; rfl) (by decide) ?_
    refine lv_aload_n hx hb dX6_tellShip_28 rfl (lv_at hl 0 rfl) ?_
    refine va_get (D := (dC, dI)) (ci := 6) (v := .ref (md 4)) (C := RX6) (T := TX6) (N := 30) hx hb hts in_X6 hown hK hP 0 rfl rfl 12 (by decide) t_fieldLink_RX6_19_FourLodgersModel_cells_I (fun _ h9 => h9) rfl dX6_tellShip_29 ?_
    refine lv_iload_n hx hb dX6_tellShip_32 rfl (lv_at hl 1 rfl) ?_
    refine va_iald hx hb hK hP 4 0 rfl rfl (i := s_) (by first | assumption | exact vp_in_iff.mpr ⟨by omega, by omega⟩ | omega | decide) dX6_tellShip_33 ?_
    subst hE
    rw [← hQ]
    exact W.iret hx hb hr (fun t ht hW => ⟨_, rfl, rfl, ht⟩) (fun q h => absurd h List.not_mem_nil) dX6_tellShip_34
  · rw [if_neg c_1_0] at hE
    have e_1_0 := mt Int32.toInt_inj.mp c_1_0
    by_cases c_1_1 : what_ = (1 : Int32)
    · have e_1_1 := congrArg Int32.toInt c_1_1
      rw [if_pos c_1_1] at hE
      refine lv_tableIn (off := 34) (tgt := 35) hx hb dX6_tellShip_1 (by rw [c_1_1]; decide) (by rw [c_1_1]; decide) (by rw [c_1_1]; rfl) (by decide) ?_
      refine lv_aload_n hx hb dX6_tellShip_35 rfl (lv_at hl 0 rfl) ?_
      refine va_get (D := (dC, dI)) (ci := 6) (v := .ref (md 5)) (C := RX6) (T := TX6) (N := 30) hx hb hts in_X6 hown hK hP 0 rfl rfl 13 (by decide) t_fieldLink_RX6_22_FourLodgersModel_sailed_I (fun _ h9 => h9) rfl dX6_tellShip_36 ?_
      refine lv_iload_n hx hb dX6_tellShip_39 rfl (lv_at hl 1 rfl) ?_
      refine va_iald hx hb hK hP 5 0 rfl rfl (i := s_) (by first | assumption | exact vp_in_iff.mpr ⟨by omega, by omega⟩ | omega | decide) dX6_tellShip_40 ?_
      subst hE
      rw [← hQ]
      exact W.iret hx hb hr (fun t ht hW => ⟨_, rfl, rfl, ht⟩) (fun q h => absurd h List.not_mem_nil) dX6_tellShip_41
    · rw [if_neg c_1_1] at hE
      have e_1_1 := mt Int32.toInt_inj.mp c_1_1
      by_cases c_1_2 : what_ = (2 : Int32)
      · have e_1_2 := congrArg Int32.toInt c_1_2
        rw [if_pos c_1_2] at hE
        refine lv_tableIn (off := 41) (tgt := 42) hx hb dX6_tellShip_1 (by rw [c_1_2]; decide) (by rw [c_1_2]; decide) (by rw [c_1_2]; rfl) (by decide) ?_
        refine lv_aload_n hx hb dX6_tellShip_42 rfl (lv_at hl 0 rfl) ?_
        refine lv_iload_n hx hb dX6_tellShip_43 rfl (lv_at hl 1 rfl) ?_
        refine rcVi (As := [.int s_]) (rest := []) ⟨hx, hb, hml, hown, hts⟩ (kX6_maySail l dC dI cI cJ md md_page md_pageMany md_end md_ships md_rocks md_rockBits md_day md_isHired md_sails md_seasRead md_kinds md_ills md_cells md_sailed md_must md_seenMany md_sights md_seedNow md_cellsThen md_keptSea md_keptDay md_keptHired md_keptSails md_keptSeen md_keptKinds md_keptIlls md_keptCells md_keptSailed md_keptSights md_hash s_ p_1) (cwV 1 hts gX6_tellShip_X6_maySail rfl rfl rfl (by decide +kernel) ⟨Nat.le_of_ble_eq_true rfl, Nat.le_of_ble_eq_true rfl⟩) hK hP hst hS [0, 1, 2, 3, 4, 5, 6, 7, 8, 9, 10, 11, 12, 13] rfl 0 rfl rfl rfl hl.1 rfl (Nat.le_of_ble_eq_true rfl) dX6_tellShip_44 ⟨Nat.zero_le _, Nat.zero_le _⟩ (fun r w_1 => ?_)
        subst w_1
        subst hE
        rw [← hQ]
        exact W.iret hx hb hr (fun t ht hW => ⟨_, rfl, rfl, ht⟩) (fun q h => absurd h List.not_mem_nil) dX6_tellShip_47
      · rw [if_neg c_1_2] at hE
        have e_1_2 := mt Int32.toInt_inj.mp c_1_2
        refine lv_tableOut (tgt := 48) hx hb dX6_tellShip_1 (tab_out3 (lv_neT c_1_0 (a := 0) (by decide)) (lv_neT c_1_1 (a := 1) (by decide)) (lv_neT c_1_2 (a := 2) (by decide))) (by decide) ?_
        refine lv_bipush (v := (-102 : Int32)) hx hb dX6_tellShip_48 (by decide) ?_
        subst hE
        rw [← hQ]
        exact W.iret hx hb hr (fun t ht hW => ⟨_, rfl, rfl, ht⟩) (fun q h => absurd h List.not_mem_nil) dX6_tellShip_50
def fX6_shipsAt_4 (md_ships : Int32) (md_cells : Nat → Int32) (c_ : Int32) : Nat → Int32 → Nat → Int32
  | 0, _, _ => 0
  | n_ + 1, x2, i => (if md_ships ≤ (nI i) then x2 else (if (md_cells (nI i).toNatClampNeg) = c_ then (fX6_shipsAt_4 md_ships md_cells c_ n_ (x2 ||| ((1 : Int32) <<< ((nI i) &&& 31))) ((i + 1))) else (fX6_shipsAt_4 md_ships md_cells c_ n_ (x2 ||| (0 : Int32)) ((i + 1)))))
def fX6_shipsAt (md_ships : Int32) (md_cells : Nat → Int32) (c_ : Int32) : Int32 := (fX6_shipsAt_4 md_ships md_cells c_ 4 (0 : Int32) (0))
set_option maxHeartbeats 4000000 in
set_option maxRecDepth 100000 in
theorem kX6_shipsAt (l : Launch) (dC : Nat → ClassId) (dI : Nat → Nat → Nat) (cI cJ : ClassId) (md : Nat → Nat) (md_page : Nat → Int32) (md_pageMany : Int32) (md_end : Int32) (md_ships : Int32) (md_rocks : Int32) (md_rockBits : Int64) (md_day : Int32) (md_isHired : Int32) (md_sails : Int32) (md_seasRead : Int32) (md_kinds : Nat → Int32) (md_ills : Nat → Int32) (md_cells : Nat → Int32) (md_sailed : Nat → Int32) (md_must : Nat → Int64) (md_seenMany : Int32) (md_sights : Nat → Int32) (md_seedNow : Int32) (md_cellsThen : Nat → Int32) (md_keptSea : Int32) (md_keptDay : Int32) (md_keptHired : Int32) (md_keptSails : Int32) (md_keptSeen : Int32) (md_keptKinds : Nat → Int32) (md_keptIlls : Nat → Int32) (md_keptCells : Nat → Int32) (md_keptSailed : Nat → Int32) (md_keptSights : Nat → Int32) (md_hash : Int64) (c_ : Int32) (p_1 : md_ships.toInt ≤ 3) : Met l yX6_shipsAt wsX6_shipsAt ({ frames := 0, cells := 0, slots := 0, locals := 0 } : Room) (gR (dC, dI) cI cJ (kMd cI cJ md md_page md_pageMany md_end md_ships md_rocks md_rockBits md_day md_isHired md_sails md_seasRead md_kinds md_ills md_cells md_sailed md_must md_seenMany md_sights md_seedNow md_cellsThen md_keptSea md_keptDay md_keptHired md_keptSails md_keptSeen md_keptKinds md_keptIlls md_keptCells md_keptSailed md_keptSights md_hash) ([.ref (md 0), .int c_] : List Value)) (vp_Si (fun r => r = (fX6_shipsAt md_ships md_cells c_))) 0 0 (fun _ => False) := by
  refine Met.ofW (cc := cX6_shipsAt) (maxL := 4) (ret := (some .int)) (by decide) rfl ?_
  intro p e s m args below meth c s₁ B hml hv
  obtain ⟨rfl, hP, hK, hst⟩ := hv
  have hx := B.exec
  have hb := B.bytes
  have hr := B.returns
  have hts := atoms_spec (ws := wsX6_shipsAt) B.pre
  have hown : s.vm.findClass RX6 = some m.cls := findClass_of_methodNamed B.named
  have hlocks := B.notSynchronized
  have hS : va_S (fun _ => False) s.heap s.heap [] := va_S.rf
  generalize hE : (fX6_shipsAt md_ships md_cells c_) = RES
  generalize hQ : MQ below (vp_Si (fun r => r = RES)) ([.ref (md 0), .int c_] : List Value).toArray s 0 0 (fun _ => False) = Q
  have hl := lv_entry ([.ref (md 0), .int c_] : List Value) (n := 4) (Nat.le_of_ble_eq_true rfl)
  rw [lg_entry_eq]
  generalize (lg_sl ([.ref (md 0), .int c_] : List Value) ++ List.replicate (4 - (lg_sl ([.ref (md 0), .int c_] : List Value)).length) Slot.unset).toArray = ls at hl ⊢
  have hl : lv_has ls 4 [(0, .ref (md 0)), (1, .int c_)] := hl
  have in_X6 : ∀ w ∈ u_ws RX6 TX6 30, w ∈ wsX6_shipsAt := fun _ h => List.mem_cons_of_mem _ (List.mem_append_right _ h)
  have t_fieldLink_RX6_19_FourLodgersModel_cells_I := hts (.fieldLink RX6 19 "FourLodgersModel" "cells" "[I") (List.mem_of_getElem? (i := 2) rfl)
  have t_fieldLink_RX6_99_FourLodgersModel_ships_I := hts (.fieldLink RX6 99 "FourLodgersModel" "ships" "I") (List.mem_of_getElem? (i := 1) rfl)
  have i_0 : (0 : Int32).toInt = 0 := by decide
  have i_1 : (1 : Int32).toInt = 1 := by decide
  rw [fX6_shipsAt] at hE
  refine lv_iconst (v := (0 : Int32)) hx hb dX6_shipsAt_0 (by decide) ?_
  refine lv_istore_n (lv' := [(2, .int (0 : Int32)), (0, .ref (md 0)), (1, .int c_)]) hx hb dX6_shipsAt_1 rfl hl (by decide) rfl (fun ls hl => ?_)
  refine lv_iconst (v := (0 : Int32)) hx hb dX6_shipsAt_2 (by decide) ?_
  refine lv_istore_n (lv' := [(3, .int (0 : Int32)), (2, .int (0 : Int32)), (0, .ref (md 0)), (1, .int c_)]) hx hb dX6_shipsAt_3 rfl hl (by decide) rfl (fun ls hl => ?_)
  have L4 : ∀ (n_ : Nat) (x2 : Int32) (i : Nat) , (i ≤ 3) → 3 - i < n_ → (fX6_shipsAt_4 md_ships md_cells c_ n_ x2 i) = RES → ∀ ls : Array Slot, lv_has ls 4 [(0, .ref (md 0)), (1, .int c_), (2, .int x2), (3, .int (nI i))] → W p l e (headSpec wsX6_shipsAt ({ frames := 0, cells := 0, slots := 0, locals := 0 } : Room)).room s m ([.ref (md 0), .int c_] : List Value).toArray below meth c s.heap [] 0 0 Q (F0 m 4 ls []) := by
    intro n_
    induction n_ with
    | zero => intro x2 i  hi hn; exact absurd hn (Nat.not_lt_zero _)
    | succ n_ ih =>
      intro x2 i  hi hn hE ls hl
      rw [fX6_shipsAt_4] at hE
      have tn_i : (nI i).toInt = (i : Int) := nI_toInt (by omega)
      refine lv_iload_n hx hb dX6_shipsAt_4 rfl (lv_at hl 3 rfl) ?_
      refine lv_aload_n hx hb dX6_shipsAt_5 rfl (lv_at hl 0 rfl) ?_
      refine va_get (D := (dC, dI)) (ci := 6) (v := .int md_ships) (C := RX6) (T := TX6) (N := 30) hx hb hts in_X6 hown hK hP 0 rfl rfl 3 (by decide) t_fieldLink_RX6_99_FourLodgersModel_ships_I (fun _ h9 => h9) rfl dX6_shipsAt_6 ?_
      refine lv_icmp_ge (tgt := 38) hx hb dX6_shipsAt_9 (by decide) (fun c_9 => ?_) (fun c_9 => ?_)
      · have e_9 := Int32.le_iff_toInt_le.mp c_9
        rw [if_pos c_9] at hE
        refine lv_iload_n hx hb dX6_shipsAt_38 rfl (lv_at hl 2 rfl) ?_
        subst hE
        rw [← hQ]
        exact W.iret hx hb hr (fun t ht hW => ⟨_, rfl, rfl, ht⟩) (fun q h => absurd h List.not_mem_nil) dX6_shipsAt_39
      · have e_9 := mt Int32.le_iff_toInt_le.mpr c_9
        rw [if_neg c_9] at hE
        refine lv_iload_n hx hb dX6_shipsAt_12 rfl (lv_at hl 2 rfl) ?_
        refine lv_aload_n hx hb dX6_shipsAt_13 rfl (lv_at hl 0 rfl) ?_
        refine va_get (D := (dC, dI)) (ci := 6) (v := .ref (md 4)) (C := RX6) (T := TX6) (N := 30) hx hb hts in_X6 hown hK hP 0 rfl rfl 12 (by decide) t_fieldLink_RX6_19_FourLodgersModel_cells_I (fun _ h9 => h9) rfl dX6_shipsAt_14 ?_
        refine lv_iload_n hx hb dX6_shipsAt_17 rfl (lv_at hl 3 rfl) ?_
        refine va_iald hx hb hK hP 4 0 rfl rfl (i := (nI i)) (by first | assumption | exact vp_in_iff.mpr ⟨by omega, by omega⟩ | omega | decide) dX6_shipsAt_18 ?_
        refine lv_iload_n hx hb dX6_shipsAt_19 rfl (lv_at hl 1 rfl) ?_
        refine lv_icmp_ne (tgt := 29) hx hb dX6_shipsAt_20 (by decide) (fun c_20 => ?_) (fun c_20 => ?_)
        · have e_20 := mt Int32.toInt_inj.mp c_20
          rw [if_neg c_20] at hE
          refine lv_iconst (v := (0 : Int32)) hx hb dX6_shipsAt_29 (by decide) ?_
          refine lv_ior hx hb dX6_shipsAt_30 ?_
          refine lv_istore_n (lv' := [(2, .int (x2 ||| (0 : Int32))), (0, .ref (md 0)), (1, .int c_), (3, .int (nI i))]) hx hb dX6_shipsAt_31 rfl hl (by decide) rfl (fun ls hl => ?_)
          refine lv_iinc (v := (nI (i + 1))) (lv' := [(3, .int (nI (i + 1))), (2, .int (x2 ||| (0 : Int32))), (0, .ref (md 0)), (1, .int c_)]) hx hb dX6_shipsAt_32 hl (k := 3) rfl (by rw [show Int32.ofInt 1 = nI 1 from rfl, nI_add]) (by decide) rfl (fun ls hl => ?_)
          refine lv_goto (tgt := 4) hx hb dX6_shipsAt_35 (by decide) ?_
          exact ih (x2 ||| (0 : Int32)) ((i + 1))  (by omega) (by omega) hE ls (lv_sub hl [2, 3, 1, 0] rfl)
        · have e_20 := congrArg Int32.toInt c_20
          rw [if_pos c_20] at hE
          refine lv_iconst (v := (1 : Int32)) hx hb dX6_shipsAt_23 (by decide) ?_
          refine lv_iload_n hx hb dX6_shipsAt_24 rfl (lv_at hl 3 rfl) ?_
          refine lv_ishl hx hb dX6_shipsAt_25 ?_
          refine lv_goto (tgt := 30) hx hb dX6_shipsAt_26 (by decide) ?_
          refine lv_ior hx hb dX6_shipsAt_30 ?_
          refine lv_istore_n (lv' := [(2, .int (x2 ||| ((1 : Int32) <<< ((nI i) &&& 31)))), (0, .ref (md 0)), (1, .int c_), (3, .int (nI i))]) hx hb dX6_shipsAt_31 rfl hl (by decide) rfl (fun ls hl => ?_)
          refine lv_iinc (v := (nI (i + 1))) (lv' := [(3, .int (nI (i + 1))), (2, .int (x2 ||| ((1 : Int32) <<< ((nI i) &&& 31)))), (0, .ref (md 0)), (1, .int c_)]) hx hb dX6_shipsAt_32 hl (k := 3) rfl (by rw [show Int32.ofInt 1 = nI 1 from rfl, nI_add]) (by decide) rfl (fun ls hl => ?_)
          refine lv_goto (tgt := 4) hx hb dX6_shipsAt_35 (by decide) ?_
          exact ih (x2 ||| ((1 : Int32) <<< ((nI i) &&& 31))) ((i + 1))  (by omega) (by omega) hE ls (lv_sub hl [2, 3, 1, 0] rfl)
  exact L4 4 (0 : Int32) (0)  (by omega) (by omega) hE ls (lv_sub hl [2, 3, 1, 0] rfl)
def fX6_goOn_25 (md_rockBits : Int64) (from_ : Int64) (i : Nat) : Nat → Int64 → Nat → Int64 × Nat
  | 0, y4, j => (y4, j)
  | n_ + 1, y4, j => (if (36 : Int32) ≤ (nI j) then (y4, j) else (if ((from_ >>> ((nI j).toInt64 &&& 63)) &&& (1 : Int64)) = (1 : Int64) then (if (fX6_leads md_rockBits (nI j) (nI i)) = (-1 : Int32) then (fX6_goOn_25 md_rockBits from_ i n_ (y4 ||| (0 : Int64)) ((j + 1))) else (fX6_goOn_25 md_rockBits from_ i n_ (y4 ||| ((1 : Int64) <<< ((fX6_leads md_rockBits (nI j) (nI i)).toInt64 &&& 63))) ((j + 1)))) else (if (-1 : Int32) = (-1 : Int32) then (fX6_goOn_25 md_rockBits from_ i n_ (y4 ||| (0 : Int64)) ((j + 1))) else (fX6_goOn_25 md_rockBits from_ i n_ (y4 ||| ((1 : Int64) <<< ((-1 : Int32).toInt64 &&& 63))) ((j + 1))))))
def fX6_goOn_6 (md_rockBits : Int64) (md_isHired : Int32) (md_kinds : Nat → Int32) (md_ills : Nat → Int32) (from_ : Int64) (on_ : Int32) : Nat → Int64 → Nat → Int64
  | 0, _, _ => 0
  | n_ + 1, x4, i => (if (5 : Int32) ≤ (nI i) then x4 else (if (fX6_isUp md_isHired md_kinds md_ills (nI i) on_) = (0 : Int32) then (fX6_goOn_6 md_rockBits md_isHired md_kinds md_ills from_ on_ n_ x4 ((i + 1))) else (fX6_goOn_6 md_rockBits md_isHired md_kinds md_ills from_ on_ n_ ((fX6_goOn_25 md_rockBits from_ i 37 x4 (0)).1) ((i + 1)))))
def fX6_goOn (md_rockBits : Int64) (md_isHired : Int32) (md_kinds : Nat → Int32) (md_ills : Nat → Int32) (from_ : Int64) (on_ : Int32) : Int64 := (fX6_goOn_6 md_rockBits md_isHired md_kinds md_ills from_ on_ 6 from_ (0))
set_option maxHeartbeats 4000000 in
set_option maxRecDepth 100000 in
theorem kX6_goOn (l : Launch) (dC : Nat → ClassId) (dI : Nat → Nat → Nat) (cI cJ : ClassId) (md : Nat → Nat) (md_page : Nat → Int32) (md_pageMany : Int32) (md_end : Int32) (md_ships : Int32) (md_rocks : Int32) (md_rockBits : Int64) (md_day : Int32) (md_isHired : Int32) (md_sails : Int32) (md_seasRead : Int32) (md_kinds : Nat → Int32) (md_ills : Nat → Int32) (md_cells : Nat → Int32) (md_sailed : Nat → Int32) (md_must : Nat → Int64) (md_seenMany : Int32) (md_sights : Nat → Int32) (md_seedNow : Int32) (md_cellsThen : Nat → Int32) (md_keptSea : Int32) (md_keptDay : Int32) (md_keptHired : Int32) (md_keptSails : Int32) (md_keptSeen : Int32) (md_keptKinds : Nat → Int32) (md_keptIlls : Nat → Int32) (md_keptCells : Nat → Int32) (md_keptSailed : Nat → Int32) (md_keptSights : Nat → Int32) (md_hash : Int64) (from_ : Int64) (on_ : Int32) : Met l yX6_goOn wsX6_goOn ({ frames := 2, cells := 0, slots := 0, locals := 50 } : Room) (gR (dC, dI) cI cJ (kMd cI cJ md md_page md_pageMany md_end md_ships md_rocks md_rockBits md_day md_isHired md_sails md_seasRead md_kinds md_ills md_cells md_sailed md_must md_seenMany md_sights md_seedNow md_cellsThen md_keptSea md_keptDay md_keptHired md_keptSails md_keptSeen md_keptKinds md_keptIlls md_keptCells md_keptSailed md_keptSights md_hash) ([.ref (md 0), .long from_, .int on_] : List Value)) (vp_Sl (fun r => r = (fX6_goOn md_rockBits md_isHired md_kinds md_ills from_ on_))) 0 0 (fun _ => False) := by
  refine Met.ofW (cc := cX6_goOn) (maxL := 9) (ret := (some .long)) (by decide) rfl ?_
  intro p e s m args below meth c s₁ B hml hv
  obtain ⟨rfl, hP, hK, hst⟩ := hv
  have hx := B.exec
  have hb := B.bytes
  have hr := B.returns
  have hts := atoms_spec (ws := wsX6_goOn) B.pre
  have hown : s.vm.findClass RX6 = some m.cls := findClass_of_methodNamed B.named
  have hlocks := B.notSynchronized
  have hS : va_S (fun _ => False) s.heap s.heap [] := va_S.rf
  generalize hE : (fX6_goOn md_rockBits md_isHired md_kinds md_ills from_ on_) = RES
  generalize hQ : MQ below (vp_Sl (fun r => r = RES)) ([.ref (md 0), .long from_, .int on_] : List Value).toArray s 0 0 (fun _ => False) = Q
  have hl := lv_entry ([.ref (md 0), .long from_, .int on_] : List Value) (n := 9) (Nat.le_of_ble_eq_true rfl)
  rw [lg_entry_eq]
  generalize (lg_sl ([.ref (md 0), .long from_, .int on_] : List Value) ++ List.replicate (9 - (lg_sl ([.ref (md 0), .long from_, .int on_] : List Value)).length) Slot.unset).toArray = ls at hl ⊢
  have hl : lv_has ls 9 [(0, .ref (md 0)), (1, .long from_), (3, .int on_)] := hl
  have i_m1 : (-1 : Int32).toInt = -1 := by decide
  have i_0 : (0 : Int32).toInt = 0 := by decide
  have i_5 : (5 : Int32).toInt = 5 := by decide
  have i_36 : (36 : Int32).toInt = 36 := by decide
  rw [fX6_goOn] at hE
  refine lv_lload_n hx hb dX6_goOn_0 rfl (lv_at hl 1 rfl) ?_
  refine lv_lstore (lv' := [(4, .long from_), (0, .ref (md 0)), (1, .long from_), (3, .int on_)]) hx hb dX6_goOn_1 hl (by decide) rfl (fun ls hl => ?_)
  refine lv_iconst (v := (0 : Int32)) hx hb dX6_goOn_3 (by decide) ?_
  refine lv_istore (lv' := [(6, .int (0 : Int32)), (4, .long from_), (0, .ref (md 0)), (1, .long from_), (3, .int on_)]) hx hb dX6_goOn_4 hl (by decide) rfl (fun ls hl => ?_)
  have L6 : ∀ (n_ : Nat) (x4 : Int64) (i : Nat) , (i ≤ 5) → 5 - i < n_ → (fX6_goOn_6 md_rockBits md_isHired md_kinds md_ills from_ on_ n_ x4 i) = RES → ∀ ls : Array Slot, lv_has ls 9 [(0, .ref (md 0)), (1, .long from_), (3, .int on_), (4, .long x4), (6, .int (nI i))] → W p l e (headSpec wsX6_goOn ({ frames := 2, cells := 0, slots := 0, locals := 50 } : Room)).room s m ([.ref (md 0), .long from_, .int on_] : List Value).toArray below meth c s.heap [] 0 0 Q (F0 m 6 ls []) := by
    intro n_
    induction n_ with
    | zero => intro x4 i  hi hn; exact absurd hn (Nat.not_lt_zero _)
    | succ n_ ih =>
      intro x4 i  hi hn hE ls hl
      rw [fX6_goOn_6] at hE
      have tn_i : (nI i).toInt = (i : Int) := nI_toInt (by omega)
      refine lv_iload hx hb dX6_goOn_6 (lv_at hl 4 rfl) ?_
      refine lv_iconst (v := (5 : Int32)) hx hb dX6_goOn_8 (by decide) ?_
      refine lv_icmp_ge (tgt := 88) hx hb dX6_goOn_9 (by decide) (fun c_9 => ?_) (fun c_9 => ?_)
      · have e_9 := Int32.le_iff_toInt_le.mp c_9
        rw [if_pos c_9] at hE
        refine lv_lload hx hb dX6_goOn_88 (lv_at hl 3 rfl) ?_
        subst hE
        rw [← hQ]
        exact W.lret hx hb hr (fun t ht hW => ⟨_, rfl, rfl, ht⟩) (fun q h => absurd h List.not_mem_nil) dX6_goOn_90
      · have e_9 := mt Int32.le_iff_toInt_le.mpr c_9
        rw [if_neg c_9] at hE
        refine lv_aload_n hx hb dX6_goOn_12 rfl (lv_at hl 0 rfl) ?_
        refine lv_iload hx hb dX6_goOn_13 (lv_at hl 4 rfl) ?_
        refine lv_iload_n hx hb dX6_goOn_15 rfl (lv_at hl 2 rfl) ?_
        refine rcVi (As := [.int (nI i), .int on_]) (rest := []) ⟨hx, hb, hml, hown, hts⟩ (kX6_isUp l dC dI cI cJ md md_page md_pageMany md_end md_ships md_rocks md_rockBits md_day md_isHired md_sails md_seasRead md_kinds md_ills md_cells md_sailed md_must md_seenMany md_sights md_seedNow md_cellsThen md_keptSea md_keptDay md_keptHired md_keptSails md_keptSeen md_keptKinds md_keptIlls md_keptCells md_keptSailed md_keptSights md_hash (nI i) on_ (by first | assumption | exact vp_in_iff.mpr ⟨by omega, by omega⟩ | omega | decide)) (cwV 2 hts gX6_goOn_X6_isUp rfl rfl rfl (by decide +kernel) ⟨Nat.le_of_ble_eq_true rfl, Nat.le_of_ble_eq_true rfl⟩) hK hP hst hS [0, 1, 2, 3, 4, 5, 6, 7, 8, 9, 10, 11, 12, 13] rfl 0 rfl rfl rfl hl.1 rfl (Nat.le_of_ble_eq_true rfl) dX6_goOn_16 ⟨Nat.zero_le _, Nat.zero_le _⟩ (fun r w_1 => ?_)
        obtain ⟨rfl, nb_2⟩ := w_1
        refine lv_if_eq (tgt := 82) hx hb dX6_goOn_19 (by decide) (fun c_19 => ?_) (fun c_19 => ?_)
        · rw [if_pos c_19] at hE
          refine lv_iinc (v := (nI (i + 1))) (lv' := [(6, .int (nI (i + 1))), (0, .ref (md 0)), (1, .long from_), (3, .int on_), (4, .long x4)]) hx hb dX6_goOn_82 hl (k := 4) rfl (by rw [show Int32.ofInt 1 = nI 1 from rfl, nI_add]) (by decide) rfl (fun ls hl => ?_)
          refine lv_goto (tgt := 6) hx hb dX6_goOn_85 (by decide) ?_
          exact ih x4 ((i + 1))  (by omega) (by omega) hE ls (lv_sub hl [1, 2, 3, 4, 0] rfl)
        · rw [if_neg c_19] at hE
          refine lv_iconst (v := (0 : Int32)) hx hb dX6_goOn_22 (by decide) ?_
          refine lv_istore (lv' := [(7, .int (0 : Int32)), (0, .ref (md 0)), (1, .long from_), (3, .int on_), (4, .long x4), (6, .int (nI i))]) hx hb dX6_goOn_23 hl (by decide) rfl (fun ls hl => ?_)
          have L25 : ∀ (n_ : Nat) (y4 : Int64) (j : Nat) , (j ≤ 36) → 36 - j < n_ → ∀ (RES25 : Int64 × Nat), (fX6_goOn_25 md_rockBits from_ i n_ y4 j) = RES25 → (∀ ls : Array Slot, lv_has ls 9 [(0, .ref (md 0)), (1, .long from_), (3, .int on_), (4, .long (RES25.1)), (6, .int (nI i))] → W p l e (headSpec wsX6_goOn ({ frames := 2, cells := 0, slots := 0, locals := 50 } : Room)).room s m ([.ref (md 0), .long from_, .int on_] : List Value).toArray below meth c s.heap [] 0 0 Q (F0 m 82 ls [])) → ∀ ls : Array Slot, lv_has ls 9 [(0, .ref (md 0)), (1, .long from_), (3, .int on_), (4, .long y4), (6, .int (nI i)), (7, .int (nI j))] → W p l e (headSpec wsX6_goOn ({ frames := 2, cells := 0, slots := 0, locals := 50 } : Room)).room s m ([.ref (md 0), .long from_, .int on_] : List Value).toArray below meth c s.heap [] 0 0 Q (F0 m 25 ls []) := by
            intro n_
            induction n_ with
            | zero => intro y4 j  hi hn; exact absurd hn (Nat.not_lt_zero _)
            | succ n_ ih =>
              intro y4 j  hi hn RES25 hE hk25 ls hl
              rw [fX6_goOn_25] at hE
              have tn_j : (nI j).toInt = (j : Int) := nI_toInt (by omega)
              refine lv_iload hx hb dX6_goOn_25 (lv_at hl 5 rfl) ?_
              refine lv_bipush (v := (36 : Int32)) hx hb dX6_goOn_27 (by decide) ?_
              refine lv_icmp_ge (tgt := 82) hx hb dX6_goOn_29 (by decide) (fun c_29 => ?_) (fun c_29 => ?_)
              · have e_29 := Int32.le_iff_toInt_le.mp c_29
                rw [if_pos c_29] at hE
                subst hE
                exact hk25  ls (lv_sub hl [0, 1, 2, 3, 4] rfl)
              · have e_29 := mt Int32.le_iff_toInt_le.mpr c_29
                rw [if_neg c_29] at hE
                refine lv_lload_n hx hb dX6_goOn_32 rfl (lv_at hl 1 rfl) ?_
                refine lv_iload hx hb dX6_goOn_33 (lv_at hl 5 rfl) ?_
                refine lv_lshr hx hb dX6_goOn_35 rfl ?_
                refine lv_lconst (v := (1 : Int64)) hx hb dX6_goOn_36 (by decide) ?_
                refine lv_land hx hb dX6_goOn_37 ?_
                refine lv_lconst (v := (1 : Int64)) hx hb dX6_goOn_38 (by decide) ?_
                refine W.lcmp hx hb dX6_goOn_39 ?_
                refine lv_if_ne (tgt := 54) hx hb dX6_goOn_40 (by decide) (fun c_40 => ?_) (fun c_40 => ?_)
                · replace c_40 : ¬ ((from_ >>> ((nI j).toInt64 &&& 63)) &&& (1 : Int64)) = (1 : Int64) := fun q => c_40 ((lg_cmp_eq _ _).mpr q)
                  rw [if_neg c_40] at hE
                  refine lv_iconst (v := (-1 : Int32)) hx hb dX6_goOn_54 (by decide) ?_
                  refine lv_istore (lv' := [(8, .int (-1 : Int32)), (0, .ref (md 0)), (1, .long from_), (3, .int on_), (4, .long y4), (6, .int (nI i)), (7, .int (nI j))]) hx hb dX6_goOn_55 hl (by decide) rfl (fun ls hl => ?_)
                  refine lv_lload hx hb dX6_goOn_57 (lv_at hl 4 rfl) ?_
                  refine lv_iload hx hb dX6_goOn_59 (lv_at hl 0 rfl) ?_
                  refine lv_iconst (v := (-1 : Int32)) hx hb dX6_goOn_61 (by decide) ?_
                  refine lv_icmp_ne (tgt := 69) hx hb dX6_goOn_62 (by decide) (fun c_62 => ?_) (fun c_62 => ?_)
                  · have e_62 := mt Int32.toInt_inj.mp c_62
                    rw [if_neg c_62] at hE
                    refine lv_lconst (v := (1 : Int64)) hx hb dX6_goOn_69 (by decide) ?_
                    refine lv_iload hx hb dX6_goOn_70 (lv_at hl 0 rfl) ?_
                    refine lv_lshl hx hb dX6_goOn_72 rfl ?_
                    refine lv_lor hx hb dX6_goOn_73 ?_
                    refine lv_lstore (lv' := [(4, .long (y4 ||| ((1 : Int64) <<< ((-1 : Int32).toInt64 &&& 63)))), (8, .int (-1 : Int32)), (0, .ref (md 0)), (1, .long from_), (3, .int on_), (6, .int (nI i)), (7, .int (nI j))]) hx hb dX6_goOn_74 hl (by decide) rfl (fun ls hl => ?_)
                    refine lv_iinc (v := (nI (j + 1))) (lv' := [(7, .int (nI (j + 1))), (4, .long (y4 ||| ((1 : Int64) <<< ((-1 : Int32).toInt64 &&& 63)))), (8, .int (-1 : Int32)), (0, .ref (md 0)), (1, .long from_), (3, .int on_), (6, .int (nI i))]) hx hb dX6_goOn_76 hl (k := 6) rfl (by rw [show Int32.ofInt 1 = nI 1 from rfl, nI_add]) (by decide) rfl (fun ls hl => ?_)
                    refine lv_goto (tgt := 25) hx hb dX6_goOn_79 (by decide) ?_
                    exact ih (y4 ||| ((1 : Int64) <<< ((-1 : Int32).toInt64 &&& 63))) ((j + 1))  (by omega) (by omega) RES25 hE hk25 ls (lv_sub hl [3, 4, 5, 1, 6, 0] rfl)
                  · have e_62 := congrArg Int32.toInt c_62
                    rw [if_pos c_62] at hE
                    refine lv_lconst (v := (0 : Int64)) hx hb dX6_goOn_65 (by decide) ?_
                    refine lv_goto (tgt := 73) hx hb dX6_goOn_66 (by decide) ?_
                    refine lv_lor hx hb dX6_goOn_73 ?_
                    refine lv_lstore (lv' := [(4, .long (y4 ||| (0 : Int64))), (8, .int (-1 : Int32)), (0, .ref (md 0)), (1, .long from_), (3, .int on_), (6, .int (nI i)), (7, .int (nI j))]) hx hb dX6_goOn_74 hl (by decide) rfl (fun ls hl => ?_)
                    refine lv_iinc (v := (nI (j + 1))) (lv' := [(7, .int (nI (j + 1))), (4, .long (y4 ||| (0 : Int64))), (8, .int (-1 : Int32)), (0, .ref (md 0)), (1, .long from_), (3, .int on_), (6, .int (nI i))]) hx hb dX6_goOn_76 hl (k := 6) rfl (by rw [show Int32.ofInt 1 = nI 1 from rfl, nI_add]) (by decide) rfl (fun ls hl => ?_)
                    refine lv_goto (tgt := 25) hx hb dX6_goOn_79 (by decide) ?_
                    exact ih (y4 ||| (0 : Int64)) ((j + 1))  (by omega) (by omega) RES25 hE hk25 ls (lv_sub hl [3, 4, 5, 1, 6, 0] rfl)
                · replace c_40 : ((from_ >>> ((nI j).toInt64 &&& 63)) &&& (1 : Int64)) = (1 : Int64) := (lg_cmp_eq _ _).mp c_40
                  rw [if_pos c_40] at hE
                  refine lv_aload_n hx hb dX6_goOn_43 rfl (lv_at hl 0 rfl) ?_
                  refine lv_iload hx hb dX6_goOn_44 (lv_at hl 5 rfl) ?_
                  refine lv_iload hx hb dX6_goOn_46 (lv_at hl 4 rfl) ?_
                  refine rcVi (As := [.int (nI j), .int (nI i)]) (rest := []) ⟨hx, hb, hml, hown, hts⟩ (kX6_leads l dC dI cI cJ md md_page md_pageMany md_end md_ships md_rocks md_rockBits md_day md_isHired md_sails md_seasRead md_kinds md_ills md_cells md_sailed md_must md_seenMany md_sights md_seedNow md_cellsThen md_keptSea md_keptDay md_keptHired md_keptSails md_keptSeen md_keptKinds md_keptIlls md_keptCells md_keptSailed md_keptSights md_hash (nI j) (nI i)) (cwV 2 hts gX6_goOn_X6_leads rfl rfl rfl (by decide +kernel) ⟨Nat.le_of_ble_eq_true rfl, Nat.le_of_ble_eq_true rfl⟩) hK hP hst hS [0, 1, 2, 3, 4, 5, 6, 7, 8, 9, 10, 11, 12, 13] rfl 0 rfl rfl rfl hl.1 rfl (Nat.le_of_ble_eq_true rfl) dX6_goOn_48 ⟨Nat.zero_le _, Nat.zero_le _⟩ (fun r w_3 => ?_)
                  subst w_3
                  refine lv_goto (tgt := 55) hx hb dX6_goOn_51 (by decide) ?_
                  refine lv_istore (lv' := [(8, .int (fX6_leads md_rockBits (nI j) (nI i))), (0, .ref (md 0)), (1, .long from_), (3, .int on_), (4, .long y4), (6, .int (nI i)), (7, .int (nI j))]) hx hb dX6_goOn_55 hl (by decide) rfl (fun ls hl => ?_)
                  refine lv_lload hx hb dX6_goOn_57 (lv_at hl 4 rfl) ?_
                  refine lv_iload hx hb dX6_goOn_59 (lv_at hl 0 rfl) ?_
                  refine lv_iconst (v := (-1 : Int32)) hx hb dX6_goOn_61 (by decide) ?_
                  refine lv_icmp_ne (tgt := 69) hx hb dX6_goOn_62 (by decide) (fun c_62 => ?_) (fun c_62 => ?_)
                  · rw [if_neg c_62] at hE
                    refine lv_lconst (v := (1 : Int64)) hx hb dX6_goOn_69 (by decide) ?_
                    refine lv_iload hx hb dX6_goOn_70 (lv_at hl 0 rfl) ?_
                    refine lv_lshl hx hb dX6_goOn_72 rfl ?_
                    refine lv_lor hx hb dX6_goOn_73 ?_
                    refine lv_lstore (lv' := [(4, .long (y4 ||| ((1 : Int64) <<< ((fX6_leads md_rockBits (nI j) (nI i)).toInt64 &&& 63)))), (8, .int (fX6_leads md_rockBits (nI j) (nI i))), (0, .ref (md 0)), (1, .long from_), (3, .int on_), (6, .int (nI i)), (7, .int (nI j))]) hx hb dX6_goOn_74 hl (by decide) rfl (fun ls hl => ?_)
                    refine lv_iinc (v := (nI (j + 1))) (lv' := [(7, .int (nI (j + 1))), (4, .long (y4 ||| ((1 : Int64) <<< ((fX6_leads md_rockBits (nI j) (nI i)).toInt64 &&& 63)))), (8, .int (fX6_leads md_rockBits (nI j) (nI i))), (0, .ref (md 0)), (1, .long from_), (3, .int on_), (6, .int (nI i))]) hx hb dX6_goOn_76 hl (k := 6) rfl (by rw [show Int32.ofInt 1 = nI 1 from rfl, nI_add]) (by decide) rfl (fun ls hl => ?_)
                    refine lv_goto (tgt := 25) hx hb dX6_goOn_79 (by decide) ?_
                    exact ih (y4 ||| ((1 : Int64) <<< ((fX6_leads md_rockBits (nI j) (nI i)).toInt64 &&& 63))) ((j + 1))  (by omega) (by omega) RES25 hE hk25 ls (lv_sub hl [3, 4, 5, 1, 6, 0] rfl)
                  · rw [if_pos c_62] at hE
                    refine lv_lconst (v := (0 : Int64)) hx hb dX6_goOn_65 (by decide) ?_
                    refine lv_goto (tgt := 73) hx hb dX6_goOn_66 (by decide) ?_
                    refine lv_lor hx hb dX6_goOn_73 ?_
                    refine lv_lstore (lv' := [(4, .long (y4 ||| (0 : Int64))), (8, .int (fX6_leads md_rockBits (nI j) (nI i))), (0, .ref (md 0)), (1, .long from_), (3, .int on_), (6, .int (nI i)), (7, .int (nI j))]) hx hb dX6_goOn_74 hl (by decide) rfl (fun ls hl => ?_)
                    refine lv_iinc (v := (nI (j + 1))) (lv' := [(7, .int (nI (j + 1))), (4, .long (y4 ||| (0 : Int64))), (8, .int (fX6_leads md_rockBits (nI j) (nI i))), (0, .ref (md 0)), (1, .long from_), (3, .int on_), (6, .int (nI i))]) hx hb dX6_goOn_76 hl (k := 6) rfl (by rw [show Int32.ofInt 1 = nI 1 from rfl, nI_add]) (by decide) rfl (fun ls hl => ?_)
                    refine lv_goto (tgt := 25) hx hb dX6_goOn_79 (by decide) ?_
                    exact ih (y4 ||| (0 : Int64)) ((j + 1))  (by omega) (by omega) RES25 hE hk25 ls (lv_sub hl [3, 4, 5, 1, 6, 0] rfl)
          refine L25 37 x4 (0)  (by omega) (by omega) _ rfl (fun ls hl => ?_) ls (lv_sub hl [1, 2, 3, 4, 5, 0] rfl)
          refine lv_iinc (v := (nI (i + 1))) (lv' := [(6, .int (nI (i + 1))), (0, .ref (md 0)), (1, .long from_), (3, .int on_), (4, .long ((fX6_goOn_25 md_rockBits from_ i 37 x4 (0)).1))]) hx hb dX6_goOn_82 hl (k := 4) rfl (by rw [show Int32.ofInt 1 = nI 1 from rfl, nI_add]) (by decide) rfl (fun ls hl => ?_)
          refine lv_goto (tgt := 6) hx hb dX6_goOn_85 (by decide) ?_
          exact ih ((fX6_goOn_25 md_rockBits from_ i 37 x4 (0)).1) ((i + 1))  (by omega) (by omega) hE ls (lv_sub hl [1, 2, 3, 4, 0] rfl)
  exact L6 6 from_ (0)  (by omega) (by omega) hE ls (lv_sub hl [2, 3, 4, 1, 0] rfl)
def fX6_goBack_25 (md_rockBits : Int64) (to_ : Int64) (i : Nat) : Nat → Int64 → Nat → Int64 × Nat
  | 0, y4, j => (y4, j)
  | n_ + 1, y4, j => (if (36 : Int32) ≤ (nI j) then (y4, j) else (if (fX6_leads md_rockBits (nI j) (nI i)) = (-1 : Int32) then (fX6_goBack_25 md_rockBits to_ i n_ (y4 ||| (0 : Int64)) ((j + 1))) else (if ((to_ >>> ((fX6_leads md_rockBits (nI j) (nI i)).toInt64 &&& 63)) &&& (1 : Int64)) = (1 : Int64) then (fX6_goBack_25 md_rockBits to_ i n_ (y4 ||| ((1 : Int64) <<< ((nI j).toInt64 &&& 63))) ((j + 1))) else (fX6_goBack_25 md_rockBits to_ i n_ (y4 ||| (0 : Int64)) ((j + 1))))))
def fX6_goBack_6 (md_rockBits : Int64) (md_isHired : Int32) (md_kinds : Nat → Int32) (md_ills : Nat → Int32) (to_ : Int64) (on_ : Int32) : Nat → Int64 → Nat → Int64
  | 0, _, _ => 0
  | n_ + 1, x4, i => (if (5 : Int32) ≤ (nI i) then x4 else (if (fX6_isUp md_isHired md_kinds md_ills (nI i) on_) = (0 : Int32) then (fX6_goBack_6 md_rockBits md_isHired md_kinds md_ills to_ on_ n_ x4 ((i + 1))) else (fX6_goBack_6 md_rockBits md_isHired md_kinds md_ills to_ on_ n_ ((fX6_goBack_25 md_rockBits to_ i 37 x4 (0)).1) ((i + 1)))))
def fX6_goBack (md_rockBits : Int64) (md_isHired : Int32) (md_kinds : Nat → Int32) (md_ills : Nat → Int32) (to_ : Int64) (on_ : Int32) : Int64 := (fX6_goBack_6 md_rockBits md_isHired md_kinds md_ills to_ on_ 6 to_ (0))
set_option maxHeartbeats 4000000 in
set_option maxRecDepth 100000 in
theorem kX6_goBack (l : Launch) (dC : Nat → ClassId) (dI : Nat → Nat → Nat) (cI cJ : ClassId) (md : Nat → Nat) (md_page : Nat → Int32) (md_pageMany : Int32) (md_end : Int32) (md_ships : Int32) (md_rocks : Int32) (md_rockBits : Int64) (md_day : Int32) (md_isHired : Int32) (md_sails : Int32) (md_seasRead : Int32) (md_kinds : Nat → Int32) (md_ills : Nat → Int32) (md_cells : Nat → Int32) (md_sailed : Nat → Int32) (md_must : Nat → Int64) (md_seenMany : Int32) (md_sights : Nat → Int32) (md_seedNow : Int32) (md_cellsThen : Nat → Int32) (md_keptSea : Int32) (md_keptDay : Int32) (md_keptHired : Int32) (md_keptSails : Int32) (md_keptSeen : Int32) (md_keptKinds : Nat → Int32) (md_keptIlls : Nat → Int32) (md_keptCells : Nat → Int32) (md_keptSailed : Nat → Int32) (md_keptSights : Nat → Int32) (md_hash : Int64) (to_ : Int64) (on_ : Int32) : Met l yX6_goBack wsX6_goBack ({ frames := 2, cells := 0, slots := 0, locals := 50 } : Room) (gR (dC, dI) cI cJ (kMd cI cJ md md_page md_pageMany md_end md_ships md_rocks md_rockBits md_day md_isHired md_sails md_seasRead md_kinds md_ills md_cells md_sailed md_must md_seenMany md_sights md_seedNow md_cellsThen md_keptSea md_keptDay md_keptHired md_keptSails md_keptSeen md_keptKinds md_keptIlls md_keptCells md_keptSailed md_keptSights md_hash) ([.ref (md 0), .long to_, .int on_] : List Value)) (vp_Sl (fun r => r = (fX6_goBack md_rockBits md_isHired md_kinds md_ills to_ on_))) 0 0 (fun _ => False) := by
  refine Met.ofW (cc := cX6_goBack) (maxL := 9) (ret := (some .long)) (by decide) rfl ?_
  intro p e s m args below meth c s₁ B hml hv
  obtain ⟨rfl, hP, hK, hst⟩ := hv
  have hx := B.exec
  have hb := B.bytes
  have hr := B.returns
  have hts := atoms_spec (ws := wsX6_goBack) B.pre
  have hown : s.vm.findClass RX6 = some m.cls := findClass_of_methodNamed B.named
  have hlocks := B.notSynchronized
  have hS : va_S (fun _ => False) s.heap s.heap [] := va_S.rf
  generalize hE : (fX6_goBack md_rockBits md_isHired md_kinds md_ills to_ on_) = RES
  generalize hQ : MQ below (vp_Sl (fun r => r = RES)) ([.ref (md 0), .long to_, .int on_] : List Value).toArray s 0 0 (fun _ => False) = Q
  have hl := lv_entry ([.ref (md 0), .long to_, .int on_] : List Value) (n := 9) (Nat.le_of_ble_eq_true rfl)
  rw [lg_entry_eq]
  generalize (lg_sl ([.ref (md 0), .long to_, .int on_] : List Value) ++ List.replicate (9 - (lg_sl ([.ref (md 0), .long to_, .int on_] : List Value)).length) Slot.unset).toArray = ls at hl ⊢
  have hl : lv_has ls 9 [(0, .ref (md 0)), (1, .long to_), (3, .int on_)] := hl
  have i_m1 : (-1 : Int32).toInt = -1 := by decide
  have i_0 : (0 : Int32).toInt = 0 := by decide
  have i_5 : (5 : Int32).toInt = 5 := by decide
  have i_36 : (36 : Int32).toInt = 36 := by decide
  rw [fX6_goBack] at hE
  refine lv_lload_n hx hb dX6_goBack_0 rfl (lv_at hl 1 rfl) ?_
  refine lv_lstore (lv' := [(4, .long to_), (0, .ref (md 0)), (1, .long to_), (3, .int on_)]) hx hb dX6_goBack_1 hl (by decide) rfl (fun ls hl => ?_)
  refine lv_iconst (v := (0 : Int32)) hx hb dX6_goBack_3 (by decide) ?_
  refine lv_istore (lv' := [(6, .int (0 : Int32)), (4, .long to_), (0, .ref (md 0)), (1, .long to_), (3, .int on_)]) hx hb dX6_goBack_4 hl (by decide) rfl (fun ls hl => ?_)
  have L6 : ∀ (n_ : Nat) (x4 : Int64) (i : Nat) , (i ≤ 5) → 5 - i < n_ → (fX6_goBack_6 md_rockBits md_isHired md_kinds md_ills to_ on_ n_ x4 i) = RES → ∀ ls : Array Slot, lv_has ls 9 [(0, .ref (md 0)), (1, .long to_), (3, .int on_), (4, .long x4), (6, .int (nI i))] → W p l e (headSpec wsX6_goBack ({ frames := 2, cells := 0, slots := 0, locals := 50 } : Room)).room s m ([.ref (md 0), .long to_, .int on_] : List Value).toArray below meth c s.heap [] 0 0 Q (F0 m 6 ls []) := by
    intro n_
    induction n_ with
    | zero => intro x4 i  hi hn; exact absurd hn (Nat.not_lt_zero _)
    | succ n_ ih =>
      intro x4 i  hi hn hE ls hl
      rw [fX6_goBack_6] at hE
      have tn_i : (nI i).toInt = (i : Int) := nI_toInt (by omega)
      refine lv_iload hx hb dX6_goBack_6 (lv_at hl 4 rfl) ?_
      refine lv_iconst (v := (5 : Int32)) hx hb dX6_goBack_8 (by decide) ?_
      refine lv_icmp_ge (tgt := 84) hx hb dX6_goBack_9 (by decide) (fun c_9 => ?_) (fun c_9 => ?_)
      · have e_9 := Int32.le_iff_toInt_le.mp c_9
        rw [if_pos c_9] at hE
        refine lv_lload hx hb dX6_goBack_84 (lv_at hl 3 rfl) ?_
        subst hE
        rw [← hQ]
        exact W.lret hx hb hr (fun t ht hW => ⟨_, rfl, rfl, ht⟩) (fun q h => absurd h List.not_mem_nil) dX6_goBack_86
      · have e_9 := mt Int32.le_iff_toInt_le.mpr c_9
        rw [if_neg c_9] at hE
        refine lv_aload_n hx hb dX6_goBack_12 rfl (lv_at hl 0 rfl) ?_
        refine lv_iload hx hb dX6_goBack_13 (lv_at hl 4 rfl) ?_
        refine lv_iload_n hx hb dX6_goBack_15 rfl (lv_at hl 2 rfl) ?_
        refine rcVi (As := [.int (nI i), .int on_]) (rest := []) ⟨hx, hb, hml, hown, hts⟩ (kX6_isUp l dC dI cI cJ md md_page md_pageMany md_end md_ships md_rocks md_rockBits md_day md_isHired md_sails md_seasRead md_kinds md_ills md_cells md_sailed md_must md_seenMany md_sights md_seedNow md_cellsThen md_keptSea md_keptDay md_keptHired md_keptSails md_keptSeen md_keptKinds md_keptIlls md_keptCells md_keptSailed md_keptSights md_hash (nI i) on_ (by first | assumption | exact vp_in_iff.mpr ⟨by omega, by omega⟩ | omega | decide)) (cwV 2 hts gX6_goBack_X6_isUp rfl rfl rfl (by decide +kernel) ⟨Nat.le_of_ble_eq_true rfl, Nat.le_of_ble_eq_true rfl⟩) hK hP hst hS [0, 1, 2, 3, 4, 5, 6, 7, 8, 9, 10, 11, 12, 13] rfl 0 rfl rfl rfl hl.1 rfl (Nat.le_of_ble_eq_true rfl) dX6_goBack_16 ⟨Nat.zero_le _, Nat.zero_le _⟩ (fun r w_1 => ?_)
        obtain ⟨rfl, nb_2⟩ := w_1
        refine lv_if_eq (tgt := 78) hx hb dX6_goBack_19 (by decide) (fun c_19 => ?_) (fun c_19 => ?_)
        · rw [if_pos c_19] at hE
          refine lv_iinc (v := (nI (i + 1))) (lv' := [(6, .int (nI (i + 1))), (0, .ref (md 0)), (1, .long to_), (3, .int on_), (4, .long x4)]) hx hb dX6_goBack_78 hl (k := 4) rfl (by rw [show Int32.ofInt 1 = nI 1 from rfl, nI_add]) (by decide) rfl (fun ls hl => ?_)
          refine lv_goto (tgt := 6) hx hb dX6_goBack_81 (by decide) ?_
          exact ih x4 ((i + 1))  (by omega) (by omega) hE ls (lv_sub hl [1, 2, 3, 4, 0] rfl)
        · rw [if_neg c_19] at hE
          refine lv_iconst (v := (0 : Int32)) hx hb dX6_goBack_22 (by decide) ?_
          refine lv_istore (lv' := [(7, .int (0 : Int32)), (0, .ref (md 0)), (1, .long to_), (3, .int on_), (4, .long x4), (6, .int (nI i))]) hx hb dX6_goBack_23 hl (by decide) rfl (fun ls hl => ?_)
          have L25 : ∀ (n_ : Nat) (y4 : Int64) (j : Nat) , (j ≤ 36) → 36 - j < n_ → ∀ (RES25 : Int64 × Nat), (fX6_goBack_25 md_rockBits to_ i n_ y4 j) = RES25 → (∀ ls : Array Slot, lv_has ls 9 [(0, .ref (md 0)), (1, .long to_), (3, .int on_), (4, .long (RES25.1)), (6, .int (nI i))] → W p l e (headSpec wsX6_goBack ({ frames := 2, cells := 0, slots := 0, locals := 50 } : Room)).room s m ([.ref (md 0), .long to_, .int on_] : List Value).toArray below meth c s.heap [] 0 0 Q (F0 m 78 ls [])) → ∀ ls : Array Slot, lv_has ls 9 [(0, .ref (md 0)), (1, .long to_), (3, .int on_), (4, .long y4), (6, .int (nI i)), (7, .int (nI j))] → W p l e (headSpec wsX6_goBack ({ frames := 2, cells := 0, slots := 0, locals := 50 } : Room)).room s m ([.ref (md 0), .long to_, .int on_] : List Value).toArray below meth c s.heap [] 0 0 Q (F0 m 25 ls []) := by
            intro n_
            induction n_ with
            | zero => intro y4 j  hi hn; exact absurd hn (Nat.not_lt_zero _)
            | succ n_ ih =>
              intro y4 j  hi hn RES25 hE hk25 ls hl
              rw [fX6_goBack_25] at hE
              have tn_j : (nI j).toInt = (j : Int) := nI_toInt (by omega)
              refine lv_iload hx hb dX6_goBack_25 (lv_at hl 5 rfl) ?_
              refine lv_bipush (v := (36 : Int32)) hx hb dX6_goBack_27 (by decide) ?_
              refine lv_icmp_ge (tgt := 78) hx hb dX6_goBack_29 (by decide) (fun c_29 => ?_) (fun c_29 => ?_)
              · have e_29 := Int32.le_iff_toInt_le.mp c_29
                rw [if_pos c_29] at hE
                subst hE
                exact hk25  ls (lv_sub hl [0, 1, 2, 3, 4] rfl)
              · have e_29 := mt Int32.le_iff_toInt_le.mpr c_29
                rw [if_neg c_29] at hE
                refine lv_aload_n hx hb dX6_goBack_32 rfl (lv_at hl 0 rfl) ?_
                refine lv_iload hx hb dX6_goBack_33 (lv_at hl 5 rfl) ?_
                refine lv_iload hx hb dX6_goBack_35 (lv_at hl 4 rfl) ?_
                refine rcVi (As := [.int (nI j), .int (nI i)]) (rest := []) ⟨hx, hb, hml, hown, hts⟩ (kX6_leads l dC dI cI cJ md md_page md_pageMany md_end md_ships md_rocks md_rockBits md_day md_isHired md_sails md_seasRead md_kinds md_ills md_cells md_sailed md_must md_seenMany md_sights md_seedNow md_cellsThen md_keptSea md_keptDay md_keptHired md_keptSails md_keptSeen md_keptKinds md_keptIlls md_keptCells md_keptSailed md_keptSights md_hash (nI j) (nI i)) (cwV 2 hts gX6_goBack_X6_leads rfl rfl rfl (by decide +kernel) ⟨Nat.le_of_ble_eq_true rfl, Nat.le_of_ble_eq_true rfl⟩) hK hP hst hS [0, 1, 2, 3, 4, 5, 6, 7, 8, 9, 10, 11, 12, 13] rfl 0 rfl rfl rfl hl.1 rfl (Nat.le_of_ble_eq_true rfl) dX6_goBack_37 ⟨Nat.zero_le _, Nat.zero_le _⟩ (fun r w_3 => ?_)
                subst w_3
                refine lv_istore (lv' := [(8, .int (fX6_leads md_rockBits (nI j) (nI i))), (0, .ref (md 0)), (1, .long to_), (3, .int on_), (4, .long y4), (6, .int (nI i)), (7, .int (nI j))]) hx hb dX6_goBack_40 hl (by decide) rfl (fun ls hl => ?_)
                refine lv_lload hx hb dX6_goBack_42 (lv_at hl 4 rfl) ?_
                refine lv_iload hx hb dX6_goBack_44 (lv_at hl 0 rfl) ?_
                refine lv_iconst (v := (-1 : Int32)) hx hb dX6_goBack_46 (by decide) ?_
                refine lv_icmp_eq (tgt := 68) hx hb dX6_goBack_47 (by decide) (fun c_47 => ?_) (fun c_47 => ?_)
                · rw [if_pos c_47] at hE
                  refine lv_lconst (v := (0 : Int64)) hx hb dX6_goBack_68 (by decide) ?_
                  refine lv_lor hx hb dX6_goBack_69 ?_
                  refine lv_lstore (lv' := [(4, .long (y4 ||| (0 : Int64))), (8, .int (fX6_leads md_rockBits (nI j) (nI i))), (0, .ref (md 0)), (1, .long to_), (3, .int on_), (6, .int (nI i)), (7, .int (nI j))]) hx hb dX6_goBack_70 hl (by decide) rfl (fun ls hl => ?_)
                  refine lv_iinc (v := (nI (j + 1))) (lv' := [(7, .int (nI (j + 1))), (4, .long (y4 ||| (0 : Int64))), (8, .int (fX6_leads md_rockBits (nI j) (nI i))), (0, .ref (md 0)), (1, .long to_), (3, .int on_), (6, .int (nI i))]) hx hb dX6_goBack_72 hl (k := 6) rfl (by rw [show Int32.ofInt 1 = nI 1 from rfl, nI_add]) (by decide) rfl (fun ls hl => ?_)
                  refine lv_goto (tgt := 25) hx hb dX6_goBack_75 (by decide) ?_
                  exact ih (y4 ||| (0 : Int64)) ((j + 1))  (by omega) (by omega) RES25 hE hk25 ls (lv_sub hl [3, 4, 5, 1, 6, 0] rfl)
                · rw [if_neg c_47] at hE
                  refine lv_lload_n hx hb dX6_goBack_50 rfl (lv_at hl 2 rfl) ?_
                  refine lv_iload hx hb dX6_goBack_51 (lv_at hl 0 rfl) ?_
                  refine lv_lshr hx hb dX6_goBack_53 rfl ?_
                  refine lv_lconst (v := (1 : Int64)) hx hb dX6_goBack_54 (by decide) ?_
                  refine lv_land hx hb dX6_goBack_55 ?_
                  refine lv_lconst (v := (1 : Int64)) hx hb dX6_goBack_56 (by decide) ?_
                  refine W.lcmp hx hb dX6_goBack_57 ?_
                  refine lv_if_ne (tgt := 68) hx hb dX6_goBack_58 (by decide) (fun c_58 => ?_) (fun c_58 => ?_)
                  · replace c_58 : ¬ ((to_ >>> ((fX6_leads md_rockBits (nI j) (nI i)).toInt64 &&& 63)) &&& (1 : Int64)) = (1 : Int64) := fun q => c_58 ((lg_cmp_eq _ _).mpr q)
                    rw [if_neg c_58] at hE
                    refine lv_lconst (v := (0 : Int64)) hx hb dX6_goBack_68 (by decide) ?_
                    refine lv_lor hx hb dX6_goBack_69 ?_
                    refine lv_lstore (lv' := [(4, .long (y4 ||| (0 : Int64))), (8, .int (fX6_leads md_rockBits (nI j) (nI i))), (0, .ref (md 0)), (1, .long to_), (3, .int on_), (6, .int (nI i)), (7, .int (nI j))]) hx hb dX6_goBack_70 hl (by decide) rfl (fun ls hl => ?_)
                    refine lv_iinc (v := (nI (j + 1))) (lv' := [(7, .int (nI (j + 1))), (4, .long (y4 ||| (0 : Int64))), (8, .int (fX6_leads md_rockBits (nI j) (nI i))), (0, .ref (md 0)), (1, .long to_), (3, .int on_), (6, .int (nI i))]) hx hb dX6_goBack_72 hl (k := 6) rfl (by rw [show Int32.ofInt 1 = nI 1 from rfl, nI_add]) (by decide) rfl (fun ls hl => ?_)
                    refine lv_goto (tgt := 25) hx hb dX6_goBack_75 (by decide) ?_
                    exact ih (y4 ||| (0 : Int64)) ((j + 1))  (by omega) (by omega) RES25 hE hk25 ls (lv_sub hl [3, 4, 5, 1, 6, 0] rfl)
                  · replace c_58 : ((to_ >>> ((fX6_leads md_rockBits (nI j) (nI i)).toInt64 &&& 63)) &&& (1 : Int64)) = (1 : Int64) := (lg_cmp_eq _ _).mp c_58
                    rw [if_pos c_58] at hE
                    refine lv_lconst (v := (1 : Int64)) hx hb dX6_goBack_61 (by decide) ?_
                    refine lv_iload hx hb dX6_goBack_62 (lv_at hl 6 rfl) ?_
                    refine lv_lshl hx hb dX6_goBack_64 rfl ?_
                    refine lv_goto (tgt := 69) hx hb dX6_goBack_65 (by decide) ?_
                    refine lv_lor hx hb dX6_goBack_69 ?_
                    refine lv_lstore (lv' := [(4, .long (y4 ||| ((1 : Int64) <<< ((nI j).toInt64 &&& 63)))), (8, .int (fX6_leads md_rockBits (nI j) (nI i))), (0, .ref (md 0)), (1, .long to_), (3, .int on_), (6, .int (nI i)), (7, .int (nI j))]) hx hb dX6_goBack_70 hl (by decide) rfl (fun ls hl => ?_)
                    refine lv_iinc (v := (nI (j + 1))) (lv' := [(7, .int (nI (j + 1))), (4, .long (y4 ||| ((1 : Int64) <<< ((nI j).toInt64 &&& 63)))), (8, .int (fX6_leads md_rockBits (nI j) (nI i))), (0, .ref (md 0)), (1, .long to_), (3, .int on_), (6, .int (nI i))]) hx hb dX6_goBack_72 hl (k := 6) rfl (by rw [show Int32.ofInt 1 = nI 1 from rfl, nI_add]) (by decide) rfl (fun ls hl => ?_)
                    refine lv_goto (tgt := 25) hx hb dX6_goBack_75 (by decide) ?_
                    exact ih (y4 ||| ((1 : Int64) <<< ((nI j).toInt64 &&& 63))) ((j + 1))  (by omega) (by omega) RES25 hE hk25 ls (lv_sub hl [3, 4, 5, 1, 6, 0] rfl)
          refine L25 37 x4 (0)  (by omega) (by omega) _ rfl (fun ls hl => ?_) ls (lv_sub hl [1, 2, 3, 4, 5, 0] rfl)
          refine lv_iinc (v := (nI (i + 1))) (lv' := [(6, .int (nI (i + 1))), (0, .ref (md 0)), (1, .long to_), (3, .int on_), (4, .long ((fX6_goBack_25 md_rockBits to_ i 37 x4 (0)).1))]) hx hb dX6_goBack_78 hl (k := 4) rfl (by rw [show Int32.ofInt 1 = nI 1 from rfl, nI_add]) (by decide) rfl (fun ls hl => ?_)
          refine lv_goto (tgt := 6) hx hb dX6_goBack_81 (by decide) ?_
          exact ih ((fX6_goBack_25 md_rockBits to_ i 37 x4 (0)).1) ((i + 1))  (by omega) (by omega) hE ls (lv_sub hl [1, 2, 3, 4, 0] rfl)
  exact L6 6 to_ (0)  (by omega) (by omega) hE ls (lv_sub hl [2, 3, 4, 1, 0] rfl)
def fX6_first (md_rockBits : Int64) (md_day : Int32) (md_isHired : Int32) (md_kinds : Nat → Int32) (md_ills : Nat → Int32) (md_cells : Nat → Int32) (md_sailed : Nat → Int32) (s_ : Int32) : Int64 := (if (md_sailed s_.toNatClampNeg) = (1 : Int32) then ((1 : Int64) <<< ((md_cells s_.toNatClampNeg).toInt64 &&& 63)) else (fX6_goOn md_rockBits md_isHired md_kinds md_ills ((1 : Int64) <<< ((md_cells s_.toNatClampNeg).toInt64 &&& 63)) md_day))
set_option maxHeartbeats 4000000 in
set_option maxRecDepth 100000 in
theorem kX6_first (l : Launch) (dC : Nat → ClassId) (dI : Nat → Nat → Nat) (cI cJ : ClassId) (md : Nat → Nat) (md_page : Nat → Int32) (md_pageMany : Int32) (md_end : Int32) (md_ships : Int32) (md_rocks : Int32) (md_rockBits : Int64) (md_day : Int32) (md_isHired : Int32) (md_sails : Int32) (md_seasRead : Int32) (md_kinds : Nat → Int32) (md_ills : Nat → Int32) (md_cells : Nat → Int32) (md_sailed : Nat → Int32) (md_must : Nat → Int64) (md_seenMany : Int32) (md_sights : Nat → Int32) (md_seedNow : Int32) (md_cellsThen : Nat → Int32) (md_keptSea : Int32) (md_keptDay : Int32) (md_keptHired : Int32) (md_keptSails : Int32) (md_keptSeen : Int32) (md_keptKinds : Nat → Int32) (md_keptIlls : Nat → Int32) (md_keptCells : Nat → Int32) (md_keptSailed : Nat → Int32) (md_keptSights : Nat → Int32) (md_hash : Int64) (s_ : Int32) (p_1 : vp_in s_ 3) : Met l yX6_first wsX6_first ({ frames := 3, cells := 0, slots := 0, locals := 78 } : Room) (gR (dC, dI) cI cJ (kMd cI cJ md md_page md_pageMany md_end md_ships md_rocks md_rockBits md_day md_isHired md_sails md_seasRead md_kinds md_ills md_cells md_sailed md_must md_seenMany md_sights md_seedNow md_cellsThen md_keptSea md_keptDay md_keptHired md_keptSails md_keptSeen md_keptKinds md_keptIlls md_keptCells md_keptSailed md_keptSights md_hash) ([.ref (md 0), .int s_] : List Value)) (vp_Sl (fun r => r = (fX6_first md_rockBits md_day md_isHired md_kinds md_ills md_cells md_sailed s_))) 0 0 (fun _ => False) := by
  refine Met.ofW (cc := cX6_first) (maxL := 4) (ret := (some .long)) (by decide) rfl ?_
  intro p e s m args below meth c s₁ B hml hv
  obtain ⟨rfl, hP, hK, hst⟩ := hv
  have hx := B.exec
  have hb := B.bytes
  have hr := B.returns
  have hts := atoms_spec (ws := wsX6_first) B.pre
  have hown : s.vm.findClass RX6 = some m.cls := findClass_of_methodNamed B.named
  have hlocks := B.notSynchronized
  have hS : va_S (fun _ => False) s.heap s.heap [] := va_S.rf
  generalize hE : (fX6_first md_rockBits md_day md_isHired md_kinds md_ills md_cells md_sailed s_) = RES
  generalize hQ : MQ below (vp_Sl (fun r => r = RES)) ([.ref (md 0), .int s_] : List Value).toArray s 0 0 (fun _ => False) = Q
  have hl := lv_entry ([.ref (md 0), .int s_] : List Value) (n := 4) (Nat.le_of_ble_eq_true rfl)
  rw [lg_entry_eq]
  generalize (lg_sl ([.ref (md 0), .int s_] : List Value) ++ List.replicate (4 - (lg_sl ([.ref (md 0), .int s_] : List Value)).length) Slot.unset).toArray = ls at hl ⊢
  have hl : lv_has ls 4 [(0, .ref (md 0)), (1, .int s_)] := hl
  have in_X6 : ∀ w ∈ u_ws RX6 TX6 30, w ∈ wsX6_first := fun _ h => List.mem_cons_of_mem _ (List.mem_append_right _ h)
  have t_fieldLink_RX6_109_FourLodgersModel_day_I := hts (.fieldLink RX6 109 "FourLodgersModel" "day" "I") (List.mem_of_getElem? (i := 3) rfl)
  have t_fieldLink_RX6_19_FourLodgersModel_cells_I := hts (.fieldLink RX6 19 "FourLodgersModel" "cells" "[I") (List.mem_of_getElem? (i := 1) rfl)
  have t_fieldLink_RX6_22_FourLodgersModel_sailed_I := hts (.fieldLink RX6 22 "FourLodgersModel" "sailed" "[I") (List.mem_of_getElem? (i := 2) rfl)
  have i_1 : (1 : Int32).toInt = 1 := by decide
  have p_1' := vp_in_iff.mp p_1
  rw [fX6_first] at hE
  refine lv_lconst (v := (1 : Int64)) hx hb dX6_first_0 (by decide) ?_
  refine lv_aload_n hx hb dX6_first_1 rfl (lv_at hl 0 rfl) ?_
  refine va_get (D := (dC, dI)) (ci := 6) (v := .ref (md 4)) (C := RX6) (T := TX6) (N := 30) hx hb hts in_X6 hown hK hP 0 rfl rfl 12 (by decide) t_fieldLink_RX6_19_FourLodgersModel_cells_I (fun _ h9 => h9) rfl dX6_first_2 ?_
  refine lv_iload_n hx hb dX6_first_5 rfl (lv_at hl 1 rfl) ?_
  refine va_iald hx hb hK hP 4 0 rfl rfl (i := s_) (by first | assumption | exact vp_in_iff.mpr ⟨by omega, by omega⟩ | omega | decide) dX6_first_6 ?_
  refine lv_lshl hx hb dX6_first_7 rfl ?_
  refine lv_lstore_n (lv' := [(2, .long ((1 : Int64) <<< ((md_cells s_.toNatClampNeg).toInt64 &&& 63))), (0, .ref (md 0)), (1, .int s_)]) hx hb dX6_first_8 rfl hl (by decide) rfl (fun ls hl => ?_)
  refine lv_aload_n hx hb dX6_first_9 rfl (lv_at hl 1 rfl) ?_
  refine va_get (D := (dC, dI)) (ci := 6) (v := .ref (md 5)) (C := RX6) (T := TX6) (N := 30) hx hb hts in_X6 hown hK hP 0 rfl rfl 13 (by decide) t_fieldLink_RX6_22_FourLodgersModel_sailed_I (fun _ h9 => h9) rfl dX6_first_10 ?_
  refine lv_iload_n hx hb dX6_first_13 rfl (lv_at hl 2 rfl) ?_
  refine va_iald hx hb hK hP 5 0 rfl rfl (i := s_) (by first | assumption | exact vp_in_iff.mpr ⟨by omega, by omega⟩ | omega | decide) dX6_first_14 ?_
  refine lv_iconst (v := (1 : Int32)) hx hb dX6_first_15 (by decide) ?_
  refine lv_icmp_ne (tgt := 23) hx hb dX6_first_16 (by decide) (fun c_16 => ?_) (fun c_16 => ?_)
  · have e_16 := mt Int32.toInt_inj.mp c_16
    rw [if_neg c_16] at hE
    refine lv_aload_n hx hb dX6_first_23 rfl (lv_at hl 1 rfl) ?_
    refine lv_lload_n hx hb dX6_first_24 rfl (lv_at hl 0 rfl) ?_
    refine lv_aload_n hx hb dX6_first_25 rfl (lv_at hl 1 rfl) ?_
    refine va_get (D := (dC, dI)) (ci := 6) (v := .int md_day) (C := RX6) (T := TX6) (N := 30) hx hb hts in_X6 hown hK hP 0 rfl rfl 6 (by decide) t_fieldLink_RX6_109_FourLodgersModel_day_I (fun _ h9 => h9) rfl dX6_first_26 ?_
    refine rcVl (As := [.long ((1 : Int64) <<< ((md_cells s_.toNatClampNeg).toInt64 &&& 63)), .int md_day]) (rest := []) ⟨hx, hb, hml, hown, hts⟩ (kX6_goOn l dC dI cI cJ md md_page md_pageMany md_end md_ships md_rocks md_rockBits md_day md_isHired md_sails md_seasRead md_kinds md_ills md_cells md_sailed md_must md_seenMany md_sights md_seedNow md_cellsThen md_keptSea md_keptDay md_keptHired md_keptSails md_keptSeen md_keptKinds md_keptIlls md_keptCells md_keptSailed md_keptSights md_hash ((1 : Int64) <<< ((md_cells s_.toNatClampNeg).toInt64 &&& 63)) md_day) (cwV 2 hts gX6_first_X6_goOn rfl rfl rfl (by decide +kernel) ⟨Nat.le_of_ble_eq_true rfl, Nat.le_of_ble_eq_true rfl⟩) hK hP hst hS [0, 1, 2, 3, 4, 5, 6, 7, 8, 9, 10, 11, 12, 13] rfl 0 rfl rfl rfl hl.1 rfl (Nat.le_of_ble_eq_true rfl) dX6_first_29 ⟨Nat.zero_le _, Nat.zero_le _⟩ (fun r w_1 => ?_)
    subst w_1
    subst hE
    rw [← hQ]
    exact W.lret hx hb hr (fun t ht hW => ⟨_, rfl, rfl, ht⟩) (fun q h => absurd h List.not_mem_nil) dX6_first_32
  · have e_16 := congrArg Int32.toInt c_16
    rw [if_pos c_16] at hE
    refine lv_lload_n hx hb dX6_first_19 rfl (lv_at hl 0 rfl) ?_
    refine lv_goto (tgt := 32) hx hb dX6_first_20 (by decide) ?_
    subst hE
    rw [← hQ]
    exact W.lret hx hb hr (fun t ht hW => ⟨_, rfl, rfl, ht⟩) (fun q h => absurd h List.not_mem_nil) dX6_first_32
def fX6_reach_9 (md_rockBits : Int64) (md_day : Int32) (md_isHired : Int32) (md_kinds : Nat → Int32) (md_ills : Nat → Int32) (ahead : Int32) : Nat → Int64 → Nat → Int64
  | 0, _, _ => 0
  | n_ + 1, x3, i => (if ahead < (nI i) then x3 else (fX6_reach_9 md_rockBits md_day md_isHired md_kinds md_ills ahead n_ (fX6_goOn md_rockBits md_isHired md_kinds md_ills x3 (md_day + (nI i))) ((i + 1))))
def fX6_reach (md_rockBits : Int64) (md_day : Int32) (md_isHired : Int32) (md_kinds : Nat → Int32) (md_ills : Nat → Int32) (md_cells : Nat → Int32) (md_sailed : Nat → Int32) (s_ : Int32) (ahead : Int32) : Int64 := (fX6_reach_9 md_rockBits md_day md_isHired md_kinds md_ills ahead 42 (fX6_first md_rockBits md_day md_isHired md_kinds md_ills md_cells md_sailed s_) (1))
set_option maxHeartbeats 4000000 in
set_option maxRecDepth 100000 in
theorem kX6_reach (l : Launch) (dC : Nat → ClassId) (dI : Nat → Nat → Nat) (cI cJ : ClassId) (md : Nat → Nat) (md_page : Nat → Int32) (md_pageMany : Int32) (md_end : Int32) (md_ships : Int32) (md_rocks : Int32) (md_rockBits : Int64) (md_day : Int32) (md_isHired : Int32) (md_sails : Int32) (md_seasRead : Int32) (md_kinds : Nat → Int32) (md_ills : Nat → Int32) (md_cells : Nat → Int32) (md_sailed : Nat → Int32) (md_must : Nat → Int64) (md_seenMany : Int32) (md_sights : Nat → Int32) (md_seedNow : Int32) (md_cellsThen : Nat → Int32) (md_keptSea : Int32) (md_keptDay : Int32) (md_keptHired : Int32) (md_keptSails : Int32) (md_keptSeen : Int32) (md_keptKinds : Nat → Int32) (md_keptIlls : Nat → Int32) (md_keptCells : Nat → Int32) (md_keptSailed : Nat → Int32) (md_keptSights : Nat → Int32) (md_hash : Int64) (s_ : Int32) (ahead : Int32) (p_1 : vp_in s_ 3) (p_2 : ahead.toInt ≤ 40) : Met l yX6_reach wsX6_reach ({ frames := 4, cells := 0, slots := 0, locals := 101 } : Room) (gR (dC, dI) cI cJ (kMd cI cJ md md_page md_pageMany md_end md_ships md_rocks md_rockBits md_day md_isHired md_sails md_seasRead md_kinds md_ills md_cells md_sailed md_must md_seenMany md_sights md_seedNow md_cellsThen md_keptSea md_keptDay md_keptHired md_keptSails md_keptSeen md_keptKinds md_keptIlls md_keptCells md_keptSailed md_keptSights md_hash) ([.ref (md 0), .int s_, .int ahead] : List Value)) (vp_Sl (fun r => r = (fX6_reach md_rockBits md_day md_isHired md_kinds md_ills md_cells md_sailed s_ ahead))) 0 0 (fun _ => False) := by
  refine Met.ofW (cc := cX6_reach) (maxL := 6) (ret := (some .long)) (by decide) rfl ?_
  intro p e s m args below meth c s₁ B hml hv
  obtain ⟨rfl, hP, hK, hst⟩ := hv
  have hx := B.exec
  have hb := B.bytes
  have hr := B.returns
  have hts := atoms_spec (ws := wsX6_reach) B.pre
  have hown : s.vm.findClass RX6 = some m.cls := findClass_of_methodNamed B.named
  have hlocks := B.notSynchronized
  have hS : va_S (fun _ => False) s.heap s.heap [] := va_S.rf
  generalize hE : (fX6_reach md_rockBits md_day md_isHired md_kinds md_ills md_cells md_sailed s_ ahead) = RES
  generalize hQ : MQ below (vp_Sl (fun r => r = RES)) ([.ref (md 0), .int s_, .int ahead] : List Value).toArray s 0 0 (fun _ => False) = Q
  have hl := lv_entry ([.ref (md 0), .int s_, .int ahead] : List Value) (n := 6) (Nat.le_of_ble_eq_true rfl)
  rw [lg_entry_eq]
  generalize (lg_sl ([.ref (md 0), .int s_, .int ahead] : List Value) ++ List.replicate (6 - (lg_sl ([.ref (md 0), .int s_, .int ahead] : List Value)).length) Slot.unset).toArray = ls at hl ⊢
  have hl : lv_has ls 6 [(0, .ref (md 0)), (1, .int s_), (2, .int ahead)] := hl
  have in_X6 : ∀ w ∈ u_ws RX6 TX6 30, w ∈ wsX6_reach := fun _ h => List.mem_cons_of_mem _ (List.mem_append_right _ h)
  have t_fieldLink_RX6_109_FourLodgersModel_day_I := hts (.fieldLink RX6 109 "FourLodgersModel" "day" "I") (List.mem_of_getElem? (i := 1) rfl)
  have i_1 : (1 : Int32).toInt = 1 := by decide
  have p_1' := vp_in_iff.mp p_1
  rw [fX6_reach] at hE
  refine lv_aload_n hx hb dX6_reach_0 rfl (lv_at hl 0 rfl) ?_
  refine lv_iload_n hx hb dX6_reach_1 rfl (lv_at hl 1 rfl) ?_
  refine rcVl (As := [.int s_]) (rest := []) ⟨hx, hb, hml, hown, hts⟩ (kX6_first l dC dI cI cJ md md_page md_pageMany md_end md_ships md_rocks md_rockBits md_day md_isHired md_sails md_seasRead md_kinds md_ills md_cells md_sailed md_must md_seenMany md_sights md_seedNow md_cellsThen md_keptSea md_keptDay md_keptHired md_keptSails md_keptSeen md_keptKinds md_keptIlls md_keptCells md_keptSailed md_keptSights md_hash s_ (by first | assumption | exact vp_in_iff.mpr ⟨by omega, by omega⟩ | omega | decide)) (cwV 1 hts gX6_reach_X6_first rfl rfl rfl (by decide +kernel) ⟨Nat.le_of_ble_eq_true rfl, Nat.le_of_ble_eq_true rfl⟩) hK hP hst hS [0, 1, 2, 3, 4, 5, 6, 7, 8, 9, 10, 11, 12, 13] rfl 0 rfl rfl rfl hl.1 rfl (Nat.le_of_ble_eq_true rfl) dX6_reach_2 ⟨Nat.zero_le _, Nat.zero_le _⟩ (fun r w_1 => ?_)
  subst w_1
  refine lv_lstore_n (lv' := [(3, .long (fX6_first md_rockBits md_day md_isHired md_kinds md_ills md_cells md_sailed s_)), (0, .ref (md 0)), (1, .int s_), (2, .int ahead)]) hx hb dX6_reach_5 rfl hl (by decide) rfl (fun ls hl => ?_)
  refine lv_iconst (v := (1 : Int32)) hx hb dX6_reach_6 (by decide) ?_
  refine lv_istore (lv' := [(5, .int (1 : Int32)), (3, .long (fX6_first md_rockBits md_day md_isHired md_kinds md_ills md_cells md_sailed s_)), (0, .ref (md 0)), (1, .int s_), (2, .int ahead)]) hx hb dX6_reach_7 hl (by decide) rfl (fun ls hl => ?_)
  have L9 : ∀ (n_ : Nat) (x3 : Int64) (i : Nat) , (i ≤ 41) → 41 - i < n_ → (fX6_reach_9 md_rockBits md_day md_isHired md_kinds md_ills ahead n_ x3 i) = RES → ∀ ls : Array Slot, lv_has ls 6 [(0, .ref (md 0)), (1, .int s_), (2, .int ahead), (3, .long x3), (5, .int (nI i))] → W p l e (headSpec wsX6_reach ({ frames := 4, cells := 0, slots := 0, locals := 101 } : Room)).room s m ([.ref (md 0), .int s_, .int ahead] : List Value).toArray below meth c s.heap [] 0 0 Q (F0 m 9 ls []) := by
    intro n_
    induction n_ with
    | zero => intro x3 i  hi hn; exact absurd hn (Nat.not_lt_zero _)
    | succ n_ ih =>
      intro x3 i  hi hn hE ls hl
      rw [fX6_reach_9] at hE
      have tn_i : (nI i).toInt = (i : Int) := nI_toInt (by omega)
      refine lv_iload hx hb dX6_reach_9 (lv_at hl 4 rfl) ?_
      refine lv_iload_n hx hb dX6_reach_11 rfl (lv_at hl 2 rfl) ?_
      refine lv_icmp_gt (tgt := 34) hx hb dX6_reach_12 (by decide) (fun c_12 => ?_) (fun c_12 => ?_)
      · have e_12 := Int32.lt_iff_toInt_lt.mp c_12
        rw [if_pos c_12] at hE
        refine lv_lload_n hx hb dX6_reach_34 rfl (lv_at hl 3 rfl) ?_
        subst hE
        rw [← hQ]
        exact W.lret hx hb hr (fun t ht hW => ⟨_, rfl, rfl, ht⟩) (fun q h => absurd h List.not_mem_nil) dX6_reach_35
      · have e_12 := mt Int32.lt_iff_toInt_lt.mpr c_12
        rw [if_neg c_12] at hE
        refine lv_aload_n hx hb dX6_reach_15 rfl (lv_at hl 0 rfl) ?_
        refine lv_lload_n hx hb dX6_reach_16 rfl (lv_at hl 3 rfl) ?_
        refine lv_aload_n hx hb dX6_reach_17 rfl (lv_at hl 0 rfl) ?_
        refine va_get (D := (dC, dI)) (ci := 6) (v := .int md_day) (C := RX6) (T := TX6) (N := 30) hx hb hts in_X6 hown hK hP 0 rfl rfl 6 (by decide) t_fieldLink_RX6_109_FourLodgersModel_day_I (fun _ h9 => h9) rfl dX6_reach_18 ?_
        refine lv_iload hx hb dX6_reach_21 (lv_at hl 4 rfl) ?_
        refine lv_iadd hx hb dX6_reach_23 ?_
        refine rcVl (As := [.long x3, .int (md_day + (nI i))]) (rest := []) ⟨hx, hb, hml, hown, hts⟩ (kX6_goOn l dC dI cI cJ md md_page md_pageMany md_end md_ships md_rocks md_rockBits md_day md_isHired md_sails md_seasRead md_kinds md_ills md_cells md_sailed md_must md_seenMany md_sights md_seedNow md_cellsThen md_keptSea md_keptDay md_keptHired md_keptSails md_keptSeen md_keptKinds md_keptIlls md_keptCells md_keptSailed md_keptSights md_hash x3 (md_day + (nI i))) (cwV 2 hts gX6_reach_X6_goOn rfl rfl rfl (by decide +kernel) ⟨Nat.le_of_ble_eq_true rfl, Nat.le_of_ble_eq_true rfl⟩) hK hP hst hS [0, 1, 2, 3, 4, 5, 6, 7, 8, 9, 10, 11, 12, 13] rfl 0 rfl rfl rfl hl.1 rfl (Nat.le_of_ble_eq_true rfl) dX6_reach_24 ⟨Nat.zero_le _, Nat.zero_le _⟩ (fun r w_2 => ?_)
        subst w_2
        refine lv_lstore_n (lv' := [(3, .long (fX6_goOn md_rockBits md_isHired md_kinds md_ills x3 (md_day + (nI i)))), (0, .ref (md 0)), (1, .int s_), (2, .int ahead), (5, .int (nI i))]) hx hb dX6_reach_27 rfl hl (by decide) rfl (fun ls hl => ?_)
        refine lv_iinc (v := (nI (i + 1))) (lv' := [(5, .int (nI (i + 1))), (3, .long (fX6_goOn md_rockBits md_isHired md_kinds md_ills x3 (md_day + (nI i)))), (0, .ref (md 0)), (1, .int s_), (2, .int ahead)]) hx hb dX6_reach_28 hl (k := 4) rfl (by rw [show Int32.ofInt 1 = nI 1 from rfl, nI_add]) (by decide) rfl (fun ls hl => ?_)
        refine lv_goto (tgt := 9) hx hb dX6_reach_31 (by decide) ?_
        exact ih (fX6_goOn md_rockBits md_isHired md_kinds md_ills x3 (md_day + (nI i))) ((i + 1))  (by omega) (by omega) hE ls (lv_sub hl [2, 3, 4, 1, 0] rfl)
  exact L9 42 (fX6_first md_rockBits md_day md_isHired md_kinds md_ills md_cells md_sailed s_) (1)  (by omega) (by omega) hE ls (lv_sub hl [2, 3, 4, 1, 0] rfl)
def fX6_soonOf_21 (md_rockBits : Int64) (md_day : Int32) (md_isHired : Int32) (md_kinds : Nat → Int32) (md_ills : Nat → Int32) (c_ : Int32) : Nat → Int64 → Nat → Int32
  | 0, _, _ => 0
  | n_ + 1, x3, i => (if (41 : Int32) ≤ (nI i) then (-1 : Int32) else (if ((x3 >>> (c_.toInt64 &&& 63)) &&& (1 : Int64)) = (1 : Int64) then ((nI i) + (1 : Int32)) else (fX6_soonOf_21 md_rockBits md_day md_isHired md_kinds md_ills c_ n_ (fX6_goOn md_rockBits md_isHired md_kinds md_ills x3 ((md_day + (nI i)) + (1 : Int32))) ((i + 1)))))
def fX6_soonOf (md_rockBits : Int64) (md_day : Int32) (md_isHired : Int32) (md_kinds : Nat → Int32) (md_ills : Nat → Int32) (md_cells : Nat → Int32) (md_sailed : Nat → Int32) (s_ : Int32) (c_ : Int32) : Int32 := (if (md_cells s_.toNatClampNeg) = c_ then (0 : Int32) else (fX6_soonOf_21 md_rockBits md_day md_isHired md_kinds md_ills c_ 42 (fX6_first md_rockBits md_day md_isHired md_kinds md_ills md_cells md_sailed s_) (0)))
set_option maxHeartbeats 4000000 in
set_option maxRecDepth 100000 in
theorem kX6_soonOf (l : Launch) (dC : Nat → ClassId) (dI : Nat → Nat → Nat) (cI cJ : ClassId) (md : Nat → Nat) (md_page : Nat → Int32) (md_pageMany : Int32) (md_end : Int32) (md_ships : Int32) (md_rocks : Int32) (md_rockBits : Int64) (md_day : Int32) (md_isHired : Int32) (md_sails : Int32) (md_seasRead : Int32) (md_kinds : Nat → Int32) (md_ills : Nat → Int32) (md_cells : Nat → Int32) (md_sailed : Nat → Int32) (md_must : Nat → Int64) (md_seenMany : Int32) (md_sights : Nat → Int32) (md_seedNow : Int32) (md_cellsThen : Nat → Int32) (md_keptSea : Int32) (md_keptDay : Int32) (md_keptHired : Int32) (md_keptSails : Int32) (md_keptSeen : Int32) (md_keptKinds : Nat → Int32) (md_keptIlls : Nat → Int32) (md_keptCells : Nat → Int32) (md_keptSailed : Nat → Int32) (md_keptSights : Nat → Int32) (md_hash : Int64) (s_ : Int32) (c_ : Int32) (p_1 : vp_in s_ 3) : Met l yX6_soonOf wsX6_soonOf ({ frames := 4, cells := 0, slots := 0, locals := 101 } : Room) (gR (dC, dI) cI cJ (kMd cI cJ md md_page md_pageMany md_end md_ships md_rocks md_rockBits md_day md_isHired md_sails md_seasRead md_kinds md_ills md_cells md_sailed md_must md_seenMany md_sights md_seedNow md_cellsThen md_keptSea md_keptDay md_keptHired md_keptSails md_keptSeen md_keptKinds md_keptIlls md_keptCells md_keptSailed md_keptSights md_hash) ([.ref (md 0), .int s_, .int c_] : List Value)) (vp_Si (fun r => r = (fX6_soonOf md_rockBits md_day md_isHired md_kinds md_ills md_cells md_sailed s_ c_))) 0 0 (fun _ => False) := by
  refine Met.ofW (cc := cX6_soonOf) (maxL := 6) (ret := (some .int)) (by decide) rfl ?_
  intro p e s m args below meth c s₁ B hml hv
  obtain ⟨rfl, hP, hK, hst⟩ := hv
  have hx := B.exec
  have hb := B.bytes
  have hr := B.returns
  have hts := atoms_spec (ws := wsX6_soonOf) B.pre
  have hown : s.vm.findClass RX6 = some m.cls := findClass_of_methodNamed B.named
  have hlocks := B.notSynchronized
  have hS : va_S (fun _ => False) s.heap s.heap [] := va_S.rf
  generalize hE : (fX6_soonOf md_rockBits md_day md_isHired md_kinds md_ills md_cells md_sailed s_ c_) = RES
  generalize hQ : MQ below (vp_Si (fun r => r = RES)) ([.ref (md 0), .int s_, .int c_] : List Value).toArray s 0 0 (fun _ => False) = Q
  have hl := lv_entry ([.ref (md 0), .int s_, .int c_] : List Value) (n := 6) (Nat.le_of_ble_eq_true rfl)
  rw [lg_entry_eq]
  generalize (lg_sl ([.ref (md 0), .int s_, .int c_] : List Value) ++ List.replicate (6 - (lg_sl ([.ref (md 0), .int s_, .int c_] : List Value)).length) Slot.unset).toArray = ls at hl ⊢
  have hl : lv_has ls 6 [(0, .ref (md 0)), (1, .int s_), (2, .int c_)] := hl
  have in_X6 : ∀ w ∈ u_ws RX6 TX6 30, w ∈ wsX6_soonOf := fun _ h => List.mem_cons_of_mem _ (List.mem_append_right _ h)
  have t_fieldLink_RX6_109_FourLodgersModel_day_I := hts (.fieldLink RX6 109 "FourLodgersModel" "day" "I") (List.mem_of_getElem? (i := 2) rfl)
  have t_fieldLink_RX6_19_FourLodgersModel_cells_I := hts (.fieldLink RX6 19 "FourLodgersModel" "cells" "[I") (List.mem_of_getElem? (i := 1) rfl)
  have i_m1 : (-1 : Int32).toInt = -1 := by decide
  have i_0 : (0 : Int32).toInt = 0 := by decide
  have i_1 : (1 : Int32).toInt = 1 := by decide
  have i_41 : (41 : Int32).toInt = 41 := by decide
  have p_1' := vp_in_iff.mp p_1
  rw [fX6_soonOf] at hE
  refine lv_aload_n hx hb dX6_soonOf_0 rfl (lv_at hl 0 rfl) ?_
  refine va_get (D := (dC, dI)) (ci := 6) (v := .ref (md 4)) (C := RX6) (T := TX6) (N := 30) hx hb hts in_X6 hown hK hP 0 rfl rfl 12 (by decide) t_fieldLink_RX6_19_FourLodgersModel_cells_I (fun _ h9 => h9) rfl dX6_soonOf_1 ?_
  refine lv_iload_n hx hb dX6_soonOf_4 rfl (lv_at hl 1 rfl) ?_
  refine va_iald hx hb hK hP 4 0 rfl rfl (i := s_) (by first | assumption | exact vp_in_iff.mpr ⟨by omega, by omega⟩ | omega | decide) dX6_soonOf_5 ?_
  refine lv_iload_n hx hb dX6_soonOf_6 rfl (lv_at hl 2 rfl) ?_
  refine lv_icmp_ne (tgt := 12) hx hb dX6_soonOf_7 (by decide) (fun c_7 => ?_) (fun c_7 => ?_)
  · have e_7 := mt Int32.toInt_inj.mp c_7
    rw [if_neg c_7] at hE
    refine lv_aload_n hx hb dX6_soonOf_12 rfl (lv_at hl 0 rfl) ?_
    refine lv_iload_n hx hb dX6_soonOf_13 rfl (lv_at hl 1 rfl) ?_
    refine rcVl (As := [.int s_]) (rest := []) ⟨hx, hb, hml, hown, hts⟩ (kX6_first l dC dI cI cJ md md_page md_pageMany md_end md_ships md_rocks md_rockBits md_day md_isHired md_sails md_seasRead md_kinds md_ills md_cells md_sailed md_must md_seenMany md_sights md_seedNow md_cellsThen md_keptSea md_keptDay md_keptHired md_keptSails md_keptSeen md_keptKinds md_keptIlls md_keptCells md_keptSailed md_keptSights md_hash s_ (by first | assumption | exact vp_in_iff.mpr ⟨by omega, by omega⟩ | omega | decide)) (cwV 1 hts gX6_soonOf_X6_first rfl rfl rfl (by decide +kernel) ⟨Nat.le_of_ble_eq_true rfl, Nat.le_of_ble_eq_true rfl⟩) hK hP hst hS [0, 1, 2, 3, 4, 5, 6, 7, 8, 9, 10, 11, 12, 13] rfl 0 rfl rfl rfl hl.1 rfl (Nat.le_of_ble_eq_true rfl) dX6_soonOf_14 ⟨Nat.zero_le _, Nat.zero_le _⟩ (fun r w_1 => ?_)
    subst w_1
    refine lv_lstore_n (lv' := [(3, .long (fX6_first md_rockBits md_day md_isHired md_kinds md_ills md_cells md_sailed s_)), (0, .ref (md 0)), (1, .int s_), (2, .int c_)]) hx hb dX6_soonOf_17 rfl hl (by decide) rfl (fun ls hl => ?_)
    refine lv_iconst (v := (0 : Int32)) hx hb dX6_soonOf_18 (by decide) ?_
    refine lv_istore (lv' := [(5, .int (0 : Int32)), (3, .long (fX6_first md_rockBits md_day md_isHired md_kinds md_ills md_cells md_sailed s_)), (0, .ref (md 0)), (1, .int s_), (2, .int c_)]) hx hb dX6_soonOf_19 hl (by decide) rfl (fun ls hl => ?_)
    have L21 : ∀ (n_ : Nat) (x3 : Int64) (i : Nat) , (i ≤ 41) → 41 - i < n_ → (fX6_soonOf_21 md_rockBits md_day md_isHired md_kinds md_ills c_ n_ x3 i) = RES → ∀ ls : Array Slot, lv_has ls 6 [(0, .ref (md 0)), (1, .int s_), (2, .int c_), (3, .long x3), (5, .int (nI i))] → W p l e (headSpec wsX6_soonOf ({ frames := 4, cells := 0, slots := 0, locals := 101 } : Room)).room s m ([.ref (md 0), .int s_, .int c_] : List Value).toArray below meth c s.heap [] 0 0 Q (F0 m 21 ls []) := by
      intro n_
      induction n_ with
      | zero => intro x3 i  hi hn; exact absurd hn (Nat.not_lt_zero _)
      | succ n_ ih =>
        intro x3 i  hi hn hE ls hl
        rw [fX6_soonOf_21] at hE
        have tn_i : (nI i).toInt = (i : Int) := nI_toInt (by omega)
        refine lv_iload hx hb dX6_soonOf_21 (lv_at hl 4 rfl) ?_
        refine lv_bipush (v := (41 : Int32)) hx hb dX6_soonOf_23 (by decide) ?_
        refine lv_icmp_ge (tgt := 64) hx hb dX6_soonOf_25 (by decide) (fun c_25 => ?_) (fun c_25 => ?_)
        · have e_25 := Int32.le_iff_toInt_le.mp c_25
          rw [if_pos c_25] at hE
          refine lv_iconst (v := (-1 : Int32)) hx hb dX6_soonOf_64 (by decide) ?_
          subst hE
          rw [← hQ]
          exact W.iret hx hb hr (fun t ht hW => ⟨_, rfl, rfl, ht⟩) (fun q h => absurd h List.not_mem_nil) dX6_soonOf_65
        · have e_25 := mt Int32.le_iff_toInt_le.mpr c_25
          rw [if_neg c_25] at hE
          refine lv_lload_n hx hb dX6_soonOf_28 rfl (lv_at hl 3 rfl) ?_
          refine lv_iload_n hx hb dX6_soonOf_29 rfl (lv_at hl 2 rfl) ?_
          refine lv_lshr hx hb dX6_soonOf_30 rfl ?_
          refine lv_lconst (v := (1 : Int64)) hx hb dX6_soonOf_31 (by decide) ?_
          refine lv_land hx hb dX6_soonOf_32 ?_
          refine lv_lconst (v := (1 : Int64)) hx hb dX6_soonOf_33 (by decide) ?_
          refine W.lcmp hx hb dX6_soonOf_34 ?_
          refine lv_if_ne (tgt := 43) hx hb dX6_soonOf_35 (by decide) (fun c_35 => ?_) (fun c_35 => ?_)
          · replace c_35 : ¬ ((x3 >>> (c_.toInt64 &&& 63)) &&& (1 : Int64)) = (1 : Int64) := fun q => c_35 ((lg_cmp_eq _ _).mpr q)
            rw [if_neg c_35] at hE
            refine lv_aload_n hx hb dX6_soonOf_43 rfl (lv_at hl 0 rfl) ?_
            refine lv_lload_n hx hb dX6_soonOf_44 rfl (lv_at hl 3 rfl) ?_
            refine lv_aload_n hx hb dX6_soonOf_45 rfl (lv_at hl 0 rfl) ?_
            refine va_get (D := (dC, dI)) (ci := 6) (v := .int md_day) (C := RX6) (T := TX6) (N := 30) hx hb hts in_X6 hown hK hP 0 rfl rfl 6 (by decide) t_fieldLink_RX6_109_FourLodgersModel_day_I (fun _ h9 => h9) rfl dX6_soonOf_46 ?_
            refine lv_iload hx hb dX6_soonOf_49 (lv_at hl 4 rfl) ?_
            refine lv_iadd hx hb dX6_soonOf_51 ?_
            refine lv_iconst (v := (1 : Int32)) hx hb dX6_soonOf_52 (by decide) ?_
            refine lv_iadd hx hb dX6_soonOf_53 ?_
            refine rcVl (As := [.long x3, .int ((md_day + (nI i)) + (1 : Int32))]) (rest := []) ⟨hx, hb, hml, hown, hts⟩ (kX6_goOn l dC dI cI cJ md md_page md_pageMany md_end md_ships md_rocks md_rockBits md_day md_isHired md_sails md_seasRead md_kinds md_ills md_cells md_sailed md_must md_seenMany md_sights md_seedNow md_cellsThen md_keptSea md_keptDay md_keptHired md_keptSails md_keptSeen md_keptKinds md_keptIlls md_keptCells md_keptSailed md_keptSights md_hash x3 ((md_day + (nI i)) + (1 : Int32))) (cwV 2 hts gX6_soonOf_X6_goOn rfl rfl rfl (by decide +kernel) ⟨Nat.le_of_ble_eq_true rfl, Nat.le_of_ble_eq_true rfl⟩) hK hP hst hS [0, 1, 2, 3, 4, 5, 6, 7, 8, 9, 10, 11, 12, 13] rfl 0 rfl rfl rfl hl.1 rfl (Nat.le_of_ble_eq_true rfl) dX6_soonOf_54 ⟨Nat.zero_le _, Nat.zero_le _⟩ (fun r w_2 => ?_)
            subst w_2
            refine lv_lstore_n (lv' := [(3, .long (fX6_goOn md_rockBits md_isHired md_kinds md_ills x3 ((md_day + (nI i)) + (1 : Int32)))), (0, .ref (md 0)), (1, .int s_), (2, .int c_), (5, .int (nI i))]) hx hb dX6_soonOf_57 rfl hl (by decide) rfl (fun ls hl => ?_)
            refine lv_iinc (v := (nI (i + 1))) (lv' := [(5, .int (nI (i + 1))), (3, .long (fX6_goOn md_rockBits md_isHired md_kinds md_ills x3 ((md_day + (nI i)) + (1 : Int32)))), (0, .ref (md 0)), (1, .int s_), (2, .int c_)]) hx hb dX6_soonOf_58 hl (k := 4) rfl (by rw [show Int32.ofInt 1 = nI 1 from rfl, nI_add]) (by decide) rfl (fun ls hl => ?_)
            refine lv_goto (tgt := 21) hx hb dX6_soonOf_61 (by decide) ?_
            exact ih (fX6_goOn md_rockBits md_isHired md_kinds md_ills x3 ((md_day + (nI i)) + (1 : Int32))) ((i + 1))  (by omega) (by omega) hE ls (lv_sub hl [2, 3, 4, 1, 0] rfl)
          · replace c_35 : ((x3 >>> (c_.toInt64 &&& 63)) &&& (1 : Int64)) = (1 : Int64) := (lg_cmp_eq _ _).mp c_35
            rw [if_pos c_35] at hE
            refine lv_iload hx hb dX6_soonOf_38 (lv_at hl 4 rfl) ?_
            refine lv_iconst (v := (1 : Int32)) hx hb dX6_soonOf_40 (by decide) ?_
            refine lv_iadd hx hb dX6_soonOf_41 ?_
            subst hE
            rw [← hQ]
            exact W.iret hx hb hr (fun t ht hW => ⟨_, rfl, rfl, ht⟩) (fun q h => absurd h List.not_mem_nil) dX6_soonOf_42
    exact L21 42 (fX6_first md_rockBits md_day md_isHired md_kinds md_ills md_cells md_sailed s_) (0)  (by omega) (by omega) hE ls (lv_sub hl [2, 3, 4, 1, 0] rfl)
  · have e_7 := congrArg Int32.toInt c_7
    rw [if_pos c_7] at hE
    refine lv_iconst (v := (0 : Int32)) hx hb dX6_soonOf_10 (by decide) ?_
    subst hE
    rw [← hQ]
    exact W.iret hx hb hr (fun t ht hW => ⟨_, rfl, rfl, ht⟩) (fun q h => absurd h List.not_mem_nil) dX6_soonOf_11
def fX6_draw (md_seedNow : Int32) (of_ : Int32) : Int32 × Int32 := (((((((1103515245 : Int64) * md_seedNow.toInt64) + (12345 : Int64)) &&& (2147483647 : Int64)).toInt32 / (65536 : Int32)) - (((((1103515245 : Int64) * md_seedNow.toInt64) + (12345 : Int64)) &&& (2147483647 : Int64)).toInt32 / (65536 : Int32)) / of_ * of_), ((((1103515245 : Int64) * md_seedNow.toInt64) + (12345 : Int64)) &&& (2147483647 : Int64)).toInt32)
set_option maxHeartbeats 4000000 in
set_option maxRecDepth 100000 in
theorem kX6_draw (l : Launch) (dC : Nat → ClassId) (dI : Nat → Nat → Nat) (cI cJ : ClassId) (sz : Nat) (md : Nat → Nat) (md_page : Nat → Int32) (md_pageMany : Int32) (md_end : Int32) (md_ships : Int32) (md_rocks : Int32) (md_rockBits : Int64) (md_day : Int32) (md_isHired : Int32) (md_sails : Int32) (md_seasRead : Int32) (md_kinds : Nat → Int32) (md_ills : Nat → Int32) (md_cells : Nat → Int32) (md_sailed : Nat → Int32) (md_must : Nat → Int64) (md_seenMany : Int32) (md_sights : Nat → Int32) (md_seedNow : Int32) (md_cellsThen : Nat → Int32) (md_keptSea : Int32) (md_keptDay : Int32) (md_keptHired : Int32) (md_keptSails : Int32) (md_keptSeen : Int32) (md_keptKinds : Nat → Int32) (md_keptIlls : Nat → Int32) (md_keptCells : Nat → Int32) (md_keptSailed : Nat → Int32) (md_keptSights : Nat → Int32) (md_hash : Int64) (of_ : Int32) (p_1 : ¬ of_ = (0 : Int32)) : Met l yX6_draw wsX6_draw ({ frames := 0, cells := 0, slots := 0, locals := 0 } : Room) (gW (dC, dI) cI cJ sz (kMd cI cJ md md_page md_pageMany md_end md_ships md_rocks md_rockBits md_day md_isHired md_sails md_seasRead md_kinds md_ills md_cells md_sailed md_must md_seenMany md_sights md_seedNow md_cellsThen md_keptSea md_keptDay md_keptHired md_keptSails md_keptSeen md_keptKinds md_keptIlls md_keptCells md_keptSailed md_keptSights md_hash) ([.ref (md 0), .int of_] : List Value)) (va_Qi (fun (r : Int32) (_ : Unit) => r = ((fX6_draw md_seedNow of_).1)) (fun u : Unit => gB (dC, dI) cI cJ (va_A (kMd cI cJ md md_page md_pageMany md_end md_ships md_rocks md_rockBits md_day md_isHired md_sails md_seasRead md_kinds md_ills md_cells md_sailed md_must md_seenMany md_sights md_seedNow md_cellsThen md_keptSea md_keptDay md_keptHired md_keptSails md_keptSeen md_keptKinds md_keptIlls md_keptCells md_keptSailed md_keptSights md_hash) sz) (kMd cI cJ md md_page md_pageMany md_end md_ships md_rocks md_rockBits md_day md_isHired md_sails md_seasRead md_kinds md_ills md_cells md_sailed md_must md_seenMany md_sights ((fX6_draw md_seedNow of_).2) md_cellsThen md_keptSea md_keptDay md_keptHired md_keptSails md_keptSeen md_keptKinds md_keptIlls md_keptCells md_keptSailed md_keptSights md_hash)) (va_A (kMd cI cJ md md_page md_pageMany md_end md_ships md_rocks md_rockBits md_day md_isHired md_sails md_seasRead md_kinds md_ills md_cells md_sailed md_must md_seenMany md_sights md_seedNow md_cellsThen md_keptSea md_keptDay md_keptHired md_keptSails md_keptSeen md_keptKinds md_keptIlls md_keptCells md_keptSailed md_keptSights md_hash) sz)) 0 0 (va_A (kMd cI cJ md md_page md_pageMany md_end md_ships md_rocks md_rockBits md_day md_isHired md_sails md_seasRead md_kinds md_ills md_cells md_sailed md_must md_seenMany md_sights md_seedNow md_cellsThen md_keptSea md_keptDay md_keptHired md_keptSails md_keptSeen md_keptKinds md_keptIlls md_keptCells md_keptSailed md_keptSights md_hash) sz) := by
  refine Met.ofW (cc := cX6_draw) (maxL := 2) (ret := (some .int)) (by decide) rfl ?_
  intro p e s m args below meth c s₁ B hml hv
  obtain ⟨rfl, hsz, hP, hK, hD0, hst⟩ := hv
  have hx := B.exec
  have hb := B.bytes
  have hr := B.returns
  have hts := atoms_spec (ws := wsX6_draw) B.pre
  have hown : s.vm.findClass RX6 = some m.cls := findClass_of_methodNamed B.named
  have hlocks := B.notSynchronized
  subst hsz
  have hD := hD0.self (sz := s.heap.size)
  generalize hAe : va_A (kMd cI cJ md md_page md_pageMany md_end md_ships md_rocks md_rockBits md_day md_isHired md_sails md_seasRead md_kinds md_ills md_cells md_sailed md_must md_seenMany md_sights md_seedNow md_cellsThen md_keptSea md_keptDay md_keptHired md_keptSails md_keptSeen md_keptKinds md_keptIlls md_keptCells md_keptSailed md_keptSights md_hash) s.heap.size = A at hD hst ⊢
  have hA : ∀ q : Nat, s.heap.size ≤ q → A q := fun q h => by rw [← hAe]; exact Or.inr h
  have hS : va_S A s.heap s.heap [] := va_S.rf
  generalize hE : (fX6_draw md_seedNow of_) = RES
  generalize hQ : MQ below (va_Qi (fun (r : Int32) (_ : Unit) => r = (RES.1)) (fun u : Unit => gB (dC, dI) cI cJ A (kMd cI cJ md md_page md_pageMany md_end md_ships md_rocks md_rockBits md_day md_isHired md_sails md_seasRead md_kinds md_ills md_cells md_sailed md_must md_seenMany md_sights (RES.2) md_cellsThen md_keptSea md_keptDay md_keptHired md_keptSails md_keptSeen md_keptKinds md_keptIlls md_keptCells md_keptSailed md_keptSights md_hash)) A) ([.ref (md 0), .int of_] : List Value).toArray s 0 0 A = Q
  have hl := lv_entry ([.ref (md 0), .int of_] : List Value) (n := 2) (Nat.le_of_ble_eq_true rfl)
  rw [lg_entry_eq]
  generalize (lg_sl ([.ref (md 0), .int of_] : List Value) ++ List.replicate (2 - (lg_sl ([.ref (md 0), .int of_] : List Value)).length) Slot.unset).toArray = ls at hl ⊢
  have hl : lv_has ls 2 [(0, .ref (md 0)), (1, .int of_)] := hl
  have in_X6 : ∀ w ∈ u_ws RX6 TX6 30, w ∈ wsX6_draw := fun _ h => List.mem_cons_of_mem _ (List.mem_append_right _ h)
  have t_constantLong_RX6_233_1103515245 := hts (.constantLong RX6 233 (1103515245)) (List.mem_of_getElem? (i := 1) rfl)
  have t_constantLong_RX6_238_12345 := hts (.constantLong RX6 238 (12345)) (List.mem_of_getElem? (i := 3) rfl)
  have t_constantLong_RX6_240_2147483647 := hts (.constantLong RX6 240 (2147483647)) (List.mem_of_getElem? (i := 4) rfl)
  have t_constant_RX6_242_65536 := hts (.constant RX6 242 (65536)) (List.mem_of_getElem? (i := 5) rfl)
  have t_fieldLink_RX6_235_FourLodgersModel_seedNow_I := hts (.fieldLink RX6 235 "FourLodgersModel" "seedNow" "I") (List.mem_of_getElem? (i := 2) rfl)
  have i_65536 : (65536 : Int32).toInt = 65536 := by decide
  rw [fX6_draw] at hE
  refine lv_aload_n hx hb dX6_draw_0 rfl (lv_at hl 0 rfl) ?_
  refine lv_ldc2 hx hb hown t_constantLong_RX6_233_1103515245 dX6_draw_1 ?_
  refine lv_aload_n hx hb dX6_draw_4 rfl (lv_at hl 0 rfl) ?_
  refine va_get (D := (dC, dI)) (ci := 6) (v := .int md_seedNow) (C := RX6) (T := TX6) (N := 30) hx hb hts in_X6 hown hK hP 0 rfl rfl 17 (by decide) t_fieldLink_RX6_235_FourLodgersModel_seedNow_I (fun _ h9 => h9) rfl dX6_draw_5 ?_
  refine lv_i2l hx hb dX6_draw_8 rfl ?_
  refine lv_lmul hx hb dX6_draw_9 ?_
  refine lv_ldc2 hx hb hown t_constantLong_RX6_238_12345 dX6_draw_10 ?_
  refine lv_ladd hx hb dX6_draw_13 ?_
  refine lv_ldc2 hx hb hown t_constantLong_RX6_240_2147483647 dX6_draw_14 ?_
  refine lv_land hx hb dX6_draw_17 ?_
  refine lv_l2i hx hb dX6_draw_18 rfl ?_
  refine va_put (D := (dC, dI)) (ci := 6) (v := .int ((((1103515245 : Int64) * md_seedNow.toInt64) + (12345 : Int64)) &&& (2147483647 : Int64)).toInt32) (ty := .int) (C := RX6) (T := TX6) (N := 30) hx hb hts in_X6 tyX6 tyX6_ok nmX6 hown hK hP hD hS 0 rfl rfl 17 (by decide) t_fieldLink_RX6_235_FourLodgersModel_seedNow_I (fun _ h9 => h9) rfl (by decide +kernel) rfl rfl (Nat.le_of_ble_eq_true rfl) dX6_draw_19 (fun H locs hP hD hS => ?_)
  replace hP : va_P (dC, dI) vwCl (kMd cI cJ md md_page md_pageMany md_end md_ships md_rocks md_rockBits md_day md_isHired md_sails md_seasRead md_kinds md_ills md_cells md_sailed md_must md_seenMany md_sights ((((1103515245 : Int64) * md_seedNow.toInt64) + (12345 : Int64)) &&& (2147483647 : Int64)).toInt32 md_cellsThen md_keptSea md_keptDay md_keptHired md_keptSails md_keptSeen md_keptKinds md_keptIlls md_keptCells md_keptSailed md_keptSights md_hash) H := hP
  replace hD : va_D A (kMd cI cJ md md_page md_pageMany md_end md_ships md_rocks md_rockBits md_day md_isHired md_sails md_seasRead md_kinds md_ills md_cells md_sailed md_must md_seenMany md_sights ((((1103515245 : Int64) * md_seedNow.toInt64) + (12345 : Int64)) &&& (2147483647 : Int64)).toInt32 md_cellsThen md_keptSea md_keptDay md_keptHired md_keptSails md_keptSeen md_keptKinds md_keptIlls md_keptCells md_keptSailed md_keptSights md_hash) := hD
  refine lv_aload_n hx hb dX6_draw_22 rfl (lv_at hl 0 rfl) ?_
  refine va_get (D := (dC, dI)) (ci := 6) (v := .int ((((1103515245 : Int64) * md_seedNow.toInt64) + (12345 : Int64)) &&& (2147483647 : Int64)).toInt32) (C := RX6) (T := TX6) (N := 30) hx hb hts in_X6 hown hK hP 0 rfl rfl 17 (by decide) t_fieldLink_RX6_235_FourLodgersModel_seedNow_I (fun _ h9 => h9) rfl dX6_draw_23 ?_
  refine lv_ldc hx hb hown t_constant_RX6_242_65536 dX6_draw_26 ?_
  refine lv_idiv hx hb dX6_draw_28 (by decide) ?_
  refine lv_iload_n hx hb dX6_draw_29 rfl (lv_at hl 1 rfl) ?_
  refine lv_irem hx hb dX6_draw_30 (by assumption) ?_
  subst hE
  rw [← hQ]
  exact W.iret hx hb hr (fun t ht hW => ⟨⟨_, (), rfl, rfl, by rw [ht]; exact hP, va_K.moved hW.alike hK, hD⟩, hS.F ht⟩) hS.2.2 dX6_draw_31
def fX6_say (md_hash : Int64) (v_ : Int64) : Int64 := (((31 : Int64) * md_hash) + v_)
set_option maxHeartbeats 4000000 in
set_option maxRecDepth 100000 in
theorem kX6_say (l : Launch) (dC : Nat → ClassId) (dI : Nat → Nat → Nat) (cI cJ : ClassId) (sz : Nat) (md : Nat → Nat) (md_page : Nat → Int32) (md_pageMany : Int32) (md_end : Int32) (md_ships : Int32) (md_rocks : Int32) (md_rockBits : Int64) (md_day : Int32) (md_isHired : Int32) (md_sails : Int32) (md_seasRead : Int32) (md_kinds : Nat → Int32) (md_ills : Nat → Int32) (md_cells : Nat → Int32) (md_sailed : Nat → Int32) (md_must : Nat → Int64) (md_seenMany : Int32) (md_sights : Nat → Int32) (md_seedNow : Int32) (md_cellsThen : Nat → Int32) (md_keptSea : Int32) (md_keptDay : Int32) (md_keptHired : Int32) (md_keptSails : Int32) (md_keptSeen : Int32) (md_keptKinds : Nat → Int32) (md_keptIlls : Nat → Int32) (md_keptCells : Nat → Int32) (md_keptSailed : Nat → Int32) (md_keptSights : Nat → Int32) (md_hash : Int64) (v_ : Int64) : Met l yX6_say wsX6_say ({ frames := 0, cells := 0, slots := 0, locals := 0 } : Room) (gW (dC, dI) cI cJ sz (kMd cI cJ md md_page md_pageMany md_end md_ships md_rocks md_rockBits md_day md_isHired md_sails md_seasRead md_kinds md_ills md_cells md_sailed md_must md_seenMany md_sights md_seedNow md_cellsThen md_keptSea md_keptDay md_keptHired md_keptSails md_keptSeen md_keptKinds md_keptIlls md_keptCells md_keptSailed md_keptSights md_hash) ([.ref (md 0), .long v_] : List Value)) (va_Qv (fun _ : Unit => True) (fun u : Unit => gB (dC, dI) cI cJ (va_A (kMd cI cJ md md_page md_pageMany md_end md_ships md_rocks md_rockBits md_day md_isHired md_sails md_seasRead md_kinds md_ills md_cells md_sailed md_must md_seenMany md_sights md_seedNow md_cellsThen md_keptSea md_keptDay md_keptHired md_keptSails md_keptSeen md_keptKinds md_keptIlls md_keptCells md_keptSailed md_keptSights md_hash) sz) (kMd cI cJ md md_page md_pageMany md_end md_ships md_rocks md_rockBits md_day md_isHired md_sails md_seasRead md_kinds md_ills md_cells md_sailed md_must md_seenMany md_sights md_seedNow md_cellsThen md_keptSea md_keptDay md_keptHired md_keptSails md_keptSeen md_keptKinds md_keptIlls md_keptCells md_keptSailed md_keptSights (fX6_say md_hash v_))) (va_A (kMd cI cJ md md_page md_pageMany md_end md_ships md_rocks md_rockBits md_day md_isHired md_sails md_seasRead md_kinds md_ills md_cells md_sailed md_must md_seenMany md_sights md_seedNow md_cellsThen md_keptSea md_keptDay md_keptHired md_keptSails md_keptSeen md_keptKinds md_keptIlls md_keptCells md_keptSailed md_keptSights md_hash) sz)) 0 0 (va_A (kMd cI cJ md md_page md_pageMany md_end md_ships md_rocks md_rockBits md_day md_isHired md_sails md_seasRead md_kinds md_ills md_cells md_sailed md_must md_seenMany md_sights md_seedNow md_cellsThen md_keptSea md_keptDay md_keptHired md_keptSails md_keptSeen md_keptKinds md_keptIlls md_keptCells md_keptSailed md_keptSights md_hash) sz) := by
  refine Met.ofW (cc := cX6_say) (maxL := 3) (ret := none) (by decide) rfl ?_
  intro p e s m args below meth c s₁ B hml hv
  obtain ⟨rfl, hsz, hP, hK, hD0, hst⟩ := hv
  have hx := B.exec
  have hb := B.bytes
  have hr := B.returns
  have hts := atoms_spec (ws := wsX6_say) B.pre
  have hown : s.vm.findClass RX6 = some m.cls := findClass_of_methodNamed B.named
  have hlocks := B.notSynchronized
  subst hsz
  have hD := hD0.self (sz := s.heap.size)
  generalize hAe : va_A (kMd cI cJ md md_page md_pageMany md_end md_ships md_rocks md_rockBits md_day md_isHired md_sails md_seasRead md_kinds md_ills md_cells md_sailed md_must md_seenMany md_sights md_seedNow md_cellsThen md_keptSea md_keptDay md_keptHired md_keptSails md_keptSeen md_keptKinds md_keptIlls md_keptCells md_keptSailed md_keptSights md_hash) s.heap.size = A at hD hst ⊢
  have hA : ∀ q : Nat, s.heap.size ≤ q → A q := fun q h => by rw [← hAe]; exact Or.inr h
  have hS : va_S A s.heap s.heap [] := va_S.rf
  generalize hE : (fX6_say md_hash v_) = RES
  generalize hQ : MQ below (va_Qv (fun _ : Unit => True) (fun u : Unit => gB (dC, dI) cI cJ A (kMd cI cJ md md_page md_pageMany md_end md_ships md_rocks md_rockBits md_day md_isHired md_sails md_seasRead md_kinds md_ills md_cells md_sailed md_must md_seenMany md_sights md_seedNow md_cellsThen md_keptSea md_keptDay md_keptHired md_keptSails md_keptSeen md_keptKinds md_keptIlls md_keptCells md_keptSailed md_keptSights RES)) A) ([.ref (md 0), .long v_] : List Value).toArray s 0 0 A = Q
  have hl := lv_entry ([.ref (md 0), .long v_] : List Value) (n := 3) (Nat.le_of_ble_eq_true rfl)
  rw [lg_entry_eq]
  generalize (lg_sl ([.ref (md 0), .long v_] : List Value) ++ List.replicate (3 - (lg_sl ([.ref (md 0), .long v_] : List Value)).length) Slot.unset).toArray = ls at hl ⊢
  have hl : lv_has ls 3 [(0, .ref (md 0)), (1, .long v_)] := hl
  have in_X6 : ∀ w ∈ u_ws RX6 TX6 30, w ∈ wsX6_say := fun _ h => List.mem_cons_of_mem _ (List.mem_append_right _ h)
  have t_constantLong_RX6_275_31 := hts (.constantLong RX6 275 (31)) (List.mem_of_getElem? (i := 1) rfl)
  have t_fieldLink_RX6_277_FourLodgersModel_hash_J := hts (.fieldLink RX6 277 "FourLodgersModel" "hash" "J") (List.mem_of_getElem? (i := 2) rfl)
  rw [fX6_say] at hE
  refine lv_aload_n hx hb dX6_say_0 rfl (lv_at hl 0 rfl) ?_
  refine lv_ldc2 hx hb hown t_constantLong_RX6_275_31 dX6_say_1 ?_
  refine lv_aload_n hx hb dX6_say_4 rfl (lv_at hl 0 rfl) ?_
  refine va_get (D := (dC, dI)) (ci := 6) (v := .long md_hash) (C := RX6) (T := TX6) (N := 30) hx hb hts in_X6 hown hK hP 0 rfl rfl 29 (by decide) t_fieldLink_RX6_277_FourLodgersModel_hash_J (fun _ h9 => h9) rfl dX6_say_5 ?_
  refine lv_lmul hx hb dX6_say_8 ?_
  refine lv_lload_n hx hb dX6_say_9 rfl (lv_at hl 1 rfl) ?_
  refine lv_ladd hx hb dX6_say_10 ?_
  refine va_put (D := (dC, dI)) (ci := 6) (v := .long (((31 : Int64) * md_hash) + v_)) (ty := .long) (C := RX6) (T := TX6) (N := 30) hx hb hts in_X6 tyX6 tyX6_ok nmX6 hown hK hP hD hS 0 rfl rfl 29 (by decide) t_fieldLink_RX6_277_FourLodgersModel_hash_J (fun _ h9 => h9) rfl (by decide +kernel) rfl rfl (Nat.le_of_ble_eq_true rfl) dX6_say_11 (fun H locs hP hD hS => ?_)
  replace hP : va_P (dC, dI) vwCl (kMd cI cJ md md_page md_pageMany md_end md_ships md_rocks md_rockBits md_day md_isHired md_sails md_seasRead md_kinds md_ills md_cells md_sailed md_must md_seenMany md_sights md_seedNow md_cellsThen md_keptSea md_keptDay md_keptHired md_keptSails md_keptSeen md_keptKinds md_keptIlls md_keptCells md_keptSailed md_keptSights (((31 : Int64) * md_hash) + v_)) H := hP
  replace hD : va_D A (kMd cI cJ md md_page md_pageMany md_end md_ships md_rocks md_rockBits md_day md_isHired md_sails md_seasRead md_kinds md_ills md_cells md_sailed md_must md_seenMany md_sights md_seedNow md_cellsThen md_keptSea md_keptDay md_keptHired md_keptSails md_keptSeen md_keptKinds md_keptIlls md_keptCells md_keptSailed md_keptSights (((31 : Int64) * md_hash) + v_)) := hD
  subst hE
  rw [← hQ]
  exact W.vret hx hb hr (fun t ht hW => ⟨⟨(), rfl, trivial, by rw [ht]; exact hP, va_K.moved hW.alike hK, hD⟩, hS.F ht⟩) hS.2.2 dX6_say_14
def fX6_upToday_4 (md_ships : Int32) (md_day : Int32) (md_isHired : Int32) (md_kinds : Nat → Int32) (md_ills : Nat → Int32) : Nat → Int32 → Nat → Int32
  | 0, _, _ => 0
  | n_ + 1, x1, i => (if (4 : Int32) ≤ (nI i) then x1 else (if (fX6_lacks md_ships) = (0 : Int32) then (if (fX6_isUp md_isHired md_kinds md_ills (nI i) md_day) = (0 : Int32) then (fX6_upToday_4 md_ships md_day md_isHired md_kinds md_ills n_ (x1 + (0 : Int32)) ((i + 1))) else (fX6_upToday_4 md_ships md_day md_isHired md_kinds md_ills n_ (x1 + (1 : Int32)) ((i + 1)))) else x1))
def fX6_upToday (md_ships : Int32) (md_day : Int32) (md_isHired : Int32) (md_kinds : Nat → Int32) (md_ills : Nat → Int32) : Int32 := (fX6_upToday_4 md_ships md_day md_isHired md_kinds md_ills 5 (0 : Int32) (0))
set_option maxHeartbeats 4000000 in
set_option maxRecDepth 100000 in
theorem kX6_upToday (l : Launch) (dC : Nat → ClassId) (dI : Nat → Nat → Nat) (cI cJ : ClassId) (md : Nat → Nat) (md_page : Nat → Int32) (md_pageMany : Int32) (md_end : Int32) (md_ships : Int32) (md_rocks : Int32) (md_rockBits : Int64) (md_day : Int32) (md_isHired : Int32) (md_sails : Int32) (md_seasRead : Int32) (md_kinds : Nat → Int32) (md_ills : Nat → Int32) (md_cells : Nat → Int32) (md_sailed : Nat → Int32) (md_must : Nat → Int64) (md_seenMany : Int32) (md_sights : Nat → Int32) (md_seedNow : Int32) (md_cellsThen : Nat → Int32) (md_keptSea : Int32) (md_keptDay : Int32) (md_keptHired : Int32) (md_keptSails : Int32) (md_keptSeen : Int32) (md_keptKinds : Nat → Int32) (md_keptIlls : Nat → Int32) (md_keptCells : Nat → Int32) (md_keptSailed : Nat → Int32) (md_keptSights : Nat → Int32) (md_hash : Int64) : Met l yX6_upToday wsX6_upToday ({ frames := 2, cells := 0, slots := 0, locals := 44 } : Room) (gR (dC, dI) cI cJ (kMd cI cJ md md_page md_pageMany md_end md_ships md_rocks md_rockBits md_day md_isHired md_sails md_seasRead md_kinds md_ills md_cells md_sailed md_must md_seenMany md_sights md_seedNow md_cellsThen md_keptSea md_keptDay md_keptHired md_keptSails md_keptSeen md_keptKinds md_keptIlls md_keptCells md_keptSailed md_keptSights md_hash) ([.ref (md 0)] : List Value)) (vp_Si (fun r => r = (fX6_upToday md_ships md_day md_isHired md_kinds md_ills))) 0 0 (fun _ => False) := by
  refine Met.ofW (cc := cX6_upToday) (maxL := 3) (ret := (some .int)) (by decide) rfl ?_
  intro p e s m args below meth c s₁ B hml hv
  obtain ⟨rfl, hP, hK, hst⟩ := hv
  have hx := B.exec
  have hb := B.bytes
  have hr := B.returns
  have hts := atoms_spec (ws := wsX6_upToday) B.pre
  have hown : s.vm.findClass RX6 = some m.cls := findClass_of_methodNamed B.named
  have hlocks := B.notSynchronized
  have hS : va_S (fun _ => False) s.heap s.heap [] := va_S.rf
  generalize hE : (fX6_upToday md_ships md_day md_isHired md_kinds md_ills) = RES
  generalize hQ : MQ below (vp_Si (fun r => r = RES)) ([.ref (md 0)] : List Value).toArray s 0 0 (fun _ => False) = Q
  have hl := lv_entry ([.ref (md 0)] : List Value) (n := 3) (Nat.le_of_ble_eq_true rfl)
  rw [lg_entry_eq]
  generalize (lg_sl ([.ref (md 0)] : List Value) ++ List.replicate (3 - (lg_sl ([.ref (md 0)] : List Value)).length) Slot.unset).toArray = ls at hl ⊢
  have hl : lv_has ls 3 [(0, .ref (md 0))] := hl
  have in_X6 : ∀ w ∈ u_ws RX6 TX6 30, w ∈ wsX6_upToday := fun _ h => List.mem_cons_of_mem _ (List.mem_append_right _ h)
  have t_fieldLink_RX6_109_FourLodgersModel_day_I := hts (.fieldLink RX6 109 "FourLodgersModel" "day" "I") (List.mem_of_getElem? (i := 1) rfl)
  have i_0 : (0 : Int32).toInt = 0 := by decide
  have i_1 : (1 : Int32).toInt = 1 := by decide
  have i_4 : (4 : Int32).toInt = 4 := by decide
  rw [fX6_upToday] at hE
  refine lv_iconst (v := (0 : Int32)) hx hb dX6_upToday_0 (by decide) ?_
  refine lv_istore_n (lv' := [(1, .int (0 : Int32)), (0, .ref (md 0))]) hx hb dX6_upToday_1 rfl hl (by decide) rfl (fun ls hl => ?_)
  refine lv_iconst (v := (0 : Int32)) hx hb dX6_upToday_2 (by decide) ?_
  refine lv_istore_n (lv' := [(2, .int (0 : Int32)), (1, .int (0 : Int32)), (0, .ref (md 0))]) hx hb dX6_upToday_3 rfl hl (by decide) rfl (fun ls hl => ?_)
  have L4 : ∀ (n_ : Nat) (x1 : Int32) (i : Nat) , (i ≤ 4) → 4 - i < n_ → (fX6_upToday_4 md_ships md_day md_isHired md_kinds md_ills n_ x1 i) = RES → ∀ ls : Array Slot, lv_has ls 3 [(0, .ref (md 0)), (1, .int x1), (2, .int (nI i))] → W p l e (headSpec wsX6_upToday ({ frames := 2, cells := 0, slots := 0, locals := 44 } : Room)).room s m ([.ref (md 0)] : List Value).toArray below meth c s.heap [] 0 0 Q (F0 m 4 ls []) := by
    intro n_
    induction n_ with
    | zero => intro x1 i  hi hn; exact absurd hn (Nat.not_lt_zero _)
    | succ n_ ih =>
      intro x1 i  hi hn hE ls hl
      rw [fX6_upToday_4] at hE
      have tn_i : (nI i).toInt = (i : Int) := nI_toInt (by omega)
      refine lv_iload_n hx hb dX6_upToday_4 rfl (lv_at hl 2 rfl) ?_
      refine lv_iconst (v := (4 : Int32)) hx hb dX6_upToday_5 (by decide) ?_
      refine lv_icmp_ge (tgt := 42) hx hb dX6_upToday_6 (by decide) (fun c_6 => ?_) (fun c_6 => ?_)
      · have e_6 := Int32.le_iff_toInt_le.mp c_6
        rw [if_pos c_6] at hE
        refine lv_iload_n hx hb dX6_upToday_42 rfl (lv_at hl 1 rfl) ?_
        subst hE
        rw [← hQ]
        exact W.iret hx hb hr (fun t ht hW => ⟨_, rfl, rfl, ht⟩) (fun q h => absurd h List.not_mem_nil) dX6_upToday_43
      · have e_6 := mt Int32.le_iff_toInt_le.mpr c_6
        rw [if_neg c_6] at hE
        refine lv_aload_n hx hb dX6_upToday_9 rfl (lv_at hl 0 rfl) ?_
        refine rcVi (As := []) (rest := []) ⟨hx, hb, hml, hown, hts⟩ (kX6_lacks l dC dI cI cJ md md_page md_pageMany md_end md_ships md_rocks md_rockBits md_day md_isHired md_sails md_seasRead md_kinds md_ills md_cells md_sailed md_must md_seenMany md_sights md_seedNow md_cellsThen md_keptSea md_keptDay md_keptHired md_keptSails md_keptSeen md_keptKinds md_keptIlls md_keptCells md_keptSailed md_keptSights md_hash) (cwV 0 hts gX6_upToday_X6_lacks rfl rfl rfl (by decide +kernel) ⟨Nat.le_of_ble_eq_true rfl, Nat.le_of_ble_eq_true rfl⟩) hK hP hst hS [0, 1, 2, 3, 4, 5, 6, 7, 8, 9, 10, 11, 12, 13] rfl 0 rfl rfl rfl hl.1 rfl (Nat.le_of_ble_eq_true rfl) dX6_upToday_10 ⟨Nat.zero_le _, Nat.zero_le _⟩ (fun r w_1 => ?_)
        obtain ⟨rfl, nb_2⟩ := w_1
        refine lv_if_ne (tgt := 42) hx hb dX6_upToday_13 (by decide) (fun c_13 => ?_) (fun c_13 => ?_)
        · rw [if_neg c_13] at hE
          refine lv_iload_n hx hb dX6_upToday_42 rfl (lv_at hl 1 rfl) ?_
          subst hE
          rw [← hQ]
          exact W.iret hx hb hr (fun t ht hW => ⟨_, rfl, rfl, ht⟩) (fun q h => absurd h List.not_mem_nil) dX6_upToday_43
        · rw [if_pos c_13] at hE
          refine lv_iload_n hx hb dX6_upToday_16 rfl (lv_at hl 1 rfl) ?_
          refine lv_aload_n hx hb dX6_upToday_17 rfl (lv_at hl 0 rfl) ?_
          refine lv_iload_n hx hb dX6_upToday_18 rfl (lv_at hl 2 rfl) ?_
          refine lv_aload_n hx hb dX6_upToday_19 rfl (lv_at hl 0 rfl) ?_
          refine va_get (D := (dC, dI)) (ci := 6) (v := .int md_day) (C := RX6) (T := TX6) (N := 30) hx hb hts in_X6 hown hK hP 0 rfl rfl 6 (by decide) t_fieldLink_RX6_109_FourLodgersModel_day_I (fun _ h9 => h9) rfl dX6_upToday_20 ?_
          refine rcVi (As := [.int (nI i), .int md_day]) (rest := [.int x1]) ⟨hx, hb, hml, hown, hts⟩ (kX6_isUp l dC dI cI cJ md md_page md_pageMany md_end md_ships md_rocks md_rockBits md_day md_isHired md_sails md_seasRead md_kinds md_ills md_cells md_sailed md_must md_seenMany md_sights md_seedNow md_cellsThen md_keptSea md_keptDay md_keptHired md_keptSails md_keptSeen md_keptKinds md_keptIlls md_keptCells md_keptSailed md_keptSights md_hash (nI i) md_day (by first | assumption | exact vp_in_iff.mpr ⟨by omega, by omega⟩ | omega | decide)) (cwV 2 hts gX6_upToday_X6_isUp rfl rfl rfl (by decide +kernel) ⟨Nat.le_of_ble_eq_true rfl, Nat.le_of_ble_eq_true rfl⟩) hK hP hst hS [0, 1, 2, 3, 4, 5, 6, 7, 8, 9, 10, 11, 12, 13] rfl 0 rfl rfl rfl hl.1 rfl (Nat.le_of_ble_eq_true rfl) dX6_upToday_23 ⟨Nat.zero_le _, Nat.zero_le _⟩ (fun r w_3 => ?_)
          obtain ⟨rfl, nb_4⟩ := w_3
          refine lv_if_eq (tgt := 33) hx hb dX6_upToday_26 (by decide) (fun c_26 => ?_) (fun c_26 => ?_)
          · rw [if_pos c_26] at hE
            refine lv_iconst (v := (0 : Int32)) hx hb dX6_upToday_33 (by decide) ?_
            refine lv_iadd hx hb dX6_upToday_34 ?_
            refine lv_istore_n (lv' := [(1, .int (x1 + (0 : Int32))), (0, .ref (md 0)), (2, .int (nI i))]) hx hb dX6_upToday_35 rfl hl (by decide) rfl (fun ls hl => ?_)
            refine lv_iinc (v := (nI (i + 1))) (lv' := [(2, .int (nI (i + 1))), (1, .int (x1 + (0 : Int32))), (0, .ref (md 0))]) hx hb dX6_upToday_36 hl (k := 2) rfl (by rw [show Int32.ofInt 1 = nI 1 from rfl, nI_add]) (by decide) rfl (fun ls hl => ?_)
            refine lv_goto (tgt := 4) hx hb dX6_upToday_39 (by decide) ?_
            exact ih (x1 + (0 : Int32)) ((i + 1))  (by omega) (by omega) hE ls (lv_sub hl [2, 1, 0] rfl)
          · rw [if_neg c_26] at hE
            refine lv_iconst (v := (1 : Int32)) hx hb dX6_upToday_29 (by decide) ?_
            refine lv_goto (tgt := 34) hx hb dX6_upToday_30 (by decide) ?_
            refine lv_iadd hx hb dX6_upToday_34 ?_
            refine lv_istore_n (lv' := [(1, .int (x1 + (1 : Int32))), (0, .ref (md 0)), (2, .int (nI i))]) hx hb dX6_upToday_35 rfl hl (by decide) rfl (fun ls hl => ?_)
            refine lv_iinc (v := (nI (i + 1))) (lv' := [(2, .int (nI (i + 1))), (1, .int (x1 + (1 : Int32))), (0, .ref (md 0))]) hx hb dX6_upToday_36 hl (k := 2) rfl (by rw [show Int32.ofInt 1 = nI 1 from rfl, nI_add]) (by decide) rfl (fun ls hl => ?_)
            refine lv_goto (tgt := 4) hx hb dX6_upToday_39 (by decide) ?_
            exact ih (x1 + (1 : Int32)) ((i + 1))  (by omega) (by omega) hE ls (lv_sub hl [2, 1, 0] rfl)
  exact L4 5 (0 : Int32) (0)  (by omega) (by omega) hE ls (lv_sub hl [2, 1, 0] rfl)
def fX6_illToday_4 (md_ships : Int32) (md_day : Int32) (md_ills : Nat → Int32) : Nat → Int32 → Nat → Int32
  | 0, _, _ => 0
  | n_ + 1, x1, i => (if (4 : Int32) ≤ (nI i) then x1 else (if (fX6_lacks md_ships) = (0 : Int32) then (if (fX6_illFor md_day md_ills (nI i)) ≤ (0 : Int32) then (fX6_illToday_4 md_ships md_day md_ills n_ (x1 + (0 : Int32)) ((i + 1))) else (fX6_illToday_4 md_ships md_day md_ills n_ (x1 + (1 : Int32)) ((i + 1)))) else x1))
def fX6_illToday (md_ships : Int32) (md_day : Int32) (md_ills : Nat → Int32) : Int32 := (fX6_illToday_4 md_ships md_day md_ills 5 (0 : Int32) (0))
set_option maxHeartbeats 4000000 in
set_option maxRecDepth 100000 in
theorem kX6_illToday (l : Launch) (dC : Nat → ClassId) (dI : Nat → Nat → Nat) (cI cJ : ClassId) (md : Nat → Nat) (md_page : Nat → Int32) (md_pageMany : Int32) (md_end : Int32) (md_ships : Int32) (md_rocks : Int32) (md_rockBits : Int64) (md_day : Int32) (md_isHired : Int32) (md_sails : Int32) (md_seasRead : Int32) (md_kinds : Nat → Int32) (md_ills : Nat → Int32) (md_cells : Nat → Int32) (md_sailed : Nat → Int32) (md_must : Nat → Int64) (md_seenMany : Int32) (md_sights : Nat → Int32) (md_seedNow : Int32) (md_cellsThen : Nat → Int32) (md_keptSea : Int32) (md_keptDay : Int32) (md_keptHired : Int32) (md_keptSails : Int32) (md_keptSeen : Int32) (md_keptKinds : Nat → Int32) (md_keptIlls : Nat → Int32) (md_keptCells : Nat → Int32) (md_keptSailed : Nat → Int32) (md_keptSights : Nat → Int32) (md_hash : Int64) : Met l yX6_illToday wsX6_illToday ({ frames := 1, cells := 0, slots := 0, locals := 21 } : Room) (gR (dC, dI) cI cJ (kMd cI cJ md md_page md_pageMany md_end md_ships md_rocks md_rockBits md_day md_isHired md_sails md_seasRead md_kinds md_ills md_cells md_sailed md_must md_seenMany md_sights md_seedNow md_cellsThen md_keptSea md_keptDay md_keptHired md_keptSails md_keptSeen md_keptKinds md_keptIlls md_keptCells md_keptSailed md_keptSights md_hash) ([.ref (md 0)] : List Value)) (vp_Si (fun r => r = (fX6_illToday md_ships md_day md_ills))) 0 0 (fun _ => False) := by
  refine Met.ofW (cc := cX6_illToday) (maxL := 3) (ret := (some .int)) (by decide) rfl ?_
  intro p e s m args below meth c s₁ B hml hv
  obtain ⟨rfl, hP, hK, hst⟩ := hv
  have hx := B.exec
  have hb := B.bytes
  have hr := B.returns
  have hts := atoms_spec (ws := wsX6_illToday) B.pre
  have hown : s.vm.findClass RX6 = some m.cls := findClass_of_methodNamed B.named
  have hlocks := B.notSynchronized
  have hS : va_S (fun _ => False) s.heap s.heap [] := va_S.rf
  generalize hE : (fX6_illToday md_ships md_day md_ills) = RES
  generalize hQ : MQ below (vp_Si (fun r => r = RES)) ([.ref (md 0)] : List Value).toArray s 0 0 (fun _ => False) = Q
  have hl := lv_entry ([.ref (md 0)] : List Value) (n := 3) (Nat.le_of_ble_eq_true rfl)
  rw [lg_entry_eq]
  generalize (lg_sl ([.ref (md 0)] : List Value) ++ List.replicate (3 - (lg_sl ([.ref (md 0)] : List Value)).length) Slot.unset).toArray = ls at hl ⊢
  have hl : lv_has ls 3 [(0, .ref (md 0))] := hl
  have i_0 : (0 : Int32).toInt = 0 := by decide
  have i_1 : (1 : Int32).toInt = 1 := by decide
  have i_4 : (4 : Int32).toInt = 4 := by decide
  rw [fX6_illToday] at hE
  refine lv_iconst (v := (0 : Int32)) hx hb dX6_illToday_0 (by decide) ?_
  refine lv_istore_n (lv' := [(1, .int (0 : Int32)), (0, .ref (md 0))]) hx hb dX6_illToday_1 rfl hl (by decide) rfl (fun ls hl => ?_)
  refine lv_iconst (v := (0 : Int32)) hx hb dX6_illToday_2 (by decide) ?_
  refine lv_istore_n (lv' := [(2, .int (0 : Int32)), (1, .int (0 : Int32)), (0, .ref (md 0))]) hx hb dX6_illToday_3 rfl hl (by decide) rfl (fun ls hl => ?_)
  have L4 : ∀ (n_ : Nat) (x1 : Int32) (i : Nat) , (i ≤ 4) → 4 - i < n_ → (fX6_illToday_4 md_ships md_day md_ills n_ x1 i) = RES → ∀ ls : Array Slot, lv_has ls 3 [(0, .ref (md 0)), (1, .int x1), (2, .int (nI i))] → W p l e (headSpec wsX6_illToday ({ frames := 1, cells := 0, slots := 0, locals := 21 } : Room)).room s m ([.ref (md 0)] : List Value).toArray below meth c s.heap [] 0 0 Q (F0 m 4 ls []) := by
    intro n_
    induction n_ with
    | zero => intro x1 i  hi hn; exact absurd hn (Nat.not_lt_zero _)
    | succ n_ ih =>
      intro x1 i  hi hn hE ls hl
      rw [fX6_illToday_4] at hE
      have tn_i : (nI i).toInt = (i : Int) := nI_toInt (by omega)
      refine lv_iload_n hx hb dX6_illToday_4 rfl (lv_at hl 2 rfl) ?_
      refine lv_iconst (v := (4 : Int32)) hx hb dX6_illToday_5 (by decide) ?_
      refine lv_icmp_ge (tgt := 38) hx hb dX6_illToday_6 (by decide) (fun c_6 => ?_) (fun c_6 => ?_)
      · have e_6 := Int32.le_iff_toInt_le.mp c_6
        rw [if_pos c_6] at hE
        refine lv_iload_n hx hb dX6_illToday_38 rfl (lv_at hl 1 rfl) ?_
        subst hE
        rw [← hQ]
        exact W.iret hx hb hr (fun t ht hW => ⟨_, rfl, rfl, ht⟩) (fun q h => absurd h List.not_mem_nil) dX6_illToday_39
      · have e_6 := mt Int32.le_iff_toInt_le.mpr c_6
        rw [if_neg c_6] at hE
        refine lv_aload_n hx hb dX6_illToday_9 rfl (lv_at hl 0 rfl) ?_
        refine rcVi (As := []) (rest := []) ⟨hx, hb, hml, hown, hts⟩ (kX6_lacks l dC dI cI cJ md md_page md_pageMany md_end md_ships md_rocks md_rockBits md_day md_isHired md_sails md_seasRead md_kinds md_ills md_cells md_sailed md_must md_seenMany md_sights md_seedNow md_cellsThen md_keptSea md_keptDay md_keptHired md_keptSails md_keptSeen md_keptKinds md_keptIlls md_keptCells md_keptSailed md_keptSights md_hash) (cwV 0 hts gX6_illToday_X6_lacks rfl rfl rfl (by decide +kernel) ⟨Nat.le_of_ble_eq_true rfl, Nat.le_of_ble_eq_true rfl⟩) hK hP hst hS [0, 1, 2, 3, 4, 5, 6, 7, 8, 9, 10, 11, 12, 13] rfl 0 rfl rfl rfl hl.1 rfl (Nat.le_of_ble_eq_true rfl) dX6_illToday_10 ⟨Nat.zero_le _, Nat.zero_le _⟩ (fun r w_1 => ?_)
        obtain ⟨rfl, nb_2⟩ := w_1
        refine lv_if_ne (tgt := 38) hx hb dX6_illToday_13 (by decide) (fun c_13 => ?_) (fun c_13 => ?_)
        · rw [if_neg c_13] at hE
          refine lv_iload_n hx hb dX6_illToday_38 rfl (lv_at hl 1 rfl) ?_
          subst hE
          rw [← hQ]
          exact W.iret hx hb hr (fun t ht hW => ⟨_, rfl, rfl, ht⟩) (fun q h => absurd h List.not_mem_nil) dX6_illToday_39
        · rw [if_pos c_13] at hE
          refine lv_iload_n hx hb dX6_illToday_16 rfl (lv_at hl 1 rfl) ?_
          refine lv_aload_n hx hb dX6_illToday_17 rfl (lv_at hl 0 rfl) ?_
          refine lv_iload_n hx hb dX6_illToday_18 rfl (lv_at hl 2 rfl) ?_
          refine rcVi (As := [.int (nI i)]) (rest := [.int x1]) ⟨hx, hb, hml, hown, hts⟩ (kX6_illFor l dC dI cI cJ md md_page md_pageMany md_end md_ships md_rocks md_rockBits md_day md_isHired md_sails md_seasRead md_kinds md_ills md_cells md_sailed md_must md_seenMany md_sights md_seedNow md_cellsThen md_keptSea md_keptDay md_keptHired md_keptSails md_keptSeen md_keptKinds md_keptIlls md_keptCells md_keptSailed md_keptSights md_hash (nI i) (by first | assumption | exact vp_in_iff.mpr ⟨by omega, by omega⟩ | omega | decide)) (cwV 1 hts gX6_illToday_X6_illFor rfl rfl rfl (by decide +kernel) ⟨Nat.le_of_ble_eq_true rfl, Nat.le_of_ble_eq_true rfl⟩) hK hP hst hS [0, 1, 2, 3, 4, 5, 6, 7, 8, 9, 10, 11, 12, 13] rfl 0 rfl rfl rfl hl.1 rfl (Nat.le_of_ble_eq_true rfl) dX6_illToday_19 ⟨Nat.zero_le _, Nat.zero_le _⟩ (fun r w_3 => ?_)
          subst w_3
          refine lv_if_le (tgt := 29) hx hb dX6_illToday_22 (by decide) (fun c_22 => ?_) (fun c_22 => ?_)
          · rw [if_pos c_22] at hE
            refine lv_iconst (v := (0 : Int32)) hx hb dX6_illToday_29 (by decide) ?_
            refine lv_iadd hx hb dX6_illToday_30 ?_
            refine lv_istore_n (lv' := [(1, .int (x1 + (0 : Int32))), (0, .ref (md 0)), (2, .int (nI i))]) hx hb dX6_illToday_31 rfl hl (by decide) rfl (fun ls hl => ?_)
            refine lv_iinc (v := (nI (i + 1))) (lv' := [(2, .int (nI (i + 1))), (1, .int (x1 + (0 : Int32))), (0, .ref (md 0))]) hx hb dX6_illToday_32 hl (k := 2) rfl (by rw [show Int32.ofInt 1 = nI 1 from rfl, nI_add]) (by decide) rfl (fun ls hl => ?_)
            refine lv_goto (tgt := 4) hx hb dX6_illToday_35 (by decide) ?_
            exact ih (x1 + (0 : Int32)) ((i + 1))  (by omega) (by omega) hE ls (lv_sub hl [2, 1, 0] rfl)
          · rw [if_neg c_22] at hE
            refine lv_iconst (v := (1 : Int32)) hx hb dX6_illToday_25 (by decide) ?_
            refine lv_goto (tgt := 30) hx hb dX6_illToday_26 (by decide) ?_
            refine lv_iadd hx hb dX6_illToday_30 ?_
            refine lv_istore_n (lv' := [(1, .int (x1 + (1 : Int32))), (0, .ref (md 0)), (2, .int (nI i))]) hx hb dX6_illToday_31 rfl hl (by decide) rfl (fun ls hl => ?_)
            refine lv_iinc (v := (nI (i + 1))) (lv' := [(2, .int (nI (i + 1))), (1, .int (x1 + (1 : Int32))), (0, .ref (md 0))]) hx hb dX6_illToday_32 hl (k := 2) rfl (by rw [show Int32.ofInt 1 = nI 1 from rfl, nI_add]) (by decide) rfl (fun ls hl => ?_)
            refine lv_goto (tgt := 4) hx hb dX6_illToday_35 (by decide) ?_
            exact ih (x1 + (1 : Int32)) ((i + 1))  (by omega) (by omega) hE ls (lv_sub hl [2, 1, 0] rfl)
  exact L4 5 (0 : Int32) (0)  (by omega) (by omega) hE ls (lv_sub hl [2, 1, 0] rfl)
def fX6_countOf (md_pageMany : Int32) (md_ships : Int32) (md_rocks : Int32) (md_day : Int32) (md_isHired : Int32) (md_sails : Int32) (md_seasRead : Int32) (md_kinds : Nat → Int32) (md_ills : Nat → Int32) (md_sailed : Nat → Int32) (md_seenMany : Int32) (what_ : Int32) : Int32 := (if what_ = (0 : Int32) then md_ships else (if what_ = (1 : Int32) then md_rocks else (if what_ = (2 : Int32) then md_day else (if what_ = (3 : Int32) then (if md_isHired = (0 : Int32) then (0 : Int32) else (1 : Int32)) else (if what_ = (4 : Int32) then (fX6_upToday md_ships md_day md_isHired md_kinds md_ills) else (if what_ = (5 : Int32) then (fX6_illToday md_ships md_day md_ills) else (if what_ = (6 : Int32) then (((md_sailed (0 : Int32).toNatClampNeg) + (md_sailed (1 : Int32).toNatClampNeg)) + (md_sailed (2 : Int32).toNatClampNeg)) else (if what_ = (7 : Int32) then md_sails else (if what_ = (8 : Int32) then md_seenMany else (if what_ = (9 : Int32) then md_pageMany else (if what_ = (10 : Int32) then md_seasRead else (-102 : Int32))))))))))))
set_option maxHeartbeats 4000000 in
set_option maxRecDepth 100000 in
theorem kX6_countOf (l : Launch) (dC : Nat → ClassId) (dI : Nat → Nat → Nat) (cI cJ : ClassId) (md : Nat → Nat) (md_page : Nat → Int32) (md_pageMany : Int32) (md_end : Int32) (md_ships : Int32) (md_rocks : Int32) (md_rockBits : Int64) (md_day : Int32) (md_isHired : Int32) (md_sails : Int32) (md_seasRead : Int32) (md_kinds : Nat → Int32) (md_ills : Nat → Int32) (md_cells : Nat → Int32) (md_sailed : Nat → Int32) (md_must : Nat → Int64) (md_seenMany : Int32) (md_sights : Nat → Int32) (md_seedNow : Int32) (md_cellsThen : Nat → Int32) (md_keptSea : Int32) (md_keptDay : Int32) (md_keptHired : Int32) (md_keptSails : Int32) (md_keptSeen : Int32) (md_keptKinds : Nat → Int32) (md_keptIlls : Nat → Int32) (md_keptCells : Nat → Int32) (md_keptSailed : Nat → Int32) (md_keptSights : Nat → Int32) (md_hash : Int64) (what_ : Int32) : Met l yX6_countOf wsX6_countOf ({ frames := 3, cells := 0, slots := 0, locals := 66 } : Room) (gR (dC, dI) cI cJ (kMd cI cJ md md_page md_pageMany md_end md_ships md_rocks md_rockBits md_day md_isHired md_sails md_seasRead md_kinds md_ills md_cells md_sailed md_must md_seenMany md_sights md_seedNow md_cellsThen md_keptSea md_keptDay md_keptHired md_keptSails md_keptSeen md_keptKinds md_keptIlls md_keptCells md_keptSailed md_keptSights md_hash) ([.ref (md 0), .int what_] : List Value)) (vp_Si (fun r => r = (fX6_countOf md_pageMany md_ships md_rocks md_day md_isHired md_sails md_seasRead md_kinds md_ills md_sailed md_seenMany what_))) 0 0 (fun _ => False) := by
  refine Met.ofW (cc := cX6_countOf) (maxL := 2) (ret := (some .int)) (by decide) rfl ?_
  intro p e s m args below meth c s₁ B hml hv
  obtain ⟨rfl, hP, hK, hst⟩ := hv
  have hx := B.exec
  have hb := B.bytes
  have hr := B.returns
  have hts := atoms_spec (ws := wsX6_countOf) B.pre
  have hown : s.vm.findClass RX6 = some m.cls := findClass_of_methodNamed B.named
  have hlocks := B.notSynchronized
  have hS : va_S (fun _ => False) s.heap s.heap [] := va_S.rf
  generalize hE : (fX6_countOf md_pageMany md_ships md_rocks md_day md_isHired md_sails md_seasRead md_kinds md_ills md_sailed md_seenMany what_) = RES
  generalize hQ : MQ below (vp_Si (fun r => r = RES)) ([.ref (md 0), .int what_] : List Value).toArray s 0 0 (fun _ => False) = Q
  have hl := lv_entry ([.ref (md 0), .int what_] : List Value) (n := 2) (Nat.le_of_ble_eq_true rfl)
  rw [lg_entry_eq]
  generalize (lg_sl ([.ref (md 0), .int what_] : List Value) ++ List.replicate (2 - (lg_sl ([.ref (md 0), .int what_] : List Value)).length) Slot.unset).toArray = ls at hl ⊢
  have hl : lv_has ls 2 [(0, .ref (md 0)), (1, .int what_)] := hl
  have in_X6 : ∀ w ∈ u_ws RX6 TX6 30, w ∈ wsX6_countOf := fun _ h => List.mem_cons_of_mem _ (List.mem_append_right _ h)
  have t_fieldLink_RX6_102_FourLodgersModel_rocks_I := hts (.fieldLink RX6 102 "FourLodgersModel" "rocks" "I") (List.mem_of_getElem? (i := 2) rfl)
  have t_fieldLink_RX6_109_FourLodgersModel_day_I := hts (.fieldLink RX6 109 "FourLodgersModel" "day" "I") (List.mem_of_getElem? (i := 3) rfl)
  have t_fieldLink_RX6_112_FourLodgersModel_isHired_Z := hts (.fieldLink RX6 112 "FourLodgersModel" "isHired" "Z") (List.mem_of_getElem? (i := 4) rfl)
  have t_fieldLink_RX6_116_FourLodgersModel_sails_I := hts (.fieldLink RX6 116 "FourLodgersModel" "sails" "I") (List.mem_of_getElem? (i := 6) rfl)
  have t_fieldLink_RX6_119_FourLodgersModel_seenMany_I := hts (.fieldLink RX6 119 "FourLodgersModel" "seenMany" "I") (List.mem_of_getElem? (i := 7) rfl)
  have t_fieldLink_RX6_122_FourLodgersModel_seasRead_I := hts (.fieldLink RX6 122 "FourLodgersModel" "seasRead" "I") (List.mem_of_getElem? (i := 9) rfl)
  have t_fieldLink_RX6_22_FourLodgersModel_sailed_I := hts (.fieldLink RX6 22 "FourLodgersModel" "sailed" "[I") (List.mem_of_getElem? (i := 5) rfl)
  have t_fieldLink_RX6_60_FourLodgersModel_pageMany_I := hts (.fieldLink RX6 60 "FourLodgersModel" "pageMany" "I") (List.mem_of_getElem? (i := 8) rfl)
  have t_fieldLink_RX6_99_FourLodgersModel_ships_I := hts (.fieldLink RX6 99 "FourLodgersModel" "ships" "I") (List.mem_of_getElem? (i := 1) rfl)
  have i_m102 : (-102 : Int32).toInt = -102 := by decide
  have i_0 : (0 : Int32).toInt = 0 := by decide
  have i_1 : (1 : Int32).toInt = 1 := by decide
  have i_2 : (2 : Int32).toInt = 2 := by decide
  have i_3 : (3 : Int32).toInt = 3 := by decide
  have i_4 : (4 : Int32).toInt = 4 := by decide
  have i_5 : (5 : Int32).toInt = 5 := by decide
  have i_6 : (6 : Int32).toInt = 6 := by decide
  have i_7 : (7 : Int32).toInt = 7 := by decide
  have i_8 : (8 : Int32).toInt = 8 := by decide
  have i_9 : (9 : Int32).toInt = 9 := by decide
  have i_10 : (10 : Int32).toInt = 10 := by decide
  rw [fX6_countOf] at hE
  refine lv_iload_n hx hb dX6_countOf_0 rfl (lv_at hl 1 rfl) ?_
  by_cases c_1_0 : what_ = (0 : Int32)
  · have e_1_0 := congrArg Int32.toInt c_1_0
    rw [if_pos c_1_0] at hE
    refine lv_tableIn (off := 59) (tgt := 60) hx hb dX6_countOf_1 (by rw [c_1_0]; decide) (by rw [c_1_0]; decide) (by rw [c_1_0]; rfl) (by decide) ?_
    refine lv_aload_n hx hb dX6_countOf_60 rfl (lv_at hl 0 rfl) ?_
    refine va_get (D := (dC, dI)) (ci := 6) (v := .int md_ships) (C := RX6) (T := TX6) (N := 30) hx hb hts in_X6 hown hK hP 0 rfl rfl 3 (by decide) t_fieldLink_RX6_99_FourLodgersModel_ships_I (fun _ h9 => h9) rfl dX6_countOf_61 ?_
    subst hE
    rw [← hQ]
    exact W.iret hx hb hr (fun t ht hW => ⟨_, rfl, rfl, ht⟩) (fun q h => absurd h List.not_mem_nil) dX6_countOf_64
  · rw [if_neg c_1_0] at hE
    have e_1_0 := mt Int32.toInt_inj.mp c_1_0
    by_cases c_1_1 : what_ = (1 : Int32)
    · have e_1_1 := congrArg Int32.toInt c_1_1
      rw [if_pos c_1_1] at hE
      refine lv_tableIn (off := 64) (tgt := 65) hx hb dX6_countOf_1 (by rw [c_1_1]; decide) (by rw [c_1_1]; decide) (by rw [c_1_1]; rfl) (by decide) ?_
      refine lv_aload_n hx hb dX6_countOf_65 rfl (lv_at hl 0 rfl) ?_
      refine va_get (D := (dC, dI)) (ci := 6) (v := .int md_rocks) (C := RX6) (T := TX6) (N := 30) hx hb hts in_X6 hown hK hP 0 rfl rfl 4 (by decide) t_fieldLink_RX6_102_FourLodgersModel_rocks_I (fun _ h9 => h9) rfl dX6_countOf_66 ?_
      subst hE
      rw [← hQ]
      exact W.iret hx hb hr (fun t ht hW => ⟨_, rfl, rfl, ht⟩) (fun q h => absurd h List.not_mem_nil) dX6_countOf_69
    · rw [if_neg c_1_1] at hE
      have e_1_1 := mt Int32.toInt_inj.mp c_1_1
      by_cases c_1_2 : what_ = (2 : Int32)
      · have e_1_2 := congrArg Int32.toInt c_1_2
        rw [if_pos c_1_2] at hE
        refine lv_tableIn (off := 69) (tgt := 70) hx hb dX6_countOf_1 (by rw [c_1_2]; decide) (by rw [c_1_2]; decide) (by rw [c_1_2]; rfl) (by decide) ?_
        refine lv_aload_n hx hb dX6_countOf_70 rfl (lv_at hl 0 rfl) ?_
        refine va_get (D := (dC, dI)) (ci := 6) (v := .int md_day) (C := RX6) (T := TX6) (N := 30) hx hb hts in_X6 hown hK hP 0 rfl rfl 6 (by decide) t_fieldLink_RX6_109_FourLodgersModel_day_I (fun _ h9 => h9) rfl dX6_countOf_71 ?_
        subst hE
        rw [← hQ]
        exact W.iret hx hb hr (fun t ht hW => ⟨_, rfl, rfl, ht⟩) (fun q h => absurd h List.not_mem_nil) dX6_countOf_74
      · rw [if_neg c_1_2] at hE
        have e_1_2 := mt Int32.toInt_inj.mp c_1_2
        by_cases c_1_3 : what_ = (3 : Int32)
        · have e_1_3 := congrArg Int32.toInt c_1_3
          rw [if_pos c_1_3] at hE
          refine lv_tableIn (off := 74) (tgt := 75) hx hb dX6_countOf_1 (by rw [c_1_3]; decide) (by rw [c_1_3]; decide) (by rw [c_1_3]; rfl) (by decide) ?_
          refine lv_aload_n hx hb dX6_countOf_75 rfl (lv_at hl 0 rfl) ?_
          refine va_get (D := (dC, dI)) (ci := 6) (v := .int md_isHired) (C := RX6) (T := TX6) (N := 30) hx hb hts in_X6 hown hK hP 0 rfl rfl 7 (by decide) t_fieldLink_RX6_112_FourLodgersModel_isHired_Z (fun _ h9 => h9) rfl dX6_countOf_76 ?_
          refine lv_if_eq (tgt := 86) hx hb dX6_countOf_79 (by decide) (fun c_79 => ?_) (fun c_79 => ?_)
          · have e_79 := congrArg Int32.toInt c_79
            rw [if_pos c_79] at hE
            refine lv_iconst (v := (0 : Int32)) hx hb dX6_countOf_86 (by decide) ?_
            subst hE
            rw [← hQ]
            exact W.iret hx hb hr (fun t ht hW => ⟨_, rfl, rfl, ht⟩) (fun q h => absurd h List.not_mem_nil) dX6_countOf_87
          · have e_79 := mt Int32.toInt_inj.mp c_79
            rw [if_neg c_79] at hE
            refine lv_iconst (v := (1 : Int32)) hx hb dX6_countOf_82 (by decide) ?_
            refine lv_goto (tgt := 87) hx hb dX6_countOf_83 (by decide) ?_
            subst hE
            rw [← hQ]
            exact W.iret hx hb hr (fun t ht hW => ⟨_, rfl, rfl, ht⟩) (fun q h => absurd h List.not_mem_nil) dX6_countOf_87
        · rw [if_neg c_1_3] at hE
          have e_1_3 := mt Int32.toInt_inj.mp c_1_3
          by_cases c_1_4 : what_ = (4 : Int32)
          · have e_1_4 := congrArg Int32.toInt c_1_4
            rw [if_pos c_1_4] at hE
            refine lv_tableIn (off := 87) (tgt := 88) hx hb dX6_countOf_1 (by rw [c_1_4]; decide) (by rw [c_1_4]; decide) (by rw [c_1_4]; rfl) (by decide) ?_
            refine lv_aload_n hx hb dX6_countOf_88 rfl (lv_at hl 0 rfl) ?_
            refine rcVi (As := []) (rest := []) ⟨hx, hb, hml, hown, hts⟩ (kX6_upToday l dC dI cI cJ md md_page md_pageMany md_end md_ships md_rocks md_rockBits md_day md_isHired md_sails md_seasRead md_kinds md_ills md_cells md_sailed md_must md_seenMany md_sights md_seedNow md_cellsThen md_keptSea md_keptDay md_keptHired md_keptSails md_keptSeen md_keptKinds md_keptIlls md_keptCells md_keptSailed md_keptSights md_hash) (cwV 0 hts gX6_countOf_X6_upToday rfl rfl rfl (by decide +kernel) ⟨Nat.le_of_ble_eq_true rfl, Nat.le_of_ble_eq_true rfl⟩) hK hP hst hS [0, 1, 2, 3, 4, 5, 6, 7, 8, 9, 10, 11, 12, 13] rfl 0 rfl rfl rfl hl.1 rfl (Nat.le_of_ble_eq_true rfl) dX6_countOf_89 ⟨Nat.zero_le _, Nat.zero_le _⟩ (fun r w_1 => ?_)
            subst w_1
            subst hE
            rw [← hQ]
            exact W.iret hx hb hr (fun t ht hW => ⟨_, rfl, rfl, ht⟩) (fun q h => absurd h List.not_mem_nil) dX6_countOf_92
          · rw [if_neg c_1_4] at hE
            have e_1_4 := mt Int32.toInt_inj.mp c_1_4
            by_cases c_1_5 : what_ = (5 : Int32)
            · have e_1_5 := congrArg Int32.toInt c_1_5
              rw [if_pos c_1_5] at hE
              refine lv_tableIn (off := 92) (tgt := 93) hx hb dX6_countOf_1 (by rw [c_1_5]; decide) (by rw [c_1_5]; decide) (by rw [c_1_5]; rfl) (by decide) ?_
              refine lv_aload_n hx hb dX6_countOf_93 rfl (lv_at hl 0 rfl) ?_
              refine rcVi (As := []) (rest := []) ⟨hx, hb, hml, hown, hts⟩ (kX6_illToday l dC dI cI cJ md md_page md_pageMany md_end md_ships md_rocks md_rockBits md_day md_isHired md_sails md_seasRead md_kinds md_ills md_cells md_sailed md_must md_seenMany md_sights md_seedNow md_cellsThen md_keptSea md_keptDay md_keptHired md_keptSails md_keptSeen md_keptKinds md_keptIlls md_keptCells md_keptSailed md_keptSights md_hash) (cwV 0 hts gX6_countOf_X6_illToday rfl rfl rfl (by decide +kernel) ⟨Nat.le_of_ble_eq_true rfl, Nat.le_of_ble_eq_true rfl⟩) hK hP hst hS [0, 1, 2, 3, 4, 5, 6, 7, 8, 9, 10, 11, 12, 13] rfl 0 rfl rfl rfl hl.1 rfl (Nat.le_of_ble_eq_true rfl) dX6_countOf_94 ⟨Nat.zero_le _, Nat.zero_le _⟩ (fun r w_2 => ?_)
              subst w_2
              subst hE
              rw [← hQ]
              exact W.iret hx hb hr (fun t ht hW => ⟨_, rfl, rfl, ht⟩) (fun q h => absurd h List.not_mem_nil) dX6_countOf_97
            · rw [if_neg c_1_5] at hE
              have e_1_5 := mt Int32.toInt_inj.mp c_1_5
              by_cases c_1_6 : what_ = (6 : Int32)
              · have e_1_6 := congrArg Int32.toInt c_1_6
                rw [if_pos c_1_6] at hE
                refine lv_tableIn (off := 97) (tgt := 98) hx hb dX6_countOf_1 (by rw [c_1_6]; decide) (by rw [c_1_6]; decide) (by rw [c_1_6]; rfl) (by decide) ?_
                refine lv_aload_n hx hb dX6_countOf_98 rfl (lv_at hl 0 rfl) ?_
                refine va_get (D := (dC, dI)) (ci := 6) (v := .ref (md 5)) (C := RX6) (T := TX6) (N := 30) hx hb hts in_X6 hown hK hP 0 rfl rfl 13 (by decide) t_fieldLink_RX6_22_FourLodgersModel_sailed_I (fun _ h9 => h9) rfl dX6_countOf_99 ?_
                refine lv_iconst (v := (0 : Int32)) hx hb dX6_countOf_102 (by decide) ?_
                refine va_iald hx hb hK hP 5 0 rfl rfl (i := (0 : Int32)) (by first | assumption | exact vp_in_iff.mpr ⟨by omega, by omega⟩ | omega | decide) dX6_countOf_103 ?_
                refine lv_aload_n hx hb dX6_countOf_104 rfl (lv_at hl 0 rfl) ?_
                refine va_get (D := (dC, dI)) (ci := 6) (v := .ref (md 5)) (C := RX6) (T := TX6) (N := 30) hx hb hts in_X6 hown hK hP 0 rfl rfl 13 (by decide) t_fieldLink_RX6_22_FourLodgersModel_sailed_I (fun _ h9 => h9) rfl dX6_countOf_105 ?_
                refine lv_iconst (v := (1 : Int32)) hx hb dX6_countOf_108 (by decide) ?_
                refine va_iald hx hb hK hP 5 0 rfl rfl (i := (1 : Int32)) (by first | assumption | exact vp_in_iff.mpr ⟨by omega, by omega⟩ | omega | decide) dX6_countOf_109 ?_
                refine lv_iadd hx hb dX6_countOf_110 ?_
                refine lv_aload_n hx hb dX6_countOf_111 rfl (lv_at hl 0 rfl) ?_
                refine va_get (D := (dC, dI)) (ci := 6) (v := .ref (md 5)) (C := RX6) (T := TX6) (N := 30) hx hb hts in_X6 hown hK hP 0 rfl rfl 13 (by decide) t_fieldLink_RX6_22_FourLodgersModel_sailed_I (fun _ h9 => h9) rfl dX6_countOf_112 ?_
                refine lv_iconst (v := (2 : Int32)) hx hb dX6_countOf_115 (by decide) ?_
                refine va_iald hx hb hK hP 5 0 rfl rfl (i := (2 : Int32)) (by first | assumption | exact vp_in_iff.mpr ⟨by omega, by omega⟩ | omega | decide) dX6_countOf_116 ?_
                refine lv_iadd hx hb dX6_countOf_117 ?_
                subst hE
                rw [← hQ]
                exact W.iret hx hb hr (fun t ht hW => ⟨_, rfl, rfl, ht⟩) (fun q h => absurd h List.not_mem_nil) dX6_countOf_118
              · rw [if_neg c_1_6] at hE
                have e_1_6 := mt Int32.toInt_inj.mp c_1_6
                by_cases c_1_7 : what_ = (7 : Int32)
                · have e_1_7 := congrArg Int32.toInt c_1_7
                  rw [if_pos c_1_7] at hE
                  refine lv_tableIn (off := 118) (tgt := 119) hx hb dX6_countOf_1 (by rw [c_1_7]; decide) (by rw [c_1_7]; decide) (by rw [c_1_7]; rfl) (by decide) ?_
                  refine lv_aload_n hx hb dX6_countOf_119 rfl (lv_at hl 0 rfl) ?_
                  refine va_get (D := (dC, dI)) (ci := 6) (v := .int md_sails) (C := RX6) (T := TX6) (N := 30) hx hb hts in_X6 hown hK hP 0 rfl rfl 8 (by decide) t_fieldLink_RX6_116_FourLodgersModel_sails_I (fun _ h9 => h9) rfl dX6_countOf_120 ?_
                  subst hE
                  rw [← hQ]
                  exact W.iret hx hb hr (fun t ht hW => ⟨_, rfl, rfl, ht⟩) (fun q h => absurd h List.not_mem_nil) dX6_countOf_123
                · rw [if_neg c_1_7] at hE
                  have e_1_7 := mt Int32.toInt_inj.mp c_1_7
                  by_cases c_1_8 : what_ = (8 : Int32)
                  · have e_1_8 := congrArg Int32.toInt c_1_8
                    rw [if_pos c_1_8] at hE
                    refine lv_tableIn (off := 123) (tgt := 124) hx hb dX6_countOf_1 (by rw [c_1_8]; decide) (by rw [c_1_8]; decide) (by rw [c_1_8]; rfl) (by decide) ?_
                    refine lv_aload_n hx hb dX6_countOf_124 rfl (lv_at hl 0 rfl) ?_
                    refine va_get (D := (dC, dI)) (ci := 6) (v := .int md_seenMany) (C := RX6) (T := TX6) (N := 30) hx hb hts in_X6 hown hK hP 0 rfl rfl 15 (by decide) t_fieldLink_RX6_119_FourLodgersModel_seenMany_I (fun _ h9 => h9) rfl dX6_countOf_125 ?_
                    subst hE
                    rw [← hQ]
                    exact W.iret hx hb hr (fun t ht hW => ⟨_, rfl, rfl, ht⟩) (fun q h => absurd h List.not_mem_nil) dX6_countOf_128
                  · rw [if_neg c_1_8] at hE
                    have e_1_8 := mt Int32.toInt_inj.mp c_1_8
                    by_cases c_1_9 : what_ = (9 : Int32)
                    · have e_1_9 := congrArg Int32.toInt c_1_9
                      rw [if_pos c_1_9] at hE
                      refine lv_tableIn (off := 128) (tgt := 129) hx hb dX6_countOf_1 (by rw [c_1_9]; decide) (by rw [c_1_9]; decide) (by rw [c_1_9]; rfl) (by decide) ?_
                      refine lv_aload_n hx hb dX6_countOf_129 rfl (lv_at hl 0 rfl) ?_
                      refine va_get (D := (dC, dI)) (ci := 6) (v := .int md_pageMany) (C := RX6) (T := TX6) (N := 30) hx hb hts in_X6 hown hK hP 0 rfl rfl 1 (by decide) t_fieldLink_RX6_60_FourLodgersModel_pageMany_I (fun _ h9 => h9) rfl dX6_countOf_130 ?_
                      subst hE
                      rw [← hQ]
                      exact W.iret hx hb hr (fun t ht hW => ⟨_, rfl, rfl, ht⟩) (fun q h => absurd h List.not_mem_nil) dX6_countOf_133
                    · rw [if_neg c_1_9] at hE
                      have e_1_9 := mt Int32.toInt_inj.mp c_1_9
                      by_cases c_1_10 : what_ = (10 : Int32)
                      · have e_1_10 := congrArg Int32.toInt c_1_10
                        rw [if_pos c_1_10] at hE
                        refine lv_tableIn (off := 133) (tgt := 134) hx hb dX6_countOf_1 (by rw [c_1_10]; decide) (by rw [c_1_10]; decide) (by rw [c_1_10]; rfl) (by decide) ?_
                        refine lv_aload_n hx hb dX6_countOf_134 rfl (lv_at hl 0 rfl) ?_
                        refine va_get (D := (dC, dI)) (ci := 6) (v := .int md_seasRead) (C := RX6) (T := TX6) (N := 30) hx hb hts in_X6 hown hK hP 0 rfl rfl 9 (by decide) t_fieldLink_RX6_122_FourLodgersModel_seasRead_I (fun _ h9 => h9) rfl dX6_countOf_135 ?_
                        subst hE
                        rw [← hQ]
                        exact W.iret hx hb hr (fun t ht hW => ⟨_, rfl, rfl, ht⟩) (fun q h => absurd h List.not_mem_nil) dX6_countOf_138
                      · rw [if_neg c_1_10] at hE
                        have e_1_10 := mt Int32.toInt_inj.mp c_1_10
                        refine lv_tableOut (tgt := 139) hx hb dX6_countOf_1 (tab_out11 (lv_neT c_1_0 (a := 0) (by decide)) (lv_neT c_1_1 (a := 1) (by decide)) (lv_neT c_1_2 (a := 2) (by decide)) (lv_neT c_1_3 (a := 3) (by decide)) (lv_neT c_1_4 (a := 4) (by decide)) (lv_neT c_1_5 (a := 5) (by decide)) (lv_neT c_1_6 (a := 6) (by decide)) (lv_neT c_1_7 (a := 7) (by decide)) (lv_neT c_1_8 (a := 8) (by decide)) (lv_neT c_1_9 (a := 9) (by decide)) (lv_neT c_1_10 (a := 10) (by decide))) (by decide) ?_
                        refine lv_bipush (v := (-102 : Int32)) hx hb dX6_countOf_139 (by decide) ?_
                        subst hE
                        rw [← hQ]
                        exact W.iret hx hb hr (fun t ht hW => ⟨_, rfl, rfl, ht⟩) (fun q h => absurd h List.not_mem_nil) dX6_countOf_141
def fX6_count (md_pageMany : Int32) (md_ships : Int32) (md_rocks : Int32) (md_day : Int32) (md_isHired : Int32) (md_sails : Int32) (md_seasRead : Int32) (md_kinds : Nat → Int32) (md_ills : Nat → Int32) (md_sailed : Nat → Int32) (md_seenMany : Int32) (what_ : Int32) : Int32 := (fX6_countOf md_pageMany md_ships md_rocks md_day md_isHired md_sails md_seasRead md_kinds md_ills md_sailed md_seenMany what_)
set_option maxHeartbeats 4000000 in
set_option maxRecDepth 100000 in
theorem kX6_count (l : Launch) (dC : Nat → ClassId) (dI : Nat → Nat → Nat) (cI cJ : ClassId) (md : Nat → Nat) (md_page : Nat → Int32) (md_pageMany : Int32) (md_end : Int32) (md_ships : Int32) (md_rocks : Int32) (md_rockBits : Int64) (md_day : Int32) (md_isHired : Int32) (md_sails : Int32) (md_seasRead : Int32) (md_kinds : Nat → Int32) (md_ills : Nat → Int32) (md_cells : Nat → Int32) (md_sailed : Nat → Int32) (md_must : Nat → Int64) (md_seenMany : Int32) (md_sights : Nat → Int32) (md_seedNow : Int32) (md_cellsThen : Nat → Int32) (md_keptSea : Int32) (md_keptDay : Int32) (md_keptHired : Int32) (md_keptSails : Int32) (md_keptSeen : Int32) (md_keptKinds : Nat → Int32) (md_keptIlls : Nat → Int32) (md_keptCells : Nat → Int32) (md_keptSailed : Nat → Int32) (md_keptSights : Nat → Int32) (md_hash : Int64) (what_ : Int32) : Met l yX6_count wsX6_count ({ frames := 4, cells := 0, slots := 0, locals := 87 } : Room) (gR (dC, dI) cI cJ (kMd cI cJ md md_page md_pageMany md_end md_ships md_rocks md_rockBits md_day md_isHired md_sails md_seasRead md_kinds md_ills md_cells md_sailed md_must md_seenMany md_sights md_seedNow md_cellsThen md_keptSea md_keptDay md_keptHired md_keptSails md_keptSeen md_keptKinds md_keptIlls md_keptCells md_keptSailed md_keptSights md_hash) ([.ref (md 0), .int what_] : List Value)) (vp_Si (fun r => r = (fX6_count md_pageMany md_ships md_rocks md_day md_isHired md_sails md_seasRead md_kinds md_ills md_sailed md_seenMany what_))) 0 0 (fun _ => False) := by
  refine Met.ofW (cc := cX6_count) (maxL := 2) (ret := (some .int)) (by decide) rfl ?_
  intro p e s m args below meth c s₁ B hml hv
  obtain ⟨rfl, hP, hK, hst⟩ := hv
  have hx := B.exec
  have hb := B.bytes
  have hr := B.returns
  have hts := atoms_spec (ws := wsX6_count) B.pre
  have hown : s.vm.findClass RX6 = some m.cls := findClass_of_methodNamed B.named
  have hlocks := B.notSynchronized
  have hS : va_S (fun _ => False) s.heap s.heap [] := va_S.rf
  generalize hE : (fX6_count md_pageMany md_ships md_rocks md_day md_isHired md_sails md_seasRead md_kinds md_ills md_sailed md_seenMany what_) = RES
  generalize hQ : MQ below (vp_Si (fun r => r = RES)) ([.ref (md 0), .int what_] : List Value).toArray s 0 0 (fun _ => False) = Q
  have hl := lv_entry ([.ref (md 0), .int what_] : List Value) (n := 2) (Nat.le_of_ble_eq_true rfl)
  rw [lg_entry_eq]
  generalize (lg_sl ([.ref (md 0), .int what_] : List Value) ++ List.replicate (2 - (lg_sl ([.ref (md 0), .int what_] : List Value)).length) Slot.unset).toArray = ls at hl ⊢
  have hl : lv_has ls 2 [(0, .ref (md 0)), (1, .int what_)] := hl
  rw [fX6_count] at hE
  refine lv_aload_n hx hb dX6_count_0 rfl (lv_at hl 0 rfl) ?_
  refine lv_iload_n hx hb dX6_count_1 rfl (lv_at hl 1 rfl) ?_
  refine rcVi (As := [.int what_]) (rest := []) ⟨hx, hb, hml, hown, hts⟩ (kX6_countOf l dC dI cI cJ md md_page md_pageMany md_end md_ships md_rocks md_rockBits md_day md_isHired md_sails md_seasRead md_kinds md_ills md_cells md_sailed md_must md_seenMany md_sights md_seedNow md_cellsThen md_keptSea md_keptDay md_keptHired md_keptSails md_keptSeen md_keptKinds md_keptIlls md_keptCells md_keptSailed md_keptSights md_hash what_) (cwV 1 hts gX6_count_X6_countOf rfl rfl rfl (by decide +kernel) ⟨Nat.le_of_ble_eq_true rfl, Nat.le_of_ble_eq_true rfl⟩) hK hP hst hS [0, 1, 2, 3, 4, 5, 6, 7, 8, 9, 10, 11, 12, 13] rfl 0 rfl rfl rfl hl.1 rfl (Nat.le_of_ble_eq_true rfl) dX6_count_2 ⟨Nat.zero_le _, Nat.zero_le _⟩ (fun r w_1 => ?_)
  subst w_1
  subst hE
  rw [← hQ]
  exact W.iret hx hb hr (fun t ht hW => ⟨_, rfl, rfl, ht⟩) (fun q h => absurd h List.not_mem_nil) dX6_count_5
def fX6_forget (md_seenMany : Int32) : Int32 × Int32 := (md_seenMany, (0 : Int32))
set_option maxHeartbeats 4000000 in
set_option maxRecDepth 100000 in
theorem kX6_forget (l : Launch) (dC : Nat → ClassId) (dI : Nat → Nat → Nat) (cI cJ : ClassId) (sz : Nat) (md : Nat → Nat) (md_page : Nat → Int32) (md_pageMany : Int32) (md_end : Int32) (md_ships : Int32) (md_rocks : Int32) (md_rockBits : Int64) (md_day : Int32) (md_isHired : Int32) (md_sails : Int32) (md_seasRead : Int32) (md_kinds : Nat → Int32) (md_ills : Nat → Int32) (md_cells : Nat → Int32) (md_sailed : Nat → Int32) (md_must : Nat → Int64) (md_seenMany : Int32) (md_sights : Nat → Int32) (md_seedNow : Int32) (md_cellsThen : Nat → Int32) (md_keptSea : Int32) (md_keptDay : Int32) (md_keptHired : Int32) (md_keptSails : Int32) (md_keptSeen : Int32) (md_keptKinds : Nat → Int32) (md_keptIlls : Nat → Int32) (md_keptCells : Nat → Int32) (md_keptSailed : Nat → Int32) (md_keptSights : Nat → Int32) (md_hash : Int64) : Met l yX6_forget wsX6_forget ({ frames := 0, cells := 0, slots := 0, locals := 0 } : Room) (gW (dC, dI) cI cJ sz (kMd cI cJ md md_page md_pageMany md_end md_ships md_rocks md_rockBits md_day md_isHired md_sails md_seasRead md_kinds md_ills md_cells md_sailed md_must md_seenMany md_sights md_seedNow md_cellsThen md_keptSea md_keptDay md_keptHired md_keptSails md_keptSeen md_keptKinds md_keptIlls md_keptCells md_keptSailed md_keptSights md_hash) ([.ref (md 0)] : List Value)) (va_Qi (fun (r : Int32) (_ : Unit) => r = ((fX6_forget md_seenMany).1)) (fun u : Unit => gB (dC, dI) cI cJ (va_A (kMd cI cJ md md_page md_pageMany md_end md_ships md_rocks md_rockBits md_day md_isHired md_sails md_seasRead md_kinds md_ills md_cells md_sailed md_must md_seenMany md_sights md_seedNow md_cellsThen md_keptSea md_keptDay md_keptHired md_keptSails md_keptSeen md_keptKinds md_keptIlls md_keptCells md_keptSailed md_keptSights md_hash) sz) (kMd cI cJ md md_page md_pageMany md_end md_ships md_rocks md_rockBits md_day md_isHired md_sails md_seasRead md_kinds md_ills md_cells md_sailed md_must ((fX6_forget md_seenMany).2) md_sights md_seedNow md_cellsThen md_keptSea md_keptDay md_keptHired md_keptSails md_keptSeen md_keptKinds md_keptIlls md_keptCells md_keptSailed md_keptSights md_hash)) (va_A (kMd cI cJ md md_page md_pageMany md_end md_ships md_rocks md_rockBits md_day md_isHired md_sails md_seasRead md_kinds md_ills md_cells md_sailed md_must md_seenMany md_sights md_seedNow md_cellsThen md_keptSea md_keptDay md_keptHired md_keptSails md_keptSeen md_keptKinds md_keptIlls md_keptCells md_keptSailed md_keptSights md_hash) sz)) 0 0 (va_A (kMd cI cJ md md_page md_pageMany md_end md_ships md_rocks md_rockBits md_day md_isHired md_sails md_seasRead md_kinds md_ills md_cells md_sailed md_must md_seenMany md_sights md_seedNow md_cellsThen md_keptSea md_keptDay md_keptHired md_keptSails md_keptSeen md_keptKinds md_keptIlls md_keptCells md_keptSailed md_keptSights md_hash) sz) := by
  refine Met.ofW (cc := cX6_forget) (maxL := 2) (ret := (some .int)) (by decide) rfl ?_
  intro p e s m args below meth c s₁ B hml hv
  obtain ⟨rfl, hsz, hP, hK, hD0, hst⟩ := hv
  have hx := B.exec
  have hb := B.bytes
  have hr := B.returns
  have hts := atoms_spec (ws := wsX6_forget) B.pre
  have hown : s.vm.findClass RX6 = some m.cls := findClass_of_methodNamed B.named
  have hlocks := B.notSynchronized
  subst hsz
  have hD := hD0.self (sz := s.heap.size)
  generalize hAe : va_A (kMd cI cJ md md_page md_pageMany md_end md_ships md_rocks md_rockBits md_day md_isHired md_sails md_seasRead md_kinds md_ills md_cells md_sailed md_must md_seenMany md_sights md_seedNow md_cellsThen md_keptSea md_keptDay md_keptHired md_keptSails md_keptSeen md_keptKinds md_keptIlls md_keptCells md_keptSailed md_keptSights md_hash) s.heap.size = A at hD hst ⊢
  have hA : ∀ q : Nat, s.heap.size ≤ q → A q := fun q h => by rw [← hAe]; exact Or.inr h
  have hS : va_S A s.heap s.heap [] := va_S.rf
  generalize hE : (fX6_forget md_seenMany) = RES
  generalize hQ : MQ below (va_Qi (fun (r : Int32) (_ : Unit) => r = (RES.1)) (fun u : Unit => gB (dC, dI) cI cJ A (kMd cI cJ md md_page md_pageMany md_end md_ships md_rocks md_rockBits md_day md_isHired md_sails md_seasRead md_kinds md_ills md_cells md_sailed md_must (RES.2) md_sights md_seedNow md_cellsThen md_keptSea md_keptDay md_keptHired md_keptSails md_keptSeen md_keptKinds md_keptIlls md_keptCells md_keptSailed md_keptSights md_hash)) A) ([.ref (md 0)] : List Value).toArray s 0 0 A = Q
  have hl := lv_entry ([.ref (md 0)] : List Value) (n := 2) (Nat.le_of_ble_eq_true rfl)
  rw [lg_entry_eq]
  generalize (lg_sl ([.ref (md 0)] : List Value) ++ List.replicate (2 - (lg_sl ([.ref (md 0)] : List Value)).length) Slot.unset).toArray = ls at hl ⊢
  have hl : lv_has ls 2 [(0, .ref (md 0))] := hl
  have in_X6 : ∀ w ∈ u_ws RX6 TX6 30, w ∈ wsX6_forget := fun _ h => List.mem_cons_of_mem _ (List.mem_append_right _ h)
  have t_fieldLink_RX6_119_FourLodgersModel_seenMany_I := hts (.fieldLink RX6 119 "FourLodgersModel" "seenMany" "I") (List.mem_of_getElem? (i := 1) rfl)
  have i_0 : (0 : Int32).toInt = 0 := by decide
  rw [fX6_forget] at hE
  refine lv_aload_n hx hb dX6_forget_0 rfl (lv_at hl 0 rfl) ?_
  refine va_get (D := (dC, dI)) (ci := 6) (v := .int md_seenMany) (C := RX6) (T := TX6) (N := 30) hx hb hts in_X6 hown hK hP 0 rfl rfl 15 (by decide) t_fieldLink_RX6_119_FourLodgersModel_seenMany_I (fun _ h9 => h9) rfl dX6_forget_1 ?_
  refine lv_istore_n (lv' := [(1, .int md_seenMany), (0, .ref (md 0))]) hx hb dX6_forget_4 rfl hl (by decide) rfl (fun ls hl => ?_)
  refine lv_aload_n hx hb dX6_forget_5 rfl (lv_at hl 1 rfl) ?_
  refine lv_iconst (v := (0 : Int32)) hx hb dX6_forget_6 (by decide) ?_
  refine va_put (D := (dC, dI)) (ci := 6) (v := .int (0 : Int32)) (ty := .int) (C := RX6) (T := TX6) (N := 30) hx hb hts in_X6 tyX6 tyX6_ok nmX6 hown hK hP hD hS 0 rfl rfl 15 (by decide) t_fieldLink_RX6_119_FourLodgersModel_seenMany_I (fun _ h9 => h9) rfl (by decide +kernel) rfl rfl (Nat.le_of_ble_eq_true rfl) dX6_forget_7 (fun H locs hP hD hS => ?_)
  replace hP : va_P (dC, dI) vwCl (kMd cI cJ md md_page md_pageMany md_end md_ships md_rocks md_rockBits md_day md_isHired md_sails md_seasRead md_kinds md_ills md_cells md_sailed md_must (0 : Int32) md_sights md_seedNow md_cellsThen md_keptSea md_keptDay md_keptHired md_keptSails md_keptSeen md_keptKinds md_keptIlls md_keptCells md_keptSailed md_keptSights md_hash) H := hP
  replace hD : va_D A (kMd cI cJ md md_page md_pageMany md_end md_ships md_rocks md_rockBits md_day md_isHired md_sails md_seasRead md_kinds md_ills md_cells md_sailed md_must (0 : Int32) md_sights md_seedNow md_cellsThen md_keptSea md_keptDay md_keptHired md_keptSails md_keptSeen md_keptKinds md_keptIlls md_keptCells md_keptSailed md_keptSights md_hash) := hD
  refine lv_iload_n hx hb dX6_forget_10 rfl (lv_at hl 0 rfl) ?_
  subst hE
  rw [← hQ]
  exact W.iret hx hb hr (fun t ht hW => ⟨⟨_, (), rfl, rfl, by rw [ht]; exact hP, va_K.moved hW.alike hK, hD⟩, hS.F ht⟩) hS.2.2 dX6_forget_11
def fX6_hire (md_ships : Int32) (md_isHired : Int32) : Int32 × Int32 := (if (fX6_lacks md_ships) = (0 : Int32) then (if md_isHired = (0 : Int32) then (if (1 : Int32) = (0 : Int32) then ((0 : Int32), (1 : Int32)) else ((1 : Int32), (1 : Int32))) else (if (0 : Int32) = (0 : Int32) then ((0 : Int32), (0 : Int32)) else ((1 : Int32), (0 : Int32)))) else ((-103 : Int32), md_isHired))
set_option maxHeartbeats 4000000 in
set_option maxRecDepth 100000 in
theorem kX6_hire (l : Launch) (dC : Nat → ClassId) (dI : Nat → Nat → Nat) (cI cJ : ClassId) (sz : Nat) (md : Nat → Nat) (md_page : Nat → Int32) (md_pageMany : Int32) (md_end : Int32) (md_ships : Int32) (md_rocks : Int32) (md_rockBits : Int64) (md_day : Int32) (md_isHired : Int32) (md_sails : Int32) (md_seasRead : Int32) (md_kinds : Nat → Int32) (md_ills : Nat → Int32) (md_cells : Nat → Int32) (md_sailed : Nat → Int32) (md_must : Nat → Int64) (md_seenMany : Int32) (md_sights : Nat → Int32) (md_seedNow : Int32) (md_cellsThen : Nat → Int32) (md_keptSea : Int32) (md_keptDay : Int32) (md_keptHired : Int32) (md_keptSails : Int32) (md_keptSeen : Int32) (md_keptKinds : Nat → Int32) (md_keptIlls : Nat → Int32) (md_keptCells : Nat → Int32) (md_keptSailed : Nat → Int32) (md_keptSights : Nat → Int32) (md_hash : Int64) : Met l yX6_hire wsX6_hire ({ frames := 1, cells := 0, slots := 0, locals := 20 } : Room) (gW (dC, dI) cI cJ sz (kMd cI cJ md md_page md_pageMany md_end md_ships md_rocks md_rockBits md_day md_isHired md_sails md_seasRead md_kinds md_ills md_cells md_sailed md_must md_seenMany md_sights md_seedNow md_cellsThen md_keptSea md_keptDay md_keptHired md_keptSails md_keptSeen md_keptKinds md_keptIlls md_keptCells md_keptSailed md_keptSights md_hash) ([.ref (md 0)] : List Value)) (va_Qi (fun (r : Int32) (_ : Unit) => r = ((fX6_hire md_ships md_isHired).1)) (fun u : Unit => gB (dC, dI) cI cJ (va_A (kMd cI cJ md md_page md_pageMany md_end md_ships md_rocks md_rockBits md_day md_isHired md_sails md_seasRead md_kinds md_ills md_cells md_sailed md_must md_seenMany md_sights md_seedNow md_cellsThen md_keptSea md_keptDay md_keptHired md_keptSails md_keptSeen md_keptKinds md_keptIlls md_keptCells md_keptSailed md_keptSights md_hash) sz) (kMd cI cJ md md_page md_pageMany md_end md_ships md_rocks md_rockBits md_day ((fX6_hire md_ships md_isHired).2) md_sails md_seasRead md_kinds md_ills md_cells md_sailed md_must md_seenMany md_sights md_seedNow md_cellsThen md_keptSea md_keptDay md_keptHired md_keptSails md_keptSeen md_keptKinds md_keptIlls md_keptCells md_keptSailed md_keptSights md_hash)) (va_A (kMd cI cJ md md_page md_pageMany md_end md_ships md_rocks md_rockBits md_day md_isHired md_sails md_seasRead md_kinds md_ills md_cells md_sailed md_must md_seenMany md_sights md_seedNow md_cellsThen md_keptSea md_keptDay md_keptHired md_keptSails md_keptSeen md_keptKinds md_keptIlls md_keptCells md_keptSailed md_keptSights md_hash) sz)) 0 0 (va_A (kMd cI cJ md md_page md_pageMany md_end md_ships md_rocks md_rockBits md_day md_isHired md_sails md_seasRead md_kinds md_ills md_cells md_sailed md_must md_seenMany md_sights md_seedNow md_cellsThen md_keptSea md_keptDay md_keptHired md_keptSails md_keptSeen md_keptKinds md_keptIlls md_keptCells md_keptSailed md_keptSights md_hash) sz) := by
  refine Met.ofW (cc := cX6_hire) (maxL := 1) (ret := (some .int)) (by decide) rfl ?_
  intro p e s m args below meth c s₁ B hml hv
  obtain ⟨rfl, hsz, hP, hK, hD0, hst⟩ := hv
  have hx := B.exec
  have hb := B.bytes
  have hr := B.returns
  have hts := atoms_spec (ws := wsX6_hire) B.pre
  have hown : s.vm.findClass RX6 = some m.cls := findClass_of_methodNamed B.named
  have hlocks := B.notSynchronized
  subst hsz
  have hD := hD0.self (sz := s.heap.size)
  generalize hAe : va_A (kMd cI cJ md md_page md_pageMany md_end md_ships md_rocks md_rockBits md_day md_isHired md_sails md_seasRead md_kinds md_ills md_cells md_sailed md_must md_seenMany md_sights md_seedNow md_cellsThen md_keptSea md_keptDay md_keptHired md_keptSails md_keptSeen md_keptKinds md_keptIlls md_keptCells md_keptSailed md_keptSights md_hash) s.heap.size = A at hD hst ⊢
  have hA : ∀ q : Nat, s.heap.size ≤ q → A q := fun q h => by rw [← hAe]; exact Or.inr h
  have hS : va_S A s.heap s.heap [] := va_S.rf
  generalize hE : (fX6_hire md_ships md_isHired) = RES
  generalize hQ : MQ below (va_Qi (fun (r : Int32) (_ : Unit) => r = (RES.1)) (fun u : Unit => gB (dC, dI) cI cJ A (kMd cI cJ md md_page md_pageMany md_end md_ships md_rocks md_rockBits md_day (RES.2) md_sails md_seasRead md_kinds md_ills md_cells md_sailed md_must md_seenMany md_sights md_seedNow md_cellsThen md_keptSea md_keptDay md_keptHired md_keptSails md_keptSeen md_keptKinds md_keptIlls md_keptCells md_keptSailed md_keptSights md_hash)) A) ([.ref (md 0)] : List Value).toArray s 0 0 A = Q
  have hl := lv_entry ([.ref (md 0)] : List Value) (n := 1) (Nat.le_of_ble_eq_true rfl)
  rw [lg_entry_eq]
  generalize (lg_sl ([.ref (md 0)] : List Value) ++ List.replicate (1 - (lg_sl ([.ref (md 0)] : List Value)).length) Slot.unset).toArray = ls at hl ⊢
  have hl : lv_has ls 1 [(0, .ref (md 0))] := hl
  have in_X6 : ∀ w ∈ u_ws RX6 TX6 30, w ∈ wsX6_hire := fun _ h => List.mem_cons_of_mem _ (List.mem_append_right _ h)
  have t_fieldLink_RX6_112_FourLodgersModel_isHired_Z := hts (.fieldLink RX6 112 "FourLodgersModel" "isHired" "Z") (List.mem_of_getElem? (i := 1) rfl)
  have i_m103 : (-103 : Int32).toInt = -103 := by decide
  have i_0 : (0 : Int32).toInt = 0 := by decide
  have i_1 : (1 : Int32).toInt = 1 := by decide
  rw [fX6_hire] at hE
  refine lv_aload_n hx hb dX6_hire_0 rfl (lv_at hl 0 rfl) ?_
  refine rcVi (As := []) (rest := []) ⟨hx, hb, hml, hown, hts⟩ (kX6_lacks l dC dI cI cJ md md_page md_pageMany md_end md_ships md_rocks md_rockBits md_day md_isHired md_sails md_seasRead md_kinds md_ills md_cells md_sailed md_must md_seenMany md_sights md_seedNow md_cellsThen md_keptSea md_keptDay md_keptHired md_keptSails md_keptSeen md_keptKinds md_keptIlls md_keptCells md_keptSailed md_keptSights md_hash) (cwV 0 hts gX6_hire_X6_lacks rfl rfl rfl (by decide +kernel) ⟨Nat.le_of_ble_eq_true rfl, Nat.le_of_ble_eq_true rfl⟩) hK hP hst hS [0, 1, 2, 3, 4, 5, 6, 7, 8, 9, 10, 11, 12, 13] rfl 0 rfl rfl rfl hl.1 rfl (Nat.le_of_ble_eq_true rfl) dX6_hire_1 ⟨Nat.zero_le _, Nat.zero_le _⟩ (fun r w_1 => ?_)
  obtain ⟨rfl, nb_2⟩ := w_1
  refine lv_if_eq (tgt := 10) hx hb dX6_hire_4 (by decide) (fun c_4 => ?_) (fun c_4 => ?_)
  · rw [if_pos c_4] at hE
    refine lv_aload_n hx hb dX6_hire_10 rfl (lv_at hl 0 rfl) ?_
    refine lv_aload_n hx hb dX6_hire_11 rfl (lv_at hl 0 rfl) ?_
    refine va_get (D := (dC, dI)) (ci := 6) (v := .int md_isHired) (C := RX6) (T := TX6) (N := 30) hx hb hts in_X6 hown hK hP 0 rfl rfl 7 (by decide) t_fieldLink_RX6_112_FourLodgersModel_isHired_Z (fun _ h9 => h9) rfl dX6_hire_12 ?_
    refine lv_if_ne (tgt := 22) hx hb dX6_hire_15 (by decide) (fun c_15 => ?_) (fun c_15 => ?_)
    · have e_15 := mt Int32.toInt_inj.mp c_15
      rw [if_neg c_15] at hE
      refine lv_iconst (v := (0 : Int32)) hx hb dX6_hire_22 (by decide) ?_
      refine va_put (D := (dC, dI)) (ci := 6) (v := .int (0 : Int32)) (ty := .boolean) (C := RX6) (T := TX6) (N := 30) hx hb hts in_X6 tyX6 tyX6_ok nmX6 hown hK hP hD hS 0 rfl rfl 7 (by decide) t_fieldLink_RX6_112_FourLodgersModel_isHired_Z (fun _ h9 => h9) rfl (by decide +kernel) (by decide +kernel) (by decide +kernel) (Nat.le_of_ble_eq_true rfl) dX6_hire_23 (fun H locs hP hD hS => ?_)
      replace hP : va_P (dC, dI) vwCl (kMd cI cJ md md_page md_pageMany md_end md_ships md_rocks md_rockBits md_day (0 : Int32) md_sails md_seasRead md_kinds md_ills md_cells md_sailed md_must md_seenMany md_sights md_seedNow md_cellsThen md_keptSea md_keptDay md_keptHired md_keptSails md_keptSeen md_keptKinds md_keptIlls md_keptCells md_keptSailed md_keptSights md_hash) H := hP
      replace hD : va_D A (kMd cI cJ md md_page md_pageMany md_end md_ships md_rocks md_rockBits md_day (0 : Int32) md_sails md_seasRead md_kinds md_ills md_cells md_sailed md_must md_seenMany md_sights md_seedNow md_cellsThen md_keptSea md_keptDay md_keptHired md_keptSails md_keptSeen md_keptKinds md_keptIlls md_keptCells md_keptSailed md_keptSights md_hash) := hD
      refine lv_aload_n hx hb dX6_hire_26 rfl (lv_at hl 0 rfl) ?_
      refine va_get (D := (dC, dI)) (ci := 6) (v := .int (0 : Int32)) (C := RX6) (T := TX6) (N := 30) hx hb hts in_X6 hown hK hP 0 rfl rfl 7 (by decide) t_fieldLink_RX6_112_FourLodgersModel_isHired_Z (fun _ h9 => h9) rfl dX6_hire_27 ?_
      refine lv_if_eq (tgt := 37) hx hb dX6_hire_30 (by decide) (fun c_30 => ?_) (fun c_30 => ?_)
      · have e_30 := congrArg Int32.toInt c_30
        rw [if_pos c_30] at hE
        refine lv_iconst (v := (0 : Int32)) hx hb dX6_hire_37 (by decide) ?_
        subst hE
        rw [← hQ]
        exact W.iret hx hb hr (fun t ht hW => ⟨⟨_, (), rfl, rfl, by rw [ht]; exact hP, va_K.moved hW.alike hK, hD⟩, hS.F ht⟩) hS.2.2 dX6_hire_38
      · have e_30 := mt Int32.toInt_inj.mp c_30
        rw [if_neg c_30] at hE
        refine lv_iconst (v := (1 : Int32)) hx hb dX6_hire_33 (by decide) ?_
        refine lv_goto (tgt := 38) hx hb dX6_hire_34 (by decide) ?_
        subst hE
        rw [← hQ]
        exact W.iret hx hb hr (fun t ht hW => ⟨⟨_, (), rfl, rfl, by rw [ht]; exact hP, va_K.moved hW.alike hK, hD⟩, hS.F ht⟩) hS.2.2 dX6_hire_38
    · have e_15 := congrArg Int32.toInt c_15
      rw [if_pos c_15] at hE
      refine lv_iconst (v := (1 : Int32)) hx hb dX6_hire_18 (by decide) ?_
      refine lv_goto (tgt := 23) hx hb dX6_hire_19 (by decide) ?_
      refine va_put (D := (dC, dI)) (ci := 6) (v := .int (1 : Int32)) (ty := .boolean) (C := RX6) (T := TX6) (N := 30) hx hb hts in_X6 tyX6 tyX6_ok nmX6 hown hK hP hD hS 0 rfl rfl 7 (by decide) t_fieldLink_RX6_112_FourLodgersModel_isHired_Z (fun _ h9 => h9) rfl (by decide +kernel) (by decide +kernel) (by decide +kernel) (Nat.le_of_ble_eq_true rfl) dX6_hire_23 (fun H locs hP hD hS => ?_)
      replace hP : va_P (dC, dI) vwCl (kMd cI cJ md md_page md_pageMany md_end md_ships md_rocks md_rockBits md_day (1 : Int32) md_sails md_seasRead md_kinds md_ills md_cells md_sailed md_must md_seenMany md_sights md_seedNow md_cellsThen md_keptSea md_keptDay md_keptHired md_keptSails md_keptSeen md_keptKinds md_keptIlls md_keptCells md_keptSailed md_keptSights md_hash) H := hP
      replace hD : va_D A (kMd cI cJ md md_page md_pageMany md_end md_ships md_rocks md_rockBits md_day (1 : Int32) md_sails md_seasRead md_kinds md_ills md_cells md_sailed md_must md_seenMany md_sights md_seedNow md_cellsThen md_keptSea md_keptDay md_keptHired md_keptSails md_keptSeen md_keptKinds md_keptIlls md_keptCells md_keptSailed md_keptSights md_hash) := hD
      refine lv_aload_n hx hb dX6_hire_26 rfl (lv_at hl 0 rfl) ?_
      refine va_get (D := (dC, dI)) (ci := 6) (v := .int (1 : Int32)) (C := RX6) (T := TX6) (N := 30) hx hb hts in_X6 hown hK hP 0 rfl rfl 7 (by decide) t_fieldLink_RX6_112_FourLodgersModel_isHired_Z (fun _ h9 => h9) rfl dX6_hire_27 ?_
      refine lv_if_eq (tgt := 37) hx hb dX6_hire_30 (by decide) (fun c_30 => ?_) (fun c_30 => ?_)
      · have e_30 := congrArg Int32.toInt c_30
        rw [if_pos c_30] at hE
        refine lv_iconst (v := (0 : Int32)) hx hb dX6_hire_37 (by decide) ?_
        subst hE
        rw [← hQ]
        exact W.iret hx hb hr (fun t ht hW => ⟨⟨_, (), rfl, rfl, by rw [ht]; exact hP, va_K.moved hW.alike hK, hD⟩, hS.F ht⟩) hS.2.2 dX6_hire_38
      · have e_30 := mt Int32.toInt_inj.mp c_30
        rw [if_neg c_30] at hE
        refine lv_iconst (v := (1 : Int32)) hx hb dX6_hire_33 (by decide) ?_
        refine lv_goto (tgt := 38) hx hb dX6_hire_34 (by decide) ?_
        subst hE
        rw [← hQ]
        exact W.iret hx hb hr (fun t ht hW => ⟨⟨_, (), rfl, rfl, by rw [ht]; exact hP, va_K.moved hW.alike hK, hD⟩, hS.F ht⟩) hS.2.2 dX6_hire_38
  · rw [if_neg c_4] at hE
    refine lv_bipush (v := (-103 : Int32)) hx hb dX6_hire_7 (by decide) ?_
    subst hE
    rw [← hQ]
    exact W.iret hx hb hr (fun t ht hW => ⟨⟨_, (), rfl, rfl, by rw [ht]; exact hP, va_K.moved hW.alike hK, hD⟩, hS.F ht⟩) hS.2.2 dX6_hire_9
