def fX3_append (pg_letters : Nat → Int32) (pg_size : Int32) (code_ : Int32) : Int32 × (Nat → Int32) × Int32 := (if pg_size < (40 : Int32) then ((1 : Int32), (upd pg_letters pg_size.toNatClampNeg code_), (pg_size + (1 : Int32))) else ((0 : Int32), pg_letters, pg_size))
set_option maxHeartbeats 4000000 in
set_option maxRecDepth 100000 in
theorem kX3_append (l : Launch) (dC : Nat → ClassId) (dI : Nat → Nat → Nat) (cI cJ : ClassId) (sz : Nat) (pg : Nat → Nat) (pg_letters : Nat → Int32) (pg_size : Int32) (code_ : Int32) (p_1 : 0 ≤ pg_size.toInt) : Met l yX3_append wsX3_append ({ frames := 0, cells := 0, slots := 0, locals := 0 } : Room) (gW (dC, dI) cI cJ sz (kPg cI pg pg_letters pg_size) ([.ref (pg 0), .int code_] : List Value)) (va_Qi (fun (r : Int32) (_ : Unit) => r = ((fX3_append pg_letters pg_size code_).1) ∧ isB r) (fun u : Unit => gB (dC, dI) cI cJ (va_A (kPg cI pg pg_letters pg_size) sz) (kPg cI pg ((fX3_append pg_letters pg_size code_).2.1) ((fX3_append pg_letters pg_size code_).2.2))) (va_A (kPg cI pg pg_letters pg_size) sz)) 0 0 (va_A (kPg cI pg pg_letters pg_size) sz) := by
  refine Met.ofW (cc := cX3_append) (maxL := 2) (ret := (some .boolean)) (by decide) rfl ?_
  intro p e s m args below meth c s₁ B hml hv
  obtain ⟨rfl, hsz, hP, hK, hD0, hst⟩ := hv
  have hx := B.exec
  have hb := B.bytes
  have hr := B.returns
  have hts := atoms_spec (ws := wsX3_append) B.pre
  have hown : s.vm.findClass RX3 = some m.cls := findClass_of_methodNamed B.named
  have hlocks := B.notSynchronized
  subst hsz
  have hD := hD0.self (sz := s.heap.size)
  generalize hAe : va_A (kPg cI pg pg_letters pg_size) s.heap.size = A at hD hst ⊢
  have hA : ∀ q : Nat, s.heap.size ≤ q → A q := fun q h => by rw [← hAe]; exact Or.inr h
  have hS : va_S A s.heap s.heap [] := va_S.rf
  generalize hE : (fX3_append pg_letters pg_size code_) = RES
  generalize hQ : MQ below (va_Qi (fun (r : Int32) (_ : Unit) => r = (RES.1) ∧ isB r) (fun u : Unit => gB (dC, dI) cI cJ A (kPg cI pg (RES.2.1) (RES.2.2))) A) ([.ref (pg 0), .int code_] : List Value).toArray s 0 0 A = Q
  have hl := lv_entry ([.ref (pg 0), .int code_] : List Value) (n := 2) (Nat.le_of_ble_eq_true rfl)
  rw [lg_entry_eq]
  generalize (lg_sl ([.ref (pg 0), .int code_] : List Value) ++ List.replicate (2 - (lg_sl ([.ref (pg 0), .int code_] : List Value)).length) Slot.unset).toArray = ls at hl ⊢
  have hl : lv_has ls 2 [(0, .ref (pg 0)), (1, .int code_)] := hl
  have in_X3 : ∀ w ∈ u_ws RX3 TX3 2, w ∈ wsX3_append := fun _ h => List.mem_cons_of_mem _ (List.mem_append_right _ h)
  have t_fieldLink_RX3_15_FourLodgers_Page_size_I := hts (.fieldLink RX3 15 "FourLodgers$Page" "size" "I") (List.mem_of_getElem? (i := 1) rfl)
  have t_fieldLink_RX3_9_FourLodgers_Page_letters_I := hts (.fieldLink RX3 9 "FourLodgers$Page" "letters" "[I") (List.mem_of_getElem? (i := 2) rfl)
  have i_0 : (0 : Int32).toInt = 0 := by decide
  have i_1 : (1 : Int32).toInt = 1 := by decide
  have i_40 : (40 : Int32).toInt = 40 := by decide
  rw [fX3_append] at hE
  refine lv_aload_n hx hb dX3_append_0 rfl (lv_at hl 0 rfl) ?_
  refine va_get (D := (dC, dI)) (ci := 3) (v := .int pg_size) (C := RX3) (T := TX3) (N := 2) hx hb hts in_X3 hown hK hP 0 rfl rfl 1 (by decide) t_fieldLink_RX3_15_FourLodgers_Page_size_I (fun _ h9 => h9) rfl dX3_append_1 ?_
  refine lv_bipush (v := (40 : Int32)) hx hb dX3_append_4 (by decide) ?_
  refine lv_icmp_lt (tgt := 11) hx hb dX3_append_6 (by decide) (fun c_6 => ?_) (fun c_6 => ?_)
  · have e_6 := Int32.lt_iff_toInt_lt.mp c_6
    rw [if_pos c_6] at hE
    refine lv_aload_n hx hb dX3_append_11 rfl (lv_at hl 0 rfl) ?_
    refine va_get (D := (dC, dI)) (ci := 3) (v := .ref (pg 1)) (C := RX3) (T := TX3) (N := 2) hx hb hts in_X3 hown hK hP 0 rfl rfl 0 (by decide) t_fieldLink_RX3_9_FourLodgers_Page_letters_I (fun _ h9 => h9) rfl dX3_append_12 ?_
    refine lv_aload_n hx hb dX3_append_15 rfl (lv_at hl 0 rfl) ?_
    refine va_get (D := (dC, dI)) (ci := 3) (v := .int pg_size) (C := RX3) (T := TX3) (N := 2) hx hb hts in_X3 hown hK hP 0 rfl rfl 1 (by decide) t_fieldLink_RX3_15_FourLodgers_Page_size_I (fun _ h9 => h9) rfl dX3_append_16 ?_
    refine lv_iload_n hx hb dX3_append_19 rfl (lv_at hl 1 rfl) ?_
    refine va_iast hx hb hK hP hD hS 1 0 rfl rfl (i := pg_size) (by first | assumption | exact vp_in_iff.mpr ⟨by omega, by omega⟩ | omega | decide) dX3_append_20 (fun H locs hP hD hS => ?_)
    replace hP : va_P (dC, dI) vwCl (kPg cI pg (upd pg_letters pg_size.toNatClampNeg code_) pg_size) H := hP
    replace hD : va_D A (kPg cI pg (upd pg_letters pg_size.toNatClampNeg code_) pg_size) := hD
    refine lv_aload_n hx hb dX3_append_21 rfl (lv_at hl 0 rfl) ?_
    refine lv_dup hx hb dX3_append_22 rfl ?_
    refine va_get (D := (dC, dI)) (ci := 3) (v := .int pg_size) (C := RX3) (T := TX3) (N := 2) hx hb hts in_X3 hown hK hP 0 rfl rfl 1 (by decide) t_fieldLink_RX3_15_FourLodgers_Page_size_I (fun _ h9 => h9) rfl dX3_append_23 ?_
    refine lv_iconst (v := (1 : Int32)) hx hb dX3_append_26 (by decide) ?_
    refine lv_iadd hx hb dX3_append_27 ?_
    refine va_put (D := (dC, dI)) (ci := 3) (v := .int (pg_size + (1 : Int32))) (ty := .int) (C := RX3) (T := TX3) (N := 2) hx hb hts in_X3 tyX3 tyX3_ok nmX3 hown hK hP hD hS 0 rfl rfl 1 (by decide) t_fieldLink_RX3_15_FourLodgers_Page_size_I (fun _ h9 => h9) rfl (by decide +kernel) rfl rfl (Nat.le_of_ble_eq_true rfl) dX3_append_28 (fun H locs hP hD hS => ?_)
    replace hP : va_P (dC, dI) vwCl (kPg cI pg (upd pg_letters pg_size.toNatClampNeg code_) (pg_size + (1 : Int32))) H := hP
    replace hD : va_D A (kPg cI pg (upd pg_letters pg_size.toNatClampNeg code_) (pg_size + (1 : Int32))) := hD
    refine lv_iconst (v := (1 : Int32)) hx hb dX3_append_31 (by decide) ?_
    subst hE
    rw [← hQ]
    exact W.zret hx hb hr (isB.n nb_1) (fun t ht hW => ⟨⟨_, (), rfl, ⟨rfl, nb_1⟩, by rw [ht]; exact hP, va_K.moved hW.alike hK, hD⟩, hS.F ht⟩) hS.2.2 dX3_append_32
  · have e_6 := mt Int32.lt_iff_toInt_lt.mpr c_6
    rw [if_neg c_6] at hE
    refine lv_iconst (v := (0 : Int32)) hx hb dX3_append_9 (by decide) ?_
    subst hE
    rw [← hQ]
    exact W.zret hx hb hr (isB.n nb_0) (fun t ht hW => ⟨⟨_, (), rfl, ⟨rfl, nb_0⟩, by rw [ht]; exact hP, va_K.moved hW.alike hK, hD⟩, hS.F ht⟩) hS.2.2 dX3_append_10
def fX3_empty (pg_size : Int32) : Int32 × Int32 := (pg_size, (0 : Int32))
set_option maxHeartbeats 4000000 in
set_option maxRecDepth 100000 in
theorem kX3_empty (l : Launch) (dC : Nat → ClassId) (dI : Nat → Nat → Nat) (cI cJ : ClassId) (sz : Nat) (pg : Nat → Nat) (pg_letters : Nat → Int32) (pg_size : Int32) : Met l yX3_empty wsX3_empty ({ frames := 0, cells := 0, slots := 0, locals := 0 } : Room) (gW (dC, dI) cI cJ sz (kPg cI pg pg_letters pg_size) ([.ref (pg 0)] : List Value)) (va_Qi (fun (r : Int32) (_ : Unit) => r = ((fX3_empty pg_size).1)) (fun u : Unit => gB (dC, dI) cI cJ (va_A (kPg cI pg pg_letters pg_size) sz) (kPg cI pg pg_letters ((fX3_empty pg_size).2))) (va_A (kPg cI pg pg_letters pg_size) sz)) 0 0 (va_A (kPg cI pg pg_letters pg_size) sz) := by
  refine Met.ofW (cc := cX3_empty) (maxL := 2) (ret := (some .int)) (by decide) rfl ?_
  intro p e s m args below meth c s₁ B hml hv
  obtain ⟨rfl, hsz, hP, hK, hD0, hst⟩ := hv
  have hx := B.exec
  have hb := B.bytes
  have hr := B.returns
  have hts := atoms_spec (ws := wsX3_empty) B.pre
  have hown : s.vm.findClass RX3 = some m.cls := findClass_of_methodNamed B.named
  have hlocks := B.notSynchronized
  subst hsz
  have hD := hD0.self (sz := s.heap.size)
  generalize hAe : va_A (kPg cI pg pg_letters pg_size) s.heap.size = A at hD hst ⊢
  have hA : ∀ q : Nat, s.heap.size ≤ q → A q := fun q h => by rw [← hAe]; exact Or.inr h
  have hS : va_S A s.heap s.heap [] := va_S.rf
  generalize hE : (fX3_empty pg_size) = RES
  generalize hQ : MQ below (va_Qi (fun (r : Int32) (_ : Unit) => r = (RES.1)) (fun u : Unit => gB (dC, dI) cI cJ A (kPg cI pg pg_letters (RES.2))) A) ([.ref (pg 0)] : List Value).toArray s 0 0 A = Q
  have hl := lv_entry ([.ref (pg 0)] : List Value) (n := 2) (Nat.le_of_ble_eq_true rfl)
  rw [lg_entry_eq]
  generalize (lg_sl ([.ref (pg 0)] : List Value) ++ List.replicate (2 - (lg_sl ([.ref (pg 0)] : List Value)).length) Slot.unset).toArray = ls at hl ⊢
  have hl : lv_has ls 2 [(0, .ref (pg 0))] := hl
  have in_X3 : ∀ w ∈ u_ws RX3 TX3 2, w ∈ wsX3_empty := fun _ h => List.mem_cons_of_mem _ (List.mem_append_right _ h)
  have t_fieldLink_RX3_15_FourLodgers_Page_size_I := hts (.fieldLink RX3 15 "FourLodgers$Page" "size" "I") (List.mem_of_getElem? (i := 1) rfl)
  have i_0 : (0 : Int32).toInt = 0 := by decide
  rw [fX3_empty] at hE
  refine lv_aload_n hx hb dX3_empty_0 rfl (lv_at hl 0 rfl) ?_
  refine va_get (D := (dC, dI)) (ci := 3) (v := .int pg_size) (C := RX3) (T := TX3) (N := 2) hx hb hts in_X3 hown hK hP 0 rfl rfl 1 (by decide) t_fieldLink_RX3_15_FourLodgers_Page_size_I (fun _ h9 => h9) rfl dX3_empty_1 ?_
  refine lv_istore_n (lv' := [(1, .int pg_size), (0, .ref (pg 0))]) hx hb dX3_empty_4 rfl hl (by decide) rfl (fun ls hl => ?_)
  refine lv_aload_n hx hb dX3_empty_5 rfl (lv_at hl 1 rfl) ?_
  refine lv_iconst (v := (0 : Int32)) hx hb dX3_empty_6 (by decide) ?_
  refine va_put (D := (dC, dI)) (ci := 3) (v := .int (0 : Int32)) (ty := .int) (C := RX3) (T := TX3) (N := 2) hx hb hts in_X3 tyX3 tyX3_ok nmX3 hown hK hP hD hS 0 rfl rfl 1 (by decide) t_fieldLink_RX3_15_FourLodgers_Page_size_I (fun _ h9 => h9) rfl (by decide +kernel) rfl rfl (Nat.le_of_ble_eq_true rfl) dX3_empty_7 (fun H locs hP hD hS => ?_)
  replace hP : va_P (dC, dI) vwCl (kPg cI pg pg_letters (0 : Int32)) H := hP
  replace hD : va_D A (kPg cI pg pg_letters (0 : Int32)) := hD
  refine lv_iload_n hx hb dX3_empty_10 rfl (lv_at hl 0 rfl) ?_
  subst hE
  rw [← hQ]
  exact W.iret hx hb hr (fun t ht hW => ⟨⟨_, (), rfl, rfl, by rw [ht]; exact hP, va_K.moved hW.alike hK, hD⟩, hS.F ht⟩) hS.2.2 dX3_empty_11
