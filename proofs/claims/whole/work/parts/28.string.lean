def fJ0_isLatin1_aae02  : Int32 := (if (1 : Int32) = (0 : Int32) then 0 else (if (0 : Int32) = (0 : Int32) then (1 : Int32) else (0 : Int32)))
set_option maxHeartbeats 4000000 in
set_option maxRecDepth 100000 in
theorem kJ0_isLatin1_aae02 (l : Launch) (dC : Nat → ClassId) (dI : Nat → Nat → Nat) (cI cJ : ClassId) (sK sV : Nat) : Met l yJ0_isLatin1_aae02 wsJ0_isLatin1_aae02 ({ frames := 0, cells := 0, slots := 0, locals := 0 } : Room) (gS (dC, dI) cI cJ sK sV ([.ref sK] : List Value)) (vp_Si (fun r => r = (fJ0_isLatin1_aae02) ∧ isB r)) 0 0 (fun _ => False) := by
  refine Met.ofW (cc := cJ0_isLatin1_aae02) (maxL := 1) (ret := (some .boolean)) (by decide) rfl ?_
  intro p e s m args below meth c s₁ B hml hv
  obtain ⟨rfl, hP, hK, hst, k2⟩ := hv
  have hx := B.exec
  have hb := B.bytes
  have hr := B.returns
  have hts := atoms_spec (ws := wsJ0_isLatin1_aae02) B.pre
  have hown : s.vm.findClass RJ0 = some m.cls := findClass_of_methodNamed B.named
  have hlocks := B.notSynchronized
  have hS : va_S (fun _ => False) s.heap s.heap [] := va_S.rf
  generalize hE : (fJ0_isLatin1_aae02) = RES
  generalize hQ : MQ below (vp_Si (fun r => r = RES ∧ isB r)) ([.ref sK] : List Value).toArray s 0 0 (fun _ => False) = Q
  have hl := lv_entry ([.ref sK] : List Value) (n := 1) (Nat.le_of_ble_eq_true rfl)
  rw [lg_entry_eq]
  generalize (lg_sl ([.ref sK] : List Value) ++ List.replicate (1 - (lg_sl ([.ref sK] : List Value)).length) Slot.unset).toArray = ls at hl ⊢
  have hl : lv_has ls 1 [(0, .ref sK)] := hl
  have t_fieldLink_RJ0_15_java_lang_String_coder_B := hts (.fieldLink RJ0 15 "java/lang/String" "coder" "B") (List.mem_of_getElem? (i := 2) rfl)
  have t_fieldLink_RJ0_38_java_lang_String_COMPACT_STRINGS_Z := hts (.fieldLink RJ0 38 "java/lang/String" "COMPACT_STRINGS" "Z") (List.mem_of_getElem? (i := 1) rfl)
  have i_0 : (0 : Int32).toInt = 0 := by decide
  have i_1 : (1 : Int32).toInt = 1 := by decide
  obtain ⟨⟨t1, z1, b1⟩, ⟨t2, z2, b2⟩, ⟨aK, aV, k1, k3⟩, z3, n1⟩ := id hst
  rw [fJ0_isLatin1_aae02] at hE
  refine va_gets hx hb z3 hS hown t_fieldLink_RJ0_38_java_lang_String_COMPACT_STRINGS_Z (fun _ h9 => h9) dJ0_isLatin1_aae02_0 ?_
  refine lv_if_eq (tgt := 17) hx hb dJ0_isLatin1_aae02_3 (by decide) (fun c_3 => ?_) (fun c_3 => ?_)
  · have e_3 := congrArg Int32.toInt c_3
    rw [if_pos c_3] at hE
    exact absurd c_3 (by decide)
  · have e_3 := mt Int32.toInt_inj.mp c_3
    rw [if_neg c_3] at hE
    refine lv_aload_n hx hb dJ0_isLatin1_aae02_6 rfl (lv_at hl 0 rfl) ?_
    refine vk_getf hx hb (k2.1 0 (by decide)).2.1 hS hown t_fieldLink_RJ0_15_java_lang_String_coder_B (fun _ h9 => h9) dJ0_isLatin1_aae02_7 ?_
    refine lv_if_ne (tgt := 17) hx hb dJ0_isLatin1_aae02_10 (by decide) (fun c_10 => ?_) (fun c_10 => ?_)
    · have e_10 := mt Int32.toInt_inj.mp c_10
      rw [if_neg c_10] at hE
      refine lv_iconst (v := (0 : Int32)) hx hb dJ0_isLatin1_aae02_17 (by decide) ?_
      subst hE
      rw [← hQ]
      exact W.zret hx hb hr (isB.n nb_0) (fun t ht hW => ⟨_, rfl, ⟨rfl, nb_0⟩, ht⟩) (fun q h => absurd h List.not_mem_nil) dJ0_isLatin1_aae02_18
    · have e_10 := congrArg Int32.toInt c_10
      rw [if_pos c_10] at hE
      refine lv_iconst (v := (1 : Int32)) hx hb dJ0_isLatin1_aae02_13 (by decide) ?_
      refine lv_goto (tgt := 18) hx hb dJ0_isLatin1_aae02_14 (by decide) ?_
      subst hE
      rw [← hQ]
      exact W.zret hx hb hr (isB.n nb_1) (fun t ht hW => ⟨_, rfl, ⟨rfl, nb_1⟩, ht⟩) (fun q h => absurd h List.not_mem_nil) dJ0_isLatin1_aae02_18
def fJ0_coder_7d493  : Int32 := (if (1 : Int32) = (0 : Int32) then 0 else (0 : Int32))
set_option maxHeartbeats 4000000 in
set_option maxRecDepth 100000 in
theorem kJ0_coder_7d493 (l : Launch) (dC : Nat → ClassId) (dI : Nat → Nat → Nat) (cI cJ : ClassId) (sK sV : Nat) : Met l yJ0_coder_7d493 wsJ0_coder_7d493 ({ frames := 0, cells := 0, slots := 0, locals := 0 } : Room) (gS (dC, dI) cI cJ sK sV ([.ref sK] : List Value)) (vp_Si (fun r => r = (fJ0_coder_7d493))) 0 0 (fun _ => False) := by
  refine Met.ofW (cc := cJ0_coder_7d493) (maxL := 1) (ret := (some .byte)) (by decide) rfl ?_
  intro p e s m args below meth c s₁ B hml hv
  obtain ⟨rfl, hP, hK, hst, k2⟩ := hv
  have hx := B.exec
  have hb := B.bytes
  have hr := B.returns
  have hts := atoms_spec (ws := wsJ0_coder_7d493) B.pre
  have hown : s.vm.findClass RJ0 = some m.cls := findClass_of_methodNamed B.named
  have hlocks := B.notSynchronized
  have hS : va_S (fun _ => False) s.heap s.heap [] := va_S.rf
  generalize hE : (fJ0_coder_7d493) = RES
  generalize hQ : MQ below (vp_Si (fun r => r = RES)) ([.ref sK] : List Value).toArray s 0 0 (fun _ => False) = Q
  have hl := lv_entry ([.ref sK] : List Value) (n := 1) (Nat.le_of_ble_eq_true rfl)
  rw [lg_entry_eq]
  generalize (lg_sl ([.ref sK] : List Value) ++ List.replicate (1 - (lg_sl ([.ref sK] : List Value)).length) Slot.unset).toArray = ls at hl ⊢
  have hl : lv_has ls 1 [(0, .ref sK)] := hl
  have t_fieldLink_RJ0_15_java_lang_String_coder_B := hts (.fieldLink RJ0 15 "java/lang/String" "coder" "B") (List.mem_of_getElem? (i := 2) rfl)
  have t_fieldLink_RJ0_38_java_lang_String_COMPACT_STRINGS_Z := hts (.fieldLink RJ0 38 "java/lang/String" "COMPACT_STRINGS" "Z") (List.mem_of_getElem? (i := 1) rfl)
  have i_0 : (0 : Int32).toInt = 0 := by decide
  have i_1 : (1 : Int32).toInt = 1 := by decide
  obtain ⟨⟨t1, z1, b1⟩, ⟨t2, z2, b2⟩, ⟨aK, aV, k1, k3⟩, z3, n1⟩ := id hst
  rw [fJ0_coder_7d493] at hE
  refine va_gets hx hb z3 hS hown t_fieldLink_RJ0_38_java_lang_String_COMPACT_STRINGS_Z (fun _ h9 => h9) dJ0_coder_7d493_0 ?_
  refine lv_if_eq (tgt := 13) hx hb dJ0_coder_7d493_3 (by decide) (fun c_3 => ?_) (fun c_3 => ?_)
  · have e_3 := congrArg Int32.toInt c_3
    rw [if_pos c_3] at hE
    exact absurd c_3 (by decide)
  · have e_3 := mt Int32.toInt_inj.mp c_3
    rw [if_neg c_3] at hE
    refine lv_aload_n hx hb dJ0_coder_7d493_6 rfl (lv_at hl 0 rfl) ?_
    refine vk_getf hx hb (k2.1 0 (by decide)).2.1 hS hown t_fieldLink_RJ0_15_java_lang_String_coder_B (fun _ h9 => h9) dJ0_coder_7d493_7 ?_
    refine lv_goto (tgt := 14) hx hb dJ0_coder_7d493_10 (by decide) ?_
    subst hE
    rw [← hQ]
    exact W.zret hx hb hr (by decide) (fun t ht hW => ⟨_, rfl, rfl, ht⟩) (fun q h => absurd h List.not_mem_nil) dJ0_coder_7d493_14
def fJ0_length_8abf5  : Int32 := ((5 : Int32) >>> ((fJ0_coder_7d493) &&& 31))
set_option maxHeartbeats 4000000 in
set_option maxRecDepth 100000 in
theorem kJ0_length_8abf5 (l : Launch) (dC : Nat → ClassId) (dI : Nat → Nat → Nat) (cI cJ : ClassId) (sK sV : Nat) : Met l yJ0_length_8abf5 wsJ0_length_8abf5 ({ frames := 1, cells := 0, slots := 0, locals := 20 } : Room) (gS (dC, dI) cI cJ sK sV ([.ref sK] : List Value)) (vp_Si (fun r => r = (fJ0_length_8abf5))) 0 0 (fun _ => False) := by
  refine Met.ofW (cc := cJ0_length_8abf5) (maxL := 1) (ret := (some .int)) (by decide) rfl ?_
  intro p e s m args below meth c s₁ B hml hv
  obtain ⟨rfl, hP, hK, hst, k2⟩ := hv
  have hx := B.exec
  have hb := B.bytes
  have hr := B.returns
  have hts := atoms_spec (ws := wsJ0_length_8abf5) B.pre
  have hown : s.vm.findClass RJ0 = some m.cls := findClass_of_methodNamed B.named
  have hlocks := B.notSynchronized
  have hS : va_S (fun _ => False) s.heap s.heap [] := va_S.rf
  generalize hE : (fJ0_length_8abf5) = RES
  generalize hQ : MQ below (vp_Si (fun r => r = RES)) ([.ref sK] : List Value).toArray s 0 0 (fun _ => False) = Q
  have hl := lv_entry ([.ref sK] : List Value) (n := 1) (Nat.le_of_ble_eq_true rfl)
  rw [lg_entry_eq]
  generalize (lg_sl ([.ref sK] : List Value) ++ List.replicate (1 - (lg_sl ([.ref sK] : List Value)).length) Slot.unset).toArray = ls at hl ⊢
  have hl : lv_has ls 1 [(0, .ref sK)] := hl
  have t_fieldLink_RJ0_9_java_lang_String_value_B := hts (.fieldLink RJ0 9 "java/lang/String" "value" "[B") (List.mem_of_getElem? (i := 1) rfl)
  have i_5 : (5 : Int32).toInt = 5 := by decide
  rw [fJ0_length_8abf5] at hE
  refine lv_aload_n hx hb dJ0_length_8abf5_0 rfl (lv_at hl 0 rfl) ?_
  refine vk_getf hx hb (k2.1 0 (by decide)).2.2.1 hS hown t_fieldLink_RJ0_9_java_lang_String_value_B (fun _ h9 => h9) dJ0_length_8abf5_1 ?_
  refine va_tlen hx hb (k2.1 0 (by decide)).2.2.2 hS (v := (5 : Int32)) (by decide) dJ0_length_8abf5_4 ?_
  refine lv_aload_n hx hb dJ0_length_8abf5_5 rfl (lv_at hl 0 rfl) ?_
  refine rcVs (As := []) (rest := [.int (5 : Int32)]) ⟨hx, hb, hml, hown, hts⟩ (kJ0_coder_7d493 l dC dI cI cJ sK sV) (cwV 0 hts gJ0_length_8abf5_J0_coder_7d493 rfl rfl rfl (by decide +kernel) ⟨Nat.le_of_ble_eq_true rfl, Nat.le_of_ble_eq_true rfl⟩) hK hst hS k2 rfl hl.1 rfl (Nat.le_of_ble_eq_true rfl) dJ0_length_8abf5_6 ⟨Nat.zero_le _, Nat.zero_le _⟩ (fun r w_1 => ?_)
  subst w_1
  refine lv_ishr hx hb dJ0_length_8abf5_9 ?_
  subst hE
  rw [← hQ]
  exact W.iret hx hb hr (fun t ht hW => ⟨_, rfl, rfl, ht⟩) (fun q h => absurd h List.not_mem_nil) dJ0_length_8abf5_10
def fJ1_canEncode_9a6ad (cp_ : Int32) : Int32 := (if cp_ < (0 : Int32) then (0 : Int32) else (if (255 : Int32) < cp_ then (0 : Int32) else (1 : Int32)))
set_option maxHeartbeats 4000000 in
set_option maxRecDepth 100000 in
theorem kJ1_canEncode_9a6ad (l : Launch) (dC : Nat → ClassId) (dI : Nat → Nat → Nat) (cI cJ : ClassId) (cp_ : Int32) : Met l yJ1_canEncode_9a6ad wsJ1_canEncode_9a6ad ({ frames := 0, cells := 0, slots := 0, locals := 0 } : Room) (gR (dC, dI) cI cJ ([] : va_W) ([.int cp_] : List Value)) (vp_Si (fun r => r = (fJ1_canEncode_9a6ad cp_) ∧ isB r)) 0 0 (fun _ => False) := by
  refine Met.ofW (cc := cJ1_canEncode_9a6ad) (maxL := 1) (ret := (some .boolean)) (by decide) rfl ?_
  intro p e s m args below meth c s₁ B hml hv
  obtain ⟨rfl, hP, hK, hst⟩ := hv
  have hx := B.exec
  have hb := B.bytes
  have hr := B.returns
  have hts := atoms_spec (ws := wsJ1_canEncode_9a6ad) B.pre
  have hown : s.vm.findClass RJ1 = some m.cls := findClass_of_methodNamed B.named
  have hlocks := B.notSynchronized
  have hS : va_S (fun _ => False) s.heap s.heap [] := va_S.rf
  generalize hE : (fJ1_canEncode_9a6ad cp_) = RES
  generalize hQ : MQ below (vp_Si (fun r => r = RES ∧ isB r)) ([.int cp_] : List Value).toArray s 0 0 (fun _ => False) = Q
  have hl := lv_entry ([.int cp_] : List Value) (n := 1) (Nat.le_of_ble_eq_true rfl)
  rw [lg_entry_eq]
  generalize (lg_sl ([.int cp_] : List Value) ++ List.replicate (1 - (lg_sl ([.int cp_] : List Value)).length) Slot.unset).toArray = ls at hl ⊢
  have hl : lv_has ls 1 [(0, .int cp_)] := hl
  have i_0 : (0 : Int32).toInt = 0 := by decide
  have i_1 : (1 : Int32).toInt = 1 := by decide
  have i_255 : (255 : Int32).toInt = 255 := by decide
  rw [fJ1_canEncode_9a6ad] at hE
  refine lv_iload_n hx hb dJ1_canEncode_9a6ad_0 rfl (lv_at hl 0 rfl) ?_
  refine lv_if_lt (tgt := 15) hx hb dJ1_canEncode_9a6ad_1 (by decide) (fun c_1 => ?_) (fun c_1 => ?_)
  · have e_1 := Int32.lt_iff_toInt_lt.mp c_1
    rw [if_pos c_1] at hE
    refine lv_iconst (v := (0 : Int32)) hx hb dJ1_canEncode_9a6ad_15 (by decide) ?_
    subst hE
    rw [← hQ]
    exact W.zret hx hb hr (isB.n nb_0) (fun t ht hW => ⟨_, rfl, ⟨rfl, nb_0⟩, ht⟩) (fun q h => absurd h List.not_mem_nil) dJ1_canEncode_9a6ad_16
  · have e_1 := mt Int32.lt_iff_toInt_lt.mpr c_1
    rw [if_neg c_1] at hE
    refine lv_iload_n hx hb dJ1_canEncode_9a6ad_4 rfl (lv_at hl 0 rfl) ?_
    refine lv_sipush (v := (255 : Int32)) hx hb dJ1_canEncode_9a6ad_5 (by decide) ?_
    refine lv_icmp_gt (tgt := 15) hx hb dJ1_canEncode_9a6ad_8 (by decide) (fun c_8 => ?_) (fun c_8 => ?_)
    · have e_8 := Int32.lt_iff_toInt_lt.mp c_8
      rw [if_pos c_8] at hE
      refine lv_iconst (v := (0 : Int32)) hx hb dJ1_canEncode_9a6ad_15 (by decide) ?_
      subst hE
      rw [← hQ]
      exact W.zret hx hb hr (isB.n nb_0) (fun t ht hW => ⟨_, rfl, ⟨rfl, nb_0⟩, ht⟩) (fun q h => absurd h List.not_mem_nil) dJ1_canEncode_9a6ad_16
    · have e_8 := mt Int32.lt_iff_toInt_lt.mpr c_8
      rw [if_neg c_8] at hE
      refine lv_iconst (v := (1 : Int32)) hx hb dJ1_canEncode_9a6ad_11 (by decide) ?_
      refine lv_goto (tgt := 16) hx hb dJ1_canEncode_9a6ad_12 (by decide) ?_
      subst hE
      rw [← hQ]
      exact W.zret hx hb hr (isB.n nb_1) (fun t ht hW => ⟨_, rfl, ⟨rfl, nb_1⟩, ht⟩) (fun q h => absurd h List.not_mem_nil) dJ1_canEncode_9a6ad_16
def fJ1_indexOfChar_4cfef_7 (ch_ : Int32) (toIndex : Int32) : Nat → Int32 → Int32
  | 0, _ => 0
  | n_ + 1, x5 => (if toIndex ≤ x5 then (-1 : Int32) else (if ((st_byt.getD 0 []).getD x5.toNatClampNeg 0) = ch_.toInt8.toInt32 then x5 else (fJ1_indexOfChar_4cfef_7 ch_ toIndex n_ (x5 + (1 : Int32)))))
def fJ1_indexOfChar_4cfef (ch_ : Int32) (fromIndex : Int32) (toIndex : Int32) : Int32 := (fJ1_indexOfChar_4cfef_7 ch_ toIndex 6 fromIndex)
set_option maxHeartbeats 4000000 in
set_option maxRecDepth 100000 in
theorem kJ1_indexOfChar_4cfef (l : Launch) (dC : Nat → ClassId) (dI : Nat → Nat → Nat) (cI cJ : ClassId) (ch_ : Int32) (fromIndex : Int32) (toIndex : Int32) (sK sV : Nat) (p_1 : 0 ≤ fromIndex.toInt) (p_2 : toIndex.toInt ≤ 5) (p_3 : fromIndex.toInt ≤ 5) : Met l yJ1_indexOfChar_4cfef wsJ1_indexOfChar_4cfef ({ frames := 0, cells := 0, slots := 0, locals := 0 } : Room) (gS (dC, dI) cI cJ sK sV ([.ref sV, .int ch_, .int fromIndex, .int toIndex] : List Value)) (vp_Si (fun r => r = (fJ1_indexOfChar_4cfef ch_ fromIndex toIndex))) 0 0 (fun _ => False) := by
  refine Met.ofW (cc := cJ1_indexOfChar_4cfef) (maxL := 6) (ret := (some .int)) (by decide) rfl ?_
  intro p e s m args below meth c s₁ B hml hv
  obtain ⟨rfl, hP, hK, hst, k2⟩ := hv
  have hx := B.exec
  have hb := B.bytes
  have hr := B.returns
  have hts := atoms_spec (ws := wsJ1_indexOfChar_4cfef) B.pre
  have hown : s.vm.findClass RJ1 = some m.cls := findClass_of_methodNamed B.named
  have hlocks := B.notSynchronized
  have hS : va_S (fun _ => False) s.heap s.heap [] := va_S.rf
  generalize hE : (fJ1_indexOfChar_4cfef ch_ fromIndex toIndex) = RES
  generalize hQ : MQ below (vp_Si (fun r => r = RES)) ([.ref sV, .int ch_, .int fromIndex, .int toIndex] : List Value).toArray s 0 0 (fun _ => False) = Q
  have hl := lv_entry ([.ref sV, .int ch_, .int fromIndex, .int toIndex] : List Value) (n := 6) (Nat.le_of_ble_eq_true rfl)
  rw [lg_entry_eq]
  generalize (lg_sl ([.ref sV, .int ch_, .int fromIndex, .int toIndex] : List Value) ++ List.replicate (6 - (lg_sl ([.ref sV, .int ch_, .int fromIndex, .int toIndex] : List Value)).length) Slot.unset).toArray = ls at hl ⊢
  have hl : lv_has ls 6 [(0, .ref sV), (1, .int ch_), (2, .int fromIndex), (3, .int toIndex)] := hl
  have i_m1 : (-1 : Int32).toInt = -1 := by decide
  have i_1 : (1 : Int32).toInt = 1 := by decide
  rw [fJ1_indexOfChar_4cfef] at hE
  refine lv_iload_n hx hb dJ1_indexOfChar_4cfef_0 rfl (lv_at hl 1 rfl) ?_
  refine lv_i2b hx hb dJ1_indexOfChar_4cfef_1 rfl ?_
  refine lv_istore (lv' := [(4, .int ch_.toInt8.toInt32), (0, .ref sV), (1, .int ch_), (2, .int fromIndex), (3, .int toIndex)]) hx hb dJ1_indexOfChar_4cfef_2 hl (by decide) rfl (fun ls hl => ?_)
  refine lv_iload_n hx hb dJ1_indexOfChar_4cfef_4 rfl (lv_at hl 3 rfl) ?_
  refine lv_istore (lv' := [(5, .int fromIndex), (4, .int ch_.toInt8.toInt32), (0, .ref sV), (1, .int ch_), (2, .int fromIndex), (3, .int toIndex)]) hx hb dJ1_indexOfChar_4cfef_5 hl (by decide) rfl (fun ls hl => ?_)
  have L7 : ∀ (n_ : Nat) (x5 : Int32) , (0 ≤ x5.toInt ∧ x5.toInt ≤ 5) → (5 - x5.toInt).toNat < n_ → (fJ1_indexOfChar_4cfef_7 ch_ toIndex n_ x5) = RES → ∀ ls : Array Slot, lv_has ls 6 [(0, .ref sV), (1, .int ch_), (2, .int fromIndex), (3, .int toIndex), (4, .int ch_.toInt8.toInt32), (5, .int x5)] → W p l e (headSpec wsJ1_indexOfChar_4cfef ({ frames := 0, cells := 0, slots := 0, locals := 0 } : Room)).room s m ([.ref sV, .int ch_, .int fromIndex, .int toIndex] : List Value).toArray below meth c s.heap [] 0 0 Q (F0 m 7 ls []) := by
    intro n_
    induction n_ with
    | zero => intro x5  hi hn; exact absurd hn (Nat.not_lt_zero _)
    | succ n_ ih =>
      intro x5  hi hn hE ls hl
      rw [fJ1_indexOfChar_4cfef_7] at hE
      refine lv_iload hx hb dJ1_indexOfChar_4cfef_7 (lv_at hl 5 rfl) ?_
      refine lv_iload_n hx hb dJ1_indexOfChar_4cfef_9 rfl (lv_at hl 3 rfl) ?_
      refine lv_icmp_ge (tgt := 31) hx hb dJ1_indexOfChar_4cfef_10 (by decide) (fun c_10 => ?_) (fun c_10 => ?_)
      · have e_10 := Int32.le_iff_toInt_le.mp c_10
        rw [if_pos c_10] at hE
        refine lv_iconst (v := (-1 : Int32)) hx hb dJ1_indexOfChar_4cfef_31 (by decide) ?_
        subst hE
        rw [← hQ]
        exact W.iret hx hb hr (fun t ht hW => ⟨_, rfl, rfl, ht⟩) (fun q h => absurd h List.not_mem_nil) dJ1_indexOfChar_4cfef_32
      · have e_10 := mt Int32.le_iff_toInt_le.mpr c_10
        rw [if_neg c_10] at hE
        refine lv_aload_n hx hb dJ1_indexOfChar_4cfef_13 rfl (lv_at hl 0 rfl) ?_
        refine lv_iload hx hb dJ1_indexOfChar_4cfef_14 (lv_at hl 5 rfl) ?_
        refine va_tb hx hb (k2.1 0 (by decide)).2.2.2 hS (i := x5) (vp_in_iff.mpr (by show _ ∧ _ < ((5 : Nat) : Int); omega)) (v := .int ((st_byt.getD 0 []).getD x5.toNatClampNeg 0)) rfl dJ1_indexOfChar_4cfef_16 ?_
        refine lv_iload hx hb dJ1_indexOfChar_4cfef_17 (lv_at hl 4 rfl) ?_
        refine lv_icmp_ne (tgt := 25) hx hb dJ1_indexOfChar_4cfef_19 (by decide) (fun c_19 => ?_) (fun c_19 => ?_)
        · have e_19 := mt Int32.toInt_inj.mp c_19
          rw [if_neg c_19] at hE
          refine lv_iinc (v := (x5 + (1 : Int32))) (lv' := [(5, .int (x5 + (1 : Int32))), (0, .ref sV), (1, .int ch_), (2, .int fromIndex), (3, .int toIndex), (4, .int ch_.toInt8.toInt32)]) hx hb dJ1_indexOfChar_4cfef_25 hl (k := 5) rfl rfl (by decide) rfl (fun ls hl => ?_)
          refine lv_goto (tgt := 7) hx hb dJ1_indexOfChar_4cfef_28 (by decide) ?_
          have hb_ := i_add (x := x5) (y := (1 : Int32)) (by omega) (by omega)
          exact ih (x5 + (1 : Int32))  (by omega) (by omega) hE ls (lv_sub hl [1, 2, 3, 4, 5, 0] rfl)
        · have e_19 := congrArg Int32.toInt c_19
          rw [if_pos c_19] at hE
          refine lv_iload hx hb dJ1_indexOfChar_4cfef_22 (lv_at hl 5 rfl) ?_
          subst hE
          rw [← hQ]
          exact W.iret hx hb hr (fun t ht hW => ⟨_, rfl, rfl, ht⟩) (fun q h => absurd h List.not_mem_nil) dJ1_indexOfChar_4cfef_24
  exact L7 6 fromIndex  (by omega) (by omega) hE ls (lv_sub hl [2, 3, 4, 5, 1, 0] rfl)
def fJ1_indexOf_4cfef (ch_ : Int32) (fromIndex : Int32) (toIndex : Int32) : Int32 := (if (fJ1_canEncode_9a6ad ch_) = (0 : Int32) then (-1 : Int32) else (if (if fromIndex < (0 : Int32) then (0 : Int32) else fromIndex) < (if (5 : Int32) < toIndex then (5 : Int32) else toIndex) then (fJ1_indexOfChar_4cfef ch_ (if fromIndex < (0 : Int32) then (0 : Int32) else fromIndex) (if (5 : Int32) < toIndex then (5 : Int32) else toIndex)) else (-1 : Int32)))
set_option maxHeartbeats 4000000 in
set_option maxRecDepth 100000 in
theorem kJ1_indexOf_4cfef (l : Launch) (dC : Nat → ClassId) (dI : Nat → Nat → Nat) (cI cJ : ClassId) (ch_ : Int32) (fromIndex : Int32) (toIndex : Int32) (sK sV : Nat) (p_1 : fromIndex = (0 : Int32)) (p_2 : toIndex = (5 : Int32)) : Met l yJ1_indexOf_4cfef wsJ1_indexOf_4cfef ({ frames := 1, cells := 0, slots := 0, locals := 25 } : Room) (gS (dC, dI) cI cJ sK sV ([.ref sV, .int ch_, .int fromIndex, .int toIndex] : List Value)) (vp_Si (fun r => r = (fJ1_indexOf_4cfef ch_ fromIndex toIndex))) 0 0 (fun _ => False) := by
  refine Met.ofW (cc := cJ1_indexOf_4cfef) (maxL := 4) (ret := (some .int)) (by decide) rfl ?_
  intro p e s m args below meth c s₁ B hml hv
  obtain ⟨rfl, hP, hK, hst, k2⟩ := hv
  have hx := B.exec
  have hb := B.bytes
  have hr := B.returns
  have hts := atoms_spec (ws := wsJ1_indexOf_4cfef) B.pre
  have hown : s.vm.findClass RJ1 = some m.cls := findClass_of_methodNamed B.named
  have hlocks := B.notSynchronized
  have hS : va_S (fun _ => False) s.heap s.heap [] := va_S.rf
  generalize hE : (fJ1_indexOf_4cfef ch_ fromIndex toIndex) = RES
  generalize hQ : MQ below (vp_Si (fun r => r = RES)) ([.ref sV, .int ch_, .int fromIndex, .int toIndex] : List Value).toArray s 0 0 (fun _ => False) = Q
  have hl := lv_entry ([.ref sV, .int ch_, .int fromIndex, .int toIndex] : List Value) (n := 4) (Nat.le_of_ble_eq_true rfl)
  rw [lg_entry_eq]
  generalize (lg_sl ([.ref sV, .int ch_, .int fromIndex, .int toIndex] : List Value) ++ List.replicate (4 - (lg_sl ([.ref sV, .int ch_, .int fromIndex, .int toIndex] : List Value)).length) Slot.unset).toArray = ls at hl ⊢
  have hl : lv_has ls 4 [(0, .ref sV), (1, .int ch_), (2, .int fromIndex), (3, .int toIndex)] := hl
  have t_code_Lib_Math_max_name_Lib_Math_max_code_2_some_int := hts (.code Lib.Math.max.name Lib.Math.max.code 2 (some .int)) (List.mem_of_getElem? (i := 4) rfl)
  have t_code_Lib_Math_min_name_Lib_Math_min_code_2_some_int := hts (.code Lib.Math.min.name Lib.Math.min.code 2 (some .int)) (List.mem_of_getElem? (i := 7) rfl)
  have t_initialized_java_lang_Math := hts (.initialized "java/lang/Math") (List.mem_of_getElem? (i := 3) rfl)
  have t_methodLink_RJ1_38_Lib_Math_min_name := hts (.methodLink RJ1 38 Lib.Math.min.name) (List.mem_of_getElem? (i := 5) rfl)
  have t_methodLink_RJ1_92_Lib_Math_max_name := hts (.methodLink RJ1 92 Lib.Math.max.name) (List.mem_of_getElem? (i := 1) rfl)
  have t_static_Lib_Math_max_name := hts (.static Lib.Math.max.name) (List.mem_of_getElem? (i := 2) rfl)
  have t_static_Lib_Math_min_name := hts (.static Lib.Math.min.name) (List.mem_of_getElem? (i := 6) rfl)
  have i_m1 : (-1 : Int32).toInt = -1 := by decide
  have i_0 : (0 : Int32).toInt = 0 := by decide
  have i_5 : (5 : Int32).toInt = 5 := by decide
  rw [fJ1_indexOf_4cfef] at hE
  refine lv_iload_n hx hb dJ1_indexOf_4cfef_0 rfl (lv_at hl 1 rfl) ?_
  refine rcSi (As := [.int ch_]) (rest := []) ⟨hx, hb, hml, hown, hts⟩ (kJ1_canEncode_9a6ad l dC dI cI cJ ch_) (va_cwS 1 hts gJ1_indexOf_4cfef_J1_canEncode_9a6ad rfl rfl rfl (by decide +kernel) ⟨Nat.le_of_ble_eq_true rfl, Nat.le_of_ble_eq_true rfl⟩) hK hP hst hS [] rfl rfl hl.1 rfl (Nat.le_of_ble_eq_true rfl) dJ1_indexOf_4cfef_1 ⟨Nat.zero_le _, Nat.zero_le _⟩ (fun r w_1 => ?_)
  obtain ⟨rfl, nb_2⟩ := w_1
  refine lv_if_ne (tgt := 9) hx hb dJ1_indexOf_4cfef_4 (by decide) (fun c_4 => ?_) (fun c_4 => ?_)
  · rw [if_neg c_4] at hE
    refine lv_iload_n hx hb dJ1_indexOf_4cfef_9 rfl (lv_at hl 2 rfl) ?_
    refine lv_iconst (v := (0 : Int32)) hx hb dJ1_indexOf_4cfef_10 (by decide) ?_
    refine va_mmax hx hb (hml.trans hl.1.symm) hown t_methodLink_RJ1_92_Lib_Math_max_name t_static_Lib_Math_max_name t_initialized_java_lang_Math t_code_Lib_Math_max_name_Lib_Math_max_code_2_some_int (Nat.le_of_ble_eq_true rfl) (Nat.le_of_ble_eq_true rfl) (Nat.zero_le _) (Nat.zero_le _) dJ1_indexOf_4cfef_11 ?_
    refine lv_istore_n (lv' := [(2, .int (if fromIndex < (0 : Int32) then (0 : Int32) else fromIndex)), (0, .ref sV), (1, .int ch_), (3, .int toIndex)]) hx hb dJ1_indexOf_4cfef_14 rfl hl (by decide) rfl (fun ls hl => ?_)
    refine lv_iload_n hx hb dJ1_indexOf_4cfef_15 rfl (lv_at hl 3 rfl) ?_
    refine lv_aload_n hx hb dJ1_indexOf_4cfef_16 rfl (lv_at hl 1 rfl) ?_
    refine va_tlen hx hb (k2.1 0 (by decide)).2.2.2 hS (v := (5 : Int32)) (by decide) dJ1_indexOf_4cfef_17 ?_
    refine va_mmin hx hb (hml.trans hl.1.symm) hown t_methodLink_RJ1_38_Lib_Math_min_name t_static_Lib_Math_min_name t_initialized_java_lang_Math t_code_Lib_Math_min_name_Lib_Math_min_code_2_some_int (Nat.le_of_ble_eq_true rfl) (Nat.le_of_ble_eq_true rfl) (Nat.zero_le _) (Nat.zero_le _) dJ1_indexOf_4cfef_18 ?_
    refine lv_istore_n (lv' := [(3, .int (if (5 : Int32) < toIndex then (5 : Int32) else toIndex)), (2, .int (if fromIndex < (0 : Int32) then (0 : Int32) else fromIndex)), (0, .ref sV), (1, .int ch_)]) hx hb dJ1_indexOf_4cfef_21 rfl hl (by decide) rfl (fun ls hl => ?_)
    refine lv_iload_n hx hb dJ1_indexOf_4cfef_22 rfl (lv_at hl 1 rfl) ?_
    refine lv_iload_n hx hb dJ1_indexOf_4cfef_23 rfl (lv_at hl 0 rfl) ?_
    refine lv_icmp_lt (tgt := 29) hx hb dJ1_indexOf_4cfef_24 (by decide) (fun c_24 => ?_) (fun c_24 => ?_)
    · have e_24 := Int32.lt_iff_toInt_lt.mp c_24
      rw [if_pos c_24] at hE
      refine lv_aload_n hx hb dJ1_indexOf_4cfef_29 rfl (lv_at hl 2 rfl) ?_
      refine lv_iload_n hx hb dJ1_indexOf_4cfef_30 rfl (lv_at hl 3 rfl) ?_
      refine lv_iload_n hx hb dJ1_indexOf_4cfef_31 rfl (lv_at hl 1 rfl) ?_
      refine lv_iload_n hx hb dJ1_indexOf_4cfef_32 rfl (lv_at hl 0 rfl) ?_
      refine rcSs (As := [.ref sV, .int ch_, .int (if fromIndex < (0 : Int32) then (0 : Int32) else fromIndex), .int (if (5 : Int32) < toIndex then (5 : Int32) else toIndex)]) (rest := []) ⟨hx, hb, hml, hown, hts⟩ (kJ1_indexOfChar_4cfef l dC dI cI cJ ch_ (if fromIndex < (0 : Int32) then (0 : Int32) else fromIndex) (if (5 : Int32) < toIndex then (5 : Int32) else toIndex) sK sV (by subst p_1; decide) (by subst p_2; decide) (by subst p_1; decide)) (va_cwS 4 hts gJ1_indexOf_4cfef_J1_indexOfChar_4cfef rfl rfl rfl (by decide +kernel) ⟨Nat.le_of_ble_eq_true rfl, Nat.le_of_ble_eq_true rfl⟩) hK hst hS k2 rfl hl.1 rfl (Nat.le_of_ble_eq_true rfl) dJ1_indexOf_4cfef_33 ⟨Nat.zero_le _, Nat.zero_le _⟩ (fun r w_3 => ?_)
      subst w_3
      subst hE
      rw [← hQ]
      exact W.iret hx hb hr (fun t ht hW => ⟨_, rfl, rfl, ht⟩) (fun q h => absurd h List.not_mem_nil) dJ1_indexOf_4cfef_36
    · have e_24 := mt Int32.lt_iff_toInt_lt.mpr c_24
      rw [if_neg c_24] at hE
      refine lv_iconst (v := (-1 : Int32)) hx hb dJ1_indexOf_4cfef_27 (by decide) ?_
      subst hE
      rw [← hQ]
      exact W.iret hx hb hr (fun t ht hW => ⟨_, rfl, rfl, ht⟩) (fun q h => absurd h List.not_mem_nil) dJ1_indexOf_4cfef_28
  · rw [if_pos c_4] at hE
    refine lv_iconst (v := (-1 : Int32)) hx hb dJ1_indexOf_4cfef_7 (by decide) ?_
    subst hE
    rw [← hQ]
    exact W.iret hx hb hr (fun t ht hW => ⟨_, rfl, rfl, ht⟩) (fun q h => absurd h List.not_mem_nil) dJ1_indexOf_4cfef_8
def fJ0_indexOf_7cf53 (ch_ : Int32) (fromIndex : Int32) : Int32 := (if (fJ0_isLatin1_aae02) = (0 : Int32) then 0 else (fJ1_indexOf_4cfef ch_ fromIndex (fJ0_length_8abf5)))
set_option maxHeartbeats 4000000 in
set_option maxRecDepth 100000 in
theorem kJ0_indexOf_7cf53 (l : Launch) (dC : Nat → ClassId) (dI : Nat → Nat → Nat) (cI cJ : ClassId) (ch_ : Int32) (fromIndex : Int32) (sK sV : Nat) (p_1 : fromIndex = (0 : Int32)) : Met l yJ0_indexOf_7cf53 wsJ0_indexOf_7cf53 ({ frames := 2, cells := 0, slots := 0, locals := 48 } : Room) (gS (dC, dI) cI cJ sK sV ([.ref sK, .int ch_, .int fromIndex] : List Value)) (vp_Si (fun r => r = (fJ0_indexOf_7cf53 ch_ fromIndex))) 0 0 (fun _ => False) := by
  refine Met.ofW (cc := cJ0_indexOf_7cf53) (maxL := 3) (ret := (some .int)) (by decide) rfl ?_
  intro p e s m args below meth c s₁ B hml hv
  obtain ⟨rfl, hP, hK, hst, k2⟩ := hv
  have hx := B.exec
  have hb := B.bytes
  have hr := B.returns
  have hts := atoms_spec (ws := wsJ0_indexOf_7cf53) B.pre
  have hown : s.vm.findClass RJ0 = some m.cls := findClass_of_methodNamed B.named
  have hlocks := B.notSynchronized
  have hS : va_S (fun _ => False) s.heap s.heap [] := va_S.rf
  generalize hE : (fJ0_indexOf_7cf53 ch_ fromIndex) = RES
  generalize hQ : MQ below (vp_Si (fun r => r = RES)) ([.ref sK, .int ch_, .int fromIndex] : List Value).toArray s 0 0 (fun _ => False) = Q
  have hl := lv_entry ([.ref sK, .int ch_, .int fromIndex] : List Value) (n := 3) (Nat.le_of_ble_eq_true rfl)
  rw [lg_entry_eq]
  generalize (lg_sl ([.ref sK, .int ch_, .int fromIndex] : List Value) ++ List.replicate (3 - (lg_sl ([.ref sK, .int ch_, .int fromIndex] : List Value)).length) Slot.unset).toArray = ls at hl ⊢
  have hl : lv_has ls 3 [(0, .ref sK), (1, .int ch_), (2, .int fromIndex)] := hl
  have t_fieldLink_RJ0_9_java_lang_String_value_B := hts (.fieldLink RJ0 9 "java/lang/String" "value" "[B") (List.mem_of_getElem? (i := 1) rfl)
  have i_0 : (0 : Int32).toInt = 0 := by decide
  rw [fJ0_indexOf_7cf53] at hE
  refine lv_aload_n hx hb dJ0_indexOf_7cf53_0 rfl (lv_at hl 0 rfl) ?_
  refine rcVs (As := []) (rest := []) ⟨hx, hb, hml, hown, hts⟩ (kJ0_isLatin1_aae02 l dC dI cI cJ sK sV) (cwV 0 hts gJ0_indexOf_7cf53_J0_isLatin1_aae02 rfl rfl rfl (by decide +kernel) ⟨Nat.le_of_ble_eq_true rfl, Nat.le_of_ble_eq_true rfl⟩) hK hst hS k2 rfl hl.1 rfl (Nat.le_of_ble_eq_true rfl) dJ0_indexOf_7cf53_1 ⟨Nat.zero_le _, Nat.zero_le _⟩ (fun r w_1 => ?_)
  obtain ⟨rfl, nb_2⟩ := w_1
  refine lv_if_eq (tgt := 23) hx hb dJ0_indexOf_7cf53_4 (by decide) (fun c_4 => ?_) (fun c_4 => ?_)
  · rw [if_pos c_4] at hE
    exact absurd c_4 (by decide)
  · rw [if_neg c_4] at hE
    refine lv_aload_n hx hb dJ0_indexOf_7cf53_7 rfl (lv_at hl 0 rfl) ?_
    refine vk_getf hx hb (k2.1 0 (by decide)).2.2.1 hS hown t_fieldLink_RJ0_9_java_lang_String_value_B (fun _ h9 => h9) dJ0_indexOf_7cf53_8 ?_
    refine lv_iload_n hx hb dJ0_indexOf_7cf53_11 rfl (lv_at hl 1 rfl) ?_
    refine lv_iload_n hx hb dJ0_indexOf_7cf53_12 rfl (lv_at hl 2 rfl) ?_
    refine lv_aload_n hx hb dJ0_indexOf_7cf53_13 rfl (lv_at hl 0 rfl) ?_
    refine rcVs (As := []) (rest := [.int fromIndex, .int ch_, .ref sV]) ⟨hx, hb, hml, hown, hts⟩ (kJ0_length_8abf5 l dC dI cI cJ sK sV) (cwV 0 hts gJ0_indexOf_7cf53_J0_length_8abf5 rfl rfl rfl (by decide +kernel) ⟨Nat.le_of_ble_eq_true rfl, Nat.le_of_ble_eq_true rfl⟩) hK hst hS k2 rfl hl.1 rfl (Nat.le_of_ble_eq_true rfl) dJ0_indexOf_7cf53_14 ⟨Nat.zero_le _, Nat.zero_le _⟩ (fun r w_3 => ?_)
    subst w_3
    refine rcSs (As := [.ref sV, .int ch_, .int fromIndex, .int (fJ0_length_8abf5)]) (rest := []) ⟨hx, hb, hml, hown, hts⟩ (kJ1_indexOf_4cfef l dC dI cI cJ ch_ fromIndex (fJ0_length_8abf5) sK sV p_1 (by decide)) (va_cwS 4 hts gJ0_indexOf_7cf53_J1_indexOf_4cfef rfl rfl rfl (by decide +kernel) ⟨Nat.le_of_ble_eq_true rfl, Nat.le_of_ble_eq_true rfl⟩) hK hst hS k2 rfl hl.1 rfl (Nat.le_of_ble_eq_true rfl) dJ0_indexOf_7cf53_17 ⟨Nat.zero_le _, Nat.zero_le _⟩ (fun r w_4 => ?_)
    subst w_4
    refine lv_goto (tgt := 36) hx hb dJ0_indexOf_7cf53_20 (by decide) ?_
    subst hE
    rw [← hQ]
    exact W.iret hx hb hr (fun t ht hW => ⟨_, rfl, rfl, ht⟩) (fun q h => absurd h List.not_mem_nil) dJ0_indexOf_7cf53_36
def fJ0_indexOf_0f7a4 (ch_ : Int32) : Int32 := (fJ0_indexOf_7cf53 ch_ (0 : Int32))
set_option maxHeartbeats 4000000 in
set_option maxRecDepth 100000 in
theorem kJ0_indexOf_0f7a4 (l : Launch) (dC : Nat → ClassId) (dI : Nat → Nat → Nat) (cI cJ : ClassId) (ch_ : Int32) (sK sV : Nat) : Met l yJ0_indexOf_0f7a4 wsJ0_indexOf_0f7a4 ({ frames := 3, cells := 0, slots := 0, locals := 70 } : Room) (gS (dC, dI) cI cJ sK sV ([.ref sK, .int ch_] : List Value)) (vp_Si (fun r => r = (fJ0_indexOf_0f7a4 ch_))) 0 0 (fun _ => False) := by
  refine Met.ofW (cc := cJ0_indexOf_0f7a4) (maxL := 2) (ret := (some .int)) (by decide) rfl ?_
  intro p e s m args below meth c s₁ B hml hv
  obtain ⟨rfl, hP, hK, hst, k2⟩ := hv
  have hx := B.exec
  have hb := B.bytes
  have hr := B.returns
  have hts := atoms_spec (ws := wsJ0_indexOf_0f7a4) B.pre
  have hown : s.vm.findClass RJ0 = some m.cls := findClass_of_methodNamed B.named
  have hlocks := B.notSynchronized
  have hS : va_S (fun _ => False) s.heap s.heap [] := va_S.rf
  generalize hE : (fJ0_indexOf_0f7a4 ch_) = RES
  generalize hQ : MQ below (vp_Si (fun r => r = RES)) ([.ref sK, .int ch_] : List Value).toArray s 0 0 (fun _ => False) = Q
  have hl := lv_entry ([.ref sK, .int ch_] : List Value) (n := 2) (Nat.le_of_ble_eq_true rfl)
  rw [lg_entry_eq]
  generalize (lg_sl ([.ref sK, .int ch_] : List Value) ++ List.replicate (2 - (lg_sl ([.ref sK, .int ch_] : List Value)).length) Slot.unset).toArray = ls at hl ⊢
  have hl : lv_has ls 2 [(0, .ref sK), (1, .int ch_)] := hl
  have i_0 : (0 : Int32).toInt = 0 := by decide
  rw [fJ0_indexOf_0f7a4] at hE
  refine lv_aload_n hx hb dJ0_indexOf_0f7a4_0 rfl (lv_at hl 0 rfl) ?_
  refine lv_iload_n hx hb dJ0_indexOf_0f7a4_1 rfl (lv_at hl 1 rfl) ?_
  refine lv_iconst (v := (0 : Int32)) hx hb dJ0_indexOf_0f7a4_2 (by decide) ?_
  refine rcVs (As := [.int ch_, .int (0 : Int32)]) (rest := []) ⟨hx, hb, hml, hown, hts⟩ (kJ0_indexOf_7cf53 l dC dI cI cJ ch_ (0 : Int32) sK sV rfl) (cwV 2 hts gJ0_indexOf_0f7a4_J0_indexOf_7cf53 rfl rfl rfl (by decide +kernel) ⟨Nat.le_of_ble_eq_true rfl, Nat.le_of_ble_eq_true rfl⟩) hK hst hS k2 rfl hl.1 rfl (Nat.le_of_ble_eq_true rfl) dJ0_indexOf_0f7a4_3 ⟨Nat.zero_le _, Nat.zero_le _⟩ (fun r w_1 => ?_)
  subst w_1
  subst hE
  rw [← hQ]
  exact W.iret hx hb hr (fun t ht hW => ⟨_, rfl, rfl, ht⟩) (fun q h => absurd h List.not_mem_nil) dJ0_indexOf_0f7a4_6
