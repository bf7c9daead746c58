/-! what the methods read outside their world: two tables, a text, one link; the shapes of contracts; calls -/
def st_steps : Nat → Int32 := fun j => ([-6, 1, 6, -1, 8] : List Int32).getD j 0
def st_leaves : Nat → Int64 := fun j => ([68719476672, 33814345695, 1073741823, 67628691390, 255652815] : List Int64).getD j 0
def st_byt : List (List Int32) := [[108, 112, 115, 102, 103]]
def sta (A : Nat → Prop) (U : State) (H : Heap) : Prop :=
  (∃ t : Nat, va_Z "FourLodgers$Chart" "STEPS" "[I" (.ref t) A U H ∧ va_T .int t 5 (fun j => .int (st_steps j)) A U H) ∧
  (∃ t : Nat, va_Z "FourLodgers$Chart" "LEAVES" "[J" (.ref t) A U H ∧ va_T .long t 5 (fun j => .long (st_leaves j)) A U H) ∧
  (∃ aK aV : Nat, vk_R "FourLodgers$Draft" 73 "lpsfg" aK U ∧ vk_S 1 [5] st_byt (fun _ => aK) (fun _ => aV) A U H) ∧
  va_Z "java/lang/String" "COMPACT_STRINGS" "Z" (.int 1) A U H ∧ va_Nw (.methodLinkNest RX2 83 yX5_asBit RX5) U
theorem sta.call {A B : Nat → Prop} {s U : State} {H : Heap} {locs : List Loc} (h : sta A s s.heap) (hS : va_S A s.heap H locs) (hB : ∀ q, B q → A q) (hW : s.WarmedH U.vm) (hU : U.heap = H) : sta B U U.heap := by
  obtain ⟨⟨t1, z1, a1⟩, ⟨t2, z2, a2⟩, ⟨aK, aV, k1, k2⟩, z3, n1⟩ := h
  have hq := hS.2.1
  rw [hU]
  exact ⟨⟨t1, ((va_Z.moved hW.alike z1).kept hq).narrow hB, ((va_T.moved hW.alike a1).kept hq).narrow hB⟩, ⟨t2, ((va_Z.moved hW.alike z2).kept hq).narrow hB, ((va_T.moved hW.alike a2).kept hq).narrow hB⟩, ⟨aK, aV, vk_R.warm hW k1, ((vk_S.moved hW.alike k2).kept hq).narrow hB⟩, ((va_Z.moved hW.alike z3).kept hq).narrow hB, va_Nw.warmM hW n1⟩
theorem sta.blind {A : Nat → Prop} {U V : State} (hv : V.vm = U.vm) (hh : V.heap = U.heap) (h : sta A U U.heap) : sta A V V.heap := by
  obtain ⟨⟨t1, z1, a1⟩, ⟨t2, z2, a2⟩, ⟨aK, aV, k1, k2⟩, z3, n1⟩ := h
  have ha : U.vm.Alike V.vm := by rw [hv]; exact Vm.Alike.refl _
  rw [hh]
  exact ⟨⟨t1, va_Z.moved ha z1, va_T.moved ha a1⟩, ⟨t2, va_Z.moved ha z2, va_T.moved ha a2⟩, ⟨aK, aV, vk_R.same hv k1, vk_S.moved ha k2⟩, va_Z.moved ha z3, va_Nw.same rfl hv.symm n1⟩
abbrev tyIJ (cI cJ : ClassId) : List (ClassId × FieldType) := [(cI, .int), (cJ, .long)]
/-- a start that is only read -/
def gR (D : va_G) (cI cJ : ClassId) (ws : va_W) (av : List Value) : Array Value → State → Prop := va_Pc av (fun U => va_P D vwCl ws U.heap ∧ va_K D vwCl (tyIJ cI cJ) U ∧ sta (fun _ => False) U U.heap)
/-- a start whose cells may be written -/
def gW (D : va_G) (cI cJ : ClassId) (sz : Nat) (ws : va_W) (av : List Value) : Array Value → State → Prop := va_Pc av (fun U => U.heap.size = sz ∧ va_P D vwCl ws U.heap ∧ va_K D vwCl (tyIJ cI cJ) U ∧ va_D (fun _ => True) ws ∧ sta (va_A ws sz) U U.heap)
/-- the cells behind it -/
def gB (D : va_G) (cI cJ : ClassId) (A : Nat → Prop) (ws : va_W) (t : State) : Prop := va_P D vwCl ws t.heap ∧ va_K D vwCl (tyIJ cI cJ) t ∧ va_D A ws
theorem gR_blind {D : va_G} {cI cJ : ClassId} {ws : va_W} {av : List Value} : FrameBlind (gR D cI cJ ws av) := fun a U g mk h => ⟨h.1, h.2.1, va_K.moved (u := U) (U := U.calling g mk a) (Vm.Alike.refl U.vm) h.2.2.1, sta.blind (U := U) (V := U.calling g mk a) rfl rfl h.2.2.2⟩
theorem gW_blind {D : va_G} {cI cJ : ClassId} {sz : Nat} {ws : va_W} {av : List Value} : FrameBlind (gW D cI cJ sz ws av) := fun a U g mk h => ⟨h.1, h.2.1, h.2.2.1, va_K.moved (u := U) (U := U.calling g mk a) (Vm.Alike.refl U.vm) h.2.2.2.1, h.2.2.2.2.1, sta.blind (U := U) (V := U.calling g mk a) rfl rfl h.2.2.2.2.2⟩
theorem va_Psub {D : va_G} {cl : List vw_C} {ws wc : va_W} {H : Heap} (h : va_P D cl ws H) (is : List Nat) (hs : is.map (fun i => ws[i]?) = wc.map some) : va_P D cl wc H := by
  intro k q hk
  have h1 : (is.map (fun i => ws[i]?))[k]? = some (some q) := by rw [hs, List.getElem?_map, hk]; rfl
  rw [List.getElem?_map] at h1
  cases hi : is[k]? with
  | none => rw [hi] at h1; cases h1
  | some i => rw [hi] at h1; exact h i q (Option.some.inj h1)
section BCALL
variable {p : Program} {l : Launch} {e : Env} {R : Room} {s : State} {m : MethodId} {args : Array Value} {below : List Frame} {meth : Method} {c : Code} {H : Heap} {locs : List Loc} {cells slots : Nat} {Q : State → Prop}
variable {cc bytes : ByteArray} {pc nL maxL n index ci q0 : Nat} {ls : Array Slot} {rest st As : List Value} {A : Nat → Prop} {D : va_G} {cI cJ : ClassId} {ws wc wr : va_W} {y : MethodName} {wy Ts : List Cond} {rm : Room} {ret : Option FieldType} {own C : String} {b : Nat} {fs : List Value} {T : u_T} {N : Nat}
/-- a call that only reads, on an object -/
theorem rcVi {post : Int32 → Prop} (S : CallFix p m c cc nL s args Ts own) (hM : Met l y wy rm (gR D cI cJ wc (.ref b :: As)) (vp_Si post) 0 0 (fun _ => False)) (cw : CallW R s args own C index y bytes maxL ret wy rm 0 0 n) (hK : va_K D vwCl (tyIJ cI cJ) s) (hP : va_P D vwCl ws H) (hst : sta A s s.heap) (hS : va_S A s.heap H locs) (is : List Nat) (his : is.filterMap (fun i => ws[i]?) = wc) (q0 : Nat) (hq : ws[q0]? = some (b, .inr (ci, fs))) (hc : vwCl[ci]? = some (C, T, N))
    (hn : As.length = n) (hsize : ls.size = nL) (hstk : st = As.reverse ++ .ref b :: rest) (hW : (rest.map fun v => v.category).sum ≤ 8) (hdg : decode cc pc = .ok (.invokevirtual index, 3)) (hf : cells ≤ R.cells ∧ slots ≤ R.slots)
    (kk : ∀ r : Int32, post r → W p l e R s m args below meth c H locs cells slots Q (F0 m (pc + 3) ls (.int r :: rest))) : W p l e R s m args below meth c H locs cells slots Q (F0 m pc ls st) :=
  vp_callSi (va_Run.run (va_runV (As := As) (rest := rest) S hM cw ⟨gR_blind, va_recv hK hP hc hq, fun U hU hW => ⟨rfl, by rw [hU]; exact hP.sub is his, va_K.moved hW.alike hK, hst.call hS (fun _ h => h.elim) hW hU⟩⟩ rfl hn hsize hstk (lv_room hW) hdg hf)) kk
theorem rcVl {post : Int64 → Prop} (S : CallFix p m c cc nL s args Ts own) (hM : Met l y wy rm (gR D cI cJ wc (.ref b :: As)) (vp_Sl post) 0 0 (fun _ => False)) (cw : CallW R s args own C index y bytes maxL ret wy rm 0 0 n) (hK : va_K D vwCl (tyIJ cI cJ) s) (hP : va_P D vwCl ws H) (hst : sta A s s.heap) (hS : va_S A s.heap H locs) (is : List Nat) (his : is.filterMap (fun i => ws[i]?) = wc) (q0 : Nat) (hq : ws[q0]? = some (b, .inr (ci, fs))) (hc : vwCl[ci]? = some (C, T, N))
    (hn : As.length = n) (hsize : ls.size = nL) (hstk : st = As.reverse ++ .ref b :: rest) (hW : (rest.map fun v => v.category).sum ≤ 8) (hdg : decode cc pc = .ok (.invokevirtual index, 3)) (hf : cells ≤ R.cells ∧ slots ≤ R.slots)
    (kk : ∀ r : Int64, post r → W p l e R s m args below meth c H locs cells slots Q (F0 m (pc + 3) ls (.long r :: rest))) : W p l e R s m args below meth c H locs cells slots Q (F0 m pc ls st) :=
  vp_callSl (va_Run.run (va_runV (As := As) (rest := rest) S hM cw ⟨gR_blind, va_recv hK hP hc hq, fun U hU hW => ⟨rfl, by rw [hU]; exact hP.sub is his, va_K.moved hW.alike hK, hst.call hS (fun _ h => h.elim) hW hU⟩⟩ rfl hn hsize hstk (lv_room hW) hdg hf)) kk
/-- a static call that only reads -/
theorem rcSi {post : Int32 → Prop} (S : CallFix p m c cc nL s args Ts own) (hM : Met l y wy rm (gR D cI cJ wc As) (vp_Si post) 0 0 (fun _ => False)) (cw : CallB R s args own index y bytes maxL ret wy rm 0 0 n ∧ (Cond.static y).before args s = true) (hK : va_K D vwCl (tyIJ cI cJ) s) (hP : va_P D vwCl ws H) (hst : sta A s s.heap) (hS : va_S A s.heap H locs) (is : List Nat) (his : is.filterMap (fun i => ws[i]?) = wc)
    (hn : As.length = n) (hsize : ls.size = nL) (hstk : st = As.reverse ++ rest) (hW : (rest.map fun v => v.category).sum ≤ 8) (hdg : decode cc pc = .ok (.invokestatic index, 3)) (hf : cells ≤ R.cells ∧ slots ≤ R.slots)
    (kk : ∀ r : Int32, post r → W p l e R s m args below meth c H locs cells slots Q (F0 m (pc + 3) ls (.int r :: rest))) : W p l e R s m args below meth c H locs cells slots Q (F0 m pc ls st) :=
  vp_callSi (va_Run.run (va_runS (As := As) (rest := rest) S hM cw ⟨gR_blind, fun U hU hW => ⟨rfl, by rw [hU]; exact hP.sub is his, va_K.moved hW.alike hK, hst.call hS (fun _ h => h.elim) hW hU⟩⟩ rfl hn hsize hstk (lv_room hW) hdg hf)) kk
/-- a static call of a nest mate's -/
theorem rcNi {host : String} {post : Int32 → Prop} (S : CallFix p m c cc nL s args Ts own) (hM : Met l y wy rm (gR D cI cJ wc As) (vp_Si post) 0 0 (fun _ => False)) (cw : va_CN R s args own index y host bytes maxL ret wy rm 0 0 n ∧ (Cond.static y).before args s = true ∧ True) (hK : va_K D vwCl (tyIJ cI cJ) s) (hP : va_P D vwCl ws H) (hst : sta A s s.heap) (hS : va_S A s.heap H locs) (is : List Nat) (his : is.filterMap (fun i => ws[i]?) = wc)
    (hn : As.length = n) (hsize : ls.size = nL) (hstk : st = As.reverse ++ rest) (hW : (rest.map fun v => v.category).sum ≤ 8) (hdg : decode cc pc = .ok (.invokestatic index, 3)) (hf : cells ≤ R.cells ∧ slots ≤ R.slots)
    (kk : ∀ r : Int32, post r → W p l e R s m args below meth c H locs cells slots Q (F0 m (pc + 3) ls (.int r :: rest))) : W p l e R s m args below meth c H locs cells slots Q (F0 m pc ls st) :=
  vp_callSi (va_Run.run (va_runSN (As := As) (rest := rest) S hM cw ⟨gR_blind, fun U hU hW => ⟨rfl, by rw [hU]; exact hP.sub is his, va_K.moved hW.alike hK, hst.call hS (fun _ h => h.elim) hW hU⟩⟩ rfl hn hsize hstk (lv_room hW) hdg hf)) kk
/-- a call that writes the cells wc, on an object: the places of wc, the places of the rest, the order of the joined cells -/
theorem wcVi {X : Type} {post : Int32 → X → Prop} {wn ws' : X → va_W} (S : CallFix p m c cc nL s args Ts own) (hM : Met l y wy rm (gW D cI cJ H.size wc (.ref b :: As)) (va_Qi post (fun u => gB D cI cJ (va_A wc H.size) (wn u)) (va_A wc H.size)) 0 0 (va_A wc H.size)) (cw : CallW R s args own C index y bytes maxL ret wy rm 0 0 n) (hK : va_K D vwCl (tyIJ cI cJ) s) (hP : va_P D vwCl ws H) (hD : va_D A ws) (hst : sta A s s.heap) (hS : va_S A s.heap H locs) (hA : ∀ q : Nat, s.heap.size ≤ q → A q)
    (isC isR js : List Nat) (hC : isC.map (fun i => ws[i]?) = wc.map some) (hnC : va_nd isC = true) (hR : isR.map (fun i => ws[i]?) = wr.map some) (hnR : va_nd isR = true) (hdis : ∀ i ∈ isR, i ∉ isC) (hnJ : va_nd js = true) (hJ : ∀ u, js.map (fun i => (wr ++ wn u)[i]?) = (ws' u).map some) (q0 : Nat) (hq : ws[q0]? = some (b, .inr (ci, fs))) (hc : vwCl[ci]? = some (C, T, N))
    (hn : As.length = n) (hsize : ls.size = nL) (hstk : st = As.reverse ++ .ref b :: rest) (hW : (rest.map fun v => v.category).sum ≤ 8) (hdg : decode cc pc = .ok (.invokevirtual index, 3)) (hf : cells ≤ R.cells ∧ slots ≤ R.slots)
    (kk : ∀ (r : Int32) (u : X) (H1 : Heap) (locs1 : List Loc), post r u → va_P D vwCl (ws' u) H1 → va_D A (ws' u) → va_S A s.heap H1 locs1 → W p l e R s m args below meth c H1 locs1 cells slots Q (F0 m (pc + 3) ls (.int r :: rest))) : W p l e R s m args below meth c H locs cells slots Q (F0 m pc ls st) := by
  have hF := va_free (wc := wc) hD hS hA isC hC
  have hDc := hD.sub (ws' := wc) isC hnC hC
  refine va_calli (va_runV (As := As) (rest := rest) S hM cw ⟨gW_blind, va_recv hK hP hc hq, fun U hU hW => ⟨rfl, by rw [hU], by rw [hU]; exact va_Psub hP isC hC, va_K.moved hW.alike hK, hDc.weaken (fun _ _ _ _ => trivial), hst.call hS hF hW hU⟩⟩ rfl hn hsize hstk (lv_room hW) hdg hf) hS (fun q _ h => hF q h) hF (fun r u t H1 locs1 ht hvm hw hB hz hk hS1 => ?_)
  obtain ⟨hP1, hK1, hD1⟩ := hB
  rw [ht] at hP1
  obtain ⟨hP2, hD2⟩ := va_join (wr := wr) (w1 := wn u) hP hD isC isR hC hR hnR hdis hk hF hP1 hD1
  exact kk r u H1 locs1 hw (va_Psub hP2 js (hJ u)) (hD2.sub js hnJ (hJ u)) hS1
theorem wcVl {X : Type} {post : Int64 → X → Prop} {wn ws' : X → va_W} (S : CallFix p m c cc nL s args Ts own) (hM : Met l y wy rm (gW D cI cJ H.size wc (.ref b :: As)) (va_Ql post (fun u => gB D cI cJ (va_A wc H.size) (wn u)) (va_A wc H.size)) 0 0 (va_A wc H.size)) (cw : CallW R s args own C index y bytes maxL ret wy rm 0 0 n) (hK : va_K D vwCl (tyIJ cI cJ) s) (hP : va_P D vwCl ws H) (hD : va_D A ws) (hst : sta A s s.heap) (hS : va_S A s.heap H locs) (hA : ∀ q : Nat, s.heap.size ≤ q → A q)
    (isC isR js : List Nat) (hC : isC.map (fun i => ws[i]?) = wc.map some) (hnC : va_nd isC = true) (hR : isR.map (fun i => ws[i]?) = wr.map some) (hnR : va_nd isR = true) (hdis : ∀ i ∈ isR, i ∉ isC) (hnJ : va_nd js = true) (hJ : ∀ u, js.map (fun i => (wr ++ wn u)[i]?) = (ws' u).map some) (q0 : Nat) (hq : ws[q0]? = some (b, .inr (ci, fs))) (hc : vwCl[ci]? = some (C, T, N))
    (hn : As.length = n) (hsize : ls.size = nL) (hstk : st = As.reverse ++ .ref b :: rest) (hW : (rest.map fun v => v.category).sum ≤ 8) (hdg : decode cc pc = .ok (.invokevirtual index, 3)) (hf : cells ≤ R.cells ∧ slots ≤ R.slots)
    (kk : ∀ (r : Int64) (u : X) (H1 : Heap) (locs1 : List Loc), post r u → va_P D vwCl (ws' u) H1 → va_D A (ws' u) → va_S A s.heap H1 locs1 → W p l e R s m args below meth c H1 locs1 cells slots Q (F0 m (pc + 3) ls (.long r :: rest))) : W p l e R s m args below meth c H locs cells slots Q (F0 m pc ls st) := by
  have hF := va_free (wc := wc) hD hS hA isC hC
  have hDc := hD.sub (ws' := wc) isC hnC hC
  refine va_calll (va_runV (As := As) (rest := rest) S hM cw ⟨gW_blind, va_recv hK hP hc hq, fun U hU hW => ⟨rfl, by rw [hU], by rw [hU]; exact va_Psub hP isC hC, va_K.moved hW.alike hK, hDc.weaken (fun _ _ _ _ => trivial), hst.call hS hF hW hU⟩⟩ rfl hn hsize hstk (lv_room hW) hdg hf) hS (fun q _ h => hF q h) hF (fun r u t H1 locs1 ht hvm hw hB hz hk hS1 => ?_)
  obtain ⟨hP1, hK1, hD1⟩ := hB
  rw [ht] at hP1
  obtain ⟨hP2, hD2⟩ := va_join (wr := wr) (w1 := wn u) hP hD isC isR hC hR hnR hdis hk hF hP1 hD1
  exact kk r u H1 locs1 hw (va_Psub hP2 js (hJ u)) (hD2.sub js hnJ (hJ u)) hS1
theorem wcVv {X : Type} {post : X → Prop} {wn ws' : X → va_W} (S : CallFix p m c cc nL s args Ts own) (hM : Met l y wy rm (gW D cI cJ H.size wc (.ref b :: As)) (va_Qv post (fun u => gB D cI cJ (va_A wc H.size) (wn u)) (va_A wc H.size)) 0 0 (va_A wc H.size)) (cw : CallW R s args own C index y bytes maxL ret wy rm 0 0 n) (hK : va_K D vwCl (tyIJ cI cJ) s) (hP : va_P D vwCl ws H) (hD : va_D A ws) (hst : sta A s s.heap) (hS : va_S A s.heap H locs) (hA : ∀ q : Nat, s.heap.size ≤ q → A q)
    (isC isR js : List Nat) (hC : isC.map (fun i => ws[i]?) = wc.map some) (hnC : va_nd isC = true) (hR : isR.map (fun i => ws[i]?) = wr.map some) (hnR : va_nd isR = true) (hdis : ∀ i ∈ isR, i ∉ isC) (hnJ : va_nd js = true) (hJ : ∀ u, js.map (fun i => (wr ++ wn u)[i]?) = (ws' u).map some) (q0 : Nat) (hq : ws[q0]? = some (b, .inr (ci, fs))) (hc : vwCl[ci]? = some (C, T, N))
    (hn : As.length = n) (hsize : ls.size = nL) (hstk : st = As.reverse ++ .ref b :: rest) (hW : (rest.map fun v => v.category).sum ≤ 8) (hdg : decode cc pc = .ok (.invokevirtual index, 3)) (hf : cells ≤ R.cells ∧ slots ≤ R.slots)
    (kk : ∀ (u : X) (H1 : Heap) (locs1 : List Loc), post u → va_P D vwCl (ws' u) H1 → va_D A (ws' u) → va_S A s.heap H1 locs1 → W p l e R s m args below meth c H1 locs1 cells slots Q (F0 m (pc + 3) ls rest)) : W p l e R s m args below meth c H locs cells slots Q (F0 m pc ls st) := by
  have hF := va_free (wc := wc) hD hS hA isC hC
  have hDc := hD.sub (ws' := wc) isC hnC hC
  refine va_callv (va_runV (As := As) (rest := rest) S hM cw ⟨gW_blind, va_recv hK hP hc hq, fun U hU hW => ⟨rfl, by rw [hU], by rw [hU]; exact va_Psub hP isC hC, va_K.moved hW.alike hK, hDc.weaken (fun _ _ _ _ => trivial), hst.call hS hF hW hU⟩⟩ rfl hn hsize hstk (lv_room hW) hdg hf) hS (fun q _ h => hF q h) hF (fun u t H1 locs1 ht hvm hw hB hz hk hS1 => ?_)
  obtain ⟨hP1, hK1, hD1⟩ := hB
  rw [ht] at hP1
  obtain ⟨hP2, hD2⟩ := va_join (wr := wr) (w1 := wn u) hP hD isC isR hC hR hnR hdis hk hF hP1 hD1
  exact kk u H1 locs1 hw (va_Psub hP2 js (hJ u)) (hD2.sub js hnJ (hJ u)) hS1
theorem wcSv {X : Type} {post : X → Prop} {wn ws' : X → va_W} (S : CallFix p m c cc nL s args Ts own) (hM : Met l y wy rm (gW D cI cJ H.size wc As) (va_Qv post (fun u => gB D cI cJ (va_A wc H.size) (wn u)) (va_A wc H.size)) 0 0 (va_A wc H.size)) (cw : CallB R s args own index y bytes maxL ret wy rm 0 0 n ∧ (Cond.static y).before args s = true) (hK : va_K D vwCl (tyIJ cI cJ) s) (hP : va_P D vwCl ws H) (hD : va_D A ws) (hst : sta A s s.heap) (hS : va_S A s.heap H locs) (hA : ∀ q : Nat, s.heap.size ≤ q → A q)
    (isC isR js : List Nat) (hC : isC.map (fun i => ws[i]?) = wc.map some) (hnC : va_nd isC = true) (hR : isR.map (fun i => ws[i]?) = wr.map some) (hnR : va_nd isR = true) (hdis : ∀ i ∈ isR, i ∉ isC) (hnJ : va_nd js = true) (hJ : ∀ u, js.map (fun i => (wr ++ wn u)[i]?) = (ws' u).map some)
    (hn : As.length = n) (hsize : ls.size = nL) (hstk : st = As.reverse ++ rest) (hW : (rest.map fun v => v.category).sum ≤ 8) (hdg : decode cc pc = .ok (.invokestatic index, 3)) (hf : cells ≤ R.cells ∧ slots ≤ R.slots)
    (kk : ∀ (u : X) (H1 : Heap) (locs1 : List Loc), post u → va_P D vwCl (ws' u) H1 → va_D A (ws' u) → va_S A s.heap H1 locs1 → W p l e R s m args below meth c H1 locs1 cells slots Q (F0 m (pc + 3) ls rest)) : W p l e R s m args below meth c H locs cells slots Q (F0 m pc ls st) := by
  have hF := va_free (wc := wc) hD hS hA isC hC
  have hDc := hD.sub (ws' := wc) isC hnC hC
  refine va_callv (va_runS (As := As) (rest := rest) S hM cw ⟨gW_blind, fun U hU hW => ⟨rfl, by rw [hU], by rw [hU]; exact va_Psub hP isC hC, va_K.moved hW.alike hK, hDc.weaken (fun _ _ _ _ => trivial), hst.call hS hF hW hU⟩⟩ rfl hn hsize hstk (lv_room hW) hdg hf) hS (fun q _ h => hF q h) hF (fun u t H1 locs1 ht hvm hw hB hz hk hS1 => ?_)
  obtain ⟨hP1, hK1, hD1⟩ := hB
  rw [ht] at hP1
  obtain ⟨hP2, hD2⟩ := va_join (wr := wr) (w1 := wn u) hP hD isC isR hC hR hnR hdis hk hF hP1 hD1
  exact kk u H1 locs1 hw (va_Psub hP2 js (hJ u)) (hD2.sub js hnJ (hJ u)) hS1
end BCALL
theorem i_add {x y : Int32} (h1 : -2147483648 ≤ x.toInt + y.toInt) (h2 : x.toInt + y.toInt < 2147483648) : (x + y).toInt = x.toInt + y.toInt := by
  rw [Int32.toInt_add]
  exact Int.bmod_eq_of_le (by omega) (by omega)
theorem i_sub {x y : Int32} (h1 : -2147483648 ≤ x.toInt - y.toInt) (h2 : x.toInt - y.toInt < 2147483648) : (x - y).toInt = x.toInt - y.toInt := by
  rw [Int32.toInt_sub]
  exact Int.bmod_eq_of_le (by omega) (by omega)
def isB (v : Int32) : Prop := v = 0 ∨ v = 1
theorem nb_0 : isB 0 := Or.inl rfl
theorem nb_1 : isB 1 := Or.inr rfl
theorem isB.n {v : Int32} (h : isB v) : narrow .boolean (.int v) = .int v := by rcases h with rfl | rfl <;> decide
theorem isB.f {v : Int32} (h : isB v) : fits .boolean (.int v) = true := by rcases h with rfl | rfl <;> decide
theorem P_cong {D : va_G} {cl : List vw_C} {ws : va_W} {q a : Nat} {x x' : va_E} {H : Heap} (he : va_at D cl (a, x) H → va_at D cl (a, x') H) (h : va_P D cl (ws.set q (a, x)) H) : va_P D cl (ws.set q (a, x')) H := by
  intro k y hk
  rw [List.getElem?_set] at hk
  by_cases hq : q = k
  · rw [if_pos hq] at hk
    by_cases hl : q < ws.length
    · rw [if_pos hl] at hk
      cases hk
      exact he (h k (a, x) (by rw [List.getElem?_set, if_pos hq, if_pos hl]))
    · rw [if_neg hl] at hk
      cases hk
  · rw [if_neg hq] at hk
    exact h k y (by rw [List.getElem?_set, if_neg hq]; exact hk)
theorem D_cong {A : Nat → Prop} {ws : va_W} {q a : Nat} {x x' : va_E} (h : va_D A (ws.set q (a, x))) : va_D A (ws.set q (a, x')) := by
  have key : ∀ (k : Nat) (y : Nat × va_E), (ws.set q (a, x'))[k]? = some y → ∃ z, (ws.set q (a, x))[k]? = some z ∧ z.1 = y.1 := by
    intro k y hk
    rw [List.getElem?_set] at hk
    by_cases hq : q = k
    · rw [if_pos hq] at hk
      by_cases hl : q < ws.length
      · rw [if_pos hl] at hk
        cases hk
        exact ⟨(a, x), by rw [List.getElem?_set, if_pos hq, if_pos hl], rfl⟩
      · rw [if_neg hl] at hk
        cases hk
    · rw [if_neg hq] at hk
      exact ⟨y, by rw [List.getElem?_set, if_neg hq]; exact hk, rfl⟩
  refine ⟨fun i j y z hy hz hyz => ?_, fun k y hy => ?_⟩
  · obtain ⟨y', h1, e1⟩ := key i y hy
    obtain ⟨z', h2, e2⟩ := key j z hz
    exact h.1 i j y' z' h1 h2 (by rw [e1, e2, hyz])
  · obtain ⟨y', h1, e1⟩ := key k y hy
    rw [← e1]
    exact h.2 k y' h1
theorem arr_ext {c : ClassId} {n : Nat} {f g : Nat → Int32} (h : ∀ j, j < n → f j = g j) : vp_cell c (n, .inl f) = vp_cell c (n, .inl g) := by
  rw [vp_cell_i, vp_cell_i]
  unfold arrV
  have e : (Array.ofFn (n := n) fun j => Value.int (f j.val)) = Array.ofFn (n := n) fun j => Value.int (g j.val) := by
    congr 1
    funext j
    rw [h j.val j.isLt]
  rw [e]
section BCOPY
variable {p : Program} {l : Launch} {e : Env} {R : Room} {s : State} {m : MethodId} {args : Array Value} {below : List Frame} {meth : Method} {c : Code} {H H0 : Heap} {locs : List Loc} {cells slots : Nat} {Q : State → Prop}
variable {pc : Nat} {ls : Array Slot} {rest : List Value} {A : Nat → Prop} {D : va_G} {cl : List vw_C} {ws : va_W} {tys : List (ClassId × FieldType)}
/-- arraycopy of a whole int array into another of its length -/
theorem cp_full {cc : ByteArray} {n : Nat} (hexec : p.tables.exec = Jvm.exec) (hb : c.code = cc) (hml : c.maxLocals = ls.size) {own : String} {index : Nat} (hown : s.vm.findClass own = some m.cls) (hlink : (Cond.methodLink own index arraycopyName).before args s = true) (hnat : (Cond.native arraycopyName).before args s = true) (hstat : (Cond.static arraycopyName).before args s = true) (hini : (Cond.initialized "java/lang/System").before args s = true)
    (hK : va_K D cl tys s) (hP : va_P D cl ws H) (hD : va_D A ws) (hS : va_S A H0 H locs) (q0 q1 t0 : Nat) {a0 a : Nat} {c0 : ClassId} {f g : Nat → Int32} (ha0 : ws[q0]? = some (a0, .inl (c0, n, .inl f))) (ha1 : ws[q1]? = some (a, .inl (c0, n, .inl g))) (ht0 : tys[t0]? = some (c0, .int)) {z : Int32} (hz0 : ¬ z < 0) (hz : z.toNatClampNeg = n)
    (hframes : 1 ≤ R.frames) (hlocals : (rest.map fun v => v.category).sum + (nativeFrameWords "java/lang/System" "arraycopy" 5 + 11) ≤ R.locals) (hdg : decode cc pc = .ok (.invokestatic index, 3))
    (kk : ∀ (H1 : Heap) (locs1 : List Loc), va_P D cl (ws.set q1 (a, .inl (c0, n, .inl f))) H1 → va_D A (ws.set q1 (a, .inl (c0, n, .inl f))) → va_S A H0 H1 locs1 → W p l e R s m args below meth c H1 locs1 cells slots Q (F0 m (pc + 3) ls rest)) : W p l e R s m args below meth c H locs cells slots Q (F0 m pc ls (.int z :: .int 0 :: .ref a :: .int 0 :: .ref a0 :: rest)) := by
  refine va_copyi hexec hb hml hown hlink hnat hstat hini hK hP hD hS q0 q1 t0 t0 ha0 ha1 ht0 ht0 rfl (by decide) (by decide) hz0 (by rw [hz]; simp) (by rw [hz]; simp) (fun _ _ => rfl) hframes hlocals hdg (fun H1 l1 p1 d1 s1 => kk H1 l1 (P_cong (fun h => ?_) p1) (D_cong d1) s1)
  have h2 : H1[a]? = some (vp_cell c0 (n, .inl (va_cpy f g (0 : Int32).toNatClampNeg (0 : Int32).toNatClampNeg z.toNatClampNeg))) := h
  show H1[a]? = some (vp_cell c0 (n, .inl f))
  rw [h2, hz]
  exact congrArg some (arr_ext (fun j hj => sb_cpy0 hj))
end BCOPY
theorem nI_of_ge {x : Int32} (h : 0 ≤ x.toInt) : x = nI x.toInt.toNat := by
  apply Int32.toInt_inj.mp
  have h2 := Int32.toInt_lt x
  rw [nI_toInt (by omega)]
  omega
theorem tab_out4 {x : Int} (h1 : ¬ x = 1) (h2 : ¬ x = 2) (h3 : ¬ x = 3) (h4 : ¬ x = 4) : x < 1 ∨ 4 < x := by omega
theorem tab_out3 {x : Int} (h1 : ¬ x = 0) (h2 : ¬ x = 1) (h3 : ¬ x = 2) : x < 0 ∨ 2 < x := by omega
theorem tab_out6 {x : Int} (h1 : ¬ x = 0) (h2 : ¬ x = 1) (h3 : ¬ x = 2) (h4 : ¬ x = 3) (h5 : ¬ x = 4) (h6 : ¬ x = 5) : x < 0 ∨ 5 < x := by omega
theorem tab_out5 {x : Int} (h1 : ¬ x = 0) (h2 : ¬ x = 1) (h3 : ¬ x = 2) (h4 : ¬ x = 3) (h5 : ¬ x = 4) : x < 0 ∨ 4 < x := by omega
theorem tab_out11 {x : Int} (h0 : ¬ x = 0) (h1 : ¬ x = 1) (h2 : ¬ x = 2) (h3 : ¬ x = 3) (h4 : ¬ x = 4) (h5 : ¬ x = 5) (h6 : ¬ x = 6) (h7 : ¬ x = 7) (h8 : ¬ x = 8) (h9 : ¬ x = 9) (h10 : ¬ x = 10) : x < 0 ∨ 10 < x := by omega
