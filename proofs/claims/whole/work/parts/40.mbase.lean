/-! the model: numbers, its copy of arrays -/
theorem tab_o_0_4 {x : Int} (h1 : ¬ x = 0) (h2 : ¬ x = 1) (h3 : ¬ x = 2) (h4 : ¬ x = 3) : x < 0 ∨ 3 < x := by omega
theorem tab_o_102_14 {x : Int} (h0 : ¬ x = 102) (h1 : ¬ x = 103) (h2 : ¬ x = 104) (h3 : ¬ x = 105) (h4 : ¬ x = 106) (h5 : ¬ x = 107) (h6 : ¬ x = 108) (h7 : ¬ x = 109) (h8 : ¬ x = 110) (h9 : ¬ x = 111) (h10 : ¬ x = 112) (h11 : ¬ x = 113) (h12 : ¬ x = 114) (h13 : ¬ x = 115) : x < 102 ∨ 115 < x := by omega
theorem upd_restore {f : Nat → Int32} {k : Nat} {x : Int32} : upd (upd f k x) k (f k) = f := by
  funext j
  by_cases h : j = k
  · subst h; simp [upd]
  · simp [upd, h]
theorem i_mul {x y : Int32} (h1 : -2147483648 ≤ x.toInt * y.toInt) (h2 : x.toInt * y.toInt < 2147483648) : (x * y).toInt = x.toInt * y.toInt := by
  rw [Int32.toInt_mul]
  exact Int.bmod_eq_of_le (by omega) (by omega)
theorem mul3_toInt {n : Int32} (h0 : 0 ≤ n.toInt) (h6 : n.toInt ≤ 6) : ((3 : Int32) * n).toInt = 3 * n.toInt := by
  have z : (3 : Int32).toInt = 3 := by decide
  rw [i_mul (by rw [z]; omega) (by rw [z]; omega), z]
theorem mul3_in {n : Int32} {k : Nat} (hk : k ≤ 2) (h0 : 0 ≤ n.toInt) (h5 : n.toInt ≤ 5) : vp_in ((3 : Int32) * n + nI k) 18 := by
  obtain ⟨m, hm, rfl, e⟩ := ge_nI h0
  rw [show (3 : Int32) = nI 3 from rfl, pk_mul, nI_add]
  exact vp_in_nI (by omega) (by decide)
theorem mul3_in0 {n : Int32} (h0 : 0 ≤ n.toInt) (h5 : n.toInt ≤ 5) : vp_in ((3 : Int32) * n) 18 := by
  obtain ⟨m, hm, rfl, e⟩ := ge_nI h0
  rw [show (3 : Int32) = nI 3 from rfl, pk_mul]
  exact vp_in_nI (by omega) (by decide)
theorem nle_sub1 {a x : Int32} (h : ¬ a - (1 : Int32) ≤ x) (h1 : 1 ≤ a.toInt) : x.toInt < a.toInt - 1 := by
  have h2 := mt Int32.le_iff_toInt_le.mpr h
  have z1 : (1 : Int32).toInt = 1 := by decide
  have hl := Int32.toInt_lt a
  rw [i_sub (by omega) (by omega)] at h2
  omega
theorem sub1_toInt {a : Int32} (h1 : 0 ≤ a.toInt) : (a - (1 : Int32)).toInt = a.toInt - 1 := by
  have z1 : (1 : Int32).toInt = 1 := by decide
  have hl := Int32.toInt_lt a
  rw [i_sub (by omega) (by omega), z1]
theorem add1_toInt {a : Int32} (h1 : a.toInt < 2147483647) : (a + (1 : Int32)).toInt = a.toInt + 1 := by
  have z1 : (1 : Int32).toInt = 1 := by decide
  have hl := Int32.le_toInt a
  rw [i_add (by omega) (by omega), z1]
set_option maxHeartbeats 4000000 in
set_option maxRecDepth 100000 in
/-- copy(from, to): the second array holds what the first holds -/
theorem kX6_copy (l : Launch) (dC : Nat → ClassId) (dI : Nat → Nat → Nat) (cI cJ : ClassId) (sz : Nat) (a b : Nat) (n : Nat) (f g : Nat → Int32) (hn40 : n ≤ 40) : Met l yX6_copy wsX6_copy ({ frames := 0, cells := 0, slots := 0, locals := 0 } : Room) (gW (dC, dI) cI cJ sz [(a, .inl (cI, n, .inl f)), (b, .inl (cI, n, .inl g))] ([.ref a, .ref b] : List Value)) (va_Qv (fun _ : Unit => True) (fun _ : Unit => gB (dC, dI) cI cJ (va_A [(a, .inl (cI, n, .inl f)), (b, .inl (cI, n, .inl g))] sz) [(a, .inl (cI, n, .inl f)), (b, .inl (cI, n, .inl f))]) (va_A [(a, .inl (cI, n, .inl f)), (b, .inl (cI, n, .inl g))] sz)) 0 0 (va_A [(a, .inl (cI, n, .inl f)), (b, .inl (cI, n, .inl g))] sz) := by
  refine Met.ofW (cc := cX6_copy) (maxL := 3) (ret := none) (by decide) rfl ?_
  intro p e s m args below meth c s₁ B hml hv
  obtain ⟨rfl, hsz, hP, hK, hD0, hst⟩ := hv
  have hx := B.exec
  have hb := B.bytes
  have hr := B.returns
  have hlocks := B.notSynchronized
  subst hsz
  have hD := hD0.self (sz := s.heap.size)
  generalize hAe : va_A [(a, .inl (cI, n, .inl f)), (b, .inl (cI, n, .inl g))] s.heap.size = A at hD hst ⊢
  have hS : va_S A s.heap s.heap [] := va_S.rf
  generalize hQ : MQ below (va_Qv (fun _ : Unit => True) (fun _ : Unit => gB (dC, dI) cI cJ A [(a, .inl (cI, n, .inl f)), (b, .inl (cI, n, .inl f))]) A) ([.ref a, .ref b] : List Value).toArray s 0 0 A = Q
  have hl := lv_entry ([.ref a, .ref b] : List Value) (n := 3) (Nat.le_of_ble_eq_true rfl)
  rw [lg_entry_eq]
  generalize (lg_sl ([.ref a, .ref b] : List Value) ++ List.replicate (3 - (lg_sl ([.ref a, .ref b] : List Value)).length) Slot.unset).toArray = ls at hl ⊢
  have hl : lv_has ls 3 [(0, .ref a), (1, .ref b)] := hl
  refine lv_iconst (v := (0 : Int32)) hx hb dX6_copy_0 (by decide) ?_
  refine lv_istore_n (lv' := [(2, .int (0 : Int32)), (0, .ref a), (1, .ref b)]) hx hb dX6_copy_1 rfl hl (by decide) rfl (fun ls hl => ?_)
  have L2 : ∀ (k i : Nat) (h : Nat → Int32) (H : Heap) (locs : List Loc), i ≤ n → n - i < k → (∀ j, j < i → h j = f j) → va_P (dC, dI) vwCl [(a, .inl (cI, n, .inl f)), (b, .inl (cI, n, .inl h))] H → va_D A [(a, .inl (cI, n, .inl f)), (b, .inl (cI, n, .inl h))] → va_S A s.heap H locs → ∀ ls : Array Slot, lv_has ls 3 [(0, .ref a), (1, .ref b), (2, .int (nI i))] → W p l e (headSpec wsX6_copy ({ frames := 0, cells := 0, slots := 0, locals := 0 } : Room)).room s m ([.ref a, .ref b] : List Value).toArray below meth c H locs 0 0 Q (F0 m 2 ls []) := by
    intro k
    induction k with
    | zero => intro i h H locs hi hk; exact absurd hk (Nat.not_lt_zero _)
    | succ k ih =>
      intro i h H locs hi hk hj hP hD hS ls hl
      refine lv_iload_n hx hb dX6_copy_2 rfl (lv_at hl 2 rfl) ?_
      refine lv_aload_n hx hb dX6_copy_3 rfl (lv_at hl 0 rfl) ?_
      refine va_alen hx hb hK hP 0 0 rfl rfl (v := nI n) rfl dX6_copy_4 ?_
      refine lv_icmp_ge (tgt := 20) hx hb dX6_copy_5 (by decide) (fun c5 => ?_) (fun c5 => ?_)
      · have h5 := (nI_leI (by omega) (by omega)).mp c5
        rw [← hQ]
        have hP2 : va_P (dC, dI) vwCl [(a, .inl (cI, n, .inl f)), (b, .inl (cI, n, .inl f))] H := P_cong (ws := [(a, .inl (cI, n, .inl f)), (b, .inl (cI, n, .inl h))]) (q := 1) (a := b) (x := .inl (cI, n, .inl h)) (x' := .inl (cI, n, .inl f)) (fun (hh : H[b]? = some (vp_cell cI (n, .inl h))) => (show H[b]? = some (vp_cell cI (n, .inl f)) by rw [hh]; exact congrArg some (arr_ext (fun j h9 => hj j (by omega))))) hP
        have hD2 : va_D A [(a, .inl (cI, n, .inl f)), (b, .inl (cI, n, .inl f))] := D_cong (ws := [(a, .inl (cI, n, .inl f)), (b, .inl (cI, n, .inl h))]) (q := 1) (a := b) (x := .inl (cI, n, .inl h)) (x' := .inl (cI, n, .inl f)) hD
        exact W.vret hx hb hr (fun t ht hW => ⟨⟨(), rfl, trivial, by rw [ht]; exact hP2, va_K.moved hW.alike hK, hD2⟩, hS.F ht⟩) hS.2.2 dX6_copy_20
      · have h5 : i < n := Nat.not_le.mp fun q => c5 (nI_le q (by omega))
        refine lv_aload_n hx hb dX6_copy_8 rfl (lv_at hl 1 rfl) ?_
        refine lv_iload_n hx hb dX6_copy_9 rfl (lv_at hl 2 rfl) ?_
        refine lv_aload_n hx hb dX6_copy_10 rfl (lv_at hl 0 rfl) ?_
        refine lv_iload_n hx hb dX6_copy_11 rfl (lv_at hl 2 rfl) ?_
        refine va_iald hx hb hK hP 0 0 rfl rfl (i := nI i) (vp_in_nI h5 (by omega)) dX6_copy_12 ?_
        refine va_iast hx hb hK hP hD hS 1 0 rfl rfl (i := nI i) (vp_in_nI h5 (by omega)) dX6_copy_13 (fun H locs hP hD hS => ?_)
        refine lv_iinc (v := (nI (i + 1))) (lv' := [(2, .int (nI (i + 1))), (0, .ref a), (1, .ref b)]) hx hb dX6_copy_14 hl (k := 2) rfl (by rw [show Int32.ofInt 1 = nI 1 from rfl, nI_add]) (by decide) rfl (fun ls hl => ?_)
        refine lv_goto (tgt := 2) hx hb dX6_copy_17 (by decide) ?_
        refine ih (i + 1) (upd h (nI i).toNatClampNeg (f (nI i).toNatClampNeg)) H locs (by omega) (by omega) (fun j h9 => ?_) hP hD hS ls (lv_sub hl [1, 2, 0] rfl)
        rw [nI_clamp (by omega)]
        by_cases hji : j = i
        · rw [hji, pk_us]
        · rw [pk_un hji]; exact hj j (by omega)
  exact L2 (n + 1) 0 g s.heap [] (Nat.zero_le _) (by omega) (fun j h => absurd h (Nat.not_lt_zero _)) hP hD hS ls (lv_sub hl [1, 2, 0] rfl)
