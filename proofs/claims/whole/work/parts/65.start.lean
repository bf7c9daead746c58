/-! what the Statement gives at the start: the tables, the text, the classes -/
theorem start_sta {args : Array Value} {s : State} {A : Nat → Prop} (hA : ∀ a : Nat, a < s.heap.size → ¬ A a) (hts : ∀ w ∈ lw_tbl, w.before args s = true) (hgv : (Jvm.Cond.and given_1 narrow_1).before args s = true) : sta A s s.heap := by
  have hs := flat_of_before _ hgv
  have nar : ∀ c ∈ flatC (Jvm.Cond.and given_1 narrow_1), c.before args s = true := hs
  have g : ∀ c : Cond, c ∈ flatC (Jvm.Cond.and given_1 narrow_1) → c.before args s = true := nar
  obtain ⟨t1, v1, a1⟩ := va_Tof (args := args) (s := s) (tm := .static "FourLodgers$Chart" "STEPS" "[I") (ty := .int) (N := 5) (f := fun j => .int (st_steps j)) (A := A) (by decide) (g _ (by decide +kernel)) (va_eqt (g (.eq (.length (.static "FourLodgers$Chart" "STEPS" "[I")) (.int 5)) (by decide +kernel))) (fun j hj => by
    rcases (show j = 0 ∨ j = 1 ∨ j = 2 ∨ j = 3 ∨ j = 4 by omega) with rfl | rfl | rfl | rfl | rfl
    · exact va_eqt (g (.eq (.elem (.static "FourLodgers$Chart" "STEPS" "[I") (.int 0)) (.int (-6))) (by decide +kernel))
    · exact va_eqt (g (.eq (.elem (.static "FourLodgers$Chart" "STEPS" "[I") (.int 1)) (.int 1)) (by decide +kernel))
    · exact va_eqt (g (.eq (.elem (.static "FourLodgers$Chart" "STEPS" "[I") (.int 2)) (.int 6)) (by decide +kernel))
    · exact va_eqt (g (.eq (.elem (.static "FourLodgers$Chart" "STEPS" "[I") (.int 3)) (.int (-1))) (by decide +kernel))
    · exact va_eqt (g (.eq (.elem (.static "FourLodgers$Chart" "STEPS" "[I") (.int 4)) (.int 8)) (by decide +kernel))) hA
  obtain ⟨t2, v2, a2⟩ := va_Tof (args := args) (s := s) (tm := .static "FourLodgers$Chart" "LEAVES" "[J") (ty := .long) (N := 5) (f := fun j => .long (st_leaves j)) (A := A) (by decide) (g _ (by decide +kernel)) (va_eqt (g (.eq (.length (.static "FourLodgers$Chart" "LEAVES" "[J")) (.int 5)) (by decide +kernel))) (fun j hj => by
    rcases (show j = 0 ∨ j = 1 ∨ j = 2 ∨ j = 3 ∨ j = 4 by omega) with rfl | rfl | rfl | rfl | rfl
    · exact va_eqtl (g (.eq (.elem (.static "FourLodgers$Chart" "LEAVES" "[J") (.int 0)) (.long 68719476672)) (by decide +kernel))
    · exact va_eqtl (g (.eq (.elem (.static "FourLodgers$Chart" "LEAVES" "[J") (.int 1)) (.long 33814345695)) (by decide +kernel))
    · exact va_eqtl (g (.eq (.elem (.static "FourLodgers$Chart" "LEAVES" "[J") (.int 2)) (.long 1073741823)) (by decide +kernel))
    · exact va_eqtl (g (.eq (.elem (.static "FourLodgers$Chart" "LEAVES" "[J") (.int 3)) (.long 67628691390)) (by decide +kernel))
    · exact va_eqtl (g (.eq (.elem (.static "FourLodgers$Chart" "LEAVES" "[J") (.int 4)) (.long 255652815)) (by decide +kernel))) hA
  obtain ⟨adK, adV, k2, k1⟩ := vk_Sof (args := args) (s := s) (N := 1) (tm := fun _ => .string "FourLodgers$Draft" 73) (len := [5]) (byt := st_byt) (A := A) (fun i hi => by rcases (show i = 0 by omega) with rfl; decide) (fun i _ => g _ (by decide +kernel)) (fun i _ => g _ (by decide +kernel)) (fun i _ => g _ (by decide +kernel)) (fun i hi => by rcases (show i = 0 by omega) with rfl; exact g (.eq (.length (.field (.string "FourLodgers$Draft" 73) "java/lang/String" "value" "[B")) (.int 5)) (by decide +kernel)) (fun i hi j hj => by
    rcases (show i = 0 by omega) with rfl
    have hj5 : j < 5 := hj
    rcases (show j = 0 ∨ j = 1 ∨ j = 2 ∨ j = 3 ∨ j = 4 by omega) with rfl | rfl | rfl | rfl | rfl
    · exact g (.eq (.elem (.field (.string "FourLodgers$Draft" 73) "java/lang/String" "value" "[B") (.int 0)) (.int 108)) (by decide +kernel)
    · exact g (.eq (.elem (.field (.string "FourLodgers$Draft" 73) "java/lang/String" "value" "[B") (.int 1)) (.int 112)) (by decide +kernel)
    · exact g (.eq (.elem (.field (.string "FourLodgers$Draft" 73) "java/lang/String" "value" "[B") (.int 2)) (.int 115)) (by decide +kernel)
    · exact g (.eq (.elem (.field (.string "FourLodgers$Draft" 73) "java/lang/String" "value" "[B") (.int 3)) (.int 102)) (by decide +kernel)
    · exact g (.eq (.elem (.field (.string "FourLodgers$Draft" 73) "java/lang/String" "value" "[B") (.int 4)) (.int 103)) (by decide +kernel)) (fun i j hi hj hne => absurd (show i = j by omega) hne) hA
  refine ⟨⟨t1, va_Zref (hts (.laysStatic "FourLodgers$Chart" "STEPS" "[I") (by decide +kernel)) (hts (.initialized "FourLodgers$Chart") (by decide +kernel)) v1 hA, a1⟩, ⟨t2, va_Zref (hts (.laysStatic "FourLodgers$Chart" "LEAVES" "[J") (by decide +kernel)) (hts (.initialized "FourLodgers$Chart") (by decide +kernel)) v2 hA, a2⟩, ⟨adK 0, adV 0, vk_R.of (hts (.stringRef "FourLodgers$Draft" 73 "lpsfg") (by decide +kernel)) (k1 0 (by decide)), ⟨fun i hi => ?_, fun i j hi hj _ => by omega⟩⟩, va_Zof (hts (.laysStatic "java/lang/String" "COMPACT_STRINGS" "Z") (by decide +kernel)) (hts (.initialized "java/lang/String") (by decide +kernel)) (va_eqi (g (.eq (.static "java/lang/String" "COMPACT_STRINGS" "Z") (.int 1)) (by decide +kernel))) hA, va_Nw.of rfl (hts (.methodLinkNest RX2 83 yX5_asBit RX5) (by decide +kernel))⟩
  rcases (show i = 0 by omega) with rfl
  exact k2.1 0 (by decide)
theorem start_K {args : Array Value} {s : State} (hts : ∀ w ∈ lw_tbl, w.before args s = true) : ∃ (dC : Nat → ClassId) (dI : Nat → Nat → Nat) (cI cJ : ClassId), va_K (dC, dI) vwCl (tyIJ cI cJ) s := by
  obtain ⟨c0, i0, k0⟩ := u_known (C := RX0) (T := TX0) (N := 4) (n := 4) hts inX0 (hts (.instantiable RX0 4) (by decide +kernel))
  obtain ⟨c1, i1, k1⟩ := u_known (C := RX1) (T := TX1) (N := 9) (n := 9) hts inX1 (hts (.instantiable RX1 9) (by decide +kernel))
  obtain ⟨c2, i2, k2⟩ := u_known (C := RX2) (T := TX2) (N := 11) (n := 11) hts inX2 (hts (.instantiable RX2 11) (by decide +kernel))
  obtain ⟨c3, i3, k3⟩ := u_known (C := RX3) (T := TX3) (N := 2) (n := 2) hts inX3 (hts (.instantiable RX3 2) (by decide +kernel))
  obtain ⟨c4, i4, k4⟩ := u_known (C := RX4) (T := TX4) (N := 2) (n := 2) hts inX4 (hts (.instantiable RX4 2) (by decide +kernel))
  obtain ⟨c5, i5, k5⟩ := u_known (C := RX5) (T := TX5) (N := 9) (n := 9) hts inX5 (hts (.instantiable RX5 9) (by decide +kernel))
  obtain ⟨c6, i6, k6⟩ := u_known (C := RX6) (T := TX6) (N := 30) (n := 30) hts inX6 (hts (.instantiable RX6 30) (by decide +kernel))
  obtain ⟨cI, kI, pI, fI, qI, rI⟩ := Cond.arrayClass_spec (hts (.arrayClass .int) (by decide +kernel))
  obtain ⟨cJ, kJ, pJ, fJ, qJ, rJ⟩ := Cond.arrayClass_spec (hts (.arrayClass .long) (by decide +kernel))
  refine ⟨fun k => match k with | 0 => c0 | 1 => c1 | 2 => c2 | 3 => c3 | 4 => c4 | 5 => c5 | _ => c6, fun k => match k with | 0 => i0 | 1 => i1 | 2 => i2 | 3 => i3 | 4 => i4 | 5 => i5 | _ => i6, cI, cJ, ?_, ?_⟩
  · intro k q hq
    match k, hq with
    | 0, hq => cases hq; exact k0
    | 1, hq => cases hq; exact k1
    | 2, hq => cases hq; exact k2
    | 3, hq => cases hq; exact k3
    | 4, hq => cases hq; exact k4
    | 5, hq => cases hq; exact k5
    | 6, hq => cases hq; exact k6
    | k + 7, hq => simp [vwCl] at hq
  · intro k q hq
    match k, hq with
    | 0, hq => cases hq; exact ⟨fun n z => ⟨fun k h => (by cases h), kI, qI, pI, rI⟩, fI⟩
    | 1, hq => cases hq; exact ⟨fun n z => ⟨fun k h => (by cases h), kJ, qJ, pJ, rJ⟩, fJ⟩
    | k + 2, hq => simp [tyIJ] at hq
