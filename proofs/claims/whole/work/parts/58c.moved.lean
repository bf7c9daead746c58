/-! the class's moves of sets -/
theorem bt_shl (y : Int64) {k t : Nat} (hk : k < 64) (ht : t < 64) : bt (y <<< ((nI k).toInt64 &&& (63 : Int64))) t = (decide (k ≤ t) && bt y (t - k)) := by
  rw [(sh_i k hk).1]
  unfold bt
  rw [Int64.toBitVec_shiftLeft, BitVec.shiftLeft_eq', (sh_i k hk).2, BitVec.getLsbD_shiftLeft]
  by_cases h : k ≤ t
  · simp [ht, h, Nat.not_lt.mpr h]
  · simp [ht, h, Nat.lt_of_not_le h]
theorem ush_i : ∀ i : Nat, i < 64 → ((((nI i).toInt64.toUInt64 &&& Int64.toUInt64 63).toBitVec % 64).toNat) = i := by decide +kernel
theorem bt_ushr (y : Int64) {k t : Nat} (hk : k < 64) : bt ((y.toUInt64 >>> ((nI k).toInt64.toUInt64 &&& Int64.toUInt64 63)).toInt64) t = bt y (t + k) := by
  unfold bt
  rw [UInt64.toBitVec_toInt64, UInt64.toBitVec_shiftRight, BitVec.ushiftRight_eq', ush_i k hk, BitVec.getLsbD_ushiftRight, Int64.toBitVec_toUInt64, Nat.add_comm]
theorem lv_bits : ∀ j, j < 5 → ∀ c, c < 64 → bt (st_leaves j) c = (decide (c < 36) && (tgt c j).isSome) := by decide +kernel
theorem bt_big (y : Int64) {t : Nat} (h : 64 ≤ t) : bt y t = false := by
  unfold bt; exact BitVec.getLsbD_of_ge _ _ h
/-- what the places that can be left come to -/
def mvb (places : Int64) (j t : Nat) : Prop := ∃ c, c < 36 ∧ bt places c = true ∧ tgt c j = some t
theorem moved_up {places : Int64} {j k t : Nat} (hj : j < 5) (hk : k < 64) (ht : t < 64) (hs : ∀ c, c < 36 → ∀ g, tgt c j = some g → g = c + k) : bt ((places &&& st_leaves j) <<< ((nI k).toInt64 &&& (63 : Int64))) t = true ↔ mvb places j t := by
  rw [bt_shl _ hk ht, bt_and]
  constructor
  · intro h
    rw [Bool.and_eq_true, Bool.and_eq_true, decide_eq_true_eq] at h
    obtain ⟨h1, h2, h3⟩ := h
    rw [lv_bits j hj (t - k) (by omega), Bool.and_eq_true, decide_eq_true_eq] at h3
    obtain ⟨g, hg⟩ := Option.isSome_iff_exists.mp h3.2
    have := hs _ h3.1 g hg
    exact ⟨t - k, h3.1, h2, by rw [hg, this]; congr 1; omega⟩
  · rintro ⟨c, hc, hp, hg⟩
    have := hs c hc t hg
    have e : t - k = c := by omega
    rw [e, hp, lv_bits j hj c (by omega), hg]
    simp [hc]; omega
theorem moved_dn {places : Int64} {j k t : Nat} (hj : j < 5) (hk : k < 64) (hs : ∀ c, c < 36 → ∀ g, tgt c j = some g → g + k = c) : bt (((places &&& st_leaves j).toUInt64 >>> ((nI k).toInt64.toUInt64 &&& Int64.toUInt64 63)).toInt64) t = true ↔ mvb places j t := by
  rw [bt_ushr _ hk, bt_and]
  constructor
  · intro h
    rw [Bool.and_eq_true] at h
    obtain ⟨h2, h3⟩ := h
    have hlt : t + k < 64 := Nat.lt_of_not_le fun q => by rw [bt_big _ q] at h2; cases h2
    rw [lv_bits j hj (t + k) hlt, Bool.and_eq_true, decide_eq_true_eq] at h3
    obtain ⟨g, hg⟩ := Option.isSome_iff_exists.mp h3.2
    have := hs _ h3.1 g hg
    exact ⟨t + k, h3.1, h2, by rw [hg]; congr 1; omega⟩
  · rintro ⟨c, hc, hp, hg⟩
    have := hs c hc t hg
    rw [this, hp, lv_bits j hj c (by omega), hg]
    simp [hc]
theorem tgt_0 {c g : Nat} (h : tgt c 0 = some g) : g + 6 = c := by
  unfold tgt at h
  by_cases q : 6 ≤ c
  · simp only [if_pos q] at h; cases h; omega
  · simp only [if_neg q] at h; cases h
theorem tgt_1 {c g : Nat} (h : tgt c 1 = some g) : g = c + 1 := by
  unfold tgt at h
  by_cases q : c % 6 < 5
  · simp only [if_pos q] at h; cases h; rfl
  · simp only [if_neg q] at h; cases h
theorem tgt_2 {c g : Nat} (h : tgt c 2 = some g) : g = c + 6 := by
  unfold tgt at h
  by_cases q : c < 30
  · simp only [if_pos q] at h; cases h; rfl
  · simp only [if_neg q] at h; cases h
theorem tgt_3 {c g : Nat} (h : tgt c 3 = some g) : g + 1 = c := by
  unfold tgt at h
  by_cases q : 0 < c % 6
  · simp only [if_pos q] at h; cases h; omega
  · simp only [if_neg q] at h; cases h
theorem tgt_4 {c g : Nat} (h : tgt c 4 = some g) : g = c + 8 := by
  unfold tgt at h
  by_cases q : c < 30 ∧ c % 6 < 4
  · simp only [if_pos q] at h; cases h; rfl
  · simp only [if_neg q] at h; cases h
theorem moved_bt (rb places : Int64) {j t : Nat} (hj : j < 5) (ht : t < 64) : bt (fX0_movedBy rb places (nI j)) t = true ↔ mvb places j t ∧ bt rb t = false := by
  have fin : ∀ x : Int64, (bt x t = true ↔ mvb places j t) → (bt (x &&& (rb ^^^ (-1 : Int64))) t = true ↔ mvb places j t ∧ bt rb t = false) := by
    intro x hx
    rw [bt_and, bt_not rb ht, Bool.and_eq_true, hx, Bool.not_eq_true']
  rw [fX0_movedBy, nI_clamp (by omega)]
  rcases (show j = 0 ∨ j = 1 ∨ j = 2 ∨ j = 3 ∨ j = 4 by omega) with rfl | rfl | rfl | rfl | rfl
  · rw [if_neg (show ¬ (0 : Int32) ≤ st_steps 0 by decide)]
    exact fin _ (moved_dn (j := 0) (k := 6) (by decide) (by decide) (fun c _ g h => tgt_0 h))
  · rw [if_pos (show (0 : Int32) ≤ st_steps 1 by decide)]
    exact fin _ (moved_up (j := 1) (k := 1) (by decide) (by decide) ht (fun c _ g h => tgt_1 h))
  · rw [if_pos (show (0 : Int32) ≤ st_steps 2 by decide)]
    exact fin _ (moved_up (j := 2) (k := 6) (by decide) (by decide) ht (fun c _ g h => tgt_2 h))
  · rw [if_neg (show ¬ (0 : Int32) ≤ st_steps 3 by decide)]
    exact fin _ (moved_dn (j := 3) (k := 1) (by decide) (by decide) (fun c _ g h => tgt_3 h))
  · rw [if_pos (show (0 : Int32) ≤ st_steps 4 by decide)]
    exact fin _ (moved_up (j := 4) (k := 8) (by decide) (by decide) ht (fun c _ g h => tgt_4 h))
