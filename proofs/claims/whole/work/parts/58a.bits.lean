/-! sets of cells as bits -/
def bt (x : Int64) (i : Nat) : Bool := x.toBitVec.getLsbD i
theorem bt_ext {x y : Int64} (h : ∀ i, i < 64 → bt x i = bt y i) : x = y := Int64.toBitVec_inj.mp (BitVec.eq_of_getLsbD_eq h)
theorem bt_or (x y : Int64) (i : Nat) : bt (x ||| y) i = (bt x i || bt y i) := by
  unfold bt; rw [Int64.toBitVec_or, BitVec.getLsbD_or]
theorem bt_and (x y : Int64) (i : Nat) : bt (x &&& y) i = (bt x i && bt y i) := by
  unfold bt; rw [Int64.toBitVec_and, BitVec.getLsbD_and]
theorem bt_not (x : Int64) {i : Nat} (hi : i < 64) : bt (x ^^^ (-1 : Int64)) i = !bt x i := by
  unfold bt
  rw [Int64.toBitVec_xor, BitVec.getLsbD_xor]
  have : (-1 : Int64).toBitVec.getLsbD i = true := by
    have h : ∀ j, j < 64 → (-1 : Int64).toBitVec.getLsbD j = true := by decide
    exact h i hi
  rw [this, Bool.xor_true]
theorem sh_i : ∀ i : Nat, i < 64 → ((nI i).toInt64 &&& (63 : Int64)) = lN i ∧ ((lN i).toBitVec.smod 64).toNat = i := by decide +kernel
theorem bt_zero (i : Nat) : bt (0 : Int64) i = false := by
  unfold bt
  show (0#64).getLsbD i = false
  exact BitVec.getLsbD_zero
theorem bt_shr (x : Int64) {i : Nat} (hi : i < 64) : bt (x >>> ((nI i).toInt64 &&& (63 : Int64))) 0 = bt x i := by
  rw [(sh_i i hi).1]
  unfold bt
  rw [Int64.toBitVec_shiftRight, BitVec.sshiftRight_eq', (sh_i i hi).2, BitVec.getLsbD_sshiftRight]
  simp [hi]
theorem and1_0 (y : Int64) : (y &&& (1 : Int64)) = (0 : Int64) ↔ bt y 0 = false := by
  constructor
  · intro h
    have := congrArg (fun z => bt z 0) h
    simp only [bt_and, bt_zero] at this
    rw [show bt (1 : Int64) 0 = true by decide, Bool.and_true] at this
    exact this
  · intro h
    apply bt_ext
    intro i hi
    rw [bt_and, bt_zero]
    by_cases h0 : i = 0
    · rw [h0, h, Bool.false_and]
    · have : ∀ j, j < 64 → ¬ j = 0 → bt (1 : Int64) j = false := by decide
      rw [this i hi h0, Bool.and_false]
theorem and1_1 (y : Int64) : (y &&& (1 : Int64)) = (1 : Int64) ↔ bt y 0 = true := by
  constructor
  · intro h
    have := congrArg (fun z => bt z 0) h
    simp only [bt_and] at this
    rw [show bt (1 : Int64) 0 = true by decide, Bool.and_true] at this
    exact this
  · intro h
    apply bt_ext
    intro i hi
    rw [bt_and]
    by_cases h0 : i = 0
    · rw [h0, h, Bool.true_and]
    · have : ∀ j, j < 64 → ¬ j = 0 → bt (1 : Int64) j = false := by decide
      rw [this i hi h0, Bool.and_false]
theorem bit_0 (x : Int64) {i : Nat} (hi : i < 64) : ((x >>> ((nI i).toInt64 &&& (63 : Int64))) &&& (1 : Int64)) = (0 : Int64) ↔ bt x i = false := by rw [and1_0, bt_shr x hi]
theorem bit_1 (x : Int64) {i : Nat} (hi : i < 64) : ((x >>> ((nI i).toInt64 &&& (63 : Int64))) &&& (1 : Int64)) = (1 : Int64) ↔ bt x i = true := by rw [and1_1, bt_shr x hi]
theorem bt_one : ∀ c : Nat, c < 64 → ∀ j : Nat, j < 64 → bt ((1 : Int64) <<< ((nI c).toInt64 &&& (63 : Int64))) j = decide (c = j) := by decide +kernel
/-- where each of the five leads -/
def tgt (c j : Nat) : Option Nat := match j with
  | 0 => if 6 ≤ c then some (c - 6) else none
  | 1 => if c % 6 < 5 then some (c + 1) else none
  | 2 => if c < 30 then some (c + 6) else none
  | 3 => if 0 < c % 6 then some (c - 1) else none
  | _ => if c < 30 ∧ c % 6 < 4 then some (c + 8) else none
