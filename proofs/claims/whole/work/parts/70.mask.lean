/-! SETS OF PARTS AS INTS. -/
section MASK
variable {f g : Nat → Bool}
theorem stN_tb (f : Nat → Bool) (n i : Nat) : (stN f n).testBit i = (decide (i < n) && f i) := by
  by_cases h : i < n
  · have := stN_bit (f := f) n h
    rw [Nat.testBit_eq_decide_div_mod_eq, decide_eq_true h, Bool.true_and]
    by_cases c : f i = true
    · rw [c, decide_eq_true (this.mpr c)]
    · rw [decide_eq_false (fun q => c (this.mp q)), Bool.eq_false_iff.mpr c]
  · rw [decide_eq_false h, Bool.false_and]
    refine Nat.testBit_lt_two_pow (Nat.lt_of_lt_of_le (stN_lt n) (Nat.pow_le_pow_right (by decide) (by omega)))
def MK (f : Nat → Bool) : Int32 := nI (stN f 10)
theorem st10 (f : Nat → Bool) : stN f 10 < 1024 := stN_lt 10
theorem MK_bv (f : Nat → Bool) : (MK f).toBitVec = BitVec.ofNat 32 (stN f 10) := rfl
theorem MK_lsb (f : Nat → Bool) (i : Nat) : (MK f).toBitVec.getLsbD i = (decide (i < 10) && f i) := by
  rw [MK_bv, BitVec.getLsbD_ofNat, stN_tb]
  by_cases h : i < 10
  · rw [decide_eq_true (show i < 32 by omega), Bool.true_and]
  · rw [decide_eq_false h, Bool.false_and, Bool.and_false]
theorem MK_ext {x : Int32} (h : ∀ i, i < 32 → x.toBitVec.getLsbD i = (decide (i < 10) && f i)) : x = MK f := by
  apply Int32.toBitVec_inj.mp
  apply BitVec.eq_of_getLsbD_eq
  intro i hi
  rw [h i hi, MK_lsb]
theorem MK_bit (f : Nat → Bool) {k : Nat} (hk : k < 10) : (MK f >>> (nI k &&& 31)) &&& 1 = if f k = true then 1 else 0 := by
  have h1 := st10 f
  have := stN_bit (f := f) (p := k) 10 hk
  unfold MK
  rw [bitI (by omega) (by omega)]
  by_cases c : f k = true
  · rw [if_pos c, this.mpr c]; rfl
  · rw [if_neg c]
    have : stN f 10 / 2 ^ k % 2 = 0 := by
      rcases Nat.mod_two_eq_zero_or_one (stN f 10 / 2 ^ k) with q | q
      · exact q
      · exact absurd (this.mp q) c
    rw [this]; rfl
theorem bit_bv : ∀ k, k < 10 → ∀ i, i < 32 → ((1 : Int32) <<< (nI k &&& 31)).toBitVec.getLsbD i = decide (i = k) := by decide
theorem MK_or1 (f : Nat → Bool) {k : Nat} (hk : k < 10) : MK f ||| ((1 : Int32) <<< (nI k &&& 31)) = MK (up1 f k true) := by
  refine MK_ext (fun i hi => ?_)
  rw [Int32.toBitVec_or, BitVec.getLsbD_or, MK_lsb, bit_bv k hk i hi]
  unfold up1
  by_cases c : i = k
  · rw [if_pos c, decide_eq_true c, decide_eq_true (show i < 10 by omega)]; simp
  · rw [if_neg c, decide_eq_false c, Bool.or_false]
theorem MK_or (f g : Nat → Bool) : MK f ||| MK g = MK (fun k => f k || g k) := by
  refine MK_ext (fun i hi => ?_)
  rw [Int32.toBitVec_or, BitVec.getLsbD_or, MK_lsb, MK_lsb, ← Bool.and_or_distrib_left]
theorem m1_bv : ∀ i, i < 32 → (-1 : Int32).toBitVec.getLsbD i = true := by decide
theorem MK_sub (f g : Nat → Bool) : MK f &&& (MK g ^^^ (-1)) = MK (fun k => f k && !g k) := by
  refine MK_ext (fun i hi => ?_)
  rw [Int32.toBitVec_and, BitVec.getLsbD_and, Int32.toBitVec_xor, BitVec.getLsbD_xor, MK_lsb, MK_lsb, m1_bv i hi]
  by_cases c : i < 10
  · rw [decide_eq_true c]; simp
  · rw [decide_eq_false c]; simp
theorem MK_eq (f g : Nat → Bool) : MK f = MK g ↔ ∀ k, k < 10 → f k = g k := by
  constructor
  · intro h k hk
    have h1 := MK_lsb f k
    rw [h, MK_lsb, decide_eq_true hk, Bool.true_and, Bool.true_and] at h1
    exact h1.symm
  · intro h
    refine MK_ext (fun i _ => ?_)
    rw [MK_lsb]
    by_cases c : i < 10
    · rw [h i c]
    · rw [decide_eq_false c, Bool.false_and, Bool.false_and]
theorem MK_0 : MK (fun _ => false) = 0 := by decide
theorem MK_z (f : Nat → Bool) : MK f = 0 ↔ ∀ k, k < 10 → f k = false := by rw [← MK_0, MK_eq]
theorem MK_all : ∀ n, n < 11 → ((1 : Int32) <<< (nI n &&& 31)) - 1 = MK (fun k => decide (k < n)) := by decide
theorem MK_nn (f : Nat → Bool) : ¬ MK f = -1 := fun h => by
  have h1 := MK_lsb f 20
  rw [h, m1_bv 20 (by decide), decide_eq_false (by decide), Bool.false_and] at h1
  exact absurd h1 (by decide)
/-- an int of ten bits as a set -/
def bF (a : Nat) (k : Nat) : Bool := decide (a / 2 ^ k % 2 = 1)
theorem bF_MK {a : Nat} (h : a < 1024) : nI a = MK (bF a) := by
  refine MK_ext (fun i hi => ?_)
  show (BitVec.ofNat 32 a).getLsbD i = _
  rw [BitVec.getLsbD_ofNat, decide_eq_true hi, Bool.true_and]
  by_cases c : i < 10
  · rw [decide_eq_true c, Bool.true_and, Nat.testBit_eq_decide_div_mod_eq]; rfl
  · rw [decide_eq_false c, Bool.false_and]
    exact Nat.testBit_lt_two_pow (Nat.lt_of_lt_of_le h (Nat.pow_le_pow_right (n := 2) (i := 10) (by decide) (by omega)))
def cntB (f : Nat → Bool) : Nat := pcN (stN f 10) 10
end MASK
