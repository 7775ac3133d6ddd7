-- bits (the rows b_.. began as rows of the kit's laws, given for pasting)
def bb (x : Int) (i : Nat) : Bool := (Int32.ofInt x).toBitVec.getLsbD i
theorem bb_ext {x y : Int} (hx : R32 x) (hy : R32 y) (h : ∀ i, i < 32 → bb x i = bb y i) : x = y := by
  have e : Int32.ofInt x = Int32.ofInt y := Int32.toBitVec_inj.mp (BitVec.eq_of_getLsbD_eq (fun i hi => h i hi))
  rw [← w32_id hx, ← w32_id hy]; unfold w32; rw [e]
theorem bb_or (x y : Int) (i : Nat) : bb (xor32 x y) i = (bb x i || bb y i) := by
  unfold bb xor32; rw [Int32.ofInt_toInt, Int32.toBitVec_or, BitVec.getLsbD_or]
theorem bb_and (x y : Int) (i : Nat) : bb (xand x y) i = (bb x i && bb y i) := by
  unfold bb xand; rw [Int32.ofInt_toInt, Int32.toBitVec_and, BitVec.getLsbD_and]
theorem bb_xor (x y : Int) (i : Nat) : bb (xxor x y) i = (bb x i ^^ bb y i) := by
  unfold bb xxor; rw [Int32.ofInt_toInt, Int32.toBitVec_xor, BitVec.getLsbD_xor]
theorem bb_big {x : Int} {i : Nat} (h : 32 ≤ i) : bb x i = false := BitVec.getLsbD_of_ge _ _ h
theorem bb_m1 : ∀ i, i < 32 → bb (-1) i = true := by decide +kernel
theorem bb_0 : ∀ i, i < 32 → bb 0 i = false := by decide +kernel
theorem bb_1 : ∀ i, i < 32 → bb 1 i = decide (i = 0) := by decide +kernel
theorem bb_shl1 : ∀ t : Nat, t < 32 → ∀ i : Nat, i < 32 → bb (xshl 1 (t : Int)) i = decide (i = t) := by decide +kernel
theorem s_l32 : ∀ n : Nat, n < 32 → ((Int32.ofInt (n : Int) &&& 31).toBitVec.smod 32).toNat = n := by decide +kernel
theorem bb_shr (n : Nat) (hn : n < 32) (x : Int) {i : Nat} (hi : i < 32) : bb (xshr x (n : Int)) i = if n + i < 32 then bb x (n + i) else bb x 31 := by
  unfold bb xshr
  rw [Int32.ofInt_toInt, Int32.toBitVec_shiftRight]
  show ((Int32.ofInt x).toBitVec.sshiftRight ((Int32.ofInt (n : Int) &&& 31).toBitVec.smod 32).toNat).getLsbD i = _
  rw [s_l32 n hn, BitVec.getLsbD_sshiftRight, BitVec.msb_eq_getLsbD_last]
  simp [hi]
theorem bi_r (b : Bool) : R32 (bi b) := by cases b <;> decide
theorem bb_bi (b : Bool) (i : Nat) (hi : i < 32) : bb (bi b) i = (b && decide (i = 0)) := by
  cases b
  · rw [Bool.false_and]; exact bb_0 i hi
  · rw [Bool.true_and]; exact bb_1 i hi
/-- one bit of a set -/
theorem bb_bit (x : Int) (k : Nat) (hk : k < 32) : xand (xshr x (k : Int)) 1 = bi (bb x k) := by
  refine bb_ext (xand_r _ _) (bi_r _) (fun i hi => ?_)
  rw [bb_and, bb_shr k hk x hi, bb_1 i hi, bb_bi _ i hi]
  by_cases q : i = 0
  · subst q; rw [Nat.add_zero, if_pos hk]
  · rw [decide_eq_false q, Bool.and_false, Bool.and_false]
theorem bb_nat {n i : Nat} (hi : i < 32) : bb (n : Int) i = n.testBit i := by
  unfold bb
  rw [Int32.ofInt_eq_ofNat]
  show (BitVec.ofNat 32 n).getLsbD i = _
  rw [BitVec.getLsbD_ofNat, decide_eq_true hi, Bool.true_and]
/-- a trade put into a set and taken out -/
theorem bb_in {x : Int} {t i : Nat} (ht : t < 32) (hi : i < 32) : bb (xor32 x (xshl 1 (t : Int))) i = (bb x i || decide (i = t)) := by
  rw [bb_or, bb_shl1 t ht i hi]
theorem bb_out {x : Int} {t i : Nat} (ht : t < 32) (hi : i < 32) : bb (xand x (xxor (xshl 1 (t : Int)) (-1))) i = (bb x i && !decide (i = t)) := by
  rw [bb_and, bb_xor, bb_shl1 t ht i hi, bb_m1 i hi]
  cases decide (i = t) <;> rfl
theorem bb_io {x : Int} {t : Nat} (hx : R32 x) (ht : t < 32) (h : bb x t = false) : xand (xor32 x (xshl 1 (t : Int))) (xxor (xshl 1 (t : Int)) (-1)) = x := by
  refine bb_ext (xand_r _ _) hx (fun i hi => ?_)
  rw [bb_out ht hi, bb_in ht hi]
  by_cases q : i = t
  · rw [q, h, decide_eq_true rfl]; rfl
  · rw [decide_eq_false q]; cases bb x i <;> rfl
