theorem shr_4 {x : Int} (h0 : 0 ≤ x) (h1 : x ≤ 2147483647) : (i32 x >>> (i32 4 &&& 31)).toInt = x / 16 := by
  have e : (i32 x >>> (i32 4 &&& 31)).toInt = ((i32 x).toBitVec.sshiftRight 4).toInt := rfl
  rw [e, BitVec.toInt_sshiftRight, Int.shiftRight_eq_div_pow]
  have e2 : (i32 x).toBitVec.toInt = x := i32_to (by omega) h1
  rw [e2]
  rfl
theorem not_1 {x : Int} (h0 : -2147483648 ≤ x) (h1 : x ≤ 2147483647) : (i32 x ^^^ i32 (-1)).toInt = -x - 1 := by
  have b : (i32 x).toBitVec ^^^ BitVec.allOnes 32 = -(i32 x).toBitVec - 1#32 := by
    rw [BitVec.xor_allOnes, BitVec.neg_eq_not_add, BitVec.add_sub_cancel]
  have q : i32 x ^^^ i32 (-1) = i32 (-x - 1) := by
    rw [show i32 (-x - 1) = -(i32 x) - i32 1 from (Int32.ofInt_sub _ _).trans (congrArg (· - i32 1) (Int32.ofInt_neg x))]
    first
      | exact Int32.toBitVec_inj.mp b
      | exact Int32.toBitVec.inj b
      | exact Int32.eq_of_toBitVec_eq b
  rw [q, i32_to (by omega) (by omega)]
