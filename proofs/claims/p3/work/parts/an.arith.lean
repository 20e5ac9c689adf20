/-! ARITHMETIC OF A BYTE -/
theorem i32_n {x : Int} (h0 : -2147483648 ≤ x) (h1 : x ≤ 2147483647) : ((i32 x).toBitVec.toNat : Int) = x % 4294967296 := by
  have g := i32_to h0 h1
  have g2 : (i32 x).toInt = (i32 x).toBitVec.toInt := rfl
  rw [g2, BitVec.toInt_eq_toNat_cond] at g
  have := (i32 x).toBitVec.isLt
  split at g <;> omega
theorem i32_of_n {y : Int32} {z : Int} (h : (y.toBitVec.toNat : Int) = z % 4294967296) (h0 : -2147483648 ≤ z) (h1 : z ≤ 2147483647) : y.toInt = z := by
  have g2 : y.toInt = y.toBitVec.toInt := rfl
  rw [g2, BitVec.toInt_eq_toNat_cond]
  have := y.toBitVec.isLt
  split <;> omega
theorem and_nib {b : Int} (h0 : 0 ≤ b) (h1 : b ≤ 255) : (i32 b &&& i32 15).toInt = b % 16 := by
  refine i32_of_n ?_ (by omega) (by omega)
  have e : ((i32 b &&& i32 15).toBitVec).toNat = (i32 b).toBitVec.toNat % 16 := by
    show ((i32 b).toBitVec &&& (i32 15).toBitVec).toNat = _
    rw [BitVec.toNat_and]
    exact Nat.and_two_pow_sub_one_eq_mod (i32 b).toBitVec.toNat 4
  have g := i32_n (x := b) (by omega) (by omega)
  rw [e]
  omega
theorem or_nib {o q : Int} (h0 : -2147483648 ≤ o) (h1 : o ≤ 2147483647) (hm : o % 16 = 0) (q0 : 0 ≤ q) (q1 : q ≤ 15) : (i32 o ||| i32 q).toInt = o + q := by
  have g := i32_n h0 h1
  have gq := i32_n (x := q) (by omega) (by omega)
  refine i32_of_n ?_ (by omega) (by omega)
  have e : ((i32 o ||| i32 q).toBitVec).toNat = (i32 o).toBitVec.toNat ||| (i32 q).toBitVec.toNat := by
    show ((i32 o).toBitVec ||| (i32 q).toBitVec).toNat = _
    exact BitVec.toNat_or ..
  have e2 : (i32 o).toBitVec.toNat ||| (i32 q).toBitVec.toNat = (i32 o).toBitVec.toNat + (i32 q).toBitVec.toNat := by
    have hk : (i32 o).toBitVec.toNat = ((i32 o).toBitVec.toNat / 16) <<< 4 := by
      rw [Nat.shiftLeft_eq]
      omega
    rw [hk]
    exact (Nat.shiftLeft_add_eq_or_of_lt (by omega) _).symm
  rw [e, e2]
  omega
theorem shl_4w {o : Int} (h0 : -2147483648 ≤ o) (h1 : o ≤ 2147483647) (h2 : -2147483648 ≤ 16 * o) (h3 : 16 * o ≤ 2147483647) : (i32 o <<< (i32 4 &&& 31)).toInt = 16 * o := by
  have g := i32_n h0 h1
  refine i32_of_n ?_ h2 h3
  have e : ((i32 o <<< (i32 4 &&& 31)).toBitVec).toNat = (i32 o).toBitVec.toNat <<< 4 % 2 ^ 32 := by
    show ((i32 o).toBitVec <<< 4).toNat = _
    exact BitVec.toNat_shiftLeft ..
  rw [e, Nat.shiftLeft_eq]
  omega
