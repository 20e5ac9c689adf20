/-! instructions in J's logic: ints as i32 of a number -/
abbrev i32 (z : Int) : Int32 := Int32.ofInt z
abbrev i64 (z : Int) : Int64 := Int64.ofInt z
theorem i32_to {z : Int} (h1 : -2147483648 ≤ z) (h2 : z ≤ 2147483647) : (i32 z).toInt = z := Int32.toInt_ofInt_of_le (by omega) (by omega)
theorem i32_nat {z : Int} (h1 : 0 ≤ z) (h2 : z ≤ 2147483647) : (i32 z).toNatClampNeg = z.toNat := Int32.toNatClampNeg_ofInt_of_le (by omega) (by omega)
theorem i32_of (x : Int32) : i32 x.toInt = x := Int32.ofInt_toInt x
theorem i32_in {z : Int} {n : Nat} (h1 : 0 ≤ z) (h2 : z < n) (h3 : n ≤ 2147483647) : jIn (i32 z) n = true := by
  have h : (i32 z).toInt = z := i32_to (by omega) (by omega)
  have h0 : ¬ (i32 z < 0) := fun hh => by
    have := Int32.lt_iff_toInt_lt.mp hh
    rw [h] at this
    have h4 : (0 : Int32).toInt = 0 := rfl
    omega
  unfold jIn
  rw [i32_nat h1 (by omega)]
  simp only [h0, decide_false, Bool.not_false, Bool.true_and, decide_eq_true_eq]
  omega
theorem jx_ld {X : jX} {d : Nat} {e : jM} {pc pc_q : Nat} {i : Instr} {n : Nat} {l l_q : jL} {st st_q : List Value} {V : jH} {Q : jO → jH → Prop} (h1 : jGet' e pc = some (i, n)) (h2 : jLoad i n pc e.2.2.2.1 l st = some (pc_q, l_q, st_q)) (k : wj X d e (pc_q, l_q, st_q, V) Q) : wj X d e (pc, l, st, V) Q := by
  refine wj_step (fun call => ?_) k
  unfold jStep
  simp only [h1, h2]
theorem jx_ar {X : jX} {d : Nat} {e : jM} {pc pc_q : Nat} {i : Instr} {n : Nat} {l : jL} {st st_q : List Value} {V : jH} {Q : jO → jH → Prop} (h1 : jGet' e pc = some (i, n)) (h2 : jLoad i n pc e.2.2.2.1 l st = none) (h3 : jArith i n st = some st_q) (hp : pc + n = pc_q) (k : wj X d e (pc_q, l, st_q, V) Q) : wj X d e (pc, l, st, V) Q := by
  subst hp
  refine wj_step (fun call => ?_) k
  unfold jStep
  simp only [h1, h2, h3]
theorem jx_br {X : jX} {d : Nat} {e : jM} {pc pc_q : Nat} {i : Instr} {n : Nat} {l : jL} {st st_q : List Value} {V : jH} {Q : jO → jH → Prop} (h1 : jGet' e pc = some (i, n)) (h2 : jLoad i n pc e.2.2.2.1 l st = none) (h3 : jArith i n st = none) (h4 : jBranch i n pc st = some (pc_q, st_q)) (k : wj X d e (pc_q, l, st_q, V) Q) : wj X d e (pc, l, st, V) Q := by
  refine wj_step (fun call => ?_) k
  unfold jStep
  simp only [h1, h2, h3, h4]
theorem jx_hp {X : jX} {d : Nat} {e : jM} {pc pc_q : Nat} {i : Instr} {n : Nat} {l : jL} {st st_q : List Value} {V V_q : jH} {Q : jO → jH → Prop} (h1 : jGet' e pc = some (i, n)) (h2 : jLoad i n pc e.2.2.2.1 l st = none) (h3 : jArith i n st = none) (h4 : jBranch i n pc st = none) (h5 : jHeap X e.2.1 (e.1.name == "<init>") i n st V = some (st_q, V_q)) (hp : pc + n = pc_q) (k : wj X d e (pc_q, l, st_q, V_q) Q) : wj X d e (pc, l, st, V) Q := by
  subst hp
  refine wj_step (fun call => ?_) k
  unfold jStep
  simp only [h1, h2, h3, h4, h5]
theorem jx_rt {X : jX} {d : Nat} {e : jM} {pc : Nat} {i : Instr} {n : Nat} {l : jL} {st : List Value} {V : jH} {v : Option Value} {Q : jO → jH → Prop} (h1 : jGet' e pc = some (i, n)) (h2 : jLoad i n pc e.2.2.2.1 l st = none) (h3 : jArith i n st = none) (h4 : jBranch i n pc st = none) (h5 : jHeap X e.2.1 (e.1.name == "<init>") i n st V = none) (h6 : jRet i n e.2.2.2.2.1 st = some v) (hq : Q (.inl v) V) : wj X d e (pc, l, st, V) Q := by
  refine wj_out (o := .inl v) (V := V) (fun call => ?_) hq
  unfold jStep
  simp only [h1, h2, h3, h4, h5, h6]
theorem jx_add {X : jX} {d : Nat} {e : jM} {pc pc_q : Nat} {l : jL} {st : List Value} {V : jH} {Q : jO → jH → Prop} {x y : Int} (h1 : jGet' e pc = some (.iadd, 1)) (hp : pc + 1 = pc_q) (k : wj X d e (pc_q, l, .int (i32 (x + y)) :: st, V) Q) : wj X d e (pc, l, .int (i32 y) :: .int (i32 x) :: st, V) Q := jx_ar h1 rfl (by rw [show i32 (x + y) = i32 x + i32 y from Int32.ofInt_add x y]; rfl) hp k
theorem jx_sub {X : jX} {d : Nat} {e : jM} {pc pc_q : Nat} {l : jL} {st : List Value} {V : jH} {Q : jO → jH → Prop} {x y : Int} (h1 : jGet' e pc = some (.isub, 1)) (hp : pc + 1 = pc_q) (k : wj X d e (pc_q, l, .int (i32 (x - y)) :: st, V) Q) : wj X d e (pc, l, .int (i32 y) :: .int (i32 x) :: st, V) Q := jx_ar h1 rfl (by rw [show i32 (x - y) = i32 x - i32 y from Int32.ofInt_sub x y]; rfl) hp k
theorem jx_mul {X : jX} {d : Nat} {e : jM} {pc pc_q : Nat} {l : jL} {st : List Value} {V : jH} {Q : jO → jH → Prop} {x y : Int} (h1 : jGet' e pc = some (.imul, 1)) (hp : pc + 1 = pc_q) (k : wj X d e (pc_q, l, .int (i32 (x * y)) :: st, V) Q) : wj X d e (pc, l, .int (i32 y) :: .int (i32 x) :: st, V) Q := jx_ar h1 rfl (by rw [show i32 (x * y) = i32 x * i32 y from Int32.ofInt_mul x y]; rfl) hp k
theorem jx_and {X : jX} {d : Nat} {e : jM} {pc pc_q : Nat} {l : jL} {st : List Value} {V : jH} {Q : jO → jH → Prop} {x y : Int} (h1 : jGet' e pc = some (.iand, 1)) (hp : pc + 1 = pc_q) (k : wj X d e (pc_q, l, .int (i32 ((i32 x &&& i32 y).toInt)) :: st, V) Q) : wj X d e (pc, l, .int (i32 y) :: .int (i32 x) :: st, V) Q := jx_ar h1 rfl (by rw [show i32 ((i32 x &&& i32 y).toInt) = i32 x &&& i32 y from i32_of _]; rfl) hp k
theorem jx_or {X : jX} {d : Nat} {e : jM} {pc pc_q : Nat} {l : jL} {st : List Value} {V : jH} {Q : jO → jH → Prop} {x y : Int} (h1 : jGet' e pc = some (.ior, 1)) (hp : pc + 1 = pc_q) (k : wj X d e (pc_q, l, .int (i32 ((i32 x ||| i32 y).toInt)) :: st, V) Q) : wj X d e (pc, l, .int (i32 y) :: .int (i32 x) :: st, V) Q := jx_ar h1 rfl (by rw [show i32 ((i32 x ||| i32 y).toInt) = i32 x ||| i32 y from i32_of _]; rfl) hp k
theorem jx_xor {X : jX} {d : Nat} {e : jM} {pc pc_q : Nat} {l : jL} {st : List Value} {V : jH} {Q : jO → jH → Prop} {x y : Int} (h1 : jGet' e pc = some (.ixor, 1)) (hp : pc + 1 = pc_q) (k : wj X d e (pc_q, l, .int (i32 ((i32 x ^^^ i32 y).toInt)) :: st, V) Q) : wj X d e (pc, l, .int (i32 y) :: .int (i32 x) :: st, V) Q := jx_ar h1 rfl (by rw [show i32 ((i32 x ^^^ i32 y).toInt) = i32 x ^^^ i32 y from i32_of _]; rfl) hp k
theorem jx_shl {X : jX} {d : Nat} {e : jM} {pc pc_q : Nat} {l : jL} {st : List Value} {V : jH} {Q : jO → jH → Prop} {x y : Int} (h1 : jGet' e pc = some (.ishl, 1)) (hp : pc + 1 = pc_q) (k : wj X d e (pc_q, l, .int (i32 ((i32 x <<< (i32 y &&& 31)).toInt)) :: st, V) Q) : wj X d e (pc, l, .int (i32 y) :: .int (i32 x) :: st, V) Q := jx_ar h1 rfl (by rw [show i32 ((i32 x <<< (i32 y &&& 31)).toInt) = i32 x <<< (i32 y &&& 31) from i32_of _]; rfl) hp k
theorem jx_shr {X : jX} {d : Nat} {e : jM} {pc pc_q : Nat} {l : jL} {st : List Value} {V : jH} {Q : jO → jH → Prop} {x y : Int} (h1 : jGet' e pc = some (.ishr, 1)) (hp : pc + 1 = pc_q) (k : wj X d e (pc_q, l, .int (i32 ((i32 x >>> (i32 y &&& 31)).toInt)) :: st, V) Q) : wj X d e (pc, l, .int (i32 y) :: .int (i32 x) :: st, V) Q := jx_ar h1 rfl (by rw [show i32 ((i32 x >>> (i32 y &&& 31)).toInt) = i32 x >>> (i32 y &&& 31) from i32_of _]; rfl) hp k
theorem jx_neg {X : jX} {d : Nat} {e : jM} {pc pc_q : Nat} {l : jL} {st : List Value} {V : jH} {Q : jO → jH → Prop} {x : Int} (h1 : jGet' e pc = some (.ineg, 1)) (hp : pc + 1 = pc_q) (k : wj X d e (pc_q, l, .int (i32 (-x)) :: st, V) Q) : wj X d e (pc, l, .int (i32 x) :: st, V) Q := jx_ar h1 rfl (by rw [show i32 (-x) = - i32 x from Int32.ofInt_neg x]; rfl) hp k
theorem i32_lt {x y : Int} (a : -2147483648 ≤ x) (b : x ≤ 2147483647) (a_q : -2147483648 ≤ y) (b_q : y ≤ 2147483647) : i32 x < i32 y ↔ x < y := by rw [Int32.lt_iff_toInt_lt, i32_to a b, i32_to a_q b_q]
theorem i32_le {x y : Int} (a : -2147483648 ≤ x) (b : x ≤ 2147483647) (a_q : -2147483648 ≤ y) (b_q : y ≤ 2147483647) : i32 x ≤ i32 y ↔ x ≤ y := by rw [Int32.le_iff_toInt_le, i32_to a b, i32_to a_q b_q]
theorem i32_eq {x y : Int} (a : -2147483648 ≤ x) (b : x ≤ 2147483647) (a_q : -2147483648 ≤ y) (b_q : y ≤ 2147483647) : i32 x = i32 y ↔ x = y := by rw [← Int32.toInt_inj, i32_to a b, i32_to a_q b_q]
theorem i32_0 : (0 : Int32) = i32 0 := by decide
theorem jc_eq {x y : Int} (a : -2147483648 ≤ x) (b : x ≤ 2147483647) (a2 : -2147483648 ≤ y) (b2 : y ≤ 2147483647) : Op.if_icmp.holds .eq (i32 x) (i32 y) = true ↔ x = y := by
  have h := i32_eq a b a2 b2
  simp only [Op.if_icmp.holds, beq_iff_eq, h]
theorem jx_icmp_eq {X : jX} {d : Nat} {e : jM} {pc pc_q : Nat} {l : jL} {st : List Value} {V : jH} {Q : jO → jH → Prop} {tg : Nat} {x y off : Int} (h1 : jGet' e pc = some (.if_icmp .eq off, 3)) (ht : jTgt pc off = some tg) (hp : pc + 3 = pc_q) (a : -2147483648 ≤ x) (b : x ≤ 2147483647) (a2 : -2147483648 ≤ y) (b2 : y ≤ 2147483647) (kt : x = y → wj X d e (tg, l, st, V) Q) (kf : ¬ x = y → wj X d e (pc_q, l, st, V) Q) : wj X d e (pc, l, .int (i32 y) :: .int (i32 x) :: st, V) Q := by
  have hc := jc_eq a b a2 b2
  by_cases h : x = y
  · refine jx_br h1 rfl rfl ?_ (kt h)
    simp only [jBranch, hc.mpr h, if_true, ht, Option.map_some]
  · subst hp
    refine jx_br h1 rfl rfl ?_ (kf (by omega))
    simp only [jBranch, if_neg (fun q => h (hc.mp q))]
theorem jx_if_eq {X : jX} {d : Nat} {e : jM} {pc pc_q : Nat} {l : jL} {st : List Value} {V : jH} {Q : jO → jH → Prop} {tg : Nat} {x off : Int} (h1 : jGet' e pc = some (.ifCond .eq off, 3)) (ht : jTgt pc off = some tg) (hp : pc + 3 = pc_q) (a : -2147483648 ≤ x) (b : x ≤ 2147483647) (kt : x = 0 → wj X d e (tg, l, st, V) Q) (kf : ¬ x = 0 → wj X d e (pc_q, l, st, V) Q) : wj X d e (pc, l, .int (i32 x) :: st, V) Q := by
  have hc : Op.ifCond.holds .eq (i32 x) = true ↔ x = 0 := by
    have h := jc_eq (y := 0) a b (by omega) (by omega)
    simp only [Op.if_icmp.holds] at h
    simp only [Op.ifCond.holds, i32_0]
    exact h
  by_cases h : x = 0
  · refine jx_br h1 rfl rfl ?_ (kt h)
    simp only [jBranch, hc.mpr h, if_true, ht, Option.map_some]
  · subst hp
    refine jx_br h1 rfl rfl ?_ (kf (by omega))
    simp only [jBranch, if_neg (fun q => h (hc.mp q))]
theorem jc_ne {x y : Int} (a : -2147483648 ≤ x) (b : x ≤ 2147483647) (a2 : -2147483648 ≤ y) (b2 : y ≤ 2147483647) : Op.if_icmp.holds .ne (i32 x) (i32 y) = true ↔ ¬ x = y := by
  have h := i32_eq a b a2 b2
  simp only [Op.if_icmp.holds, bne_iff_ne, ne_eq, h]
theorem jx_icmp_ne {X : jX} {d : Nat} {e : jM} {pc pc_q : Nat} {l : jL} {st : List Value} {V : jH} {Q : jO → jH → Prop} {tg : Nat} {x y off : Int} (h1 : jGet' e pc = some (.if_icmp .ne off, 3)) (ht : jTgt pc off = some tg) (hp : pc + 3 = pc_q) (a : -2147483648 ≤ x) (b : x ≤ 2147483647) (a2 : -2147483648 ≤ y) (b2 : y ≤ 2147483647) (kt : ¬ x = y → wj X d e (tg, l, st, V) Q) (kf : x = y → wj X d e (pc_q, l, st, V) Q) : wj X d e (pc, l, .int (i32 y) :: .int (i32 x) :: st, V) Q := by
  have hc := jc_ne a b a2 b2
  by_cases h : ¬ x = y
  · refine jx_br h1 rfl rfl ?_ (kt h)
    simp only [jBranch, hc.mpr h, if_true, ht, Option.map_some]
  · subst hp
    refine jx_br h1 rfl rfl ?_ (kf (by omega))
    simp only [jBranch, if_neg (fun q => h (hc.mp q))]
theorem jx_if_ne {X : jX} {d : Nat} {e : jM} {pc pc_q : Nat} {l : jL} {st : List Value} {V : jH} {Q : jO → jH → Prop} {tg : Nat} {x off : Int} (h1 : jGet' e pc = some (.ifCond .ne off, 3)) (ht : jTgt pc off = some tg) (hp : pc + 3 = pc_q) (a : -2147483648 ≤ x) (b : x ≤ 2147483647) (kt : ¬ x = 0 → wj X d e (tg, l, st, V) Q) (kf : x = 0 → wj X d e (pc_q, l, st, V) Q) : wj X d e (pc, l, .int (i32 x) :: st, V) Q := by
  have hc : Op.ifCond.holds .ne (i32 x) = true ↔ ¬ x = 0 := by
    have h := jc_ne (y := 0) a b (by omega) (by omega)
    simp only [Op.if_icmp.holds] at h
    simp only [Op.ifCond.holds, i32_0]
    exact h
  by_cases h : ¬ x = 0
  · refine jx_br h1 rfl rfl ?_ (kt h)
    simp only [jBranch, hc.mpr h, if_true, ht, Option.map_some]
  · subst hp
    refine jx_br h1 rfl rfl ?_ (kf (by omega))
    simp only [jBranch, if_neg (fun q => h (hc.mp q))]
theorem jc_lt {x y : Int} (a : -2147483648 ≤ x) (b : x ≤ 2147483647) (a2 : -2147483648 ≤ y) (b2 : y ≤ 2147483647) : Op.if_icmp.holds .lt (i32 x) (i32 y) = true ↔ x < y := by
  have h := i32_lt a b a2 b2
  simp only [Op.if_icmp.holds, decide_eq_true_eq, h]
theorem jx_icmp_lt {X : jX} {d : Nat} {e : jM} {pc pc_q : Nat} {l : jL} {st : List Value} {V : jH} {Q : jO → jH → Prop} {tg : Nat} {x y off : Int} (h1 : jGet' e pc = some (.if_icmp .lt off, 3)) (ht : jTgt pc off = some tg) (hp : pc + 3 = pc_q) (a : -2147483648 ≤ x) (b : x ≤ 2147483647) (a2 : -2147483648 ≤ y) (b2 : y ≤ 2147483647) (kt : x < y → wj X d e (tg, l, st, V) Q) (kf : y ≤ x → wj X d e (pc_q, l, st, V) Q) : wj X d e (pc, l, .int (i32 y) :: .int (i32 x) :: st, V) Q := by
  have hc := jc_lt a b a2 b2
  by_cases h : x < y
  · refine jx_br h1 rfl rfl ?_ (kt h)
    simp only [jBranch, hc.mpr h, if_true, ht, Option.map_some]
  · subst hp
    refine jx_br h1 rfl rfl ?_ (kf (by omega))
    simp only [jBranch, if_neg (fun q => h (hc.mp q))]
theorem jx_if_lt {X : jX} {d : Nat} {e : jM} {pc pc_q : Nat} {l : jL} {st : List Value} {V : jH} {Q : jO → jH → Prop} {tg : Nat} {x off : Int} (h1 : jGet' e pc = some (.ifCond .lt off, 3)) (ht : jTgt pc off = some tg) (hp : pc + 3 = pc_q) (a : -2147483648 ≤ x) (b : x ≤ 2147483647) (kt : x < 0 → wj X d e (tg, l, st, V) Q) (kf : 0 ≤ x → wj X d e (pc_q, l, st, V) Q) : wj X d e (pc, l, .int (i32 x) :: st, V) Q := by
  have hc : Op.ifCond.holds .lt (i32 x) = true ↔ x < 0 := by
    have h := jc_lt (y := 0) a b (by omega) (by omega)
    simp only [Op.if_icmp.holds] at h
    simp only [Op.ifCond.holds, i32_0]
    exact h
  by_cases h : x < 0
  · refine jx_br h1 rfl rfl ?_ (kt h)
    simp only [jBranch, hc.mpr h, if_true, ht, Option.map_some]
  · subst hp
    refine jx_br h1 rfl rfl ?_ (kf (by omega))
    simp only [jBranch, if_neg (fun q => h (hc.mp q))]
theorem jc_ge {x y : Int} (a : -2147483648 ≤ x) (b : x ≤ 2147483647) (a2 : -2147483648 ≤ y) (b2 : y ≤ 2147483647) : Op.if_icmp.holds .ge (i32 x) (i32 y) = true ↔ y ≤ x := by
  have h := i32_le a2 b2 a b
  simp only [Op.if_icmp.holds, ge_iff_le, decide_eq_true_eq, h]
theorem jx_icmp_ge {X : jX} {d : Nat} {e : jM} {pc pc_q : Nat} {l : jL} {st : List Value} {V : jH} {Q : jO → jH → Prop} {tg : Nat} {x y off : Int} (h1 : jGet' e pc = some (.if_icmp .ge off, 3)) (ht : jTgt pc off = some tg) (hp : pc + 3 = pc_q) (a : -2147483648 ≤ x) (b : x ≤ 2147483647) (a2 : -2147483648 ≤ y) (b2 : y ≤ 2147483647) (kt : y ≤ x → wj X d e (tg, l, st, V) Q) (kf : x < y → wj X d e (pc_q, l, st, V) Q) : wj X d e (pc, l, .int (i32 y) :: .int (i32 x) :: st, V) Q := by
  have hc := jc_ge a b a2 b2
  by_cases h : y ≤ x
  · refine jx_br h1 rfl rfl ?_ (kt h)
    simp only [jBranch, hc.mpr h, if_true, ht, Option.map_some]
  · subst hp
    refine jx_br h1 rfl rfl ?_ (kf (by omega))
    simp only [jBranch, if_neg (fun q => h (hc.mp q))]
theorem jx_if_ge {X : jX} {d : Nat} {e : jM} {pc pc_q : Nat} {l : jL} {st : List Value} {V : jH} {Q : jO → jH → Prop} {tg : Nat} {x off : Int} (h1 : jGet' e pc = some (.ifCond .ge off, 3)) (ht : jTgt pc off = some tg) (hp : pc + 3 = pc_q) (a : -2147483648 ≤ x) (b : x ≤ 2147483647) (kt : 0 ≤ x → wj X d e (tg, l, st, V) Q) (kf : x < 0 → wj X d e (pc_q, l, st, V) Q) : wj X d e (pc, l, .int (i32 x) :: st, V) Q := by
  have hc : Op.ifCond.holds .ge (i32 x) = true ↔ 0 ≤ x := by
    have h := jc_ge (y := 0) a b (by omega) (by omega)
    simp only [Op.if_icmp.holds] at h
    simp only [Op.ifCond.holds, i32_0]
    exact h
  by_cases h : 0 ≤ x
  · refine jx_br h1 rfl rfl ?_ (kt h)
    simp only [jBranch, hc.mpr h, if_true, ht, Option.map_some]
  · subst hp
    refine jx_br h1 rfl rfl ?_ (kf (by omega))
    simp only [jBranch, if_neg (fun q => h (hc.mp q))]
theorem jc_gt {x y : Int} (a : -2147483648 ≤ x) (b : x ≤ 2147483647) (a2 : -2147483648 ≤ y) (b2 : y ≤ 2147483647) : Op.if_icmp.holds .gt (i32 x) (i32 y) = true ↔ y < x := by
  have h := i32_lt a2 b2 a b
  simp only [Op.if_icmp.holds, gt_iff_lt, decide_eq_true_eq, h]
theorem jx_icmp_gt {X : jX} {d : Nat} {e : jM} {pc pc_q : Nat} {l : jL} {st : List Value} {V : jH} {Q : jO → jH → Prop} {tg : Nat} {x y off : Int} (h1 : jGet' e pc = some (.if_icmp .gt off, 3)) (ht : jTgt pc off = some tg) (hp : pc + 3 = pc_q) (a : -2147483648 ≤ x) (b : x ≤ 2147483647) (a2 : -2147483648 ≤ y) (b2 : y ≤ 2147483647) (kt : y < x → wj X d e (tg, l, st, V) Q) (kf : x ≤ y → wj X d e (pc_q, l, st, V) Q) : wj X d e (pc, l, .int (i32 y) :: .int (i32 x) :: st, V) Q := by
  have hc := jc_gt a b a2 b2
  by_cases h : y < x
  · refine jx_br h1 rfl rfl ?_ (kt h)
    simp only [jBranch, hc.mpr h, if_true, ht, Option.map_some]
  · subst hp
    refine jx_br h1 rfl rfl ?_ (kf (by omega))
    simp only [jBranch, if_neg (fun q => h (hc.mp q))]
theorem jx_if_gt {X : jX} {d : Nat} {e : jM} {pc pc_q : Nat} {l : jL} {st : List Value} {V : jH} {Q : jO → jH → Prop} {tg : Nat} {x off : Int} (h1 : jGet' e pc = some (.ifCond .gt off, 3)) (ht : jTgt pc off = some tg) (hp : pc + 3 = pc_q) (a : -2147483648 ≤ x) (b : x ≤ 2147483647) (kt : 0 < x → wj X d e (tg, l, st, V) Q) (kf : x ≤ 0 → wj X d e (pc_q, l, st, V) Q) : wj X d e (pc, l, .int (i32 x) :: st, V) Q := by
  have hc : Op.ifCond.holds .gt (i32 x) = true ↔ 0 < x := by
    have h := jc_gt (y := 0) a b (by omega) (by omega)
    simp only [Op.if_icmp.holds] at h
    simp only [Op.ifCond.holds, i32_0]
    exact h
  by_cases h : 0 < x
  · refine jx_br h1 rfl rfl ?_ (kt h)
    simp only [jBranch, hc.mpr h, if_true, ht, Option.map_some]
  · subst hp
    refine jx_br h1 rfl rfl ?_ (kf (by omega))
    simp only [jBranch, if_neg (fun q => h (hc.mp q))]
theorem jc_le {x y : Int} (a : -2147483648 ≤ x) (b : x ≤ 2147483647) (a2 : -2147483648 ≤ y) (b2 : y ≤ 2147483647) : Op.if_icmp.holds .le (i32 x) (i32 y) = true ↔ x ≤ y := by
  have h := i32_le a b a2 b2
  simp only [Op.if_icmp.holds, decide_eq_true_eq, h]
theorem jx_icmp_le {X : jX} {d : Nat} {e : jM} {pc pc_q : Nat} {l : jL} {st : List Value} {V : jH} {Q : jO → jH → Prop} {tg : Nat} {x y off : Int} (h1 : jGet' e pc = some (.if_icmp .le off, 3)) (ht : jTgt pc off = some tg) (hp : pc + 3 = pc_q) (a : -2147483648 ≤ x) (b : x ≤ 2147483647) (a2 : -2147483648 ≤ y) (b2 : y ≤ 2147483647) (kt : x ≤ y → wj X d e (tg, l, st, V) Q) (kf : y < x → wj X d e (pc_q, l, st, V) Q) : wj X d e (pc, l, .int (i32 y) :: .int (i32 x) :: st, V) Q := by
  have hc := jc_le a b a2 b2
  by_cases h : x ≤ y
  · refine jx_br h1 rfl rfl ?_ (kt h)
    simp only [jBranch, hc.mpr h, if_true, ht, Option.map_some]
  · subst hp
    refine jx_br h1 rfl rfl ?_ (kf (by omega))
    simp only [jBranch, if_neg (fun q => h (hc.mp q))]
theorem jx_if_le {X : jX} {d : Nat} {e : jM} {pc pc_q : Nat} {l : jL} {st : List Value} {V : jH} {Q : jO → jH → Prop} {tg : Nat} {x off : Int} (h1 : jGet' e pc = some (.ifCond .le off, 3)) (ht : jTgt pc off = some tg) (hp : pc + 3 = pc_q) (a : -2147483648 ≤ x) (b : x ≤ 2147483647) (kt : x ≤ 0 → wj X d e (tg, l, st, V) Q) (kf : 0 < x → wj X d e (pc_q, l, st, V) Q) : wj X d e (pc, l, .int (i32 x) :: st, V) Q := by
  have hc : Op.ifCond.holds .le (i32 x) = true ↔ x ≤ 0 := by
    have h := jc_le (y := 0) a b (by omega) (by omega)
    simp only [Op.if_icmp.holds] at h
    simp only [Op.ifCond.holds, i32_0]
    exact h
  by_cases h : x ≤ 0
  · refine jx_br h1 rfl rfl ?_ (kt h)
    simp only [jBranch, hc.mpr h, if_true, ht, Option.map_some]
  · subst hp
    refine jx_br h1 rfl rfl ?_ (kf (by omega))
    simp only [jBranch, if_neg (fun q => h (hc.mp q))]
theorem jx_go {X : jX} {d : Nat} {e : jM} {pc : Nat} {l : jL} {st : List Value} {V : jH} {Q : jO → jH → Prop} {tg : Nat} {off : Int} (h1 : jGet' e pc = some (.goto off, 3)) (ht : jTgt pc off = some tg) (k : wj X d e (tg, l, st, V) Q) : wj X d e (pc, l, st, V) Q := jx_br h1 rfl rfl (by simp only [jBranch, ht, Option.map_some]) k
/-- a static call -/
theorem jx_st {X : jX} {d : Nat} {e : jM} {pc pc_q t na k0 : Nat} {l : jL} {st0 st as : List Value} {V : jH} {Q Q_q : jO → jH → Prop} (h1 : jGet' e pc = some (.invokestatic k0, 3)) (h2 : jFind jCl e.2.1 k0 = some (1, t, na)) (h3 : (st0.take na).length = na ∧ jSum (st0.drop na) ≤ 8) (h4 : (st0.take na).reverse = as) (h5 : st0.drop na = st) (hp : pc + 3 = pc_q) (hk : wk X d t as V Q_q) (k : ∀ o V_q, Q_q o V_q → (o = .inl none ∧ wj X d e (pc_q, l, st, V_q) Q) ∨ (∃ v, o = .inl (some v) ∧ wj X d e (pc_q, l, v :: st, V_q) Q)) : wj X d e (pc, l, st0, V) Q := by
  subst hp h4 h5
  refine wj_call (t := t) (pc := pc) (l := l) (st := st0.drop na) (V := V) (fun call r hr => ?_) hk (fun o V_q hq => ?_)
  · have hi : jInvoke call e e.2.1 (.invokestatic k0) 3 pc l st0 V = some r := by
      simp only [jInvoke, h2, if_pos h3]
      exact hr
    unfold jStep
    simp only [h1, jLoad, jArith, jBranch, jHeap, jRet, hi]
  · rcases k o V_q hq with h | h
    · exact .inl h
    · exact .inr (.inl h)
/-- a call of an object's method -/
theorem jx_vi {X : jX} {d : Nat} {e f : jM} {pc pc_q t na k0 a : Nat} {l : jL} {st0 st as : List Value} {V : jH} {ob : Nat × List Value} {Q Q_q : jO → jH → Prop} (h1 : jGet' e pc = some (.invokevirtual k0, 3)) (h2 : jFind jCl e.2.1 k0 = some (0, t, na)) (h3 : st0.drop na = .ref a :: st) (h4 : jAt V a = some (.inr ob)) (h5 : jMs[t]? = some f) (h6 : (st0.take na).length = na ∧ ob.1 = f.2.1 ∧ jSum st ≤ 8) (h7 : (st0.take na).reverse = as) (hp : pc + 3 = pc_q) (hk : wk X d t (.ref a :: as) V Q_q) (k : ∀ o V_q, Q_q o V_q → (o = .inl none ∧ wj X d e (pc_q, l, st, V_q) Q) ∨ (∃ v, o = .inl (some v) ∧ wj X d e (pc_q, l, v :: st, V_q) Q)) : wj X d e (pc, l, st0, V) Q := by
  subst hp h7
  refine wj_call (t := t) (pc := pc) (l := l) (st := st) (V := V) (fun call r hr => ?_) hk (fun o V_q hq => ?_)
  · have hi : jInvoke call e e.2.1 (.invokevirtual k0) 3 pc l st0 V = some r := by
      simp only [jInvoke, h2, h3, h4, h5, if_pos h6]
      exact hr
    unfold jStep
    simp only [h1, jLoad, jArith, jBranch, jHeap, jRet, hi]
  · rcases k o V_q hq with h | h
    · exact .inl h
    · exact .inr (.inl h)
theorem i32_rg (x : Int32) : -2147483648 ≤ x.toInt ∧ x.toInt ≤ 2147483647 := ⟨x.le_toInt, by have := x.toInt_lt; omega⟩
theorem jx_inc {X : jX} {d : Nat} {e : jM} {pc pc_q a : Nat} {l l_q : jL} {st : List Value} {V : jH} {Q : jO → jH → Prop} {x c : Int} (h1 : jGet' e pc = some (.iinc a c, 3)) (h2 : jGet l a = some (.int (i32 x))) (h3 : a < e.2.2.2.1) (hl : jSto1 l a (.int (i32 (x + c))) = l_q) (hp : pc + 3 = pc_q) (k : wj X d e (pc_q, l_q, st, V) Q) : wj X d e (pc, l, st, V) Q := by
  subst hp hl
  refine jx_ld h1 ?_ k
  simp only [jLoad, h2, if_pos h3, show i32 (x + c) = i32 x + Int32.ofInt c from Int32.ofInt_add x c]
theorem jRet_b {z : Int} (h : z = 0 ∨ z = 1) : jRet .ireturn 1 (some .boolean) [.int (i32 z)] = some (some (.int (i32 z))) := by
  rcases h with h | h <;> subst h <;> rfl
