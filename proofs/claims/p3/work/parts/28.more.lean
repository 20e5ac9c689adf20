/-! longs, texts, switches, division in J's logic -/
theorem i64_of (x : Int64) : i64 x.toInt = x := Int64.ofInt_toInt x
theorem i64_rg (x : Int64) : -9223372036854775808 ≤ x.toInt ∧ x.toInt ≤ 9223372036854775807 := ⟨x.le_toInt, by have := x.toInt_lt; omega⟩
theorem jl_lloadn {l : jL} {a : Fin 4} {n m : Nat} {x : Int64} {st : List Value} (h : jGet l a.val = some (.long x)) : jLoad (.lload_n a) 1 n m l st = some (n + 1, l, .long x :: st) := by
  simp only [jLoad, h]
theorem jl_lload {l : jL} {a n m : Nat} {x : Int64} {st : List Value} (h : jGet l a = some (.long x)) : jLoad (.lload a) 2 n m l st = some (n + 2, l, .long x :: st) := by
  simp only [jLoad, h]
theorem jg_nel {l : jL} {i j : Nat} {v u : Value} (h : i ≠ j) (g : jGet l j = some u) (h2 : i ≠ j + 1) : jGet (jSto1 l i v) j = some u := by
  unfold jGet at g ⊢
  obtain ⟨x, hx, rfl⟩ := Option.map_eq_some_iff.mp g
  have hj : x.1 = j := by simpa using List.find?_some hx
  have hi : (x.1 == i) = false := by
    rw [hj]
    simpa using fun q : j = i => h q.symm
  have hi2 : (x.1 + 1 == i) = false := by
    rw [hj]
    simpa using fun q : j + 1 = i => h2 q.symm
  unfold jSto1
  have h4 : ((i, v).1 == j) = false := by simpa using h
  rw [List.find?_cons, h4]
  simp only
  rw [jg_flt (x := x) (by simp [hi, hi2]) hx]
  rfl
theorem jg_eq2 {l : jL} {i : Nat} {v : Value} : jGet (jSto2 l i v) i = some v := by
  simp [jGet, jSto2]
theorem jg_ne2 {l : jL} {i j : Nat} {v u : Value} (h : i ≠ j) (h1 : i + 1 ≠ j) (g : jGet l j = some u) (h2 : (u.category == 2) = false ∨ i ≠ j + 1) : jGet (jSto2 l i v) j = some u := by
  unfold jGet at g ⊢
  obtain ⟨x, hx, rfl⟩ := Option.map_eq_some_iff.mp g
  have hj : x.1 = j := by simpa using List.find?_some hx
  have hi : (x.1 == i) = false := by
    rw [hj]
    simpa using fun q : j = i => h q.symm
  have hi1 : (x.1 == i + 1) = false := by
    rw [hj]
    simpa using fun q : j = i + 1 => h1 q.symm
  have hi2 : (x.1 + 1 == i && x.2.category == 2) = false := by
    rcases h2 with h2 | h2
    · rw [h2, Bool.and_false]
    · have : (x.1 + 1 == i) = false := by
        rw [hj]
        simpa using fun q : j + 1 = i => h2 q.symm
      rw [this, Bool.false_and]
  unfold jSto2
  have h4 : ((i, v).1 == j) = false := by simpa using h
  rw [List.find?_cons, h4]
  simp only
  rw [jg_flt (x := x) (by simp only [hi, hi1, hi2]; rfl) hx]
  rfl
theorem jx_lcmp {X : jX} {d : Nat} {e : jM} {pc pc_q : Nat} {l : jL} {st : List Value} {V : jH} {Q : jO → jH → Prop} {x y : Int64} (h1 : jGet' e pc = some (.lcmp, 1)) (hp : pc + 1 = pc_q) (k : ∀ r : Int, -1 ≤ r ∧ r ≤ 1 → wj X d e (pc_q, l, .int (i32 r) :: st, V) Q) : wj X d e (pc, l, .long y :: .long x :: st, V) Q := by
  have : ∃ r : Int, (-1 ≤ r ∧ r ≤ 1) ∧ lg_cmp x y = i32 r := by
    unfold lg_cmp
    split
    · exact ⟨1, by omega, rfl⟩
    · split
      · exact ⟨0, by omega, rfl⟩
      · exact ⟨-1, by omega, by decide⟩
  obtain ⟨r, hr, e0⟩ := this
  exact jx_ar h1 rfl (by rw [← e0]; rfl) hp (k r hr)
theorem jx_l2i {X : jX} {d : Nat} {e : jM} {pc pc_q : Nat} {l : jL} {st : List Value} {V : jH} {Q : jO → jH → Prop} {x : Int64} (h1 : jGet' e pc = some (.l2i, 1)) (hp : pc + 1 = pc_q) (k : ∀ r : Int, -2147483648 ≤ r ∧ r ≤ 2147483647 → wj X d e (pc_q, l, .int (i32 r) :: st, V) Q) : wj X d e (pc, l, .long x :: st, V) Q := by
  refine jx_ar h1 rfl ?_ hp (k x.toInt32.toInt (i32_rg _))
  rw [i32_of]
  rfl
theorem jx_divw {X : jX} {d : Nat} {e : jM} {pc pc_q : Nat} {l : jL} {st : List Value} {V : jH} {Q : jO → jH → Prop} {x y : Int} (h1 : jGet' e pc = some (.idiv, 1)) (hp : pc + 1 = pc_q) (hy1 : -2147483648 ≤ y) (hy2 : y ≤ 2147483647) (hy : y ≠ 0) (k : ∀ r : Int, -2147483648 ≤ r ∧ r ≤ 2147483647 → wj X d e (pc_q, l, .int (i32 r) :: st, V) Q) : wj X d e (pc, l, .int (i32 y) :: .int (i32 x) :: st, V) Q := by
  have hn : ¬ i32 y = 0 := by
    rw [i32_0, i32_eq hy1 hy2 (by omega) (by omega)]
    exact hy
  refine jx_ar h1 rfl ?_ hp (k (i32 x / i32 y).toInt (i32_rg _))
  rw [i32_of]
  simp only [jArith, if_neg hn]
theorem jx_remw {X : jX} {d : Nat} {e : jM} {pc pc_q : Nat} {l : jL} {st : List Value} {V : jH} {Q : jO → jH → Prop} {x y : Int} (h1 : jGet' e pc = some (.irem, 1)) (hp : pc + 1 = pc_q) (hy1 : -2147483648 ≤ y) (hy2 : y ≤ 2147483647) (hy : y ≠ 0) (k : ∀ r : Int, -2147483648 ≤ r ∧ r ≤ 2147483647 → wj X d e (pc_q, l, .int (i32 r) :: st, V) Q) : wj X d e (pc, l, .int (i32 y) :: .int (i32 x) :: st, V) Q := by
  have hn : ¬ i32 y = 0 := by
    rw [i32_0, i32_eq hy1 hy2 (by omega) (by omega)]
    exact hy
  refine jx_ar h1 rfl ?_ hp (k (i32 x - i32 x / i32 y * i32 y).toInt (i32_rg _))
  rw [i32_of]
  simp only [jArith, if_neg hn]
theorem jx_div {X : jX} {d : Nat} {e : jM} {pc pc_q : Nat} {l : jL} {st : List Value} {V : jH} {Q : jO → jH → Prop} {x y : Int} (h1 : jGet' e pc = some (.idiv, 1)) (hp : pc + 1 = pc_q) (hx1 : 0 ≤ x) (hx2 : x ≤ 2147483647) (hy1 : 0 < y) (hy2 : y ≤ 2147483647) (k : wj X d e (pc_q, l, .int (i32 (x / y)) :: st, V) Q) : wj X d e (pc, l, .int (i32 y) :: .int (i32 x) :: st, V) Q := by
  have hn : ¬ i32 y = 0 := by
    rw [i32_0, i32_eq (by omega) hy2 (by omega) (by omega)]
    omega
  refine jx_ar h1 rfl ?_ hp k
  simp only [jArith, if_neg hn]
  have h2 : i32 x / i32 y = i32 (x / y) := by
    rw [← i32_of (i32 x / i32 y), Int32.toInt_div_of_ne_left _ _ (fun h => by
      have h3 := congrArg Int32.toInt h
      rw [i32_to (by omega) hx2] at h3
      have h4 : Int32.minValue.toInt = -2147483648 := by decide
      omega), i32_to (by omega) hx2, i32_to (by omega) hy2, Int.tdiv_eq_ediv_of_nonneg hx1]
  rw [h2]
/-- the length of a text -/
theorem jx_sl {X : jX} {d : Nat} {e : jM} {pc pc_q k0 a b c : Nat} {l : jL} {st : List Value} {V : jH} {x : List Char} {n : Int} {Q : jO → jH → Prop} (h1 : jGet' e pc = some (.invokevirtual k0, 3)) (h2 : jFind jCl e.2.1 k0 = some (6, b, c)) (ha : jTx a = some x) (hs : jSum st ≤ 8 ∧ a < 31) (hn : (x.length : Int) = n) (hp : pc + 3 = pc_q) (k : wj X d e (pc_q, l, .int (i32 n) :: st, V) Q) : wj X d e (pc, l, .ref a :: st, V) Q := by
  subst hp hn
  refine wj_step (fun call => ?_) k
  have hi : jInvoke call e e.2.1 (.invokevirtual k0) 3 pc l (.ref a :: st) V = some (.inl (pc + 3, l, .int (i32 x.length) :: st, V)) := by
    simp only [jInvoke, h2, ha, if_pos hs]
    rw [show Int32.ofNat x.length = i32 x.length from (Int32.ofInt_eq_ofNat).symm]
  unfold jStep
  simp only [h1, jLoad, jArith, jBranch, jHeap, jRet, hi]
/-- a letter of a text -/
theorem jx_sc {X : jX} {d : Nat} {e : jM} {pc pc_q k0 a b c : Nat} {l : jL} {st : List Value} {V : jH} {x : List Char} {n j : Int} {Q : jO → jH → Prop} (h1 : jGet' e pc = some (.invokevirtual k0, 3)) (h2 : jFind jCl e.2.1 k0 = some (7, b, c)) (ha : jTx a = some x) (hs : jSum st ≤ 8 ∧ a < 31) (hn : (x.length : Int) = n) (h0 : 0 ≤ j) (hj : j < n) (hm : n ≤ 2147483647) (hp : pc + 3 = pc_q) (k : ∀ r : Int, -2147483648 ≤ r ∧ r ≤ 2147483647 → wj X d e (pc_q, l, .int (i32 r) :: st, V) Q) : wj X d e (pc, l, .int (i32 j) :: .ref a :: st, V) Q := by
  subst hp hn
  refine wj_step (fun call => ?_) (k (Int32.ofNat (x.getD (i32 j).toNatClampNeg 'A').toNat).toInt (i32_rg _))
  have hi : jInvoke call e e.2.1 (.invokevirtual k0) 3 pc l (.int (i32 j) :: .ref a :: st) V = some (.inl (pc + 3, l, .int (i32 (Int32.ofNat (x.getD (i32 j).toNatClampNeg 'A').toNat).toInt) :: st, V)) := by
    simp only [jInvoke, h2, ha, if_pos (⟨hs.1, hs.2, i32_in h0 hj (by omega)⟩ : jSum st ≤ 8 ∧ a < 31 ∧ jIn (i32 j) x.length = true), i32_of]
  unfold jStep
  simp only [h1, jLoad, jArith, jBranch, jHeap, jRet, hi]
/-- where a letter stands in a text -/
theorem jx_si {X : jX} {d : Nat} {e : jM} {pc pc_q k0 a b c : Nat} {l : jL} {st : List Value} {V : jH} {x : List Char} {j : Int} {Q : jO → jH → Prop} (h1 : jGet' e pc = some (.invokevirtual k0, 3)) (h2 : jFind jCl e.2.1 k0 = some (8, b, c)) (ha : jTx a = some x) (hs : jSum st ≤ 8 ∧ a < 31) (h0 : 0 ≤ j) (hj : j < 256) (hp : pc + 3 = pc_q) (k : ∀ r : Int, -2147483648 ≤ r ∧ r ≤ 2147483647 → wj X d e (pc_q, l, .int (i32 r) :: st, V) Q) : wj X d e (pc, l, .int (i32 j) :: .ref a :: st, V) Q := by
  subst hp
  refine wj_step (fun call => ?_) (k (jIdx (i32 j) x 0).toInt (i32_rg _))
  have hc : jSum st ≤ 8 ∧ a < 31 ∧ (0 : Int32) ≤ i32 j ∧ i32 j < 256 := by
    refine ⟨hs.1, hs.2, ?_, ?_⟩
    · rw [i32_0, i32_le (by omega) (by omega) (by omega) (by omega)]
      exact h0
    · rw [show (256 : Int32) = i32 256 by decide, i32_lt (by omega) (by omega) (by omega) (by omega)]
      exact hj
  have hi : jInvoke call e e.2.1 (.invokevirtual k0) 3 pc l (.int (i32 j) :: .ref a :: st) V = some (.inl (pc + 3, l, .int (i32 (jIdx (i32 j) x 0).toInt) :: st, V)) := by
    simp only [jInvoke, h2, ha, if_pos hc, i32_of]
  unfold jStep
  simp only [h1, jLoad, jArith, jBranch, jHeap, jRet, hi]
/-- switches -/
theorem jx_swe {X : jX} {d : Nat} {e : jM} {pc tg n : Nat} {i : Instr} {l : jL} {st : List Value} {V : jH} {x z : Int} {Q : jO → jH → Prop} (hx : x = z) (h1 : jGet' e pc = some (i, n)) (h2 : jLoad i n pc e.2.2.2.1 l (.int (i32 z) :: st) = none) (h3 : jArith i n (.int (i32 z) :: st) = none) (h4 : jBranch i n pc (.int (i32 z) :: st) = some (tg, st)) (k : wj X d e (tg, l, st, V) Q) : wj X d e (pc, l, .int (i32 x) :: st, V) Q := by
  subst hx
  exact jx_br h1 h2 h3 h4 k
theorem jx_swd {X : jX} {d : Nat} {e : jM} {pc tg n : Nat} {df : Int} {ps : Array (Int × Int)} {l : jL} {st : List Value} {V : jH} {x : Int} {Q : jO → jH → Prop} (hx1 : -2147483648 ≤ x) (hx2 : x ≤ 2147483647) (h1 : jGet' e pc = some (.lookupswitch df ps, n)) (h2 : (ps.toList.zip (ps.toList.drop 1)).all (fun (a, next) => a.1 < next.1) = true) (h3 : ps.toList.all (fun q => !(q.1 == x)) = true) (ht : jTgt pc df = some tg) (k : wj X d e (tg, l, st, V) Q) : wj X d e (pc, l, .int (i32 x) :: st, V) Q := by
  refine jx_br h1 rfl rfl ?_ k
  have hf : ps.find? (fun q => q.1 == x) = none := by
    rw [← Array.find?_toList, List.find?_eq_none]
    intro q hq
    have := List.all_eq_true.mp h3 q hq
    simpa using this
  simp only [jBranch, h2, if_true, i32_to hx1 hx2, hf, ht, Option.map_some]
theorem jx_swt {X : jX} {d : Nat} {e : jM} {pc tg n : Nat} {df lo hi : Int} {os : Array Int} {l : jL} {st : List Value} {V : jH} {x : Int} {Q : jO → jH → Prop} (hx1 : -2147483648 ≤ x) (hx2 : x ≤ 2147483647) (h1 : jGet' e pc = some (.tableswitch df lo hi os, n)) (h3 : x < lo ∨ hi < x) (ht : jTgt pc df = some tg) (k : wj X d e (tg, l, st, V) Q) : wj X d e (pc, l, .int (i32 x) :: st, V) Q := by
  refine jx_br h1 rfl rfl ?_ k
  simp only [jBranch, i32_to hx1 hx2, if_pos h3, ht, Option.map_some]
theorem jr_llv {X : jX} {d : Nat} {e : jM} {pc pc_q i : Nat} {l : jL} {st : List Value} {c0 c1 : jC} {G : Nat → Int} {A : Nat → Nat → Int} {T : jH} {Q : jO → jH → Prop} {m : Nat} {z : Int} (h1 : jGet' e pc = some (.laload, 1)) (hi : i < 86) (hm : rAk.getD i (1, 0) = (2, m)) (hm2 : m ≤ 2147483647) (h0 : 0 ≤ z) (hz : z < m) (hp : pc + 1 = pc_q) (k : ∀ y : Int64, wj X d e (pc_q, l, .long y :: st, rV c0 c1 G A T) Q) : wj X d e (pc, l, .int (i32 z) :: .ref (67 + i) :: st, rV c0 c1 G A T) Q := by
  refine jx_hp h1 rfl rfl rfl ?_ hp (k (i64 (A i z.toNat)))
  have hc : rCe A i = .inl (2, m, .inr (.inl (fun n => i64 (A i n)))) := by
    unfold rCe
    rw [hm]
    rfl
  simp only [jHeap, rV_ar hi, hc, i32_in h0 hz hm2, if_true, i32_nat h0 (by omega)]
theorem jr_sl {X : jX} {d : Nat} {e : jM} {pc pc_q i : Nat} {l : jL} {st : List Value} {c0 c1 : jC} {G : Nat → Int} {A : Nat → Nat → Int} {T : jH} {Q : jO → jH → Prop} {m : Nat} {z : Int} {y : Int64} (h1 : jGet' e pc = some (.lastore, 1)) (hi : i < 86) (hm : rAk.getD i (1, 0) = (2, m)) (hm2 : m ≤ 2147483647) (h0 : 0 ≤ z) (hz : z < m) (hp : pc + 1 = pc_q) (k : wj X d e (pc_q, l, st, rV c0 c1 G (uA A i z.toNat y.toInt) T) Q) : wj X d e (pc, l, .long y :: .int (i32 z) :: .ref (67 + i) :: st, rV c0 c1 G A T) Q := by
  refine jx_hp h1 rfl rfl rfl ?_ hp k
  have hc : rCe A i = .inl (2, m, .inr (.inl (fun n => i64 (A i n)))) := by
    unfold rCe
    rw [hm]
    rfl
  have hn : rCe (uA A i z.toNat y.toInt) i = .inl (2, m, .inr (.inl (vp_updL (fun n => i64 (A i n)) z.toNat y))) := by
    unfold rCe
    rw [hm]
    have : (fun n => i64 (uA A i z.toNat y.toInt i n)) = vp_updL (fun n => i64 (A i n)) z.toNat y := by
      funext n
      unfold uA vp_updL
      by_cases hnz : n = z.toNat
      · rw [if_pos ⟨rfl, hnz⟩, if_pos hnz, i64_of]
      · rw [if_neg (fun q => hnz q.2), if_neg hnz]
    rw [← this]
    rfl
  simp only [jHeap, rV_ar hi, hc, i32_in h0 hz hm2, if_true, i32_nat h0 (by omega)]
  rw [← hn, rV_putA hi (fun j hj => rCe_ne hj)]
theorem jr_sb {X : jX} {d : Nat} {e : jM} {pc pc_q i : Nat} {l : jL} {st : List Value} {c0 c1 : jC} {G : Nat → Int} {A : Nat → Nat → Int} {T : jH} {Q : jO → jH → Prop} {m : Nat} {z y : Int} (h1 : jGet' e pc = some (.bastore, 1)) (hi : i < 86) (hm : rAk.getD i (1, 0) = (3, m)) (hm2 : m ≤ 2147483647) (h0 : 0 ≤ z) (hz : z < m) (hy : y = 0 ∨ y = 1) (hp : pc + 1 = pc_q) (k : wj X d e (pc_q, l, st, rV c0 c1 G (uA A i z.toNat y) T) Q) : wj X d e (pc, l, .int (i32 y) :: .int (i32 z) :: .ref (67 + i) :: st, rV c0 c1 G A T) Q := by
  refine jx_hp h1 rfl rfl rfl ?_ hp k
  have hb : vp_nar .boolean (i32 y) = i32 y := by
    rcases hy with h | h <;> subst h <;> decide
  have hc : rCe A i = .inl (3, m, .inl (fun n => i32 (A i n))) := by
    unfold rCe
    rw [hm]
    rfl
  have hn : rCe (uA A i z.toNat y) i = .inl (3, m, .inl (upd (fun n => i32 (A i n)) z.toNat (i32 y))) := by
    unfold rCe
    rw [hm]
    have : (fun n => i32 (uA A i z.toNat y i n)) = upd (fun n => i32 (A i n)) z.toNat (i32 y) := by
      funext n
      unfold uA upd
      by_cases hnz : n = z.toNat
      · rw [if_pos ⟨rfl, hnz⟩, if_pos hnz]
      · rw [if_neg (fun q => hnz q.2), if_neg hnz]
    rw [← this]
    rfl
  simp only [jHeap, rV_ar hi, hc, i32_in h0 hz hm2, if_true, i32_nat h0 (by omega), hb]
  rw [← hn, rV_putA hi (fun j hj => rCe_ne hj)]
