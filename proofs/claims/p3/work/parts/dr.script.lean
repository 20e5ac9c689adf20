/-! THE LAW: the script, and the reference beside it -/
def sx (X : jX) (j : Int) : Int := (X.2 j.toNat).toInt
theorem sx_rg {X : jX} {j : Int} : (-2147483648 : Int) ≤ sx X j ∧ sx X j ≤ 2147483647 := i32_rg _
theorem jx_scl {X : jX} {d : Nat} {e : jM} {pc pc_q : Nat} {l : jL} {st : List Value} {V : jH} {Q : jO → jH → Prop} (h1 : jGet' e pc = some (.arraylength, 1)) (hp : pc + 1 = pc_q) (k : wj X d e (pc_q, l, .int (i32 (X.1 : Int)) :: st, V) Q) : wj X d e (pc, l, .ref 63 :: st, V) Q := by
  refine jx_hp h1 rfl rfl rfl ?_ hp k
  simp only [jHeap, if_true]
  rw [show Int32.ofNat X.1 = i32 (X.1 : Int) from (Int32.ofInt_eq_ofNat).symm]
theorem jx_sca {X : jX} {d : Nat} {e : jM} {pc pc_q : Nat} {l : jL} {st : List Value} {V : jH} {Q : jO → jH → Prop} {z : Int} (h1 : jGet' e pc = some (.iaload, 1)) (hp : pc + 1 = pc_q) (h0 : 0 ≤ z) (hz : z < (X.1 : Int)) (hL : X.1 ≤ 2048) (k : wj X d e (pc_q, l, .int (i32 (sx X z)) :: st, V) Q) : wj X d e (pc, l, .int (i32 z) :: .ref 63 :: st, V) Q := by
  refine jx_hp h1 rfl rfl rfl ?_ hp k
  simp only [jHeap, if_true]
  rw [if_pos (jIn_t (n := X.1) h0 hz (by omega)), i32_nat h0 (by omega)]
  unfold sx
  rw [i32_of]
/-- the reference's cells -/
def rR (G : Nat → Int) (A : Nat → Nat → Int) (i : Nat) : jC := if i = 2 then .inr (12, rOb G) else rCe A (i - 3)
def cT (m : Nat) (tg ln : Int → Int) (F : Int → Int → Int) : jH := (List.range (m - 89)).map (fun i => cCe tg ln F ((64 + (89 + i) : Nat) : Int))
theorem cr_V {G : Nat → Int} {A : Nat → Nat → Int} {m : Nat} {tg ln : Int → Int} {F : Int → Int → Int} (hm : 89 ≤ m) : cV (rR G A) m tg ln F = rV (cCe tg ln F 64) (cCe tg ln F 65) G A (cT m tg ln F) := by
  apply List.ext_getElem?
  intro i
  have e1 : (cV (rR G A) m tg ln F)[i]? = if i < m then some (if 2 ≤ i ∧ i < 89 then rR G A i else cCe tg ln F ((64 + i : Nat) : Int)) else none := by
    unfold cV
    rw [List.getElem?_map]
    by_cases h : i < m
    · rw [List.getElem?_range h, if_pos h]
      rfl
    · rw [if_neg h, List.getElem?_eq_none (by simpa using Nat.le_of_not_lt h)]
      rfl
  rw [e1]
  match i with
  | 0 =>
    rw [if_pos (by omega)]
    rfl
  | 1 =>
    rw [if_pos (by omega)]
    rfl
  | 2 =>
    rw [if_pos (by omega)]
    rfl
  | i + 3 =>
    show _ = ((List.range 86).map (rCe A) ++ cT m tg ln F)[i]?
    by_cases h : i < 86
    · rw [List.getElem?_append_left (by simpa using h), List.getElem?_map, List.getElem?_range h, if_pos (by omega), if_pos (by omega)]
      show some (rR G A (i + 3)) = some (rCe A i)
      unfold rR
      rw [if_neg (by omega)]
      rfl
    · rw [List.getElem?_append_right (by simpa using Nat.le_of_not_lt h)]
      unfold cT
      rw [List.getElem?_map, List.length_map, List.length_range]
      by_cases h2 : i + 3 < m
      · rw [if_pos h2, List.getElem?_range (by omega), if_neg (by omega)]
        have e2 : 64 + (i + 3) = 64 + (89 + (i - 86)) := by omega
        rw [e2]
        rfl
      · rw [if_neg h2, List.getElem?_eq_none (by rw [List.length_range]; omega)]
        rfl
theorem rc_vi {X : jX} {d : Nat} {e f : jM} {pc pc_q t na k0 : Nat} {l : jL} {st0 st as : List Value} {G : Nat → Int} {A : Nat → Nat → Int} {m : Nat} {tg ln : Int → Int} {F : Int → Int → Int} {Q Q_q : jO → jH → Prop} (hm : 89 ≤ m) (h1 : jGet' e pc = some (.invokevirtual k0, 3)) (h2 : jFind jCl e.2.1 k0 = some (0, t, na)) (h3 : st0.drop na = .ref 66 :: st) (h5 : jMs[t]? = some f) (h6 : (st0.take na).length = na ∧ 12 = f.2.1 ∧ jSum st ≤ 8) (h7 : (st0.take na).reverse = as) (hp : pc + 3 = pc_q) (hk : wk X d t (.ref 66 :: as) (rV (cCe tg ln F 64) (cCe tg ln F 65) G A (cT m tg ln F)) Q_q) (k : ∀ o V_q, Q_q o V_q → (o = .inl none ∧ wj X d e (pc_q, l, st, V_q) Q) ∨ (∃ v, o = .inl (some v) ∧ wj X d e (pc_q, l, v :: st, V_q) Q)) : wj X d e (pc, l, st0, cV (rR G A) m tg ln F) Q := by
  rw [cr_V hm]
  exact jx_vr h1 h2 h3 h5 h6 h7 hp hk k
