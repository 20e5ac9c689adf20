/-! the reference: one object (cell 2), its rows (cells 3 to 88); G its numbers, A its rows -/
def rTy : List Nat := [0, 3, 0, 0, 4, 5, 6, 7, 8, 0, 0, 0, 0, 0, 2, 0, 0, 0, 0, 0, 9, 10, 11, 12, 13, 14, 15, 16, 0, 0, 17, 0, 18, 19, 20, 21, 22, 23, 24, 25, 26, 27, 28, 29, 30, 31, 0, 32, 33, 34, 35, 36, 0, 37, 38, 39, 40, 41, 1, 0, 0, 0, 0, 42, 43, 44, 45, 0, 0, 46, 0, 47, 48, 49, 50, 51, 52, 0, 53, 1, 54, 0, 55, 56, 57, 58, 59, 60, 61, 0, 62, 63, 64, 65, 66, 67, 68, 69, 70, 71, 72, 73, 74, 75, 76, 77, 78, 79, 80, 81, 0, 0, 82, 0, 83, 84, 85, 86, 87, 88, 0, 0]
def rAk : List (Nat × Nat) := [(1, 3000), (1, 3001), (1, 3001), (1, 3001), (1, 3001), (1, 3001), (2, 260), (1, 260), (1, 260), (1, 260), (1, 260), (1, 260), (1, 260), (1, 260), (1, 260), (1, 7000), (1, 7000), (1, 7000), (1, 7000), (1, 7000), (1, 7000), (1, 7000), (1, 7000), (1, 7000), (1, 7000), (1, 7000), (1, 7000), (1, 7000), (1, 7000), (1, 25), (1, 25), (1, 25), (1, 25), (1, 25), (1, 13), (1, 13), (1, 6), (1, 6), (1, 6), (1, 60000), (1, 60000), (3, 60000), (1, 60000), (1, 9), (1, 7000), (1, 7000), (1, 7000), (1, 7000), (1, 7000), (1, 7001), (1, 20000), (1, 40), (1, 25), (1, 36000), (1, 6), (1, 6), (1, 320), (1, 320), (1, 320), (1, 24096), (1, 6), (1, 6), (1, 6), (1, 6), (1, 6), (1, 6), (1, 6), (3, 6), (3, 6), (1, 6), (1, 6), (1, 13200), (1, 12), (3, 6), (1, 6), (1, 6), (1, 6), (1, 6), (1, 200), (1, 1000), (3, 12), (1, 12), (1, 12), (1, 12), (3, 12), (3, 12)]
def rFv (G : Nat → Int) (i : Nat) : Value := match rTy.getD i 0 with
  | 0 => .int (i32 (G i))
  | 1 => .int (i32 (G i))
  | 2 => .long (i64 (G i))
  | k + 3 => .ref (67 + k)
def rOb (G : Nat → Int) : List Value := (List.range 122).map (rFv G)
def rCe (A : Nat → Nat → Int) (k : Nat) : jC := match rAk.getD k (1, 0) with
  | (2, m) => .inl (2, m, .inr (.inl (fun n => i64 (A k n))))
  | (kd, m) => .inl (kd, m, .inl (fun n => i32 (A k n)))
def rV (c0 c1 : jC) (G : Nat → Int) (A : Nat → Nat → Int) (T : jH) : jH := c0 :: c1 :: .inr (12, rOb G) :: ((List.range 86).map (rCe A) ++ T)
def uG (G : Nat → Int) (i : Nat) (z : Int) : Nat → Int := fun j => if j = i then z else G j
def uA (A : Nat → Nat → Int) (k j : Nat) (z : Int) : Nat → Nat → Int := fun k_q n => if k_q = k ∧ n = j then z else A k_q n
theorem rOb_get {G : Nat → Int} {i : Nat} (h : i < 122) : (rOb G)[i]? = some (rFv G i) := by
  unfold rOb
  rw [List.getElem?_map, List.getElem?_range h]
  rfl
theorem rOb_len {G : Nat → Int} : (rOb G).length = 122 := by
  unfold rOb
  rw [List.length_map, List.length_range]
theorem rFv_ne {G : Nat → Int} {i j : Nat} {z : Int} (h : j ≠ i) : rFv (uG G i z) j = rFv G j := by
  have : uG G i z j = G j := if_neg h
  unfold rFv
  rw [this]
theorem rOb_set {G : Nat → Int} {i : Nat} {z : Int} : (rOb G).set i (rFv (uG G i z) i) = rOb (uG G i z) := by
  refine List.ext_getElem? (fun j => ?_)
  rw [List.getElem?_set]
  by_cases hj : j < 122
  · rw [rOb_get hj]
    by_cases h : i = j
    · subst h
      rw [if_pos rfl, rOb_len, if_pos hj, rOb_get hj]
    · rw [if_neg h, rOb_get hj, rFv_ne (fun q => h q.symm)]
  · have e1 : (rOb (uG G i z))[j]? = none := List.getElem?_eq_none (by rw [rOb_len]; omega)
    have e2 : (rOb G)[j]? = none := List.getElem?_eq_none (by rw [rOb_len]; omega)
    rw [e1, e2, rOb_len]
    by_cases h : i = j
    · subst h
      rw [if_pos rfl, if_neg hj]
    · rw [if_neg h]
theorem rV_ob {c0 c1 : jC} {G : Nat → Int} {A : Nat → Nat → Int} {T : jH} : jAt (rV c0 c1 G A T) 66 = some (.inr (12, rOb G)) := rfl
theorem rV_ar {c0 c1 : jC} {G : Nat → Int} {A : Nat → Nat → Int} {T : jH} {k : Nat} (h : k < 86) : jAt (rV c0 c1 G A T) (67 + k) = some (rCe A k) := by
  unfold jAt
  rw [if_neg (by omega), show 67 + k - 64 = k + 1 + 1 + 1 by omega]
  unfold rV
  rw [List.getElem?_cons_succ, List.getElem?_cons_succ, List.getElem?_cons_succ, List.getElem?_append_left (by rw [List.length_map, List.length_range]; exact h), List.getElem?_map, List.getElem?_range h]
  rfl
theorem rV_put {c0 c1 : jC} {G G_q : Nat → Int} {A : Nat → Nat → Int} {T : jH} : jPut (rV c0 c1 G A T) 66 (.inr (12, rOb G_q)) = rV c0 c1 G_q A T := rfl
theorem rV_putA {c0 c1 : jC} {G : Nat → Int} {A A_q : Nat → Nat → Int} {T : jH} {k : Nat} (hk : k < 86) (h : ∀ j, j ≠ k → rCe A_q j = rCe A j) : jPut (rV c0 c1 G A T) (67 + k) (rCe A_q k) = rV c0 c1 G A_q T := by
  unfold jPut rV
  rw [show 67 + k - 64 = k + 1 + 1 + 1 by omega, List.set_cons_succ, List.set_cons_succ, List.set_cons_succ, List.set_append_left _ _ (by rw [List.length_map, List.length_range]; exact hk)]
  have e : ((List.range 86).map (rCe A)).set k (rCe A_q k) = (List.range 86).map (rCe A_q) := by
    refine List.ext_getElem? (fun j => ?_)
    rw [List.getElem?_set, List.getElem?_map, List.getElem?_map, List.length_map, List.length_range]
    by_cases hj : k = j
    · subst hj
      rw [if_pos rfl, if_pos hk, List.getElem?_range hk]
      rfl
    · rw [if_neg hj]
      by_cases hj2 : j < 86
      · rw [List.getElem?_range hj2]
        simp only [Option.map_some]
        rw [h j (fun q => hj q.symm)]
      · rw [List.getElem?_eq_none (by rw [List.length_range]; omega)]
        rfl
  rw [e]
theorem rCe_ne {A : Nat → Nat → Int} {k j n : Nat} {z : Int} (h : j ≠ k) : rCe (uA A k n z) j = rCe A j := by
  have : uA A k n z j = A j := funext (fun m => if_neg (fun q => h q.1))
  unfold rCe
  rw [this]
theorem jr_get {X : jX} {d : Nat} {e : jM} {pc pc_q k0 i : Nat} {l : jL} {st : List Value} {c0 c1 : jC} {G : Nat → Int} {A : Nat → Nat → Int} {T : jH} {Q : jO → jH → Prop} {v : Value} (h1 : jGet' e pc = some (.getfield k0, 3)) (h2 : jFind jFl e.2.1 k0 = some (12, i)) (hi : i < 122) (hv : rFv G i = v) (hp : pc + 3 = pc_q) (k : wj X d e (pc_q, l, v :: st, rV c0 c1 G A T) Q) : wj X d e (pc, l, .ref 66 :: st, rV c0 c1 G A T) Q := by
  refine jx_hp h1 rfl rfl rfl ?_ hp k
  simp only [jHeap, h2, rV_ob, if_true, rOb_get hi, Option.map_some, hv]
theorem jr_put {X : jX} {d : Nat} {e : jM} {pc pc_q k0 i : Nat} {l : jL} {st : List Value} {c0 c1 : jC} {G : Nat → Int} {A : Nat → Nat → Int} {T : jH} {Q : jO → jH → Prop} {z : Int} {v : Value} {t : FieldType} {f : String × String × String × Bool} (h1 : jGet' e pc = some (.putfield k0, 3)) (h2 : jFind jFl e.2.1 k0 = some (12, i)) (hi : i < 122) (h3 : (jFs.getD 12 [])[i]? = some f) (h4 : (jTys.getD 12 [])[i]? = some t) (h5 : f.2.2.2 = false) (h6 : jFit t v = true) (hv : rFv (uG G i z) i = v) (hp : pc + 3 = pc_q) (k : wj X d e (pc_q, l, st, rV c0 c1 (uG G i z) A T) Q) : wj X d e (pc, l, v :: .ref 66 :: st, rV c0 c1 G A T) Q := by
  refine jx_hp h1 rfl rfl rfl ?_ hp k
  have hc : True ∧ i < (rOb G).length ∧ jFit t v = true ∧ (f.2.2.2 = true → (e.1.name == "<init>") = true ∧ e.2.1 = 12) := ⟨trivial, by rw [rOb_len]; exact hi, h6, fun q => absurd (h5.symm.trans q) (by decide)⟩
  simp only [jHeap, h2, rV_ob, h3, h4]
  rw [if_pos hc, ← hv, rOb_set, rV_put]
/-- a row of ints or of booleans -/
theorem jr_ld {X : jX} {d : Nat} {e : jM} {pc pc_q i : Nat} {l : jL} {st : List Value} {c0 c1 : jC} {G : Nat → Int} {A : Nat → Nat → Int} {T : jH} {Q : jO → jH → Prop} {m : Nat} {z : Int} (h1 : jGet' e pc = some (.iaload, 1)) (hi : i < 86) (hm : rAk.getD i (1, 0) = (1, m)) (hm2 : m ≤ 2147483647) (h0 : 0 ≤ z) (hz : z < m) (hp : pc + 1 = pc_q) (k : wj X d e (pc_q, l, .int (i32 (A i z.toNat)) :: st, rV c0 c1 G A T) Q) : wj X d e (pc, l, .int (i32 z) :: .ref (67 + i) :: st, rV c0 c1 G A T) Q := by
  refine jx_hp h1 rfl rfl rfl ?_ hp k
  have hc : rCe A i = .inl (1, m, .inl (fun n => i32 (A i n))) := by
    unfold rCe
    rw [hm]
    rfl
  simp only [jHeap, if_neg (show ¬ 67 + i = 63 by omega), rV_ar hi, hc, i32_in h0 hz hm2, if_true, i32_nat h0 (by omega)]
theorem jr_lb {X : jX} {d : Nat} {e : jM} {pc pc_q i : Nat} {l : jL} {st : List Value} {c0 c1 : jC} {G : Nat → Int} {A : Nat → Nat → Int} {T : jH} {Q : jO → jH → Prop} {m : Nat} {z : Int} (h1 : jGet' e pc = some (.baload, 1)) (hi : i < 86) (hm : rAk.getD i (1, 0) = (3, m)) (hm2 : m ≤ 2147483647) (h0 : 0 ≤ z) (hz : z < m) (hp : pc + 1 = pc_q) (k : wj X d e (pc_q, l, .int (i32 (A i z.toNat)) :: st, rV c0 c1 G A T) Q) : wj X d e (pc, l, .int (i32 z) :: .ref (67 + i) :: st, rV c0 c1 G A T) Q := by
  refine jx_hp h1 rfl rfl rfl ?_ hp k
  have hc : rCe A i = .inl (3, m, .inl (fun n => i32 (A i n))) := by
    unfold rCe
    rw [hm]
    rfl
  simp only [jHeap, rV_ar hi, hc, i32_in h0 hz hm2, if_true, i32_nat h0 (by omega)]
theorem jr_st {X : jX} {d : Nat} {e : jM} {pc pc_q i : Nat} {l : jL} {st : List Value} {c0 c1 : jC} {G : Nat → Int} {A : Nat → Nat → Int} {T : jH} {Q : jO → jH → Prop} {m : Nat} {z y : Int} (h1 : jGet' e pc = some (.iastore, 1)) (hi : i < 86) (hm : rAk.getD i (1, 0) = (1, m)) (hm2 : m ≤ 2147483647) (h0 : 0 ≤ z) (hz : z < m) (hp : pc + 1 = pc_q) (k : wj X d e (pc_q, l, st, rV c0 c1 G (uA A i z.toNat y) T) Q) : wj X d e (pc, l, .int (i32 y) :: .int (i32 z) :: .ref (67 + i) :: st, rV c0 c1 G A T) Q := by
  refine jx_hp h1 rfl rfl rfl ?_ hp k
  have hc : rCe A i = .inl (1, m, .inl (fun n => i32 (A i n))) := by
    unfold rCe
    rw [hm]
    rfl
  have hn : rCe (uA A i z.toNat y) i = .inl (1, m, .inl (upd (fun n => i32 (A i n)) z.toNat (i32 y))) := by
    unfold rCe
    rw [hm]
    have : (fun n => i32 (uA A i z.toNat y i n)) = upd (fun n => i32 (A i n)) z.toNat (i32 y) := by
      funext n
      unfold uA upd
      by_cases hnz : n = z.toNat
      · rw [if_pos ⟨rfl, hnz⟩, if_pos hnz]
      · rw [if_neg (fun q => hnz q.2), if_neg hnz]
    rw [← this]
    rfl
  simp only [jHeap, rV_ar hi, hc, i32_in h0 hz hm2, if_true, i32_nat h0 (by omega)]
  rw [← hn, rV_putA hi (fun j hj => rCe_ne hj)]
