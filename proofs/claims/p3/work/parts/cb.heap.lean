/-! THE CLASS'S SIDE: its objects and rows as tables -/
/-- the fields of the classes: 0 an int, 1 a boolean, 2 a long, 3 a ref -/
def cTy : List (List Nat) := [[3, 0, 0, 0, 0, 3, 3], [3, 3, 3, 3, 3, 3, 3, 0, 0, 0, 0, 1], [3, 3, 0, 0, 3, 0, 0, 0, 0, 0, 0, 1, 0, 0, 0, 3, 0, 0, 0, 0, 1, 3], [0], [0, 0, 0, 1, 0, 1, 1, 1], [3, 3, 3, 0, 0, 3, 0, 0, 0], [0, 2, 0, 0, 0, 0, 0, 0, 0, 0, 0, 0, 3, 3, 3, 3], [0, 0, 0, 3, 3, 3, 3, 3, 3, 3, 0, 0, 0, 0, 0, 0, 1, 3, 0], [3, 3, 3, 0], [0, 0, 0, 3, 3, 0, 3, 0, 0, 0], [3, 0, 3, 3, 3, 3, 3, 0, 0, 0, 0, 0, 1, 0, 0, 0, 0, 0, 2], [3, 3, 0, 0, 0]]
/-- a ref, or nothing -/
def rv (z : Int) : Value := if z = 0 then .null else .ref z.toNat
theorem rv_0 : rv 0 = .null := rfl
theorem rv_n {z : Int} (h : z ≠ 0) : rv z = .ref z.toNat := if_neg h
theorem rv_isR {z : Int} : jIsR (rv z) = true := by
  unfold rv
  by_cases h : z = 0
  · rw [if_pos h]
    rfl
  · rw [if_neg h]
    rfl
def dV (t : Nat) (z : Int) : Value := if t = 2 then .long (i64 z) else if t = 3 then rv z else .int (i32 z)
/-- the fields of the object at a, of class c -/
def oF (F : Int → Int → Int) (c : Nat) (a : Int) : List Value := (List.range (cTy.getD c []).length).map (fun q => dV ((cTy.getD c []).getD q 0) (F a (q : Int)))
/-- the cell at a: tg below 20 an object of class tg - 1, else a row of kind tg - 20 -/
def cCe (tg ln : Int → Int) (F : Int → Int → Int) (a : Int) : jC := if tg a < 20 then .inr ((tg a - 1).toNat, oF F (tg a - 1).toNat a) else if tg a = 22 then .inl (2, (ln a).toNat, .inr (.inl (fun j => i64 (F a (j : Int))))) else if tg a < 24 then .inl ((tg a - 20).toNat, (ln a).toNat, .inl (fun j => i32 (F a (j : Int)))) else .inl ((tg a - 20).toNat, (ln a).toNat, .inr (.inr (.inr (.inr (fun j => if F a (j : Int) = 0 then none else some (F a (j : Int)).toNat)))))
/-- the heap: m cells; those of the reference (2 to 88) are R -/
def cV (R : Nat → jC) (m : Nat) (tg ln : Int → Int) (F : Int → Int → Int) : jH := (List.range m).map (fun i => if 2 ≤ i ∧ i < 89 then R i else cCe tg ln F ((64 + i : Nat) : Int))
/-- a is the class's -/
def own (m : Nat) (a : Int) : Prop := 64 ≤ a ∧ a < 64 + (m : Int) ∧ ¬ (66 ≤ a ∧ a < 153)
theorem cV_len {R : Nat → jC} {m : Nat} {tg ln : Int → Int} {F : Int → Int → Int} : (cV R m tg ln F).length = m := by
  unfold cV
  rw [List.length_map, List.length_range]
theorem cV_at {R : Nat → jC} {m : Nat} {tg ln : Int → Int} {F : Int → Int → Int} {a : Int} (h : own m a) : jAt (cV R m tg ln F) a.toNat = some (cCe tg ln F a) := by
  obtain ⟨h1, h2, h3⟩ := h
  unfold jAt cV
  rw [if_neg (by omega), List.getElem?_map, List.getElem?_range (by omega)]
  dsimp only [Option.map_some]
  rw [if_neg (by omega), show ((64 + (a.toNat - 64) : Nat) : Int) = a by omega]
def uF (F : Int → Int → Int) (a j z : Int) : Int → Int → Int := fun b i => if b = a ∧ i = j then z else F b i
theorem uF_e {F : Int → Int → Int} {a j z : Int} : uF F a j z a j = z := if_pos ⟨rfl, rfl⟩
theorem uF_j {F : Int → Int → Int} {a j z b i : Int} (h : i ≠ j) : uF F a j z b i = F b i := if_neg (fun q => h q.2)
theorem uF_a {F : Int → Int → Int} {a j z b i : Int} (h : b ≠ a) : uF F a j z b i = F b i := if_neg (fun q => h q.1)
theorem cC_n {tg ln : Int → Int} {F : Int → Int → Int} {a j z b : Int} (h : b ≠ a) : cCe tg ln (uF F a j z) b = cCe tg ln F b := by
  have e : ∀ i, uF F a j z b i = F b i := fun i => uF_a h
  unfold cCe oF
  simp only [e]
theorem cV_put {R : Nat → jC} {m : Nat} {tg ln : Int → Int} {F : Int → Int → Int} {a j z : Int} (h : own m a) : jPut (cV R m tg ln F) a.toNat (cCe tg ln (uF F a j z) a) = cV R m tg ln (uF F a j z) := by
  obtain ⟨h1, h2, h3⟩ := h
  unfold jPut cV
  refine List.ext_getElem? (fun i => ?_)
  rw [List.getElem?_set, List.length_map, List.length_range, List.getElem?_map, List.getElem?_map]
  by_cases q : a.toNat - 64 = i
  · rw [if_pos q, if_pos (by omega), ← q, List.getElem?_range (by omega)]
    dsimp only [Option.map_some]
    rw [if_neg (by omega), show ((64 + (a.toNat - 64) : Nat) : Int) = a by omega]
  · rw [if_neg q]
    by_cases w : i < m
    · rw [List.getElem?_range w]
      dsimp only [Option.map_some]
      by_cases r : 2 ≤ i ∧ i < 89
      · rw [if_pos r, if_pos r]
      · rw [if_neg r, if_neg r, cC_n (by omega)]
    · rw [List.getElem?_eq_none (by rw [List.length_range]; omega)]
      rfl
theorem oF_get {F : Int → Int → Int} {c q : Nat} {a : Int} (h : q < (cTy.getD c []).length) : (oF F c a)[q]? = some (dV ((cTy.getD c []).getD q 0) (F a (q : Int))) := by
  unfold oF
  rw [List.getElem?_map, List.getElem?_range h]
  rfl
theorem oF_len {F : Int → Int → Int} {c : Nat} {a : Int} : (oF F c a).length = (cTy.getD c []).length := by
  unfold oF
  rw [List.length_map, List.length_range]
theorem oF_set {F : Int → Int → Int} {c q : Nat} {a z : Int} : (oF F c a).set q (dV ((cTy.getD c []).getD q 0) z) = oF (uF F a (q : Int) z) c a := by
  refine List.ext_getElem? (fun i => ?_)
  rw [List.getElem?_set, oF_len]
  by_cases w : i < (cTy.getD c []).length
  · rw [oF_get w]
    by_cases e : q = i
    · subst e
      rw [if_pos rfl, if_pos w, oF_get w, uF_e]
    · rw [if_neg e, oF_get w, uF_j (by omega)]
  · have e1 : (oF (uF F a (q : Int) z) c a)[i]? = none := List.getElem?_eq_none (by rw [oF_len]; omega)
    have e2 : (oF F c a)[i]? = none := List.getElem?_eq_none (by rw [oF_len]; omega)
    rw [e1, e2]
    by_cases e : q = i
    · rw [if_pos e, if_neg (by omega)]
    · rw [if_neg e]
theorem cC_o {tg ln : Int → Int} {F : Int → Int → Int} {a : Int} {c : Nat} (h : tg a = (c : Int) + 1) (hc : c < 19) : cCe tg ln F a = .inr (c, oF F c a) := by
  unfold cCe
  rw [if_pos (by omega), show (tg a - 1).toNat = c by omega]
/-- a field read -/
theorem cx_get {X : jX} {d : Nat} {e : jM} {pc pc_q k0 c q t : Nat} {l : jL} {st : List Value} {R : Nat → jC} {m : Nat} {tg ln : Int → Int} {F : Int → Int → Int} {Q : jO → jH → Prop} {a : Int} (h1 : jGet' e pc = some (.getfield k0, 3)) (h2 : jFind jFl e.2.1 k0 = some (c, q)) (hc : c < 19) (hq : q < (cTy.getD c []).length) (ht : (cTy.getD c []).getD q 0 = t) (hp : pc + 3 = pc_q) (ho : own m a) (hg : tg a = (c : Int) + 1) (k : wj X d e (pc_q, l, dV t (F a (q : Int)) :: st, cV R m tg ln F) Q) : wj X d e (pc, l, rv a :: st, cV R m tg ln F) Q := by
  rw [rv_n (by have := ho.1; omega)]
  refine jx_hp h1 rfl rfl rfl ?_ hp k
  simp only [jHeap, h2, cV_at ho, cC_o hg hc, if_true, oF_get hq, Option.map_some, ht]
/-- a field written -/
theorem cx_put {X : jX} {d : Nat} {e : jM} {pc pc_q k0 c q t : Nat} {l : jL} {st : List Value} {R : Nat → jC} {m : Nat} {tg ln : Int → Int} {F : Int → Int → Int} {Q : jO → jH → Prop} {a z : Int} {f : String × String × String × Bool} {ft : FieldType} (h1 : jGet' e pc = some (.putfield k0, 3)) (h2 : jFind jFl e.2.1 k0 = some (c, q)) (hc : c < 19) (hq : q < (cTy.getD c []).length) (ht : (cTy.getD c []).getD q 0 = t) (h3 : (jFs.getD c [])[q]? = some f) (h4 : (jTys.getD c [])[q]? = some ft) (h5 : f.2.2.2 = true → (e.1.name == "<init>") = true ∧ e.2.1 = c) (h6 : jFit ft (dV t z) = true) (hp : pc + 3 = pc_q) (ho : own m a) (hg : tg a = (c : Int) + 1) (k : wj X d e (pc_q, l, st, cV R m tg ln (uF F a (q : Int) z)) Q) : wj X d e (pc, l, dV t z :: rv a :: st, cV R m tg ln F) Q := by
  rw [rv_n (by have := ho.1; omega)]
  refine jx_hp h1 rfl rfl rfl ?_ hp k
  have hcd : True ∧ q < (oF F c a).length ∧ jFit ft (dV t z) = true ∧ (f.2.2.2 = true → (e.1.name == "<init>") = true ∧ e.2.1 = c) := ⟨trivial, by rw [oF_len]; exact hq, h6, h5⟩
  simp only [jHeap, h2, cV_at ho, cC_o hg hc, h3, h4]
  rw [if_pos hcd, ← ht, oF_set]
  have w := cV_put (R := R) (tg := tg) (ln := ln) (F := F) (j := (q : Int)) (z := z) ho
  rw [cC_o hg hc] at w
  rw [w]
theorem jFit_r {s : String} {z : Int} : jFit (.object s) (rv z) = true := by
  unfold rv
  by_cases h : z = 0
  · rw [if_pos h]
    rfl
  · rw [if_neg h]
    rfl
theorem jFit_a {t : FieldType} {z : Int} : jFit (.array t) (rv z) = true := by
  unfold rv
  by_cases h : z = 0
  · rw [if_pos h]
    rfl
  · rw [if_neg h]
    rfl
/-- nothing, or not -/
theorem cx_nul {X : jX} {d : Nat} {e : jM} {pc pc_q tg_q : Nat} {off : Int} {l : jL} {st : List Value} {V : jH} {Q : jO → jH → Prop} {a : Int} (h1 : jGet' e pc = some (.ifnull off, 3)) (ht : jTgt pc off = some tg_q) (hp : pc + 3 = pc_q) (kt : a = 0 → wj X d e (tg_q, l, st, V) Q) (kf : a ≠ 0 → wj X d e (pc_q, l, st, V) Q) : wj X d e (pc, l, rv a :: st, V) Q := by
  by_cases h : a = 0
  · subst h
    rw [rv_0]
    exact jx_br h1 rfl rfl (by simp only [jBranch, ht, Option.map_some]) (kt rfl)
  · rw [rv_n h]
    subst hp
    exact jx_br h1 rfl rfl rfl (kf h)
theorem cx_non {X : jX} {d : Nat} {e : jM} {pc pc_q tg_q : Nat} {off : Int} {l : jL} {st : List Value} {V : jH} {Q : jO → jH → Prop} {a : Int} (h1 : jGet' e pc = some (.ifnonnull off, 3)) (ht : jTgt pc off = some tg_q) (hp : pc + 3 = pc_q) (kt : a ≠ 0 → wj X d e (tg_q, l, st, V) Q) (kf : a = 0 → wj X d e (pc_q, l, st, V) Q) : wj X d e (pc, l, rv a :: st, V) Q := by
  by_cases h : a = 0
  · subst h
    rw [rv_0]
    subst hp
    exact jx_br h1 rfl rfl rfl (kf rfl)
  · rw [rv_n h]
    exact jx_br h1 rfl rfl (by simp only [jBranch, ht, Option.map_some]) (kt h)
/-- how long a row is -/
theorem cC_r {tg ln : Int → Int} {F : Int → Int → Int} {a : Int} (h : 20 ≤ tg a) : ∃ x, cCe tg ln F a = .inl ((tg a - 20).toNat, (ln a).toNat, x) := by
  unfold cCe
  rw [if_neg (by omega)]
  by_cases h2 : tg a = 22
  · rw [if_pos h2, show (tg a - 20).toNat = 2 by omega]
    exact ⟨_, rfl⟩
  · rw [if_neg h2]
    by_cases h3 : tg a < 24
    · rw [if_pos h3]
      exact ⟨_, rfl⟩
    · rw [if_neg h3]
      exact ⟨_, rfl⟩
theorem i32_nn {z : Int} (h : 0 ≤ z) : Int32.ofNat z.toNat = i32 z := by
  show Int32.ofNat z.toNat = Int32.ofInt z
  conv => rhs; rw [show z = ((z.toNat : Nat) : Int) by omega]
  rfl
theorem cx_len {X : jX} {d : Nat} {e : jM} {pc pc_q : Nat} {l : jL} {st : List Value} {R : Nat → jC} {m : Nat} {tg ln : Int → Int} {F : Int → Int → Int} {Q : jO → jH → Prop} {a : Int} (h1 : jGet' e pc = some (.arraylength, 1)) (hp : pc + 1 = pc_q) (ho : own m a) (hg : 20 ≤ tg a ∧ tg a < 28) (hl : 0 ≤ ln a) (k : wj X d e (pc_q, l, .int (i32 (ln a)) :: st, cV R m tg ln F) Q) : wj X d e (pc, l, rv a :: st, cV R m tg ln F) Q := by
  have h0 := ho.1
  rw [rv_n (by omega)]
  refine jx_hp h1 rfl rfl rfl ?_ hp k
  obtain ⟨x, hx⟩ := cC_r (ln := ln) (F := F) hg.1
  simp only [jHeap, cV_at ho, hx]
  rw [if_neg (show ¬ a.toNat = 63 by omega), if_pos (show (tg a - 20).toNat < 8 by omega), i32_nn hl]
theorem jIn_t {z : Int} {n : Nat} (h0 : 0 ≤ z) (h1 : z < (n : Int)) (h2 : (n : Int) ≤ 2147483647) : jIn (i32 z) n = true := by
  unfold jIn
  rw [i32_nat h0 (by omega)]
  have : ¬ (i32 z < 0) := by
    rw [Int32.lt_iff_toInt_lt, i32_to (by omega) (by omega)]
    show ¬ z < (0 : Int32).toInt
    have : (0 : Int32).toInt = 0 := rfl
    omega
  simp [this]
  omega
/-- a number of a row of bytes, ints or booleans -/
theorem cC_i {tg ln : Int → Int} {F : Int → Int → Int} {a : Int} {kd : Nat} (h : tg a = 20 + (kd : Int)) (hk : kd = 0 ∨ kd = 1 ∨ kd = 3) : cCe tg ln F a = .inl (kd, (ln a).toNat, .inl (fun j => i32 (F a (j : Int)))) := by
  unfold cCe
  rw [if_neg (by omega), if_neg (by omega), if_pos (by omega), show (tg a - 20).toNat = kd by omega]
theorem cx_ial {X : jX} {d : Nat} {e : jM} {pc pc_q : Nat} {l : jL} {st : List Value} {R : Nat → jC} {m : Nat} {tg ln : Int → Int} {F : Int → Int → Int} {Q : jO → jH → Prop} {a z : Int} (h1 : jGet' e pc = some (.iaload, 1)) (hp : pc + 1 = pc_q) (ho : own m a) (hg : tg a = 21) (h0 : 0 ≤ z) (hz : z < ln a) (hl : ln a ≤ 1000000) (k : wj X d e (pc_q, l, .int (i32 (F a z)) :: st, cV R m tg ln F) Q) : wj X d e (pc, l, .int (i32 z) :: rv a :: st, cV R m tg ln F) Q := by
  have h6 := ho.1
  rw [rv_n (by omega)]
  refine jx_hp h1 rfl rfl rfl ?_ hp k
  have hx := cC_i (ln := ln) (F := F) (kd := 1) (show tg a = 20 + ((1 : Nat) : Int) by omega) (by omega)
  simp only [jHeap, cV_at ho, hx]
  rw [if_neg (show ¬ a.toNat = 63 by omega), if_pos (jIn_t (n := (ln a).toNat) h0 (by omega) (by omega)), i32_nat h0 (by omega), show ((z.toNat : Nat) : Int) = z by omega]
theorem cx_bal {X : jX} {d : Nat} {e : jM} {pc pc_q : Nat} {l : jL} {st : List Value} {R : Nat → jC} {m : Nat} {tg ln : Int → Int} {F : Int → Int → Int} {Q : jO → jH → Prop} {a z : Int} (h1 : jGet' e pc = some (.baload, 1)) (hp : pc + 1 = pc_q) (ho : own m a) (hg : tg a = 20 ∨ tg a = 23) (h0 : 0 ≤ z) (hz : z < ln a) (hl : ln a ≤ 1000000) (k : wj X d e (pc_q, l, .int (i32 (F a z)) :: st, cV R m tg ln F) Q) : wj X d e (pc, l, .int (i32 z) :: rv a :: st, cV R m tg ln F) Q := by
  have h6 := ho.1
  rw [rv_n (by omega)]
  refine jx_hp h1 rfl rfl rfl ?_ hp k
  rcases hg with hg | hg
  · have hx := cC_i (ln := ln) (F := F) (kd := 0) (show tg a = 20 + ((0 : Nat) : Int) by omega) (by omega)
    simp only [jHeap, cV_at ho, hx]
    rw [if_pos (jIn_t (n := (ln a).toNat) h0 (by omega) (by omega)), i32_nat h0 (by omega), show ((z.toNat : Nat) : Int) = z by omega]
  · have hx := cC_i (ln := ln) (F := F) (kd := 3) (show tg a = 20 + ((3 : Nat) : Int) by omega) (by omega)
    simp only [jHeap, cV_at ho, hx]
    rw [if_pos (jIn_t (n := (ln a).toNat) h0 (by omega) (by omega)), i32_nat h0 (by omega), show ((z.toNat : Nat) : Int) = z by omega]
theorem cC_iu {tg ln : Int → Int} {F : Int → Int → Int} {a z y : Int} {kd : Nat} {x : Int32} (h : tg a = 20 + (kd : Int)) (hk : kd = 0 ∨ kd = 1 ∨ kd = 3) (h0 : 0 ≤ z) (hx : x = i32 y) : (.inl (kd, (ln a).toNat, .inl (upd (fun j => i32 (F a (j : Int))) z.toNat x)) : jC) = cCe tg ln (uF F a z y) a := by
  rw [cC_i h hk]
  congr 4
  funext j
  unfold upd
  by_cases q : j = z.toNat
  · rw [if_pos q, hx, q, show ((z.toNat : Nat) : Int) = z by omega, uF_e]
  · rw [if_neg q, uF_j (by omega)]
theorem cx_ias {X : jX} {d : Nat} {e : jM} {pc pc_q : Nat} {l : jL} {st : List Value} {R : Nat → jC} {m : Nat} {tg ln : Int → Int} {F : Int → Int → Int} {Q : jO → jH → Prop} {a z y : Int} (h1 : jGet' e pc = some (.iastore, 1)) (hp : pc + 1 = pc_q) (ho : own m a) (hg : tg a = 21) (h0 : 0 ≤ z) (hz : z < ln a) (hl : ln a ≤ 1000000) (k : wj X d e (pc_q, l, st, cV R m tg ln (uF F a z y)) Q) : wj X d e (pc, l, .int (i32 y) :: .int (i32 z) :: rv a :: st, cV R m tg ln F) Q := by
  have h6 := ho.1
  rw [rv_n (by omega)]
  refine jx_hp h1 rfl rfl rfl ?_ hp k
  have hx := cC_i (ln := ln) (F := F) (kd := 1) (show tg a = 20 + ((1 : Nat) : Int) by omega) (by omega)
  simp only [jHeap, cV_at ho, hx]
  rw [if_pos (jIn_t (n := (ln a).toNat) h0 (by omega) (by omega)), i32_nat h0 (by omega), cC_iu (ln := ln) (F := F) (kd := 1) (y := y) (show tg a = 20 + ((1 : Nat) : Int) by omega) (by omega) h0 rfl, cV_put ho]
/-- a long of a row -/
theorem cC_l {tg ln : Int → Int} {F : Int → Int → Int} {a : Int} (h : tg a = 22) : cCe tg ln F a = .inl (2, (ln a).toNat, .inr (.inl (fun j => i64 (F a (j : Int))))) := by
  unfold cCe
  rw [if_neg (by omega), if_pos h]
theorem cx_lal {X : jX} {d : Nat} {e : jM} {pc pc_q : Nat} {l : jL} {st : List Value} {R : Nat → jC} {m : Nat} {tg ln : Int → Int} {F : Int → Int → Int} {Q : jO → jH → Prop} {a z : Int} (h1 : jGet' e pc = some (.laload, 1)) (hp : pc + 1 = pc_q) (ho : own m a) (hg : tg a = 22) (h0 : 0 ≤ z) (hz : z < ln a) (hl : ln a ≤ 1000000) (k : wj X d e (pc_q, l, .long (i64 (F a z)) :: st, cV R m tg ln F) Q) : wj X d e (pc, l, .int (i32 z) :: rv a :: st, cV R m tg ln F) Q := by
  have h6 := ho.1
  rw [rv_n (by omega)]
  refine jx_hp h1 rfl rfl rfl ?_ hp k
  simp only [jHeap, cV_at ho, cC_l hg]
  rw [if_pos (jIn_t (n := (ln a).toNat) h0 (by omega) (by omega)), i32_nat h0 (by omega), show ((z.toNat : Nat) : Int) = z by omega]
theorem cx_las {X : jX} {d : Nat} {e : jM} {pc pc_q : Nat} {l : jL} {st : List Value} {R : Nat → jC} {m : Nat} {tg ln : Int → Int} {F : Int → Int → Int} {Q : jO → jH → Prop} {a z : Int} {y : Int64} (h1 : jGet' e pc = some (.lastore, 1)) (hp : pc + 1 = pc_q) (ho : own m a) (hg : tg a = 22) (h0 : 0 ≤ z) (hz : z < ln a) (hl : ln a ≤ 1000000) (k : wj X d e (pc_q, l, st, cV R m tg ln (uF F a z y.toInt)) Q) : wj X d e (pc, l, .long y :: .int (i32 z) :: rv a :: st, cV R m tg ln F) Q := by
  have h6 := ho.1
  rw [rv_n (by omega)]
  refine jx_hp h1 rfl rfl rfl ?_ hp k
  have hu : (.inl (2, (ln a).toNat, .inr (.inl (vp_updL (fun j => i64 (F a (j : Int))) z.toNat y))) : jC) = cCe tg ln (uF F a z y.toInt) a := by
    rw [cC_l hg]
    congr 5
    funext j
    unfold vp_updL
    by_cases q : j = z.toNat
    · rw [if_pos q, q, show ((z.toNat : Nat) : Int) = z by omega, uF_e, i64_of]
    · rw [if_neg q, uF_j (by omega)]
  simp only [jHeap, cV_at ho, cC_l hg]
  rw [if_pos (jIn_t (n := (ln a).toNat) h0 (by omega) (by omega)), i32_nat h0 (by omega), hu, cV_put ho]
/-- a ref of a row -/
theorem cC_a {tg ln : Int → Int} {F : Int → Int → Int} {a : Int} (h : 24 ≤ tg a) : cCe tg ln F a = .inl ((tg a - 20).toNat, (ln a).toNat, .inr (.inr (.inr (.inr (fun j => if F a (j : Int) = 0 then none else some (F a (j : Int)).toNat))))) := by
  unfold cCe
  rw [if_neg (by omega), if_neg (by omega), if_neg (by omega)]
theorem rv_rf {z : Int} : va_rf (if z = 0 then none else some z.toNat) = rv z := by
  unfold rv
  by_cases h : z = 0
  · rw [if_pos h, if_pos h]
    rfl
  · rw [if_neg h, if_neg h]
    rfl
theorem cx_aal {X : jX} {d : Nat} {e : jM} {pc pc_q : Nat} {l : jL} {st : List Value} {R : Nat → jC} {m : Nat} {tg ln : Int → Int} {F : Int → Int → Int} {Q : jO → jH → Prop} {a z : Int} (h1 : jGet' e pc = some (.aaload, 1)) (hp : pc + 1 = pc_q) (ho : own m a) (hg : 24 ≤ tg a ∧ tg a < 28) (h0 : 0 ≤ z) (hz : z < ln a) (hl : ln a ≤ 1000000) (k : wj X d e (pc_q, l, rv (F a z) :: st, cV R m tg ln F) Q) : wj X d e (pc, l, .int (i32 z) :: rv a :: st, cV R m tg ln F) Q := by
  have h6 := ho.1
  rw [rv_n (by omega)]
  refine jx_hp h1 rfl rfl rfl ?_ hp k
  have hb : (jIn (i32 z) (ln a).toNat && decide (4 ≤ (tg a - 20).toNat) && decide ((tg a - 20).toNat < 8)) = true := by
    rw [jIn_t (n := (ln a).toNat) h0 (by omega) (by omega), decide_eq_true (show 4 ≤ (tg a - 20).toNat by omega), decide_eq_true (show (tg a - 20).toNat < 8 by omega)]
    rfl
  simp only [jHeap, cV_at ho, cC_a hg.1]
  rw [if_pos hb, i32_nat h0 (by omega), show ((z.toNat : Nat) : Int) = z by omega, rv_rf]
theorem cC_au {tg ln : Int → Int} {F : Int → Int → Int} {a z y : Int} (h : 24 ≤ tg a) (h0 : 0 ≤ z) {v : Option Nat} (hv : v = if y = 0 then none else some y.toNat) : (.inl ((tg a - 20).toNat, (ln a).toNat, .inr (.inr (.inr (.inr (va_up (fun j => if F a (j : Int) = 0 then none else some (F a (j : Int)).toNat) z.toNat v))))) : jC) = cCe tg ln (uF F a z y) a := by
  rw [cC_a h]
  congr 7
  funext j
  unfold va_up
  by_cases q : j = z.toNat
  · rw [if_pos q, q, show ((z.toNat : Nat) : Int) = z by omega, uF_e, hv]
  · rw [if_neg q, uF_j (by omega)]
theorem cx_aas {X : jX} {d : Nat} {e : jM} {pc pc_q c : Nat} {l : jL} {st : List Value} {R : Nat → jC} {m : Nat} {tg ln : Int → Int} {F : Int → Int → Int} {Q : jO → jH → Prop} {a z y : Int} (h1 : jGet' e pc = some (.aastore, 1)) (hp : pc + 1 = pc_q) (ho : own m a) (hg : 24 ≤ tg a ∧ tg a < 28) (h0 : 0 ≤ z) (hz : z < ln a) (hl : ln a ≤ 1000000) (hy : y ≠ 0 → own m y ∧ tg y = (c : Int) + 1) (hc : c < 19) (hov : jOver c = some (tg a - 20).toNat) (k : wj X d e (pc_q, l, st, cV R m tg ln (uF F a z y)) Q) : wj X d e (pc, l, rv y :: .int (i32 z) :: rv a :: st, cV R m tg ln F) Q := by
  have h6 := ho.1
  rw [rv_n (z := a) (by omega)]
  by_cases q : y = 0
  · subst q
    rw [rv_0]
    refine jx_hp h1 rfl rfl rfl ?_ hp k
    have hb : (jIn (i32 z) (ln a).toNat && decide (4 ≤ (tg a - 20).toNat) && decide ((tg a - 20).toNat < 8)) = true := by
      rw [jIn_t (n := (ln a).toNat) h0 (by omega) (by omega), decide_eq_true (show 4 ≤ (tg a - 20).toNat by omega), decide_eq_true (show (tg a - 20).toNat < 8 by omega)]
      rfl
    simp only [jHeap, cV_at ho, cC_a hg.1]
    rw [if_pos hb, i32_nat h0 (by omega), cC_au (y := 0) hg.1 h0 (by rw [if_pos rfl]), cV_put ho]
  · obtain ⟨oy, ty⟩ := hy q
    rw [rv_n q]
    refine jx_hp h1 rfl rfl rfl ?_ hp k
    have hb : (jIn (i32 z) (ln a).toNat && decide (jOver c = some (tg a - 20).toNat)) = true := by
      rw [jIn_t (n := (ln a).toNat) h0 (by omega) (by omega), decide_eq_true hov]
      rfl
    simp only [jHeap, cV_at ho, cV_at oy, cC_a hg.1, cC_o ty hc]
    rw [if_pos hb, i32_nat h0 (by omega), cC_au (y := y) hg.1 h0 (by rw [if_neg q]), cV_put ho]
