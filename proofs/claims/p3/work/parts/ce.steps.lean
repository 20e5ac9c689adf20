/-! THE CLASS'S SIDE: steps, as the printer wants them -/
section
variable {X : jX} {d : Nat} {e : jM} {pc pc_q k0 c q : Nat} {l : jL} {st : List Value} {R : Nat → jC} {u : Int} {m : Nat} {tg ln : Int → Int} {F : Int → Int → Int} {Q : jO → jH → Prop} {a v : Int}
theorem cx_gi (h1 : jGet' e pc = some (.getfield k0, 3)) (h2 : jFind jFl e.2.1 k0 = some (c, q)) (hc : c < 19) (hq : q < (cTy.getD c []).length) (ht : (cTy.getD c []).getD q 0 = 0 ∨ (cTy.getD c []).getD q 0 = 1) (hp : pc + 3 = pc_q) (ho : own m a) (hg : tg a = (c : Int) + 1) (hv : F a (q : Int) = v) (k : wj X d e (pc_q, l, .int (i32 v) :: st, cV R m tg ln F) Q) : wj X d e (pc, l, rv a :: st, cV R m tg ln F) Q := by
  subst hv
  refine cx_get h1 h2 hc hq rfl hp ho hg ?_
  rcases ht with ht | ht
  · rw [ht]
    exact k
  · rw [ht]
    exact k
theorem cx_gr (h1 : jGet' e pc = some (.getfield k0, 3)) (h2 : jFind jFl e.2.1 k0 = some (c, q)) (hc : c < 19) (hq : q < (cTy.getD c []).length) (ht : (cTy.getD c []).getD q 0 = 3) (hp : pc + 3 = pc_q) (ho : own m a) (hg : tg a = (c : Int) + 1) (hv : F a (q : Int) = v) (k : wj X d e (pc_q, l, rv v :: st, cV R m tg ln F) Q) : wj X d e (pc, l, rv a :: st, cV R m tg ln F) Q := by
  subst hv
  refine cx_get h1 h2 hc hq rfl hp ho hg ?_
  rw [ht]
  exact k
theorem cx_gl (h1 : jGet' e pc = some (.getfield k0, 3)) (h2 : jFind jFl e.2.1 k0 = some (c, q)) (hc : c < 19) (hq : q < (cTy.getD c []).length) (ht : (cTy.getD c []).getD q 0 = 2) (hp : pc + 3 = pc_q) (ho : own m a) (hg : tg a = (c : Int) + 1) (k : ∀ y : Int64, wj X d e (pc_q, l, .long y :: st, cV R m tg ln F) Q) : wj X d e (pc, l, rv a :: st, cV R m tg ln F) Q := by
  refine cx_get h1 h2 hc hq rfl hp ho hg ?_
  rw [ht]
  exact k _
variable {z : Int} {f : String × String × String × Bool}
theorem cx_pi (h1 : jGet' e pc = some (.putfield k0, 3)) (h2 : jFind jFl e.2.1 k0 = some (c, q)) (hc : c < 19) (hq : q < (cTy.getD c []).length) (ht : (cTy.getD c []).getD q 0 = 0) (h3 : (jFs.getD c [])[q]? = some f) (h4 : (jTys.getD c [])[q]? = some .int) (h5 : f.2.2.2 = true → (e.1.name == "<init>") = true ∧ e.2.1 = c) (hp : pc + 3 = pc_q) (ho : own m a) (hg : tg a = (c : Int) + 1) {qi : Int} (hqi : (q : Int) = qi) (k : wj X d e (pc_q, l, st, cV R m tg ln (uF F a qi z)) Q) : wj X d e (pc, l, .int (i32 z) :: rv a :: st, cV R m tg ln F) Q := by
  subst hqi
  exact cx_put (t := 0) h1 h2 hc hq ht h3 h4 h5 rfl hp ho hg k
theorem cx_pb (h1 : jGet' e pc = some (.putfield k0, 3)) (h2 : jFind jFl e.2.1 k0 = some (c, q)) (hc : c < 19) (hq : q < (cTy.getD c []).length) (ht : (cTy.getD c []).getD q 0 = 1) (h3 : (jFs.getD c [])[q]? = some f) (h4 : (jTys.getD c [])[q]? = some .boolean) (h5 : f.2.2.2 = true → (e.1.name == "<init>") = true ∧ e.2.1 = c) (hz : 0 ≤ z ∧ z ≤ 1) (hp : pc + 3 = pc_q) (ho : own m a) (hg : tg a = (c : Int) + 1) {qi : Int} (hqi : (q : Int) = qi) (k : wj X d e (pc_q, l, st, cV R m tg ln (uF F a qi z)) Q) : wj X d e (pc, l, .int (i32 z) :: rv a :: st, cV R m tg ln F) Q := by
  subst hqi
  exact cx_put (t := 1) h1 h2 hc hq ht h3 h4 h5 (jFit_b hz.1 hz.2) hp ho hg k
theorem cx_po {s : String} (h1 : jGet' e pc = some (.putfield k0, 3)) (h2 : jFind jFl e.2.1 k0 = some (c, q)) (hc : c < 19) (hq : q < (cTy.getD c []).length) (ht : (cTy.getD c []).getD q 0 = 3) (h3 : (jFs.getD c [])[q]? = some f) (h4 : (jTys.getD c [])[q]? = some (.object s)) (h5 : f.2.2.2 = true → (e.1.name == "<init>") = true ∧ e.2.1 = c) (hp : pc + 3 = pc_q) (ho : own m a) (hg : tg a = (c : Int) + 1) {qi : Int} (hqi : (q : Int) = qi) (k : wj X d e (pc_q, l, st, cV R m tg ln (uF F a qi z)) Q) : wj X d e (pc, l, rv z :: rv a :: st, cV R m tg ln F) Q := by
  subst hqi
  exact cx_put (t := 3) h1 h2 hc hq ht h3 h4 h5 jFit_r hp ho hg k
theorem cx_pa {s : FieldType} (h1 : jGet' e pc = some (.putfield k0, 3)) (h2 : jFind jFl e.2.1 k0 = some (c, q)) (hc : c < 19) (hq : q < (cTy.getD c []).length) (ht : (cTy.getD c []).getD q 0 = 3) (h3 : (jFs.getD c [])[q]? = some f) (h4 : (jTys.getD c [])[q]? = some (.array s)) (h5 : f.2.2.2 = true → (e.1.name == "<init>") = true ∧ e.2.1 = c) (hp : pc + 3 = pc_q) (ho : own m a) (hg : tg a = (c : Int) + 1) {qi : Int} (hqi : (q : Int) = qi) (k : wj X d e (pc_q, l, st, cV R m tg ln (uF F a qi z)) Q) : wj X d e (pc, l, rv z :: rv a :: st, cV R m tg ln F) Q := by
  subst hqi
  exact cx_put (t := 3) h1 h2 hc hq ht h3 h4 h5 jFit_a hp ho hg k
theorem cx_pl {y : Int64} (h1 : jGet' e pc = some (.putfield k0, 3)) (h2 : jFind jFl e.2.1 k0 = some (c, q)) (hc : c < 19) (hq : q < (cTy.getD c []).length) (ht : (cTy.getD c []).getD q 0 = 2) (h3 : (jFs.getD c [])[q]? = some f) (h4 : (jTys.getD c [])[q]? = some .long) (h5 : f.2.2.2 = true → (e.1.name == "<init>") = true ∧ e.2.1 = c) (hp : pc + 3 = pc_q) (ho : own m a) (hg : tg a = (c : Int) + 1) {qi : Int} (hqi : (q : Int) = qi) (k : wj X d e (pc_q, l, st, cV R m tg ln (uF F a qi y.toInt)) Q) : wj X d e (pc, l, .long y :: rv a :: st, cV R m tg ln F) Q := by
  subst hqi
  have w : dV 2 y.toInt = .long y := by
    show Value.long (i64 y.toInt) = _
    rw [i64_of]
  rw [← w]
  exact cx_put (t := 2) h1 h2 hc hq ht h3 h4 h5 rfl hp ho hg k
end
section
variable {u : Int} {m : Nat} {tg ln : Int → Int} {F : Int → Int → Int} {a z : Int} {c q : Nat}
theorem HC_fi {lo hi g : Int} (h : HC u m tg ln F) (hg : tg a = (c : Int) + 1) (hc : c < 12) (hb : (cBd.getD c []).getD q (1, 0, 0, 0) = (0, lo, hi, g)) (h1 : lo ≤ z) (h2 : z ≤ hi) (hs : (c = 10 → (2 ≤ q → q ≤ 6 → a = u) ∧ (q = 7 → a = u ∨ z ≤ ln (F a 2))) ∧ (c = 2 → (q = 15 → a = u) ∧ (q = 16 → a = u ∨ (0 ≤ z ∧ z ≤ ln (F a 15))))) : HC u m tg ln (uF F a (q : Int) z) := HC_pf h hg hc (by
    rw [hb]
    exact ⟨fun _ => ⟨h1, h2⟩, fun w => by rcases w with w | w <;> exact absurd w (show ¬ ((0 : Int) = _) by decide), fun w => absurd w (show ¬ ((0 : Int) = 3) by decide)⟩) hs
theorem HC_fl {x y g : Int} (h : HC u m tg ln F) (hg : tg a = (c : Int) + 1) (hc : c < 12) (hb : (cBd.getD c []).getD q (1, 0, 0, 0) = (1, x, y, g)) (hs : (c = 10 → (2 ≤ q → q ≤ 6 → a = u) ∧ (q = 7 → a = u ∨ z ≤ ln (F a 2))) ∧ (c = 2 → (q = 15 → a = u) ∧ (q = 16 → a = u ∨ (0 ≤ z ∧ z ≤ ln (F a 15))))) : HC u m tg ln (uF F a (q : Int) z) := HC_pf h hg hc (by
    rw [hb]
    exact ⟨fun w => absurd w (show ¬ ((1 : Int) = 0) by decide), fun w => by rcases w with w | w <;> exact absurd w (show ¬ ((1 : Int) = _) by decide), fun w => absurd w (show ¬ ((1 : Int) = 3) by decide)⟩) hs
theorem HC_fr {t : Int} (ht : t < 20) (h : HC u m tg ln F) (hg : tg a = (c : Int) + 1) (hc : c < 12) (hb : (cBd.getD c []).getD q (1, 0, 0, 0) = (2, t, 0, 0)) (hz : z = 0 ∨ (own m z ∧ tg z = t)) (hs : (c = 10 → (2 ≤ q → q ≤ 6 → a = u) ∧ (q = 7 → a = u ∨ z ≤ ln (F a 2))) ∧ (c = 2 → (q = 15 → a = u) ∧ (q = 16 → a = u ∨ (0 ≤ z ∧ z ≤ ln (F a 15))))) : HC u m tg ln (uF F a (q : Int) z) := HC_pf h hg hc (by
    rw [hb]
    refine ⟨fun w => absurd w (show ¬ ((2 : Int) = 0) by decide), fun _ => ?_, fun w => absurd w (show ¬ ((2 : Int) = 3) by decide)⟩
    rcases hz with hz | hz
    · exact Or.inl hz
    · exact Or.inr ⟨hz.1, hz.2, fun w => absurd rfl w, fun w => absurd (show 20 ≤ t from w) (by omega)⟩) hs
theorem HC_fn {t x g : Int} (h : HC u m tg ln F) (hg : tg a = (c : Int) + 1) (hc : c < 12) (hb : (cBd.getD c []).getD q (1, 0, 0, 0) = (3, t, x, g)) (hz : own m z ∧ tg z = t) (hx : x ≠ 0 → ln z = x) (hy : 20 ≤ t → F z (-1) = g) (hs : (c = 10 → (2 ≤ q → q ≤ 6 → a = u) ∧ (q = 7 → a = u ∨ z ≤ ln (F a 2))) ∧ (c = 2 → (q = 15 → a = u) ∧ (q = 16 → a = u ∨ (0 ≤ z ∧ z ≤ ln (F a 15))))) : HC u m tg ln (uF F a (q : Int) z) := HC_pf h hg hc (by
    rw [hb]
    refine ⟨fun w => absurd w (show ¬ ((3 : Int) = 0) by decide), fun _ => Or.inr ⟨hz.1, hz.2, hx, hy⟩, fun _ _ => ?_⟩
    have := hz.1.1
    omega) hs
end
/-- what is touched: tags and fields (-5: all of a row); x0: the one cell whose change is told elsewhere -/
def inL (L : List (Int × Int)) (t q : Int) : Bool := L.any (fun p => p.1 == t && (p.2 == q || (p.2 == -5 && decide (0 ≤ q))))
def Fq (x0 : Int) (L : List (Int × Int)) (m : Nat) (tg : Int → Int) (F F_q : Int → Int → Int) : Prop := ∀ x q, own m x → x ≠ x0 → inL L (tg x) q = false → F_q x q = F x q
theorem Fq_r {x0 : Int} {L : List (Int × Int)} {m : Nat} {tg : Int → Int} {F : Int → Int → Int} : Fq x0 L m tg F F := fun _ _ _ _ _ => rfl
theorem Fq_p {x0 : Int} {L : List (Int × Int)} {m : Nat} {tg tg_q : Int → Int} {F F_q : Int → Int → Int} {a j z t : Int} (h : Fq x0 L m tg F F_q) (hg : tg_q a = t) (he : own m a → tg_q a = tg a) (hl : inL L t j = true) : Fq x0 L m tg F (uF F_q a j z) := fun x q ho hx hn => by
  rw [← h x q ho hx hn]
  refine if_neg (fun w => ?_)
  rw [w.1] at ho
  rw [w.1, w.2, ← he ho, hg, hl] at hn
  cases hn
/-- at the cell itself, or at a new one -/
theorem Fq_x {x0 : Int} {L : List (Int × Int)} {m : Nat} {tg : Int → Int} {F F_q : Int → Int → Int} {a j z : Int} (h : Fq x0 L m tg F F_q) (ha : a = x0 ∨ 64 + (m : Int) ≤ a) : Fq x0 L m tg F (uF F_q a j z) := fun x q ho hx hn => by
  rw [← h x q ho hx hn]
  refine uF_a (fun w => ?_)
  rcases ha with ha | ha
  · exact hx (w.trans ha)
  · have := ho.2.1
    omega
/-- all of a row -/
theorem inL_a {L : List (Int × Int)} {t j : Int} (h : inL L t 0 = true) (h0 : 0 ≤ j) (hb : L.all (fun p => !(p.1 == t) || p.2 == -5) = true) : inL L t j = true := by
  unfold inL at h ⊢
  obtain ⟨p, h1, h2⟩ := List.any_eq_true.mp h
  refine List.any_eq_true.mpr ⟨p, h1, ?_⟩
  have h3 := Bool.and_eq_true_iff.mp h2
  have h5 := List.all_eq_true.mp hb p h1
  rw [h3.1] at h5 ⊢
  have h4 : (p.2 == -5) = true := by simpa using h5
  rw [h4, decide_eq_true h0, Bool.and_self, Bool.or_true]
  rfl
theorem inL_s {L L2 : List (Int × Int)} {t q : Int} (hs : L2.all (fun p => L.any (fun r => r.1 == p.1 && r.2 == p.2)) = true) (hn : inL L t q = false) : inL L2 t q = false := by
  cases w : inL L2 t q with
  | false => rfl
  | true =>
    exfalso
    unfold inL at w
    obtain ⟨p, h1, h2⟩ := List.any_eq_true.mp w
    have h3 := List.all_eq_true.mp hs p h1
    obtain ⟨r, r1, r2⟩ := List.any_eq_true.mp h3
    have e2 := Bool.and_eq_true_iff.mp r2
    have q1 : r.1 = p.1 := by simpa using e2.1
    have q2 : r.2 = p.2 := by simpa using e2.2
    have : inL L t q = true := by
      unfold inL
      refine List.any_eq_true.mpr ⟨r, r1, ?_⟩
      rw [q1, q2]
      exact h2
    rw [this] at hn
    cases hn
theorem Fq_t {x0 x1 : Int} {L L2 : List (Int × Int)} {m m1 : Nat} {tg ln tg1 ln1 : Int → Int} {F F1 F2 : Int → Int → Int} (h : Fq x0 L m tg F F1) (ex : Ex m tg ln m1 tg1 ln1) (g : Fq x1 L2 m1 tg1 F1 F2) (hs : L2.all (fun p => L.any (fun r => r.1 == p.1 && r.2 == p.2)) = true) (hx : x1 = x0 ∨ x1 = 0 ∨ 64 + (m : Int) ≤ x1) : Fq x0 L m tg F F2 := fun x q ho h0 hn => by
  rw [← h x q ho h0 hn]
  refine g x q (own_m ho ex.1) (fun w => ?_) ?_
  · rcases hx with hx | hx | hx
    · exact h0 (w.trans hx)
    · have := ho.1
      omega
    · have := ho.2.1
      omega
  · rw [(ex.2 x ho).1]
    exact inL_s hs hn
/-! what stays in the locals -/
theorem rv_c2 {z : Int} : ((rv z).category == 2) = false := by
  rw [rv_cat]
  rfl
theorem jg_nr {l : jL} {i j : Nat} {v : Value} {z : Int} (h : i ≠ j) (g : jGet l j = some (rv z)) : jGet (jSto1 l i v) j = some (rv z) := jg_ne h g rv_c2
theorem jg_nr2 {l : jL} {i j : Nat} {v : Value} {z : Int} (h : i ≠ j) (h1 : i + 1 ≠ j) (g : jGet l j = some (rv z)) : jGet (jSto2 l i v) j = some (rv z) := jg_ne2 h h1 g (Or.inl rv_c2)
theorem own_z {m : Nat} {a : Int} (h : own m a) : a ≠ 0 := fun w => by have := h.1; omega
theorem jS_r {z : Int} {l : List Value} : jSum (rv z :: l) = jSum l + 1 := by
  unfold jSum
  rw [List.map_cons, List.sum_cons, rv_cat, Nat.add_comm]
theorem jS_i {x : Int32} {l : List Value} : jSum (.int x :: l) = jSum l + 1 := by
  unfold jSum
  rw [List.map_cons, List.sum_cons, Nat.add_comm]
  rfl
theorem jS_l {x : Int64} {l : List Value} : jSum (.long x :: l) = jSum l + 2 := by
  unfold jSum
  rw [List.map_cons, List.sum_cons, Nat.add_comm]
  rfl
theorem jS_f {x : Nat} {l : List Value} : jSum (.ref x :: l) = jSum l + 1 := by
  unfold jSum
  rw [List.map_cons, List.sum_cons, Nat.add_comm]
  rfl
theorem jS_0 : jSum [] = 0 := rfl
theorem la_r {i : Nat} {z : Int} {l : List Value} : lv_args i (rv z :: l) = (i, rv z) :: lv_args (i + 1) l := by
  show (i, rv z) :: lv_args (if (rv z).category = 2 then i + 2 else i + 1) l = _
  rw [rv_cat]
  rfl
theorem la_i {i : Nat} {x : Int32} {l : List Value} : lv_args i (.int x :: l) = (i, .int x) :: lv_args (i + 1) l := rfl
theorem la_l {i : Nat} {x : Int64} {l : List Value} : lv_args i (.long x :: l) = (i, .long x) :: lv_args (i + 2) l := rfl
theorem la_f {i x : Nat} {l : List Value} : lv_args i (.ref x :: l) = (i, .ref x) :: lv_args (i + 1) l := rfl
theorem la_0 {i : Nat} : lv_args i [] = [] := rfl
