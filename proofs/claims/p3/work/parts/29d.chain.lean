/-! chains that grow at their end -/
def NX (A : Nat → Nat → Int) (e : Int) : Prop := A 22 e.toNat = 0
theorem NX_ag {A A_q : Nat → Nat → Int} {e : Int} (h0 : 0 ≤ e) (ag : Ag e (e + 1) A A_q) (h : NX A e) : NX A_q e := by
  unfold NX at h ⊢
  rw [ag 22 e.toNat rfl (by omega) (by omega)]
  exact h
theorem NX_nd {A : Nat → Nat → Int} {n k a b c d f : Int} (h : ND A n k a b c d f 0) : NX A n := h.2.2.2.2.2.2
theorem wA_mk {A : Nat → Nat → Int} {V : Nat → Prop} {sb pa e x c d f y lo hi : Int} (h : ND A e 7 x pa c d f y) (h1 : lo ≤ e) (h2 : e < hi) (h3 : 0 ≤ pa) (h4 : pa < sb) (h5 : (A 7 pa.toNat = 5 ∧ wE A V sb 20 x lo e) ∨ (A 7 pa.toNat = 6 ∧ wR A V sb 20 0 x lo e) ∨ (A 7 pa.toNat = 8 ∧ wR A V sb 20 1 x lo e) ∨ (A 7 pa.toNat = 7 ∧ wW A V sb (A 8 pa.toNat) x lo e)) : wA A V sb pa e lo hi := ⟨h1, h2, h.1, h.2.2.1, h3, h4, by
  rw [h.2.1]
  exact h5⟩
theorem wW_mk {A : Nat → Nat → Int} {V : Nat → Prop} {sb z x s b c d f y lo hi : Int} (h : ND A x 2 s b c d f y) (h1 : lo ≤ x) (h2 : x < hi) (hs : SY V sb s) (hk : kArr (A 7 s.toNat)) (hz : A 8 s.toNat = z) : wW A V sb z x lo hi := ⟨h1, h2, h.1, by
  rw [h.2.1]
  exact ⟨hs, hk, hz⟩⟩
/-- a row of growing numbers -/
def inc : Int → List Int → Prop
  | _, [] => True
  | lo, e :: l => lo ≤ e ∧ inc (e + 1) l
theorem inc_le {l : List Int} {a b : Int} (hab : a ≤ b) (h : inc b l) : inc a l := by
  cases l with
  | nil => trivial
  | cons e l => exact ⟨by have := h.1; omega, h.2⟩
theorem inc_in : ∀ {l : List Int} {a : Int}, inc a l → ∀ e ∈ l, a ≤ e
  | [], _, _, e, he => by cases he
  | c :: l, a, h, e, he => by
    rcases List.mem_cons.mp he with rfl | he
    · exact h.1
    · have := inc_in h.2 e he
      have := h.1
      omega
theorem last_in : ∀ {l : List Int}, l ≠ [] → l.getLastD 0 ∈ l
  | [], h => absurd rfl h
  | [c], _ => by simp
  | c :: e :: l, _ => by
    have := last_in (l := e :: l) (by simp)
    rw [show (c :: e :: l).getLastD 0 = (e :: l).getLastD 0 by simp]
    exact List.mem_cons_of_mem _ this
theorem inc_last : ∀ {l : List Int} {a : Int}, inc a l → ∀ e ∈ l.dropLast, e < l.getLastD 0
  | [], _, _, e, he => by cases he
  | [c], _, _, e, he => by cases he
  | c :: c2 :: l, a, h, e, he => by
    have q : (c :: c2 :: l).getLastD 0 = (c2 :: l).getLastD 0 := by simp
    rw [q]
    rw [show (c :: c2 :: l).dropLast = c :: (c2 :: l).dropLast from rfl] at he
    rcases List.mem_cons.mp he with rfl | he
    · have := inc_in h.2 _ (last_in (l := c2 :: l) (by simp))
      omega
    · exact inc_last h.2 e he
theorem CH_add {A A_q : Nat → Nat → Int} {y : Int} (hy : 0 < y) (hx : A_q 22 y.toNat = 0) : ∀ {l : List Int} {c : Int}, l ≠ [] → (∀ e ∈ l.dropLast, A_q 22 e.toNat = A 22 e.toNat) → A_q 22 (l.getLastD 0).toNat = y → CH A c l → CH A_q c (l ++ [y])
  | [], _, h, _, _, _ => absurd rfl h
  | [e], c, _, _, h2, h3 => ⟨h3.1, h3.2.1, h2, hy, hx⟩
  | e :: e2 :: l, c, _, h1, h2, h3 => by
    refine ⟨h3.1, h3.2.1, ?_⟩
    rw [h1 e (List.mem_cons_self ..)]
    rw [show (e :: e2 :: l).getLastD 0 = (e2 :: l).getLastD 0 by simp] at h2
    exact CH_add hy hx (by simp) (fun e_q he => h1 e_q (List.mem_cons_of_mem _ he)) h2 h3.2.2
theorem CH_pos {A : Nat → Nat → Int} : ∀ {l : List Int} {c : Int}, CH A c l → ∀ e ∈ l, 0 < e
  | [], _, _, e, he => by cases he
  | c :: l, _, h, e, he => by
    rcases List.mem_cons.mp he with rfl | he
    · exact h.2.1
    · exact CH_pos h.2.2 e he
theorem CH_z {A : Nat → Nat → Int} {l : List Int} {c : Int} (h : CH A c l) (hl : l.getLastD 0 = 0) : l = [] := by
  cases l with
  | nil => rfl
  | cons e l =>
    have := CH_pos h _ (last_in (l := e :: l) (by simp))
    omega
theorem wAs_inc {A : Nat → Nat → Int} {V : Nat → Prop} {sb : Int} : ∀ {l : List Int} {pa lo hi : Int}, wAs A V sb pa l lo hi → inc lo l
  | [], _, _, _, _ => trivial
  | e :: l, pa, lo, hi, h => by
    obtain ⟨m, h1, h2, h3, h4⟩ := h
    exact ⟨h3.1, inc_le (by have := h3.2.1; omega) (wAs_inc h4)⟩
theorem wAs_add {A : Nat → Nat → Int} {V : Nat → Prop} {sb y hi hi2 : Int} (hh : hi ≤ hi2) : ∀ {l : List Int} {pa lo : Int}, wAs A V sb pa l lo hi → wA A V sb (pa + (l.length : Int)) y hi hi2 → wAs A V sb pa (l ++ [y]) lo hi2
  | [], pa, lo, h, hy => by
    have h : lo = hi := h
    subst h
    exact ⟨hi2, hh, Int.le_refl _, by simpa using hy, rfl⟩
  | e :: l, pa, lo, h, hy => by
    obtain ⟨m, h1, h2, h3, h4⟩ := h
    refine ⟨m, h1, by omega, h3, wAs_add hh h4 ?_⟩
    rw [show pa + 1 + (l.length : Int) = pa + ((e :: l).length : Int) by simp; omega]
    exact hy
theorem wAs_nx {A A_q : Nat → Nat → Int} {V : Nat → Prop} {sb z y : Int} (e0 : A_q = uA A 22 z.toNat y) (hz : 0 ≤ z) : ∀ {l : List Int} {pa lo hi : Int}, 0 ≤ lo → (z ∈ l ∨ z < lo ∨ hi ≤ z) → wAs A V sb pa l lo hi → wAs A_q V sb pa l lo hi
  | [], _, _, _, _, _, h => h
  | e :: l, pa, lo, hi, h0, hm, h => by
    obtain ⟨m, h1, h2, h3, h4⟩ := h
    have sg : Sg sb A A_q := Sg_ne e0 rfl
    have g1 := h3.1
    have g2 := h3.2.1
    by_cases hze : z = e
    · subst hze
      exact ⟨m, h1, h2, wA_ag h0 sg (Ax_nx e0 hz) h3, wAs_nx e0 hz (by omega) (.inr (.inl g2)) h4⟩
    · have hm' : z ∈ l ∨ z < lo ∨ hi ≤ z := by
        rcases hm with hm | hm
        · rcases List.mem_cons.mp hm with hm | hm
          · exact absurd hm hze
          · exact .inl hm
        · exact .inr hm
      have out : z < lo ∨ m ≤ z := by
        rcases hm' with hm' | hm'
        · exact .inr (wAs_in h4 z hm').1
        · omega
      refine ⟨m, h1, h2, wA_ag h0 sg (Ax_ag (Ag_st e0 hz out)) h3, wAs_nx e0 hz (by omega) ?_ h4⟩
      rcases hm' with hm' | hm'
      · exact .inl hm'
      · exact .inr (by omega)
/-- the arguments so far: the first at node n, the last one, how many -/
def CA (A : Nat → Nat → Int) (V : Nat → Prop) (sb n last many pa lo hi : Int) : Prop := ∃ l : List Int, CH A (A 21 n.toNat) l ∧ wAs A V sb pa l lo hi ∧ (l.length : Int) = many ∧ l.getLastD 0 = last
theorem CA_nil {A : Nat → Nat → Int} {V : Nat → Prop} {sb n pa lo : Int} (h : A 21 n.toNat = 0) : CA A V sb n 0 0 pa lo lo := ⟨[], h, rfl, rfl, rfl⟩
theorem CA_ag {A A_q : Nat → Nat → Int} {V : Nat → Prop} {sb n last many pa lo hi : Int} (h0 : 0 ≤ lo) (sg : Sg sb A A_q) (ag : Ag lo hi A A_q) (hn : A_q 21 n.toNat = A 21 n.toNat) (h : CA A V sb n last many pa lo hi) : CA A_q V sb n last many pa lo hi := by
  obtain ⟨l, h1, h2, h3, h4⟩ := h
  refine ⟨l, ?_, wAs_ag sg h0 ag h2, h3, h4⟩
  rw [hn]
  exact CH_ag (fun e he => ag 22 e.toNat rfl (by have := wAs_in h2 e he; omega) (by have := wAs_in h2 e he; omega)) h1
theorem CA_one {A A_q : Nat → Nat → Int} {V : Nat → Prop} {sb n many pa lo hi hi2 y : Int} (e0 : A_q = uA A 21 n.toNat y) (h0 : 0 ≤ n) (hn : n < lo) (hh : hi ≤ hi2) (hy : wA A V sb (pa + many) y hi hi2) (hx : NX A y) (h : CA A V sb n 0 many pa lo hi) : CA A_q V sb n y (many + 1) pa lo hi2 := by
  obtain ⟨l, h1, h2, h3, h4⟩ := h
  have hl := CH_z h1 h4
  subst hl
  have hlo := wAs_le h2
  have sg : Sg sb A A_q := Sg_ne e0 rfl
  have hy1 := hy.1
  have r22 : A_q 22 y.toNat = A 22 y.toNat := by
    rw [e0]
    exact congrFun (uA_ne (by decide)) _
  have hy' : wA A_q V sb (pa + many) y hi hi2 := wA_ag (by omega) sg (Ax_ag (Ag_st e0 h0 (.inl (by omega)))) hy
  have hm : many = 0 := by simpa using h3.symm
  refine ⟨[y], ?_, ?_, by simp [hm], rfl⟩
  · rw [e0, uA_eq, ← e0]
    exact ⟨rfl, by omega, by rw [r22]; exact hx⟩
  · have h2' : lo = hi := h2
    subst h2'
    rw [hm] at hy'
    exact ⟨hi2, hh, Int.le_refl _, by simpa using hy', rfl⟩
theorem CA_two {A A_q : Nat → Nat → Int} {V : Nat → Prop} {sb n last many pa lo hi hi2 y : Int} (e0 : A_q = uA A 22 last.toNat y) (hl : 0 < last) (h0 : 0 ≤ lo) (hh : hi ≤ hi2) (hy : wA A V sb (pa + many) y hi hi2) (hx : NX A y) (h : CA A V sb n last many pa lo hi) : CA A_q V sb n y (many + 1) pa lo hi2 := by
  obtain ⟨l, h1, h2, h3, h4⟩ := h
  have hne : l ≠ [] := fun q => by
    subst q
    have h4 : (0 : Int) = last := h4
    omega
  have hin := last_in hne
  rw [h4] at hin
  have hlt := wAs_in h2 last hin
  have hy1 := hy.1
  have sg : Sg sb A A_q := Sg_ne e0 rfl
  have hy' : wA A_q V sb (pa + many) y hi hi2 := wA_ag (by omega) sg (Ax_ag (Ag_st e0 (by omega) (.inl (by omega)))) hy
  refine ⟨l ++ [y], ?_, ?_, by simp; omega, by simp⟩
  · rw [show A_q 21 n.toNat = A 21 n.toNat by rw [e0]; exact congrFun (uA_ne (by decide)) _]
    refine CH_add (by omega) ?_ hne (fun e he => ?_) ?_ h1
    · rw [e0, uA_ni (by omega)]
      exact hx
    · have := inc_last (wAs_inc h2) e he
      have := CH_pos h1 e (List.dropLast_subset l he)
      rw [h4] at *
      rw [e0, uA_ni (by omega)]
    · rw [h4, e0]
      exact uA_eq
  · refine wAs_add hh (wAs_nx e0 (by omega) h0 (.inl hin) h2) ?_
    rw [h3]
    exact hy'
theorem CA_eq {A : Nat → Nat → Int} {V : Nat → Prop} {sb n last many pa lo hi last' many' pa' lo_q hi_q : Int} (h : CA A V sb n last many pa lo hi) (h1 : last = last') (h2 : many = many') (h3 : pa = pa') (h4 : lo = lo_q) (h5 : hi = hi_q) : CA A V sb n last' many' pa' lo_q hi_q := by
  subst h1 h2 h3 h4 h5
  exact h
theorem CA_0 {A : Nat → Nat → Int} {V : Nat → Prop} {sb n last many pa lo hi : Int} (h1 : last = 0) (h : CA A V sb n last many pa lo hi) : CA A V sb n 0 many pa lo hi := h1 ▸ h
theorem ND_f0 {A : Nat → Nat → Int} {n k a b c d x : Int} (h : ND A n k a b c d 0 x) : A 21 n.toNat = 0 := h.2.2.2.2.2.1
theorem Qg_fr {pb : Int} {A A_q : Nat → Nat → Int} {G G_q : Nat → Int} {gs as : List Nat} (hF : Fr gs as G A G_q A_q) (hd : [29, 30].all (fun k => !as.elem k) = true) : Qg pb A A_q := fun k j hk _ => by
  have e : as.elem k = false := by
    have := List.all_eq_true.mp hd k (List.elem_iff.mp hk)
    simpa using this
  rw [hF.2 k e]
theorem Qg_ne {pb v : Int} {A A_q : Nat → Nat → Int} {k n : Nat} (e : A_q = uA A k n v) (hn : [29, 30].elem k = false) : Qg pb A A_q := fun k_q j hk _ => by
  rw [e]
  exact if_neg (fun q => by
    rw [q.1, hn] at hk
    cases hk)
/-- the PROCs that are seen -/
def PQ (V : Nat → Prop) (sb pb : Int) (_ : Nat → Int) (A : Nat → Nat → Int) : Prop := ∀ s : Nat, V s → (s : Int) < sb → A 7 s = 14 → 0 ≤ A 12 s ∧ A 12 s < pb ∧ 0 ≤ A 30 (A 12 s).toNat ∧ A 30 (A 12 s).toNat ≤ 6 ∧ 0 ≤ A 29 (A 12 s).toNat ∧ A 29 (A 12 s).toNat + A 30 (A 12 s).toNat ≤ sb ∧ ∀ k : Int, 0 ≤ k → k < A 30 (A 12 s).toNat → 5 ≤ A 7 (A 29 (A 12 s).toNat + k).toNat ∧ A 7 (A 29 (A 12 s).toNat + k).toNat ≤ 8
theorem PQ_ext {V : Nat → Prop} {sb pb : Int} {G G_q : Nat → Int} {A A_q : Nat → Nat → Int} (h1 : A_q 7 = A 7) (h2 : A_q 12 = A 12) (h3 : A_q 29 = A 29) (h4 : A_q 30 = A 30) (h : PQ V sb pb G A) : PQ V sb pb G_q A_q := by
  unfold PQ at h ⊢
  rw [h1, h2, h3, h4]
  exact h
theorem PQ_at {V : Nat → Prop} {sb pb s nu mp pp : Int} {G : Nat → Int} {A : Nat → Nat → Int} (h : PQ V sb pb G A) (hs : SY V sb s) (hk : A 7 s.toNat = 14) (h1 : A 12 s.toNat = nu) (h2 : A 30 nu.toNat = mp) (h3 : A 29 nu.toNat = pp) : 0 ≤ nu ∧ nu < pb ∧ 0 ≤ mp ∧ mp ≤ 6 ∧ 0 ≤ pp ∧ pp + mp ≤ sb := by
  have := h s.toNat hs.2.2 (SY_lt hs) hk
  rw [h1, h2, h3] at this
  exact ⟨this.1, this.2.1, this.2.2.1, this.2.2.2.1, this.2.2.2.2.1, this.2.2.2.2.2.1⟩
theorem PQ_k {V : Nat → Prop} {sb pb s nu mp pp k : Int} {G : Nat → Int} {A : Nat → Nat → Int} (h : PQ V sb pb G A) (hs : SY V sb s) (hk : A 7 s.toNat = 14) (h1 : A 12 s.toNat = nu) (h2 : A 30 nu.toNat = mp) (h3 : A 29 nu.toNat = pp) (h4 : 0 ≤ k) (h5 : k < mp) : 5 ≤ A 7 (pp + k).toNat ∧ A 7 (pp + k).toNat ≤ 8 := by
  have := h s.toNat hs.2.2 (SY_lt hs) hk
  rw [h1, h2, h3] at this
  exact this.2.2.2.2.2.2 k h4 h5
/-- a statement that has no process in it -/
def wL (A : Nat → Nat → Int) (sb pb : Int) (V : Nat → Prop) (p lo hi : Int) : Prop := lo ≤ p ∧ p < hi ∧ ((A 15 p.toNat = 22 ∧ wR A V sb 20 0 (A 17 p.toNat) lo p ∧ wE A V sb 20 (A 18 p.toNat) (p + 1) hi) ∨ (A 15 p.toNat = 23 ∧ wR A V sb 20 1 (A 17 p.toNat) lo p ∧ wE A V sb 20 (A 18 p.toNat) (p + 1) hi) ∨ (A 15 p.toNat = 24 ∧ wR A V sb 20 1 (A 17 p.toNat) lo p ∧ wR A V sb 20 0 (A 18 p.toNat) (p + 1) hi) ∨ (A 15 p.toNat = 25 ∧ 0 ≤ A 17 p.toNat ∧ A 17 p.toNat < pb ∧ ∃ l, CH A (A 21 p.toNat) l ∧ (l.length : Int) = A 30 (A 17 p.toNat).toNat ∧ wAs A V sb (A 29 (A 17 p.toNat).toNat) l (p + 1) hi))
theorem wL_st {A : Nat → Nat → Int} {sb pb : Int} {V : Nat → Prop} {p lo hi : Int} {R : (Nat → Prop) → Int → Int → Int → Int → Int → Prop} {t : Int} (h : wL A sb pb V p lo hi) : wSt A sb pb R V p lo hi t t := by
  obtain ⟨_, _, h | h | h | h⟩ := h
  · exact .inr (.inl ⟨h.1, rfl, h.2.1, h.2.2⟩)
  · exact .inr (.inr (.inl ⟨h.1, rfl, h.2.1, h.2.2⟩))
  · exact .inr (.inr (.inr (.inl ⟨h.1, rfl, h.2.1, h.2.2⟩)))
  · exact .inr (.inr (.inr (.inr (.inl ⟨h.1, rfl, h.2.1, h.2.2.1, h.2.2.2⟩))))
theorem wL_set {A : Nat → Nat → Int} {sb pb : Int} {V : Nat → Prop} {p a b c d f x lo hi : Int} (h : ND A p 22 a b c d f x) (h1 : lo ≤ p) (h2 : p < hi) (h3 : wR A V sb 20 0 a lo p) (h4 : wE A V sb 20 b (p + 1) hi) : wL A sb pb V p lo hi := ⟨h1, h2, .inl ⟨h.1, by rw [h.2.1]; exact h3, by rw [h.2.2.1]; exact h4⟩⟩
theorem wL_out {A : Nat → Nat → Int} {sb pb : Int} {V : Nat → Prop} {p a b c d f x lo hi : Int} (h : ND A p 23 a b c d f x) (h1 : lo ≤ p) (h2 : p < hi) (h3 : wR A V sb 20 1 a lo p) (h4 : wE A V sb 20 b (p + 1) hi) : wL A sb pb V p lo hi := ⟨h1, h2, .inr (.inl ⟨h.1, by rw [h.2.1]; exact h3, by rw [h.2.2.1]; exact h4⟩)⟩
theorem wL_in {A : Nat → Nat → Int} {sb pb : Int} {V : Nat → Prop} {p a b c d f x lo hi : Int} (h : ND A p 24 a b c d f x) (h1 : lo ≤ p) (h2 : p < hi) (h3 : wR A V sb 20 1 a lo p) (h4 : wR A V sb 20 0 b (p + 1) hi) : wL A sb pb V p lo hi := ⟨h1, h2, .inr (.inr (.inl ⟨h.1, by rw [h.2.1]; exact h3, by rw [h.2.2.1]; exact h4⟩))⟩
theorem wL_call {A : Nat → Nat → Int} {sb pb : Int} {V : Nat → Prop} {p q b c d f x lo hi last many pa : Int} (h : ND A p 25 q b c d f x) (h1 : lo ≤ p) (h2 : p < hi) (h3 : 0 ≤ q ∧ q < pb) (h4 : A 30 q.toNat = many) (h5 : A 29 q.toNat = pa) (h6 : CA A V sb p last many pa (p + 1) hi) : wL A sb pb V p lo hi := by
  obtain ⟨l, g1, g2, g3, g4⟩ := h6
  refine ⟨h1, h2, .inr (.inr (.inr ⟨h.1, ?_⟩))⟩
  rw [h.2.1]
  exact ⟨h3.1, h3.2, l, g1, g3.trans h4.symm, by rw [h5]; exact g2⟩
theorem ND_sf {A : Nat → Nat → Int} {n k a b c d f x : Int} (h : ND A n k a b c d f x) : ND A n k a b c d (A 21 n.toNat) x := ⟨h.1, h.2.1, h.2.2.1, h.2.2.2.1, h.2.2.2.2.1, rfl, h.2.2.2.2.2.2⟩
/-- a guard without its process -/
def wU (A : Nat → Nat → Int) (V : Nat → Prop) (sb e lo hi : Int) : Prop := e = lo ∧ lo < hi ∧ A 15 e.toNat = 33 ∧ ((A 17 e.toNat = 0 ∧ ∃ a, e + 1 ≤ a ∧ a ≤ hi ∧ wR A V sb 20 1 (A 18 e.toNat) (e + 1) a ∧ wR A V sb 20 0 (A 19 e.toNat) a hi) ∨ ((A 18 e.toNat = 0 ∧ A 19 e.toNat = 0) ∧ wE A V sb 22 (A 17 e.toNat) (e + 1) hi) ∨ (∃ a b, e + 1 ≤ a ∧ a ≤ b ∧ b ≤ hi ∧ wE A V sb 22 (A 17 e.toNat) (e + 1) a ∧ wR A V sb 20 1 (A 18 e.toNat) a b ∧ wR A V sb 20 0 (A 19 e.toNat) b hi))
theorem wU_ch {A : Nat → Nat → Int} {V : Nat → Prop} {sb e x c d f y lo hi m : Int} (h : ND A e 33 0 x c d f y) (h1 : e = lo) (h2 : lo < hi) (h3 : e + 1 ≤ m) (h4 : m ≤ hi) (h5 : wR A V sb 20 1 x (e + 1) m) (h6 : wR A V sb 20 0 c m hi) : wU A V sb e lo hi := ⟨h1, h2, h.1, .inl ⟨h.2.1, m, h3, h4, by rw [h.2.2.1]; exact h5, by rw [h.2.2.2.1]; exact h6⟩⟩
theorem wU_sk {A : Nat → Nat → Int} {V : Nat → Prop} {sb e a d f y lo hi : Int} (h : ND A e 33 a 0 0 d f y) (h1 : e = lo) (h2 : lo < hi) (h5 : wE A V sb 22 a (e + 1) hi) : wU A V sb e lo hi := ⟨h1, h2, h.1, .inr (.inl ⟨⟨h.2.2.1, h.2.2.2.1⟩, by rw [h.2.1]; exact h5⟩)⟩
theorem wU_bo {A : Nat → Nat → Int} {V : Nat → Prop} {sb e a b c d f y lo hi m k : Int} (h : ND A e 33 a b c d f y) (h1 : e = lo) (h2 : lo < hi) (h3 : e + 1 ≤ m) (h4 : m ≤ k) (h5 : k ≤ hi) (h6 : wE A V sb 22 a (e + 1) m) (h7 : wR A V sb 20 1 b m k) (h8 : wR A V sb 20 0 c k hi) : wU A V sb e lo hi := ⟨h1, h2, h.1, .inr (.inr ⟨m, k, h3, h4, h5, by rw [h.2.1]; exact h6, by rw [h.2.2.1]; exact h7, by rw [h.2.2.2.1]; exact h8⟩)⟩
theorem wU_ag {A A_q : Nat → Nat → Int} {V : Nat → Prop} {sb e lo hi : Int} (h0 : 0 ≤ lo) (sg : Sg sb A A_q) (ax : Ax e lo hi A A_q) (h : wU A V sb e lo hi) : wU A_q V sb e lo hi := by
  obtain ⟨h1, h2, h3, h6⟩ := h
  subst h1
  have q : ∀ k, wr.elem k = true → k ≠ 22 → A_q k e.toNat = A k e.toNat := fun k hk h22 => ax k e.toNat hk (by omega) (by omega) (fun w => h22 w.1)
  refine ⟨rfl, h2, ?_⟩
  rw [q 15 rfl (by decide), q 17 rfl (by decide), q 18 rfl (by decide), q 19 rfl (by decide)]
  refine ⟨h3, ?_⟩
  rcases h6 with ⟨g1, a, g2, g3, g4, g5⟩ | ⟨g1, g2⟩ | ⟨a, b, g1, g2, g3, g4, g5, g6⟩
  · exact .inl ⟨g1, a, g2, g3, wR_ag (by omega) sg (Ag_ax ax (by omega) (by omega) (.inl (by omega))) g4, wR_ag (by omega) sg (Ag_ax ax (by omega) (by omega) (.inl (by omega))) g5⟩
  · exact .inr (.inl ⟨g1, wE_ag (by omega) sg (Ag_ax ax (by omega) (by omega) (.inl (by omega))) g2⟩)
  · exact .inr (.inr ⟨a, b, g1, g2, g3, wE_ag (by omega) sg (Ag_ax ax (by omega) (by omega) (.inl (by omega))) g4, wR_ag (by omega) sg (Ag_ax ax (by omega) (by omega) (.inl (by omega))) g5, wR_ag (by omega) sg (Ag_ax ax (by omega) (by omega) (.inl (by omega))) g6⟩)
/-- all nodes below z but n are as they were -/
def Px (n z : Int) (A A_q : Nat → Nat → Int) : Prop := ∀ k j : Nat, nr.elem k = true → (j : Int) < z → (j : Int) ≠ n → A_q k j = A k j
theorem Px_rf {n z : Int} {A : Nat → Nat → Int} : Px n z A A := fun _ _ _ _ _ => rfl
theorem Px_a {n w z v : Int} {A A_q : Nat → Nat → Int} {k : Nat} (h : Px n w A A_q) (h0 : 0 ≤ z) (hz : z = n ∨ w ≤ z) : Px n w A (uA A_q k z.toNat v) := by
  intro k_q j hk hj hn
  rw [← h k_q j hk hj hn]
  exact if_neg (fun q => by omega)
theorem Px_p {n w z : Int} {A A1 A2 : Nat → Nat → Int} (h : Px n w A A1) (h2 : Pf z A1 A2) (hz : w ≤ z) : Px n w A A2 := fun k j hk hj hn => (h2 k j hk (by omega)).trans (h k j hk hj hn)
theorem Px_f {n w : Int} {A A1 A2 : Nat → Nat → Int} {gs as : List Nat} {G1 G2 : Nat → Int} (h : Px n w A A1) (hF : Fr gs as G1 A1 G2 A2) (hd : nr.all (fun k => !as.elem k) = true) : Px n w A A2 := fun k j hk hj hn => by
  have e : as.elem k = false := by
    have := List.all_eq_true.mp hd k (List.elem_iff.mp hk)
    simpa using this
  rw [hF.2 k e]
  exact h k j hk hj hn
theorem Ag_px {n z lo hi : Int} {A A_q : Nat → Nat → Int} (h : Px n z A A_q) (hz : hi ≤ z) (hn : n < lo ∨ hi ≤ n) : Ag lo hi A A_q := fun k j hk h1 h2 => h k j (wr_nr hk) (by omega) (by omega)
