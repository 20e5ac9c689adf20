/-! trees of nodes: processes -/
def Qg (pb : Int) (A A_q : Nat → Nat → Int) : Prop := ∀ k j : Nat, [29, 30].elem k = true → (j : Int) < pb → A_q k j = A k j
/-- agreement but for where the node p leads on to -/
def Ax (p lo hi : Int) (A A_q : Nat → Nat → Int) : Prop := ∀ k j : Nat, wr.elem k = true → lo ≤ (j : Int) → (j : Int) < hi → ¬ (k = 22 ∧ (j : Int) = p) → A_q k j = A k j
theorem Ax_ag {p lo hi : Int} {A A_q : Nat → Nat → Int} (h : Ag lo hi A A_q) : Ax p lo hi A A_q := fun k j hk h1 h2 _ => h k j hk h1 h2
theorem Ag_ax {p lo hi lo_q hi_q : Int} {A A_q : Nat → Nat → Int} (h : Ax p lo hi A A_q) (h1 : lo ≤ lo_q) (h2 : hi_q ≤ hi) (hp : p < lo_q ∨ hi_q ≤ p) : Ag lo_q hi_q A A_q := fun k j hk h3 h4 => h k j hk (by omega) (by omega) (fun q => by omega)
/-- agreement but for that and for what p declares -/
def Ay (p lo hi : Int) (A A_q : Nat → Nat → Int) : Prop := ∀ k j : Nat, wr.elem k = true → lo ≤ (j : Int) → (j : Int) < hi → ¬ (22 ≤ k ∧ (j : Int) = p) → A_q k j = A k j
theorem Ay_ax {p lo hi : Int} {A A_q : Nat → Nat → Int} (h : Ax p lo hi A A_q) : Ay p lo hi A A_q := fun k j hk h1 h2 h3 => h k j hk h1 h2 (fun q => h3 ⟨by omega, q.2⟩)
theorem Ag_ay {p lo hi lo_q hi_q : Int} {A A_q : Nat → Nat → Int} (h : Ay p lo hi A A_q) (h1 : lo ≤ lo_q) (h2 : hi_q ≤ hi) (hp : p < lo_q ∨ hi_q ≤ p) : Ag lo_q hi_q A A_q := fun k j hk h3 h4 => h k j hk (by omega) (by omega) (fun q => by omega)
theorem Ax_nx {lo hi z v : Int} {A A_q : Nat → Nat → Int} (e : A_q = uA A 22 z.toNat v) (h0 : 0 ≤ z) : Ax z lo hi A A_q := fun k j _ h1 h2 h3 => by
  rw [e]
  exact if_neg (fun q => h3 ⟨q.1, by omega⟩)
/-- a chain of nodes -/
def CH (A : Nat → Nat → Int) : Int → List Int → Prop
  | c, [] => c = 0
  | c, e :: l => c = e ∧ 0 < e ∧ CH A (A 22 e.toNat) l
theorem CH_ag {A A_q : Nat → Nat → Int} : ∀ {l : List Int} {c : Int}, (∀ e ∈ l, A_q 22 e.toNat = A 22 e.toNat) → CH A c l → CH A_q c l
  | [], _, _, h => h
  | e :: l, c, q, h => ⟨h.1, h.2.1, by
    rw [q e (List.mem_cons_self ..)]
    exact CH_ag (fun e_q he => q e_q (List.mem_cons_of_mem _ he)) h.2.2⟩
/-- children one behind the other: their nodes, their names -/
def wCs (R : Int → Int → Int → Int → Int → Prop) : List Int → Int → Int → Int → Int → Prop
  | [], lo, hi, s0, s1 => lo = hi ∧ s0 = s1
  | e :: l, lo, hi, s0, s1 => ∃ m t, lo ≤ m ∧ m ≤ hi ∧ s0 ≤ t ∧ t ≤ s1 ∧ R e lo m s0 t ∧ wCs R l m hi t s1
theorem wCs_le {R : Int → Int → Int → Int → Int → Prop} : ∀ {l : List Int} {lo hi s0 s1 : Int}, wCs R l lo hi s0 s1 → lo ≤ hi ∧ s0 ≤ s1
  | [], _, _, _, _, h => ⟨Int.le_of_eq h.1, Int.le_of_eq h.2⟩
  | e :: l, lo, hi, s0, s1, h => by
    obtain ⟨m, t, h1, h2, h3, h4, _, _⟩ := h
    omega
theorem wCs_in {R : Int → Int → Int → Int → Int → Prop} (hR : ∀ e a b u v, R e a b u v → a ≤ e ∧ e < b) : ∀ {l : List Int} {lo hi s0 s1 : Int}, wCs R l lo hi s0 s1 → ∀ e ∈ l, lo ≤ e ∧ e < hi
  | [], _, _, _, _, _, e, he => by cases he
  | c :: l, lo, hi, s0, s1, h, e, he => by
    obtain ⟨m, t, h1, h2, h3, h4, h5, h6⟩ := h
    rcases List.mem_cons.mp he with rfl | he
    · have := hR _ _ _ _ _ h5
      omega
    · have := wCs_in hR h6 e he
      omega
theorem wCs_im {R R_q : Int → Int → Int → Int → Int → Prop} {lo hi s0 s1 : Int} (hR : ∀ e a b u v, lo ≤ a → b ≤ hi → s0 ≤ u → v ≤ s1 → R e a b u v → R_q e a b u v) : ∀ {l : List Int} {a u : Int}, lo ≤ a → s0 ≤ u → wCs R l a hi u s1 → wCs R_q l a hi u s1
  | [], _, _, _, _, h => h
  | e :: l, a, u, ha, hu, h => by
    obtain ⟨m, t, h1, h2, h3, h4, h5, h6⟩ := h
    exact ⟨m, t, h1, h2, h3, h4, hR _ _ _ _ _ ha h2 hu h4 h5, wCs_im hR (by omega) (by omega) h6⟩
theorem wCs_add {R : Int → Int → Int → Int → Int → Prop} {e m hi t s1 : Int} (h1 : m ≤ hi) (h2 : t ≤ s1) (h3 : R e m hi t s1) : ∀ {l : List Int} {lo s0 : Int}, wCs R l lo m s0 t → wCs R (l ++ [e]) lo hi s0 s1
  | [], lo, s0, h => by
    obtain ⟨rfl, rfl⟩ := h
    exact ⟨hi, s1, h1, Int.le_refl _, h2, Int.le_refl _, h3, rfl, rfl⟩
  | c :: l, lo, s0, h => by
    obtain ⟨m_q, t_q, g1, g2, g3, g4, g5, g6⟩ := h
    exact ⟨m_q, t_q, g1, by omega, g3, by omega, g5, wCs_add h1 h2 h3 g6⟩
/-- a whole array of size z -/
def wW (A : Nat → Nat → Int) (V : Nat → Prop) (sb z x lo hi : Int) : Prop := lo ≤ x ∧ x < hi ∧ A 15 x.toNat = 2 ∧ SY V sb (A 17 x.toNat) ∧ kArr (A 7 (A 17 x.toNat).toNat) ∧ A 8 (A 17 x.toNat).toNat = z
theorem wW_ag {A A_q : Nat → Nat → Int} {V : Nat → Prop} {sb z x lo hi : Int} (h0 : 0 ≤ lo) (sg : Sg sb A A_q) (ag : Ag lo hi A A_q) (h : wW A V sb z x lo hi) : wW A_q V sb z x lo hi := by
  obtain ⟨h1, h2, h3, h4, h5, h6⟩ := h
  have q : ∀ k, wr.elem k = true → A_q k x.toNat = A k x.toNat := fun k hk => ag k x.toNat hk (by omega) (by omega)
  refine ⟨h1, h2, ?_⟩
  rw [q 15 rfl, q 17 rfl, sg 7 _ rfl (SY_lt h4), sg 8 _ rfl (SY_lt h4)]
  exact ⟨h3, h4, h5, h6⟩
/-- an argument for the parameter pa -/
def wA (A : Nat → Nat → Int) (V : Nat → Prop) (sb pa e lo hi : Int) : Prop := lo ≤ e ∧ e < hi ∧ A 15 e.toNat = 7 ∧ A 18 e.toNat = pa ∧ 0 ≤ pa ∧ pa < sb ∧ ((A 7 pa.toNat = 5 ∧ wE A V sb 20 (A 17 e.toNat) lo e) ∨ (A 7 pa.toNat = 6 ∧ wR A V sb 20 0 (A 17 e.toNat) lo e) ∨ (A 7 pa.toNat = 8 ∧ wR A V sb 20 1 (A 17 e.toNat) lo e) ∨ (A 7 pa.toNat = 7 ∧ wW A V sb (A 8 pa.toNat) (A 17 e.toNat) lo e))
theorem wA_ag {A A_q : Nat → Nat → Int} {V : Nat → Prop} {sb pa e lo hi : Int} (h0 : 0 ≤ lo) (sg : Sg sb A A_q) (ax : Ax e lo hi A A_q) (h : wA A V sb pa e lo hi) : wA A_q V sb pa e lo hi := by
  obtain ⟨h1, h2, h3, h4, h5, h6, h7⟩ := h
  have q : ∀ k, wr.elem k = true → k ≠ 22 → A_q k e.toNat = A k e.toNat := fun k hk h22 => ax k e.toNat hk (by omega) (by omega) (fun w => h22 w.1)
  have sub : Ag lo e A A_q := Ag_ax ax (Int.le_refl _) (by omega) (.inr (Int.le_refl _))
  refine ⟨h1, h2, ?_⟩
  rw [q 15 rfl (by decide), q 17 rfl (by decide), q 18 rfl (by decide), sg 7 pa.toNat rfl (by omega), sg 8 pa.toNat rfl (by omega)]
  refine ⟨h3, h4, h5, h6, ?_⟩
  rcases h7 with h7 | h7 | h7 | h7
  · exact .inl ⟨h7.1, wE_ag h0 sg sub h7.2⟩
  · exact .inr (.inl ⟨h7.1, wR_ag h0 sg sub h7.2⟩)
  · exact .inr (.inr (.inl ⟨h7.1, wR_ag h0 sg sub h7.2⟩))
  · exact .inr (.inr (.inr ⟨h7.1, wW_ag h0 sg sub h7.2⟩))
def wAs (A : Nat → Nat → Int) (V : Nat → Prop) (sb : Int) : Int → List Int → Int → Int → Prop
  | _, [], lo, hi => lo = hi
  | pa, e :: l, lo, hi => ∃ m, lo ≤ m ∧ m ≤ hi ∧ wA A V sb pa e lo m ∧ wAs A V sb (pa + 1) l m hi
theorem wAs_ag {A A_q : Nat → Nat → Int} {V : Nat → Prop} {sb : Int} (sg : Sg sb A A_q) : ∀ {l : List Int} {pa lo hi : Int}, 0 ≤ lo → Ag lo hi A A_q → wAs A V sb pa l lo hi → wAs A_q V sb pa l lo hi
  | [], _, _, _, _, _, h => h
  | e :: l, pa, lo, hi, h0, ag, h => by
    obtain ⟨m, h1, h2, h3, h4⟩ := h
    exact ⟨m, h1, h2, wA_ag h0 sg (Ax_ag (Ag_su ag (Int.le_refl _) h2)) h3, wAs_ag sg (by omega) (Ag_su ag h1 (Int.le_refl _)) h4⟩
theorem wAs_in {A : Nat → Nat → Int} {V : Nat → Prop} {sb : Int} : ∀ {l : List Int} {pa lo hi : Int}, wAs A V sb pa l lo hi → ∀ e ∈ l, lo ≤ e ∧ e < hi
  | [], _, _, _, _, e, he => by cases he
  | c :: l, pa, lo, hi, h, e, he => by
    obtain ⟨m, h1, h2, h3, h4⟩ := h
    rcases List.mem_cons.mp he with rfl | he
    · have := h3.1
      have := h3.2.1
      omega
    · have := wAs_in h4 e he
      omega
theorem wAs_le {A : Nat → Nat → Int} {V : Nat → Prop} {sb : Int} : ∀ {l : List Int} {pa lo hi : Int}, wAs A V sb pa l lo hi → lo ≤ hi
  | [], _, _, _, h => Int.le_of_eq h
  | c :: l, pa, lo, hi, h => by
    obtain ⟨m, h1, h2, _, _⟩ := h
    omega
/-- a choice of an IF; a guard of an ALT -/
def wI (A : Nat → Nat → Int) (V : Nat → Prop) (sb : Int) (R : Int → Int → Int → Int → Int → Prop) (e lo hi s0 s1 : Int) : Prop := e = lo ∧ A 15 e.toNat = 34 ∧ ∃ m, e + 1 ≤ m ∧ m ≤ hi ∧ wE A V sb 20 (A 17 e.toNat) (e + 1) m ∧ R (A 21 e.toNat) m hi s0 s1
def wG (A : Nat → Nat → Int) (V : Nat → Prop) (sb : Int) (R : Int → Int → Int → Int → Int → Prop) (e lo hi s0 s1 : Int) : Prop := e = lo ∧ A 15 e.toNat = 33 ∧ ∃ m, e + 1 ≤ m ∧ m ≤ hi ∧ R (A 21 e.toNat) m hi s0 s1 ∧ ((A 17 e.toNat = 0 ∧ ∃ a, e + 1 ≤ a ∧ a ≤ m ∧ wR A V sb 20 1 (A 18 e.toNat) (e + 1) a ∧ wR A V sb 20 0 (A 19 e.toNat) a m) ∨ ((A 18 e.toNat = 0 ∧ A 19 e.toNat = 0) ∧ wE A V sb 22 (A 17 e.toNat) (e + 1) m) ∨ (∃ a b, e + 1 ≤ a ∧ a ≤ b ∧ b ≤ m ∧ wE A V sb 22 (A 17 e.toNat) (e + 1) a ∧ wR A V sb 20 1 (A 18 e.toNat) a b ∧ wR A V sb 20 0 (A 19 e.toNat) b m))
theorem wI_ag {A A_q : Nat → Nat → Int} {V : Nat → Prop} {sb : Int} {R R_q : Int → Int → Int → Int → Int → Prop} {e lo hi s0 s1 : Int} (h0 : 0 ≤ lo) (sg : Sg sb A A_q) (ax : Ax e lo hi A A_q) (hR : ∀ c a, lo < a → R c a hi s0 s1 → R_q c a hi s0 s1) (h : wI A V sb R e lo hi s0 s1) : wI A_q V sb R_q e lo hi s0 s1 := by
  obtain ⟨h1, h2, m, h3, h4, h5, h6⟩ := h
  subst h1
  by_cases hh : e < hi
  · have q : ∀ k, wr.elem k = true → k ≠ 22 → A_q k e.toNat = A k e.toNat := fun k hk h22 => ax k e.toNat hk (by omega) (by omega) (fun w => h22 w.1)
    refine ⟨rfl, ?_⟩
    rw [q 15 rfl (by decide), q 17 rfl (by decide), q 21 rfl (by decide)]
    exact ⟨h2, m, h3, h4, wE_ag (by omega) sg (Ag_ax ax (by omega) h4 (.inl (by omega))) h5, hR _ _ (by omega) h6⟩
  · omega
theorem wG_ag {A A_q : Nat → Nat → Int} {V : Nat → Prop} {sb : Int} {R R_q : Int → Int → Int → Int → Int → Prop} {e lo hi s0 s1 : Int} (h0 : 0 ≤ lo) (sg : Sg sb A A_q) (ax : Ax e lo hi A A_q) (hR : ∀ c a, lo < a → R c a hi s0 s1 → R_q c a hi s0 s1) (h : wG A V sb R e lo hi s0 s1) : wG A_q V sb R_q e lo hi s0 s1 := by
  obtain ⟨h1, h2, m, h3, h4, h5, h6⟩ := h
  subst h1
  by_cases hh : e < hi
  · have q : ∀ k, wr.elem k = true → k ≠ 22 → A_q k e.toNat = A k e.toNat := fun k hk h22 => ax k e.toNat hk (by omega) (by omega) (fun w => h22 w.1)
    refine ⟨rfl, ?_⟩
    rw [q 15 rfl (by decide), q 17 rfl (by decide), q 18 rfl (by decide), q 19 rfl (by decide), q 21 rfl (by decide)]
    refine ⟨h2, m, h3, h4, hR _ _ (by omega) h5, ?_⟩
    rcases h6 with ⟨g1, a, g2, g3, g4, g5⟩ | ⟨g1, g2⟩ | ⟨a, b, g1, g2, g3, g4, g5, g6⟩
    · exact .inl ⟨g1, a, g2, g3, wR_ag (by omega) sg (Ag_ax ax (by omega) (by omega) (.inl (by omega))) g4, wR_ag (by omega) sg (Ag_ax ax (by omega) (by omega) (.inl (by omega))) g5⟩
    · exact .inr (.inl ⟨g1, wE_ag (by omega) sg (Ag_ax ax (by omega) (by omega) (.inl (by omega))) g2⟩)
    · exact .inr (.inr ⟨a, b, g1, g2, g3, wE_ag (by omega) sg (Ag_ax ax (by omega) (by omega) (.inl (by omega))) g4, wR_ag (by omega) sg (Ag_ax ax (by omega) (by omega) (.inl (by omega))) g5, wR_ag (by omega) sg (Ag_ax ax (by omega) (by omega) (.inl (by omega))) g6⟩)
  · omega
def Vu (V : Nat → Prop) (s : Int) : Nat → Prop := fun j => V j ∨ (j : Int) = s
def Vd (V : Nat → Prop) (s0 s1 : Int) : Nat → Prop := fun j => V j ∨ (s0 ≤ (j : Int) ∧ (j : Int) < s1)
/-- a statement at node p; its nodes from lo on below hi, the names that it makes from t0 on below s1; R: the processes in it -/
def wSt (A : Nat → Nat → Int) (sb pb : Int) (R : (Nat → Prop) → Int → Int → Int → Int → Int → Prop) (V : Nat → Prop) (p lo hi t0 s1 : Int) : Prop :=
  ((A 15 p.toNat = 20 ∨ A 15 p.toNat = 21) ∧ t0 = s1) ∨
  (A 15 p.toNat = 22 ∧ t0 = s1 ∧ wR A V sb 20 0 (A 17 p.toNat) lo p ∧ wE A V sb 20 (A 18 p.toNat) (p + 1) hi) ∨
  (A 15 p.toNat = 23 ∧ t0 = s1 ∧ wR A V sb 20 1 (A 17 p.toNat) lo p ∧ wE A V sb 20 (A 18 p.toNat) (p + 1) hi) ∨
  (A 15 p.toNat = 24 ∧ t0 = s1 ∧ wR A V sb 20 1 (A 17 p.toNat) lo p ∧ wR A V sb 20 0 (A 18 p.toNat) (p + 1) hi) ∨
  (A 15 p.toNat = 25 ∧ t0 = s1 ∧ 0 ≤ A 17 p.toNat ∧ A 17 p.toNat < pb ∧ ∃ l, CH A (A 21 p.toNat) l ∧ (l.length : Int) = A 30 (A 17 p.toNat).toNat ∧ wAs A V sb (A 29 (A 17 p.toNat).toNat) l (p + 1) hi) ∨
  (A 15 p.toNat = 26 ∧ ∃ l, CH A (A 21 p.toNat) l ∧ wCs (R V) l (p + 1) hi t0 s1) ∨
  (A 15 p.toNat = 27 ∧ A 17 p.toNat = t0 ∧ t0 < s1 ∧ A 7 t0.toNat = 9 ∧ ∃ a b, p + 1 ≤ a ∧ a ≤ b ∧ b ≤ hi ∧ wE A V sb 20 (A 19 p.toNat) (p + 1) a ∧ wE A V sb 20 (A 20 p.toNat) a b ∧ R (Vu V t0) (A 21 p.toNat) b hi (t0 + 1) s1) ∨
  (A 15 p.toNat = 28 ∧ 2 ≤ A 18 p.toNat ∧ A 18 p.toNat ≤ 8 ∧ (A 17 p.toNat = 0 ∨ (A 17 p.toNat = 1 ∧ A 18 p.toNat = 2)) ∧ ∃ l, CH A (A 21 p.toNat) l ∧ (l.length : Int) = A 18 p.toNat ∧ wCs (R V) l (p + 1) hi t0 s1) ∨
  (A 15 p.toNat = 29 ∧ A 17 p.toNat = t0 ∧ t0 < s1 ∧ A 7 t0.toNat = 10 ∧ 0 ≤ A 19 p.toNat ∧ 1 ≤ A 20 p.toNat ∧ A 20 p.toNat ≤ 8 ∧ p + 1 ≤ hi ∧ R (Vu V t0) (A 21 p.toNat) (p + 1) hi (t0 + 1) s1) ∨
  (A 15 p.toNat = 30 ∧ ∃ l, l ≠ [] ∧ CH A (A 21 p.toNat) l ∧ wCs (wI A V sb (R V)) l (p + 1) hi t0 s1) ∨
  (A 15 p.toNat = 31 ∧ ∃ a, p + 1 ≤ a ∧ a ≤ hi ∧ wE A V sb 20 (A 17 p.toNat) (p + 1) a ∧ R V (A 21 p.toNat) a hi t0 s1) ∨
  (A 15 p.toNat = 32 ∧ 1 ≤ A 18 p.toNat ∧ A 18 p.toNat ≤ 8 ∧ ∃ l, CH A (A 21 p.toNat) l ∧ (l.length : Int) = A 18 p.toNat ∧ wCs (wG A V sb (R V)) l (p + 1) hi t0 s1)
theorem wSt_ag {A A_q : Nat → Nat → Int} {sb pb : Int} {R R_q : (Nat → Prop) → Int → Int → Int → Int → Int → Prop} {V : Nat → Prop} {p lo hi t0 s1 : Int} (h0 : 0 ≤ lo) (hl : lo ≤ p) (hp : p < hi) (ht : 0 ≤ t0) (hs : s1 ≤ sb) (ax : Ay p lo hi A A_q) (sg : Sg sb A A_q) (qg : Qg pb A A_q) (hI : ∀ V e a b u v, R V e a b u v → a ≤ e ∧ e < b) (hR2 : ∀ V e a b u v, p < a → b ≤ hi → t0 ≤ u → v ≤ s1 → R V e a b u v → R_q V e a b u v) (h : wSt A sb pb R V p lo hi t0 s1) : wSt A_q sb pb R_q V p lo hi t0 s1 := by
  have q : ∀ k, wr.elem k = true → k < 22 → A_q k p.toNat = A k p.toNat := fun k hk h22 => ax k p.toNat hk (by omega) (by omega) (fun w => by omega)
  have lf : Ag lo p A A_q := Ag_ay ax (Int.le_refl _) (by omega) (.inr (Int.le_refl _))
  have rg : Ag (p + 1) hi A A_q := Ag_ay ax (by omega) (Int.le_refl _) (.inl (by omega))
  have r22 : ∀ e, p + 1 ≤ e → e < hi → A_q 22 e.toNat = A 22 e.toNat := fun e h1 h2 => rg 22 e.toNat rfl (by omega) (by omega)
  unfold wSt at h ⊢
  rw [q 15 rfl (by decide), q 17 rfl (by decide), q 18 rfl (by decide), q 19 rfl (by decide), q 20 rfl (by decide), q 21 rfl (by decide)]
  rcases h with h | h | h | h | h | h | h | h | h | h | h | h
  · exact .inl h
  · exact .inr (.inl ⟨h.1, h.2.1, wR_ag h0 sg lf h.2.2.1, wE_ag (by omega) sg rg h.2.2.2⟩)
  · exact .inr (.inr (.inl ⟨h.1, h.2.1, wR_ag h0 sg lf h.2.2.1, wE_ag (by omega) sg rg h.2.2.2⟩))
  · exact .inr (.inr (.inr (.inl ⟨h.1, h.2.1, wR_ag h0 sg lf h.2.2.1, wR_ag (by omega) sg rg h.2.2.2⟩)))
  · obtain ⟨h1, h2, h3, h4, l, h5, h6, h7⟩ := h
    refine .inr (.inr (.inr (.inr (.inl ⟨h1, h2, h3, h4, l, CH_ag (fun e he => r22 e (wAs_in h7 e he).1 (wAs_in h7 e he).2) h5, ?_⟩))))
    rw [qg 29 _ rfl (by omega), qg 30 _ rfl (by omega)]
    exact ⟨h6, wAs_ag sg (by omega) rg h7⟩
  · obtain ⟨h1, l, h5, h7⟩ := h
    refine .inr (.inr (.inr (.inr (.inr (.inl ⟨h1, l, CH_ag (fun e he => r22 e (wCs_in (hI V) h7 e he).1 (wCs_in (hI V) h7 e he).2) h5, wCs_im (fun e a b u v g1 g2 g3 g4 g5 => hR2 V e a b u v (by omega) g2 g3 g4 g5) (Int.le_refl _) (Int.le_refl _) h7⟩)))))
  · obtain ⟨h1, h2, h3, h4, a, b, g1, g2, g3, g4, g5, g6⟩ := h
    refine .inr (.inr (.inr (.inr (.inr (.inr (.inl ⟨h1, h2, h3, ?_, a, b, g1, g2, g3, wE_ag (by omega) sg (Ag_su rg (Int.le_refl _) (by omega)) g4, wE_ag (by omega) sg (Ag_su rg (by omega) (by omega)) g5, hR2 _ _ _ _ _ _ (by omega) (Int.le_refl _) (by omega) (Int.le_refl _) g6⟩))))))
    rw [sg 7 _ rfl (by omega)]
    exact h4
  · obtain ⟨h1, h2, h3, h4, l, h5, h6, h7⟩ := h
    refine .inr (.inr (.inr (.inr (.inr (.inr (.inr (.inl ⟨h1, h2, h3, h4, l, CH_ag (fun e he => r22 e (wCs_in (hI V) h7 e he).1 (wCs_in (hI V) h7 e he).2) h5, h6, wCs_im (fun e a b u v g1 g2 g3 g4 g5 => hR2 V e a b u v (by omega) g2 g3 g4 g5) (Int.le_refl _) (Int.le_refl _) h7⟩)))))))
  · obtain ⟨h1, h2, h3, h4, h5, h6, h7, h8, h9⟩ := h
    refine .inr (.inr (.inr (.inr (.inr (.inr (.inr (.inr (.inl ⟨h1, h2, h3, ?_, h5, h6, h7, h8, hR2 _ _ _ _ _ _ (by omega) (Int.le_refl _) (by omega) (Int.le_refl _) h9⟩))))))))
    rw [sg 7 _ rfl (by omega)]
    exact h4
  · obtain ⟨h1, l, h4, h5, h7⟩ := h
    have hin : ∀ e ∈ l, p + 1 ≤ e ∧ e < hi := wCs_in (fun e a b u v w => by
      obtain ⟨w1, _, m, w2, w3, _, w4⟩ := w
      omega) h7
    refine .inr (.inr (.inr (.inr (.inr (.inr (.inr (.inr (.inr (.inl ⟨h1, l, h4, CH_ag (fun e he => r22 e (hin e he).1 (hin e he).2) h5, wCs_im (fun e a b u v g1 g2 g3 g4 g5 => ?_) (Int.le_refl _) (Int.le_refl _) h7⟩)))))))))
    exact wI_ag (by omega) sg (Ax_ag (Ag_su rg g1 g2)) (fun c a_q w1 w2 => hR2 V c a_q b u v (by omega) g2 g3 g4 w2) g5
  · obtain ⟨h1, a, g1, g2, g3, g4⟩ := h
    exact .inr (.inr (.inr (.inr (.inr (.inr (.inr (.inr (.inr (.inr (.inl ⟨h1, a, g1, g2, wE_ag (by omega) sg (Ag_su rg (Int.le_refl _) g2) g3, hR2 _ _ _ _ _ _ (by omega) (Int.le_refl _) (Int.le_refl _) (Int.le_refl _) g4⟩))))))))))
  · obtain ⟨h1, h2, h3, l, h5, h6, h7⟩ := h
    have hin : ∀ e ∈ l, p + 1 ≤ e ∧ e < hi := wCs_in (fun e a b u v w => by
      obtain ⟨w1, _, m, w2, w3, _⟩ := w
      omega) h7
    refine .inr (.inr (.inr (.inr (.inr (.inr (.inr (.inr (.inr (.inr (.inr ⟨h1, h2, h3, l, CH_ag (fun e he => r22 e (hin e he).1 (hin e he).2) h5, h6, wCs_im (fun e a b u v g1 g2 g3 g4 g5 => ?_) (Int.le_refl _) (Int.le_refl _) h7⟩))))))))))
    exact wG_ag (by omega) sg (Ax_ag (Ag_su rg g1 g2)) (fun c a_q w1 w2 => hR2 V c a_q b u v (by omega) g2 g3 g4 w2) g5
/-- the names that a process declares -/
def wD (A : Nat → Nat → Int) (s0 s1 : Int) : Prop := ∀ s : Nat, s0 ≤ (s : Int) → (s : Int) < s1 → 1 ≤ A 7 s ∧ A 7 s ≤ 4 ∧ 1 ≤ A 8 s ∧ A 8 s ≤ 64 ∧ ((A 7 s = 1 ∨ A 7 s = 3) → A 8 s = 1)
/-- a process at node p -/
def wP (A : Nat → Nat → Int) (sb pb : Int) : Nat → (Nat → Prop) → Int → Int → Int → Int → Int → Prop
  | 0, _, _, _, _, _, _ => False
  | n + 1, V, p, lo, hi, s0, s1 => lo ≤ p ∧ p < hi ∧ 0 ≤ s0 ∧ A 23 p.toNat = s0 ∧ 0 ≤ A 24 p.toNat ∧ s0 + A 24 p.toNat ≤ s1 ∧ wD A s0 (s0 + A 24 p.toNat) ∧ wSt A sb pb (wP A sb pb n) (Vd V s0 (s0 + A 24 p.toNat)) p lo hi (s0 + A 24 p.toNat) s1
theorem wP_in {A : Nat → Nat → Int} {sb pb : Int} {n : Nat} {V : Nat → Prop} {p lo hi s0 s1 : Int} (h : wP A sb pb n V p lo hi s0 s1) : lo ≤ p ∧ p < hi := by
  cases n with
  | zero => exact h.elim
  | succ n =>
    unfold wP at h
    exact ⟨h.1, h.2.1⟩
theorem wP_ag {A A_q : Nat → Nat → Int} {sb pb : Int} (sg : Sg sb A A_q) (qg : Qg pb A A_q) : ∀ {n : Nat} {V : Nat → Prop} {p lo hi s0 s1 : Int}, 0 ≤ lo → s1 ≤ sb → Ax p lo hi A A_q → wP A sb pb n V p lo hi s0 s1 → wP A_q sb pb n V p lo hi s0 s1
  | 0, _, _, _, _, _, _, _, _, _, h => h.elim
  | n + 1, V, p, lo, hi, s0, s1, h0, hs, ax, h => by
    unfold wP at h ⊢
    obtain ⟨h1, h2, h3, h4, h5, h6, h7, h8⟩ := h
    have q : ∀ k, wr.elem k = true → k ≠ 22 → A_q k p.toNat = A k p.toNat := fun k hk h22 => ax k p.toNat hk (by omega) (by omega) (fun w => h22 w.1)
    rw [q 23 rfl (by decide), q 24 rfl (by decide)]
    refine ⟨h1, h2, h3, h4, h5, h6, fun s g1 g2 => ?_, ?_⟩
    · rw [sg 7 s rfl (by omega), sg 8 s rfl (by omega)]
      exact h7 s g1 g2
    · exact wSt_ag h0 h1 h2 (by omega) hs (Ay_ax ax) sg qg (fun V e a b u v w => wP_in w) (fun V_q e a b u v w1 w2 w3 w4 w5 => wP_ag sg qg (by omega) (by omega) (Ax_ag (Ag_ax ax (by omega) w2 (.inl w1))) w5) h8
