/-! layout: processes -/
theorem CH_un {A : Nat → Nat → Int} : ∀ {l l_q : List Int} {c : Int}, CH A c l → CH A c l_q → l = l_q
  | [], [], _, _, _ => rfl
  | [], e :: l, c, h, h_q => absurd (show c = 0 from h) (by have := h_q.1; have := h_q.2.1; omega)
  | e :: l, [], c, h, h_q => absurd (show c = 0 from h_q) (by have := h.1; have := h.2.1; omega)
  | e :: l, e_q :: l_q, c, h, h_q => by
    have e1 : e = e_q := h.1.symm.trans h_q.1
    subst e1
    rw [CH_un h.2.2 h_q.2.2]
theorem wCs_mem {R : Int → Int → Int → Int → Int → Prop} : ∀ {l : List Int} {lo hi s0 s1 c : Int}, wCs R l lo hi s0 s1 → c ∈ l → ∃ a b u v, lo ≤ a ∧ b ≤ hi ∧ s0 ≤ u ∧ v ≤ s1 ∧ R c a b u v
  | [], _, _, _, _, c, _, hc => by cases hc
  | e :: l, lo, hi, s0, s1, c, h, hc => by
    obtain ⟨m, t, h1, h2, h3, h4, h5, h6⟩ := h
    rcases List.mem_cons.mp hc with rfl | hc
    · exact ⟨lo, m, s0, t, Int.le_refl _, h2, Int.le_refl _, h4, h5⟩
    · obtain ⟨a, b, u, v, g1, g2, g3, g4, g5⟩ := wCs_mem h6 hc
      exact ⟨a, b, u, v, by omega, g2, by omega, g4, g5⟩
theorem wAs_mem {A : Nat → Nat → Int} {V : Nat → Prop} {sb : Int} : ∀ {l : List Int} {pa lo hi c : Int}, wAs A V sb pa l lo hi → c ∈ l → ∃ q a b, lo ≤ a ∧ b ≤ hi ∧ wA A V sb q c a b
  | [], _, _, _, c, _, hc => by cases hc
  | e :: l, pa, lo, hi, c, h, hc => by
    obtain ⟨m, h1, h2, h3, h4⟩ := h
    rcases List.mem_cons.mp hc with rfl | hc
    · exact ⟨pa, lo, m, Int.le_refl _, h2, h3⟩
    · obtain ⟨q, a, b, g1, g2, g3⟩ := wAs_mem h4 hc
      exact ⟨q, a, b, by omega, g2, g3⟩
/-- a row of children: those before c are done (N), c is next; m, t: where its nodes and names begin -/
def LQ (A : Nat → Nat → Int) (R : Int → Int → Int → Int → Int → Prop) (N : List Int → Prop) (n c lo hi s0 s1 m t : Int) : Prop := ∃ l1 l2 : List Int, CH A (A 21 n.toNat) (l1 ++ l2) ∧ CH A c l2 ∧ wCs R l1 lo m s0 t ∧ wCs R l2 m hi t s1 ∧ N l1
theorem LQ_0 {A : Nat → Nat → Int} {R : Int → Int → Int → Int → Int → Prop} {N : List Int → Prop} {n c lo hi s0 s1 : Int} {l : List Int} (h : CH A (A 21 n.toNat) l) (w : wCs R l lo hi s0 s1) (hc : c = A 21 n.toNat) (hN : N []) : LQ A R N n c lo hi s0 s1 lo s0 := ⟨[], l, h, hc ▸ h, ⟨rfl, rfl⟩, w, hN⟩
theorem LQ_hd {A : Nat → Nat → Int} {R : Int → Int → Int → Int → Int → Prop} {N : List Int → Prop} {n c lo hi s0 s1 m t : Int} (h : LQ A R N n c lo hi s0 s1 m t) (hc : 0 < c) : ∃ (l1 : List Int) (m_q t_q : Int), lo ≤ m ∧ m ≤ m_q ∧ m_q ≤ hi ∧ s0 ≤ t ∧ t ≤ t_q ∧ t_q ≤ s1 ∧ R c m m_q t t_q ∧ N l1 ∧ wCs R l1 lo m s0 t ∧ ∀ N' : List Int → Prop, N' (l1 ++ [c]) → LQ A R N' n (A 22 c.toNat) lo hi s0 s1 m_q t_q := by
  obtain ⟨l1, l2, h1, h2, h3, h4, h5⟩ := h
  have le := wCs_le h3
  cases l2 with
  | nil =>
    have : c = 0 := h2
    omega
  | cons e l =>
    obtain ⟨g1, g2, g3⟩ := h2
    subst g1
    obtain ⟨m_q, t_q, k1, k2, k3, k4, k5, k6⟩ := h4
    have le2 := wCs_le k6
    refine ⟨l1, m_q, t_q, le.1, k1, k2, le.2, k3, k4, k5, h5, h3, fun N' hN' => ⟨l1 ++ [c], l, ?_, g3, wCs_add k1 k3 k5 h3, k6, hN'⟩⟩
    rw [List.append_assoc]
    exact h1
theorem LQ_end {A : Nat → Nat → Int} {R : Int → Int → Int → Int → Int → Prop} {N : List Int → Prop} {n c lo hi s0 s1 m t : Int} (h : LQ A R N n c lo hi s0 s1 m t) (hc : c ≤ 0) : ∃ l : List Int, CH A (A 21 n.toNat) l ∧ wCs R l lo hi s0 s1 ∧ N l ∧ m = hi ∧ t = s1 := by
  obtain ⟨l1, l2, h1, h2, h3, h4, h5⟩ := h
  cases l2 with
  | nil =>
    obtain ⟨e1, e2⟩ := h4
    rw [List.append_nil] at h1
    exact ⟨l1, h1, by rw [← e1, ← e2]; exact h3, h5, e1, e2⟩
  | cons e l =>
    obtain ⟨g1, g2, g3⟩ := h2
    omega
/-- a name, an array's or a row's element: its place, whatever it is of -/
def wX (A : Nat → Nat → Int) (V : Nat → Prop) (sb e lo hi : Int) : Prop := lo ≤ e ∧ e < hi ∧ (A 15 e.toNat = 2 ∨ (A 15 e.toNat = 3 ∧ wE A V sb 20 (A 18 e.toNat) lo e))
theorem wX_wR {A : Nat → Nat → Int} {V : Nat → Prop} {sb ch e lo hi : Int} (h : wR A V sb 20 ch e lo hi) : wX A V sb e lo hi := by
  obtain ⟨h1, h2, h3⟩ := h
  refine ⟨h1, h2, ?_⟩
  rcases h3 with h3 | h3
  · exact .inl h3.1
  · exact .inr ⟨h3.1, h3.2.2.2⟩
theorem wX_wW {A : Nat → Nat → Int} {V : Nat → Prop} {sb z e lo hi : Int} (h : wW A V sb z e lo hi) : wX A V sb e lo hi := ⟨h.1, h.2.1, .inl h.2.2.1⟩
theorem lX_mv {A A_q : Nat → Nat → Int} {V : Nat → Prop} {sb e lo hi f z : Int} {m : Nat} (h0 : 0 ≤ lo) (ag : Ag lo hi A A_q) (a25 : ∀ j : Nat, lo ≤ (j : Int) → (j : Int) < hi → A_q 25 j = A 25 j) (w : wX A V sb e lo hi) (h : lE A m e f z) : lE A_q m e f z := by
  obtain ⟨h1, h2, h3⟩ := w
  have q : ∀ k, wr.elem k = true → A_q k e.toNat = A k e.toNat := fun k hk => ag k e.toNat hk (by omega) (by omega)
  cases m with
  | zero => trivial
  | succ m =>
    rcases h3 with h3 | h3
    · exact lE_k1 (q 15 rfl) (by omega)
    · exact lE_k3 (q 15 rfl) (q 18 rfl) h3.1 (lE_mv h0 (Ag_su ag (Int.le_refl _) (by omega)) (fun j j1 j2 => a25 j j1 (by omega)) h3.2 (h.1 h3.1))
theorem lA_mv {A A_q : Nat → Nat → Int} {V : Nat → Prop} {sb pa e lo hi f z : Int} {m : Nat} (h0 : 0 ≤ lo) (ag : Ag lo hi A A_q) (a25 : ∀ j : Nat, lo ≤ (j : Int) → (j : Int) < hi → A_q 25 j = A 25 j) (w : wA A V sb pa e lo hi) (h : lE A m (A 17 e.toNat) f z) : lE A_q m (A_q 17 e.toNat) f z := by
  obtain ⟨h1, h2, h3, h4, h5, h6, h7⟩ := w
  rw [ag 17 e.toNat rfl (by omega) (by omega)]
  have ag' : Ag lo e A A_q := Ag_su ag (Int.le_refl _) (by omega)
  have a25' : ∀ j : Nat, lo ≤ (j : Int) → (j : Int) < e → A_q 25 j = A 25 j := fun j j1 j2 => a25 j j1 (by omega)
  rcases h7 with h7 | h7 | h7 | h7
  · exact lE_mv h0 ag' a25' h7.2 h
  · exact lX_mv h0 ag' a25' (wX_wR h7.2) h
  · exact lX_mv h0 ag' a25' (wX_wR h7.2) h
  · exact lX_mv h0 ag' a25' (wX_wW h7.2) h
/-- the words of names from s on: the first j together -/
def zS (A : Nat → Nat → Int) (s : Int) : Nat → Int
  | 0 => 0
  | j + 1 => zS A s j + A 8 (s + (j : Int)).toNat
def lD (A : Nat → Nat → Int) (s : Int) (m : Nat) (f L : Int) : Prop := ∀ j : Nat, j < m → A 9 (s + (j : Int)).toNat = f + zS A s j ∧ A 10 (s + (j : Int)).toNat = L
/-- what the branches of a PAR want -/
def sD (A : Nat → Nat → Int) : List Int → Int
  | [] => 0
  | c :: l => A 26 c.toNat + A 27 c.toNat + 3 + sD A l
theorem sD_add {A : Nat → Nat → Int} {c : Int} : ∀ {l : List Int}, sD A (l ++ [c]) = sD A l + (A 26 c.toNat + A 27 c.toNat + 3)
  | [] => by show A 26 c.toNat + A 27 c.toNat + 3 + 0 = 0 + _; omega
  | e :: l => by
    show A 26 e.toNat + A 27 e.toNat + 3 + sD A (l ++ [c]) = A 26 e.toNat + A 27 e.toNat + 3 + sD A l + _
    rw [sD_add]
    omega
theorem sD_ag {A A_q : Nat → Nat → Int} : ∀ {l : List Int}, (∀ c ∈ l, A_q 26 c.toNat = A 26 c.toNat ∧ A_q 27 c.toNat = A 27 c.toNat) → sD A_q l = sD A l
  | [], _ => rfl
  | e :: l, h => by
    show A_q 26 e.toNat + A_q 27 e.toNat + 3 + sD A_q l = A 26 e.toNat + A 27 e.toNat + 3 + sD A l
    rw [(h e (List.mem_cons_self ..)).1, (h e (List.mem_cons_self ..)).2, sD_ag (fun c hc => h c (List.mem_cons_of_mem _ hc))]
def lI (A : Nat → Nat → Int) (M : Int → Int → Int → Int → Int → Prop) (f L z D c : Int) : Prop := lE A 22 (A 17 c.toNat) f z ∧ M (A 21 c.toNat) f L z D
def lG (A : Nat → Nat → Int) (M : Int → Int → Int → Int → Int → Prop) (f L z D g : Int) : Prop := (0 < A 17 g.toNat → lE A 22 (A 17 g.toNat) f z) ∧ lR A (A 18 g.toNat) f z ∧ lR A (A 19 g.toNat) f z ∧ M (A 21 g.toNat) f L z D
def lB (A : Nat → Nat → Int) (M : Int → Int → Int → Int → Int → Prop) (L c : Int) : Prop := M c 1 (L + 1) (A 26 c.toNat) (A 27 c.toNat) ∧ 1 ≤ A 26 c.toNat ∧ A 26 c.toNat ≤ 1000000 ∧ 0 ≤ A 27 c.toNat ∧ A 27 c.toNat ≤ 1000000
/-- the words of a statement at level L: free from f on, all below z; D: what it wants below -/
def lSt (A : Nat → Nat → Int) (M : Int → Int → Int → Int → Int → Prop) (p f L z D : Int) : Prop :=
  (A 15 p.toNat = 22 ∨ A 15 p.toNat = 23 → lR A (A 17 p.toNat) f z ∧ lE A 22 (A 18 p.toNat) f z) ∧
  (A 15 p.toNat = 24 → lR A (A 17 p.toNat) f z ∧ lR A (A 18 p.toNat) f z) ∧
  (A 15 p.toNat = 25 → (∀ l, CH A (A 21 p.toNat) l → ∀ a ∈ l, lE A 22 (A 17 a.toNat) f z) ∧ (D < 1000000 → 7 + A 32 (A 17 p.toNat).toNat + A 33 (A 17 p.toNat).toNat ≤ D)) ∧
  (A 15 p.toNat = 26 → ∀ l, CH A (A 21 p.toNat) l → ∀ c ∈ l, M c f L z D) ∧
  (A 15 p.toNat = 27 → A 9 (A 17 p.toNat).toNat = f ∧ A 10 (A 17 p.toNat).toNat = L ∧ f + 2 ≤ z ∧ lE A 22 (A 19 p.toNat) (f + 2) z ∧ lE A 22 (A 20 p.toNat) (f + 2) z ∧ M (A 21 p.toNat) (f + 2) L z D) ∧
  (A 15 p.toNat = 28 → A 25 p.toNat = f ∧ f + 3 ≤ z ∧ ∀ l, CH A (A 21 p.toNat) l → (∀ c ∈ l, lB A M L c) ∧ (D < 1000000 → 3 + sD A l ≤ D)) ∧
  (A 15 p.toNat = 29 → A 25 p.toNat = f ∧ f + 3 ≤ z ∧ lB A M L (A 21 p.toNat) ∧ (D < 1000000 → 3 + A 20 p.toNat * (A 26 (A 21 p.toNat).toNat + A 27 (A 21 p.toNat).toNat + 3) ≤ D)) ∧
  (A 15 p.toNat = 30 → ∀ l, CH A (A 21 p.toNat) l → ∀ c ∈ l, lI A M f L z D c) ∧
  (A 15 p.toNat = 31 → lE A 22 (A 17 p.toNat) f z ∧ M (A 21 p.toNat) f L z D) ∧
  (A 15 p.toNat = 32 → A 25 p.toNat = f ∧ f + 2 * A 18 p.toNat ≤ z ∧ ∀ l, CH A (A 21 p.toNat) l → ∀ g ∈ l, lG A M (f + 2 * A 18 p.toNat) L z D g)
def lP (A : Nat → Nat → Int) : Nat → Int → Int → Int → Int → Int → Prop
  | 0, _, _, _, _, _ => True
  | n + 1, p, f, L, z, D => lD A (A 23 p.toNat) (A 24 p.toNat).toNat f L ∧ f + zS A (A 23 p.toNat) (A 24 p.toNat).toNat ≤ z ∧ lSt A (lP A n) p (f + zS A (A 23 p.toNat) (A 24 p.toNat).toNat) L z D
theorem lSt_mono {A : Nat → Nat → Int} {M M' : Int → Int → Int → Int → Int → Prop} {p f L z D z' D' : Int} (hz : z ≤ z') (hD : D ≤ D') (h1 : ∀ c f L, M c f L z D → M' c f L z' D') (h2 : ∀ c f L z D, M c f L z D → M' c f L z D) (h : lSt A M p f L z D) : lSt A M' p f L z' D' := by
  obtain ⟨a1, a2, a3, a4, a5, a6, a7, a8, a9, a10⟩ := h
  have eE : ∀ {e g : Int}, lE A 22 e g z → lE A 22 e g z' := fun w => lE_sz (Nat.le_refl _) hz w
  have hB : ∀ c, lB A M L c → lB A M' L c := fun c w => ⟨h2 _ _ _ _ _ w.1, w.2⟩
  refine ⟨fun k => ?_, fun k => ?_, fun k => ?_, fun k => ?_, fun k => ?_, fun k => ?_, fun k => ?_, fun k => ?_, fun k => ?_, fun k => ?_⟩
  · exact ⟨lR_sz hz (a1 k).1, eE (a1 k).2⟩
  · exact ⟨lR_sz hz (a2 k).1, lR_sz hz (a2 k).2⟩
  · exact ⟨fun l c a ha => eE ((a3 k).1 l c a ha), fun q => by have := (a3 k).2 (by omega); omega⟩
  · exact fun l c a ha => h1 _ _ _ (a4 k l c a ha)
  · obtain ⟨b1, b2, b3, b4, b5, b6⟩ := a5 k
    exact ⟨b1, b2, by omega, eE b4, eE b5, h1 _ _ _ b6⟩
  · obtain ⟨b1, b2, b3⟩ := a6 k
    exact ⟨b1, by omega, fun l c => ⟨fun a ha => hB _ ((b3 l c).1 a ha), fun q => by have := (b3 l c).2 (by omega); omega⟩⟩
  · obtain ⟨b1, b2, b3, b4⟩ := a7 k
    exact ⟨b1, by omega, hB _ b3, fun q => by have := b4 (by omega); omega⟩
  · exact fun l c a ha => ⟨eE (a8 k l c a ha).1, h1 _ _ _ (a8 k l c a ha).2⟩
  · exact ⟨eE (a9 k).1, h1 _ _ _ (a9 k).2⟩
  · obtain ⟨b1, b2, b3⟩ := a10 k
    exact ⟨b1, by omega, fun l c a ha => ⟨fun q => eE ((b3 l c a ha).1 q), lR_sz hz (b3 l c a ha).2.1, lR_sz hz (b3 l c a ha).2.2.1, h1 _ _ _ (b3 l c a ha).2.2.2⟩⟩
theorem lP_mono {A : Nat → Nat → Int} : ∀ {n m : Nat} {p f L z D z' D' : Int}, m ≤ n → z ≤ z' → D ≤ D' → lP A n p f L z D → lP A m p f L z' D'
  | _, 0, _, _, _, _, _, _, _, _, _, _, _ => trivial
  | 0, m + 1, _, _, _, _, _, _, _, hm, _, _, _ => absurd hm (by omega)
  | n + 1, m + 1, p, f, L, z, D, z', D', hm, hz, hD, h => ⟨h.1, by have := h.2.1; omega, lSt_mono hz hD (fun c f L w => lP_mono (by omega) hz hD w) (fun c f L z D w => lP_mono (by omega) (Int.le_refl _) (Int.le_refl _) w) h.2.2⟩
def La (p lo hi : Int) (A A_q : Nat → Nat → Int) : Prop := ∀ k j : Nat, [25, 26, 27].elem k = true → lo ≤ (j : Int) → (j : Int) < hi → k = 25 ∨ (j : Int) ≠ p → A_q k j = A k j
def Ln (s0 s1 : Int) (A A_q : Nat → Nat → Int) : Prop := ∀ k j : Nat, [9, 10].elem k = true → s0 ≤ (j : Int) → (j : Int) < s1 → A_q k j = A k j
def Lq (pb : Int) (A A_q : Nat → Nat → Int) : Prop := ∀ k j : Nat, [32, 33].elem k = true → (j : Int) < pb → A_q k j = A k j
theorem La_su {p c lo hi a b : Int} {A A_q : Nat → Nat → Int} (h : La p lo hi A A_q) (h1 : lo ≤ a) (h3 : p < a) (h2 : b ≤ hi) : La c a b A A_q := fun k j hk g1 g2 _ => h k j hk (by omega) (by omega) (.inr (by omega))
theorem Ln_su {lo hi a b : Int} {A A_q : Nat → Nat → Int} (h : Ln lo hi A A_q) (h1 : lo ≤ a) (h2 : b ≤ hi) : Ln a b A A_q := fun k j hk g1 g2 => h k j hk (by omega) (by omega)
theorem lSt_mv {A A_q : Nat → Nat → Int} {sb pb : Int} {R : (Nat → Prop) → Int → Int → Int → Int → Int → Prop} {M M' : Int → Int → Int → Int → Int → Prop} {V : Nat → Prop} {p lo hi t0 s1 f L z D : Int} (h0 : 0 ≤ lo) (hl : lo ≤ p) (hp : p < hi) (ht : 0 ≤ t0) (ag : Ag lo hi A A_q) (la : La p lo hi A A_q) (ln : Ln t0 s1 A A_q) (lq : Lq pb A A_q) (hin : ∀ V e a b u v, R V e a b u v → a ≤ e ∧ e < b) (hR : ∀ V c a b u v f L z D, p < a → b ≤ hi → t0 ≤ u → v ≤ s1 → R V c a b u v → M c f L z D → M' c f L z D) (w : wSt A sb pb R V p lo hi t0 s1) (h : lSt A M p f L z D) : lSt A_q M' p f L z D := by
  obtain ⟨a1, a2, a3, a4, a5, a6, a7, a8, a9, a10⟩ := h
  have q : ∀ k, wr.elem k = true → A_q k p.toNat = A k p.toNat := fun k hk => ag k p.toNat hk (by omega) (by omega)
  have a25 : ∀ a b : Int, lo ≤ a → b ≤ hi → ∀ j : Nat, a ≤ (j : Int) → (j : Int) < b → A_q 25 j = A 25 j := fun a b g1 g2 j j1 j2 => la 25 j rfl (by omega) (by omega) (.inl rfl)
  have eE : ∀ {n : Nat} {V : Nat → Prop} {e a b g y : Int}, wE A V sb n e a b → lo ≤ a → b ≤ hi → lE A 22 e g y → lE A_q 22 e g y := fun w1 g1 g2 w2 => lE_mv (by omega) (Ag_su ag g1 g2) (a25 _ _ g1 g2) w1 w2
  have eR : ∀ {ch e a b g y : Int}, wR A V sb 20 ch e a b → lo ≤ a → b ≤ hi → lR A e g y → lR A_q e g y := fun w1 g1 g2 w2 => lR_mv (by omega) (Ag_su ag g1 g2) (a25 _ _ g1 g2) w1 w2
  have ch : ∀ {S : Int → Int → Int → Int → Int → Prop} {l l0 : List Int} {u v : Int}, (∀ e a b u v, S e a b u v → a ≤ e ∧ e < b) → wCs S l0 (p + 1) hi u v → CH A (A 21 p.toNat) l0 → CH A_q (A 21 p.toNat) l → l = l0 := fun hS w1 c0 c1 => CH_un c1 (CH_ag (fun e he => by
    have g := wCs_in hS w1 e he
    exact ag 22 e.toNat rfl (by omega) (by omega)) c0)
  have hB : ∀ V c a b u v, p < a → b ≤ hi → t0 ≤ u → v ≤ s1 → R V c a b u v → lB A M L c → lB A_q M' L c := fun V c a b u v g1 g2 g3 g4 w1 w2 => by
    have g := hin _ _ _ _ _ _ w1
    unfold lB at w2 ⊢
    rw [la 26 c.toNat rfl (by omega) (by omega) (.inr (by omega)), la 27 c.toNat rfl (by omega) (by omega) (.inr (by omega))]
    exact ⟨hR _ _ _ _ _ _ _ _ _ _ g1 g2 g3 g4 w1 w2.1, w2.2⟩
  unfold lSt
  rw [q 15 rfl, q 17 rfl, q 18 rfl, q 19 rfl, q 20 rfl, q 21 rfl]
  refine ⟨fun k => ?_, fun k => ?_, fun k => ?_, fun k => ?_, fun k => ?_, fun k => ?_, fun k => ?_, fun k => ?_, fun k => ?_, fun k => ?_⟩
  · rcases k with k_q | k_q
    · have g := wS_i22 w k_q
      exact ⟨eR g.2.1 (Int.le_refl _) (by omega) (a1 (.inl k_q)).1, eE g.2.2 (by omega) (Int.le_refl _) (a1 (.inl k_q)).2⟩
    · have g := wS_i23 w k_q
      exact ⟨eR g.2.1 (Int.le_refl _) (by omega) (a1 (.inr k_q)).1, eE g.2.2 (by omega) (Int.le_refl _) (a1 (.inr k_q)).2⟩
  · have g := wS_i24 w k
    exact ⟨eR g.2.1 (Int.le_refl _) (by omega) (a2 k).1, eR g.2.2 (by omega) (Int.le_refl _) (a2 k).2⟩
  · obtain ⟨g1, g2, g3, l0, c0, g4, g5⟩ := wS_i25 w k
    refine ⟨fun l c a ha => ?_, fun dd => ?_⟩
    · have e : l = l0 := CH_un c (CH_ag (fun e he => by
        have g := wAs_in g5 e he
        exact ag 22 e.toNat rfl (by omega) (by omega)) c0)
      subst e
      obtain ⟨y, x1, x2, y1, y2, y3⟩ := wAs_mem g5 ha
      exact lA_mv (by omega) (Ag_su ag (by omega) y2) (a25 _ _ (by omega) y2) y3 ((a3 k).1 _ c0 a ha)
    · rw [lq 32 _ rfl (by omega), lq 33 _ rfl (by omega)]
      exact (a3 k).2 dd
  · obtain ⟨l0, c0, g⟩ := wS_i26 w k
    intro l c a ha
    have e := ch (fun e a b u v w => hin _ _ _ _ _ _ w) g c0 c
    subst e
    obtain ⟨x1, x2, x3, x4, y1, y2, y3, y4, y5⟩ := wCs_mem g ha
    exact hR _ _ _ _ _ _ _ _ _ _ (by omega) y2 y3 y4 y5 (a4 k _ c0 a ha)
  · obtain ⟨g1, g2, g3, x1, x2, y1, y2, y3, y4, y5, y6⟩ := wS_i27 w k
    obtain ⟨b1, b2, b3, b4, b5, b6⟩ := a5 k
    have n : ((t0.toNat : Nat) : Int) = t0 := by omega
    rw [g1] at b1 b2 ⊢
    rw [ln 9 t0.toNat rfl (by omega) (by omega), ln 10 t0.toNat rfl (by omega) (by omega)]
    exact ⟨b1, b2, b3, eE y4 (by omega) (by omega) b4, eE y5 (by omega) (by omega) b5, hR _ _ _ _ _ _ _ _ _ _ (by omega) (Int.le_refl _) (by omega) (Int.le_refl _) y6 b6⟩
  · obtain ⟨g1, g2, g3, l0, c0, g4, g5⟩ := wS_i28 w k
    obtain ⟨b1, b2, b3⟩ := a6 k
    refine ⟨by rw [la 25 p.toNat rfl (by omega) (by omega) (.inl rfl)]; exact b1, b2, fun l c => ?_⟩
    have e := ch (fun e a b u v w => hin _ _ _ _ _ _ w) g5 c0 c
    subst e
    refine ⟨fun a ha => ?_, fun dd => ?_⟩
    · obtain ⟨x1, x2, x3, x4, y1, y2, y3, y4, y5⟩ := wCs_mem g5 ha
      exact hB _ _ _ _ _ _ (by omega) y2 y3 y4 y5 ((b3 _ c0).1 a ha)
    · rw [sD_ag (fun a ha => by
        have g := wCs_in (fun e a b u v w => hin _ _ _ _ _ _ w) g5 a ha
        exact ⟨la 26 a.toNat rfl (by omega) (by omega) (.inr (by omega)), la 27 a.toNat rfl (by omega) (by omega) (.inr (by omega))⟩)]
      exact (b3 _ c0).2 dd
  · obtain ⟨g1, g2, g3, g4, g5, g6, g7, g8⟩ := wS_i29 w k
    obtain ⟨b1, b2, b3, b4⟩ := a7 k
    have g := hin _ _ _ _ _ _ g8
    refine ⟨by rw [la 25 p.toNat rfl (by omega) (by omega) (.inl rfl)]; exact b1, b2, hB _ _ _ _ _ _ (by omega) (Int.le_refl _) (by omega) (Int.le_refl _) g8 b3, ?_⟩
    rw [la 26 (A 21 p.toNat).toNat rfl (by omega) (by omega) (.inr (by omega)), la 27 (A 21 p.toNat).toNat rfl (by omega) (by omega) (.inr (by omega))]
    exact b4
  · obtain ⟨l0, hn, c0, g⟩ := wS_i30 w k
    intro l c a ha
    have e := ch (fun e a b u v w => by
      obtain ⟨i1, i2, m, i3, i4, i5, i6⟩ := w
      have := hin _ _ _ _ _ _ i6
      omega) g c0 c
    subst e
    obtain ⟨x1, x2, x3, x4, y1, y2, y3, y4, i1, i2, m, i3, i4, i5, i6⟩ := wCs_mem g ha
    have b := a8 k _ c0 a ha
    have j := hin _ _ _ _ _ _ i6
    unfold lI at b ⊢
    rw [ag 17 a.toNat rfl (by omega) (by omega), ag 21 a.toNat rfl (by omega) (by omega)]
    exact ⟨eE i5 (by omega) (by omega) b.1, hR _ _ _ _ _ _ _ _ _ _ (by omega) y2 y3 y4 i6 b.2⟩
  · obtain ⟨x1, g1, g2, g3, g4⟩ := wS_i31 w k
    exact ⟨eE g3 (by omega) (by omega) (a9 k).1, hR _ _ _ _ _ _ _ _ _ _ (by omega) (Int.le_refl _) (Int.le_refl _) (Int.le_refl _) g4 (a9 k).2⟩
  · obtain ⟨g1, g2, l0, c0, g3, g⟩ := wS_i32 w k
    obtain ⟨b1, b2, b3⟩ := a10 k
    refine ⟨by rw [la 25 p.toNat rfl (by omega) (by omega) (.inl rfl)]; exact b1, b2, fun l c a ha => ?_⟩
    have e := ch (fun e a b u v w => by
      obtain ⟨i1, i2, m, i3, i4, i5, i6⟩ := w
      have := hin _ _ _ _ _ _ i5
      omega) g c0 c
    subst e
    obtain ⟨x1, x2, x3, x4, y1, y2, y3, y4, i1, i2, m, i3, i4, i5, i6⟩ := wCs_mem g ha
    have b := b3 _ c0 a ha
    have j := hin _ _ _ _ _ _ i5
    unfold lG at b ⊢
    rw [ag 17 a.toNat rfl (by omega) (by omega), ag 18 a.toNat rfl (by omega) (by omega), ag 19 a.toNat rfl (by omega) (by omega), ag 21 a.toNat rfl (by omega) (by omega)]
    have r0 : ∀ x g y : Int, x = 0 → lR A_q x g y := fun x g y hx => lR_0 (by omega)
    refine ⟨fun q0 => ?_, ?_, ?_, hR _ _ _ _ _ _ _ _ _ _ (by omega) y2 y3 y4 i5 b.2.2.2⟩
    · rcases i6 with ⟨k1, u, k2, k3, k4, k5⟩ | ⟨k1, k2⟩ | ⟨u, v, k1, k2, k3, k4, k5, k6⟩
      · omega
      · exact eE k2 (by omega) (by omega) (b.1 q0)
      · exact eE k4 (by omega) (by omega) (b.1 q0)
    · rcases i6 with ⟨k1, u, k2, k3, k4, k5⟩ | ⟨k1, k2⟩ | ⟨u, v, k1, k2, k3, k4, k5, k6⟩
      · exact eR k4 (by omega) (by omega) b.2.1
      · exact r0 _ _ _ k1.1
      · exact eR k5 (by omega) (by omega) b.2.1
    · rcases i6 with ⟨k1, u, k2, k3, k4, k5⟩ | ⟨k1, k2⟩ | ⟨u, v, k1, k2, k3, k4, k5, k6⟩
      · exact eR k5 (by omega) (by omega) b.2.2.1
      · exact r0 _ _ _ k1.2
      · exact eR k6 (by omega) (by omega) b.2.2.1
theorem zS_ag {A A_q : Nat → Nat → Int} {s : Int} : ∀ {m : Nat}, (∀ j : Nat, j < m → A_q 8 (s + (j : Int)).toNat = A 8 (s + (j : Int)).toNat) → zS A_q s m = zS A s m
  | 0, _ => rfl
  | m + 1, h => by
    show zS A_q s m + A_q 8 (s + (m : Int)).toNat = zS A s m + A 8 (s + (m : Int)).toNat
    rw [zS_ag (fun j hj => h j (by omega)), h m (by omega)]
theorem lP_mv {A A_q : Nat → Nat → Int} {sb pb : Int} (sg : Sg sb A A_q) (lq : Lq pb A A_q) : ∀ {n m : Nat} {V : Nat → Prop} {p lo hi s0 s1 f L z D : Int}, 0 ≤ lo → s1 ≤ sb → Ag lo hi A A_q → La p lo hi A A_q → Ln s0 s1 A A_q → wP A sb pb n V p lo hi s0 s1 → lP A m p f L z D → lP A_q m p f L z D
  | _, 0, _, _, _, _, _, _, _, _, _, _, _, _, _, _, _, _, _ => trivial
  | 0, m + 1, _, _, _, _, _, _, _, _, _, _, _, _, _, _, _, w, _ => w.elim
  | n + 1, m + 1, V, p, lo, hi, s0, s1, f, L, z, D, h0, hs, ag, la, ln, w, h => by
    unfold wP at w
    obtain ⟨w1, w2, w3, w4, w5, w6, w7, w8⟩ := w
    obtain ⟨b1, b2, b3⟩ := h
    have q : ∀ k, wr.elem k = true → A_q k p.toNat = A k p.toNat := fun k hk => ag k p.toNat hk (by omega) (by omega)
    have z1 : ∀ j : Nat, j ≤ (A 24 p.toNat).toNat → zS A_q (A 23 p.toNat) j = zS A (A 23 p.toNat) j := fun j hj => zS_ag (fun i hi => sg 8 _ rfl (by omega))
    unfold lP
    rw [q 23 rfl, q 24 rfl, z1 _ (Nat.le_refl _)]
    refine ⟨fun j hj => ?_, b2, lSt_mv h0 w1 w2 (by omega) ag la (Ln_su ln (by omega) (Int.le_refl _)) lq (fun _ _ _ _ _ _ u => wP_in u) (fun V_q c a b u v f L z D g1 g2 g3 g4 w_q k => lP_mv sg lq (by omega) (by omega) (Ag_su ag (by omega) g2) (La_su la (by omega) g1 g2) (Ln_su ln (by omega) g4) w_q k) w8 b3⟩
    rw [ln 9 _ rfl (by omega) (by omega), ln 10 _ rfl (by omega) (by omega), z1 j (by omega)]
    exact b1 j hj
