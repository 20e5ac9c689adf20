/-! what the uses in a tree can be of: how many -/
def cnC (T : Nat → Nat → Int) : Nat → Int
  | 0 => 0
  | n + 1 => cnC T n + (if T 15 n = 3 ∧ 1 ≤ n ∧ T 15 (n - 1) ≠ 3 then 1 else 0)
theorem cnE_s {T : Nat → Nat → Int} {n : Nat} : cnE T (n + 1) = cnE T n + (if T 15 n = 3 then 1 else 0) := rfl
theorem cnC_s {T : Nat → Nat → Int} {n : Nat} : cnC T (n + 1) = cnC T n + (if T 15 n = 3 ∧ 1 ≤ n ∧ T 15 (n - 1) ≠ 3 then 1 else 0) := rfl
theorem cnC_le {T : Nat → Nat → Int} : ∀ n : Nat, 0 ≤ cnC T n ∧ cnC T n ≤ cnE T n ∧ 2 * cnC T n ≤ (n : Int) ∧ (1 ≤ n → T 15 (n - 1) ≠ 3 → 2 * cnC T n + 1 ≤ (n : Int))
  | 0 => ⟨Int.le_refl _, Int.le_refl _, Int.le_refl _, fun h => absurd h (by decide)⟩
  | n + 1 => by
    obtain ⟨h1, h2, h3, h4⟩ := cnC_le (T := T) n
    rw [cnC_s, cnE_s, show n + 1 - 1 = n by omega]
    by_cases a : T 15 n = 3
    · rw [if_pos a]
      by_cases b : 1 ≤ n ∧ T 15 (n - 1) ≠ 3
      · have h4 := h4 b.1 b.2
        rw [if_pos ⟨a, b⟩]
        exact ⟨by omega, by omega, by omega, fun _ q => absurd a q⟩
      · rw [if_neg (fun q => b q.2)]
        exact ⟨by omega, by omega, by omega, fun _ q => absurd a q⟩
    · rw [if_neg a, if_neg (fun q => a q.1)]
      exact ⟨by omega, by omega, by omega, fun _ _ => by omega⟩
theorem cnC_m {T : Nat → Nat → Int} {x : Nat} : ∀ {n : Nat}, x ≤ n → cnC T x ≤ cnC T n
  | 0, h => by
    have : x = 0 := by omega
    rw [this]
    exact Int.le_refl _
  | n + 1, h => by
    by_cases e : x = n + 1
    · rw [e]
      exact Int.le_refl _
    · have := cnC_m (T := T) (x := x) (n := n) (by omega)
      rw [cnC_s]
      by_cases b : T 15 n = 3 ∧ 1 ≤ n ∧ T 15 (n - 1) ≠ 3
      · rw [if_pos b]
        omega
      · rw [if_neg b]
        omega
theorem cnC_lt {T : Nat → Nat → Int} {x n : Nat} (h : x < n) (k : T 15 x = 3 ∧ 1 ≤ x ∧ T 15 (x - 1) ≠ 3) : cnC T x + 1 ≤ cnC T n := by
  have := cnC_m (T := T) (x := x + 1) (n := n) h
  rw [cnC_s, if_pos k] at this
  exact this
/-- the forms: all of a name, a name, an element at a constant place -/
def Fme (T : Nat → Nat → Int) (nd : Int) (bs : Int → Int) (V0 : Nat → Prop) (s00 s al e : Int) : Prop := (0 ≤ s ∧ s < 202 ∧ (V0 s.toNat ∨ s00 ≤ s)) ∧ (al = 1 ∨ (al = 0 ∧ e = 0) ∨ (al = 0 ∧ ∃ x i : Nat, (x : Int) < nd ∧ (T 15 x = 3 ∧ 1 ≤ x ∧ T 15 (x - 1) ≠ 3) ∧ i < 8 ∧ s = T 17 x ∧ e = cv T (fun v => (i32 (bs (v : Int) + (i : Int))).toInt) (T 18 x)))
theorem Fme_b {T : Nat → Nat → Int} {nd s00 : Int} {V0 : Nat → Prop} {bs : Int → Int} (h : nd + 5 * ecn T nd ≤ 6055) : Fbd (Fme T nd bs V0 s00) 7324 := fun A f t _ ds hu => by
  have ex : ∀ e : Nat, ∃ x : Nat, ∀ y : Nat, (y : Int) < nd → T 15 y = 3 ∧ 1 ≤ y ∧ T 15 (y - 1) ≠ 3 → cnC T y = (e : Int) → y = x := fun e => by
    by_cases q : ∃ y : Nat, (T 15 y = 3 ∧ 1 ≤ y ∧ T 15 (y - 1) ≠ 3) ∧ cnC T y = (e : Int)
    · obtain ⟨y, k, g⟩ := q
      refine ⟨y, fun z _ k_q g_q => ?_⟩
      rcases Nat.lt_or_ge z y with w | w
      · have := cnC_lt w k_q
        omega
      · rcases Nat.lt_or_ge y z with w_q | w_q
        · have := cnC_lt w_q k
          omega
        · omega
    · exact ⟨0, fun y _ k g => absurd ⟨y, k, g⟩ q⟩
  obtain ⟨en, hen⟩ := Classical.axiomOfChoice ex
  obtain ⟨c1, c2, c3, _⟩ := cnC_le (T := T) nd.toNat
  have c4 : ecn T nd = cnE T nd.toNat := rfl
  have z := Uf_le (A := A) (E := (cnC T nd.toNat).toNat) (node := fun _ => 0) (val := fun e i => cv T (fun v => (i32 (bs (v : Int) + (i : Int))).toInt) (T 18 (en e))) (sym := fun e => T 17 (en e)) ds (fun j j0 j1 => by
    obtain ⟨⟨g1, g2, _⟩, g3⟩ := hu j j0 j1
    refine ⟨g1, g2, ?_⟩
    rcases g3 with g | g | ⟨g, x, i, k1, k2, k3, k4, k5⟩
    · exact Or.inl g
    · exact Or.inr (Or.inl g)
    · have l := cnC_lt (T := T) (x := x) (n := nd.toNat) (by omega) k2
      have p := (cnC_le (T := T) x).1
      have w := hen (cnC T x).toNat x k1 k2 (by omega)
      refine Or.inr (Or.inr ⟨g, (cnC T x).toNat, i, by omega, k3, ?_, ?_⟩)
      · show _ = T 17 (en (cnC T x).toNat)
        rw [← w]
        exact k4
      · show _ = cv T (fun v => (i32 (bs (v : Int) + (i : Int))).toInt) (T 18 (en (cnC T x).toNat))
        rw [← w]
        exact k5)
  omega
/-- the PAR FORs in a tree: name, base -/
def Bs (T : Nat → Nat → Int) : Nat → Int → Int → Int → Prop
  | 0, _, _, _ => False
  | n + 1, p, v, b => (T 15 p.toNat = 29 ∧ v = T 17 p.toNat ∧ b = T 19 p.toNat) ∨ ((T 15 p.toNat = 27 ∨ T 15 p.toNat = 29 ∨ T 15 p.toNat = 31) ∧ Bs T n (T 21 p.toNat) v b) ∨ ((T 15 p.toNat = 26 ∨ T 15 p.toNat = 28) ∧ ∃ l, CH T (T 21 p.toNat) l ∧ ∃ c ∈ l, Bs T n c v b) ∨ ((T 15 p.toNat = 30 ∨ T 15 p.toNat = 32) ∧ ∃ l, CH T (T 21 p.toNat) l ∧ ∃ c ∈ l, Bs T n (T 21 c.toNat) v b)
/-- what stands below a process: of a row, alone -/
theorem wP_one {T : Nat → Nat → Int} {sb pb : Int} {n : Nat} {V : Nat → Prop} {p lo hi s0 s1 : Int} (w : wP T sb pb (n + 1) V p lo hi s0 s1) (k : T 15 p.toNat = 27 ∨ T 15 p.toNat = 29 ∨ T 15 p.toNat = 31) : ∃ V_q a u, s0 + T 24 p.toNat ≤ u ∧ (T 15 p.toNat = 29 → T 17 p.toNat = s0 + T 24 p.toNat ∧ s0 + T 24 p.toNat + 1 ≤ u) ∧ wP T sb pb n V_q (T 21 p.toNat) a hi u s1 := by
  obtain ⟨lp, s00, t23, t24, t1, w8⟩ := wP_t w
  rcases k with k | k | k
  · obtain ⟨g1, g2, g3, a7, b7, g4, g5, g6, g7, g8, g9⟩ := wS_i27 w8 k
    exact ⟨_, _, _, by omega, fun q => by omega, g9⟩
  · obtain ⟨g1, g2, g3, g4, g5, g6, g7, g8⟩ := wS_i29 w8 k
    exact ⟨_, _, _, by omega, fun q => ⟨g1, Int.le_refl _⟩, g8⟩
  · obtain ⟨a7, g1, g2, g3, g4⟩ := wS_i31 w8 k
    exact ⟨_, _, _, Int.le_refl _, fun q => by omega, g4⟩
theorem wP_row {T : Nat → Nat → Int} {sb pb : Int} {n : Nat} {V : Nat → Prop} {p lo hi s0 s1 : Int} (w : wP T sb pb (n + 1) V p lo hi s0 s1) (k : T 15 p.toNat = 26 ∨ T 15 p.toNat = 28) : ∃ l, CH T (T 21 p.toNat) l ∧ wCs (wP T sb pb n (Vd V s0 (s0 + T 24 p.toNat))) l (p + 1) hi (s0 + T 24 p.toNat) s1 := by
  obtain ⟨lp, s00, t23, t24, t1, w8⟩ := wP_t w
  rcases k with k | k
  · exact wS_i26 w8 k
  · obtain ⟨_, _, _, l, a, _, b⟩ := wS_i28 w8 k
    exact ⟨l, a, b⟩
theorem wP_rwc {T : Nat → Nat → Int} {sb pb : Int} {n : Nat} {V : Nat → Prop} {p lo hi s0 s1 : Int} (w : wP T sb pb (n + 1) V p lo hi s0 s1) (k : T 15 p.toNat = 30 ∨ T 15 p.toNat = 32) : ∃ l, CH T (T 21 p.toNat) l ∧ wCs (fun c a b u v => ∃ m, a ≤ m ∧ wP T sb pb n (Vd V s0 (s0 + T 24 p.toNat)) (T 21 c.toNat) m b u v) l (p + 1) hi (s0 + T 24 p.toNat) s1 := by
  obtain ⟨lp, s00, t23, t24, t1, w8⟩ := wP_t w
  rcases k with k | k
  · obtain ⟨l0, _, c0, ws⟩ := wS_i30 w8 k
    refine ⟨l0, c0, wCs_id (fun e a b u v g => ?_) ws⟩
    obtain ⟨e1, e2, m, e3, e4, e5, g⟩ := g
    exact ⟨m, by omega, g⟩
  · obtain ⟨_, _, l0, c0, _, ws⟩ := wS_i32 w8 k
    refine ⟨l0, c0, wCs_id (fun e a b u v g => ?_) ws⟩
    obtain ⟨e1, e2, m, e3, e4, g, e5⟩ := g
    exact ⟨m, by omega, g⟩
theorem Bs_in {T : Nat → Nat → Int} {sb pb x b : Int} : ∀ {n : Nat} {V : Nat → Prop} {p lo hi s0 s1 : Int}, wP T sb pb n V p lo hi s0 s1 → Bs T n p x b → s0 ≤ x ∧ x < s1
  | 0, _, _, _, _, _, _, w, _ => w.elim
  | n + 1, V, p, lo, hi, s0, s1, w, h => by
    obtain ⟨lp, s00, t23, t24, t1, w8⟩ := wP_t w
    rcases h with h | h | h | h
    · obtain ⟨g1, g2, _⟩ := wS_i29 w8 h.1
      have := h.2.1
      omega
    · obtain ⟨V_q, a, u, g1, _, g2⟩ := wP_one w h.1
      have := Bs_in g2 h.2
      omega
    · obtain ⟨k, l, hl, c, hc, h⟩ := h
      obtain ⟨l0, c0, ws⟩ := wP_row w k
      have e := CH_u hl c0
      subst e
      obtain ⟨a, b, u, v, _, _, a3, a4, g⟩ := wCs_mem ws hc
      have := Bs_in g h
      omega
    · obtain ⟨k, l, hl, c, hc, h⟩ := h
      obtain ⟨l0, c0, ws⟩ := wP_rwc w k
      have e := CH_u hl c0
      subst e
      obtain ⟨a, b, u, v, _, _, a3, a4, m, _, g⟩ := wCs_mem ws hc
      have := Bs_in g h
      omega
theorem wCs_two {R : Int → Int → Int → Int → Int → Prop} : ∀ {l : List Int} {lo hi s0 s1 c c_q : Int}, wCs R l lo hi s0 s1 → c ∈ l → c_q ∈ l → c = c_q ∨ ∃ a b u v a_q b_q u_q v', R c a b u v ∧ R c_q a_q b_q u_q v' ∧ (v ≤ u_q ∨ v' ≤ u)
  | [], _, _, _, _, _, _, _, hc, _ => by cases hc
  | e :: l, lo, hi, s0, s1, c, c_q, h, hc, hc' => by
    obtain ⟨m, t, h1, h2, h3, h4, h5, h6⟩ := h
    rcases List.mem_cons.mp hc with x | x
    · rcases List.mem_cons.mp hc' with y | y
      · exact Or.inl (x.trans y.symm)
      · obtain ⟨a, b, u, v, g1, g2, g3, g4, g5⟩ := wCs_mem h6 y
        rw [x]
        exact Or.inr ⟨_, _, _, _, a, b, u, v, h5, g5, Or.inl g3⟩
    · rcases List.mem_cons.mp hc' with y | y
      · obtain ⟨a, b, u, v, g1, g2, g3, g4, g5⟩ := wCs_mem h6 x
        rw [y]
        exact Or.inr ⟨a, b, u, v, _, _, _, _, g5, h5, Or.inr g3⟩
      · exact wCs_two h6 x y
theorem Bs_u {T : Nat → Nat → Int} {sb pb x b b_q : Int} : ∀ {n : Nat} {V : Nat → Prop} {p lo hi s0 s1 : Int}, wP T sb pb n V p lo hi s0 s1 → Bs T n p x b → Bs T n p x b_q → b = b_q
  | 0, _, _, _, _, _, _, w, _, _ => w.elim
  | n + 1, V, p, lo, hi, s0, s1, w, h, h_q => by
    have own : T 15 p.toNat = 29 → x = T 17 p.toNat → ∀ {y : Int}, Bs T n (T 21 p.toNat) x y → False := fun k e {y} g => by
      obtain ⟨V_q, a, u, g1, g2, g3⟩ := wP_one w (Or.inr (Or.inl k))
      have := Bs_in g3 g
      have := g2 k
      omega
    rcases h with h | h | h | h
    · rcases h_q with h_q | h_q | h_q | h_q
      · rw [h.2.2, h_q.2.2]
      · exact absurd h_q.2 (fun q => own h.1 h.2.1 q)
      · have := h_q.1
        have := h.1
        omega
      · have := h_q.1
        have := h.1
        omega
    · rcases h_q with h_q | h_q | h_q | h_q
      · exact absurd h.2 (fun q => own h_q.1 h_q.2.1 q)
      · obtain ⟨V_q, a, u, g1, _, g2⟩ := wP_one w h.1
        exact Bs_u g2 h.2 h_q.2
      · have := h_q.1
        have := h.1
        omega
      · have := h_q.1
        have := h.1
        omega
    · rcases h_q with h_q | h_q | h_q | h_q
      · have := h_q.1
        have := h.1
        omega
      · have := h_q.1
        have := h.1
        omega
      · obtain ⟨k, l, hl, c, hc, h⟩ := h
        obtain ⟨_, l_q, hl', c_q, hc', h_q⟩ := h_q
        obtain ⟨l0, c0, ws⟩ := wP_row w k
        have e := CH_u hl c0
        subst e
        have e := CH_u hl' c0
        subst e
        rcases wCs_two ws hc hc' with e | ⟨a1, a2, a3, a4, b1, b2, b3, b4, g1, g2, g3⟩
        · subst e
          obtain ⟨a, b, u, v, _, _, a3, a4, g⟩ := wCs_mem ws hc
          exact Bs_u g h h_q
        · have := Bs_in g1 h
          have := Bs_in g2 h_q
          omega
      · have := h_q.1
        have := h.1
        omega
    · rcases h_q with h_q | h_q | h_q | h_q
      · have := h_q.1
        have := h.1
        omega
      · have := h_q.1
        have := h.1
        omega
      · have := h_q.1
        have := h.1
        omega
      · obtain ⟨k, l, hl, c, hc, h⟩ := h
        obtain ⟨_, l_q, hl', c_q, hc', h_q⟩ := h_q
        obtain ⟨l0, c0, ws⟩ := wP_rwc w k
        have e := CH_u hl c0
        subst e
        have e := CH_u hl' c0
        subst e
        rcases wCs_two ws hc hc' with e | ⟨a1, a2, a3, a4, b1, b2, b3, b4, ⟨m1, _, g1⟩, ⟨m2, _, g2⟩, g3⟩
        · subst e
          obtain ⟨a, b, u, v, _, _, a3, a4, m, _, g⟩ := wCs_mem ws hc
          exact Bs_u g h h_q
        · have := Bs_in g1 h
          have := Bs_in g2 h_q
          omega
/-- the values of the names of kind 10: at most eight each -/
def Sv8 (T : Nat → Nat → Int) (V : Nat → Prop) (bs : Int → Int) (R : Nat → Int) : Prop := ∀ s : Nat, V s → T 7 s = 10 → ∃ i : Nat, i < 8 ∧ R s = (i32 (bs (s : Int) + (i : Int))).toInt
theorem cP_8 {T : Nat → Nat → Int} {V : Nat → Prop} {bs : Int → Int} {R : Nat → Int} {sb e lo hi : Int} {n : Nat} (h : Sv8 T V bs R) (w : wE T V sb n e lo hi) (k : pC T e) : ∃ i : Nat, i < 8 ∧ cP T R e = cP T (fun v => (i32 (bs (v : Int) + (i : Int))).toInt) e := by
  unfold cP
  rcases k with k | ⟨k, k10⟩
  · exact ⟨0, by decide, by rw [if_pos k, if_pos k]⟩
  · obtain ⟨m, rfl⟩ := wE_pos w
    obtain ⟨i, i1, i2⟩ := h _ (wE_i2 w k).1.2.2 k10
    exact ⟨i, i1, by rw [if_neg (by omega), if_neg (by omega)]; exact i2⟩
theorem cv_8 {T : Nat → Nat → Int} {V : Nat → Prop} {bs : Int → Int} {R : Nat → Int} {sb e lo hi : Int} {n : Nat} (h : Sv8 T V bs R) (w : wE T V sb n e lo hi) (k : iC T e) : ∃ i : Nat, i < 8 ∧ cv T R e = cv T (fun v => (i32 (bs (v : Int) + (i : Int))).toInt) e := by
  have wb := bK_sy w
  rcases k with ⟨k1, k2, k3, k4⟩ | ⟨k1, k2⟩
  · obtain ⟨m, rfl⟩ := wE_pos wb
    obtain ⟨m4, _, _, g3, g4⟩ := wE_i4 wb k1
    obtain ⟨i, i1, i2⟩ := cP_8 h (bK_sy g3) k4
    refine ⟨i, i1, ?_⟩
    have c : cP T R (bK T 30 (T 19 (bK T 30 e).toNat)) = cP T (fun v => (i32 (bs (v : Int) + (i : Int))).toInt) (bK T 30 (T 19 (bK T 30 e).toNat)) := by
      unfold cP
      rw [if_pos k3, if_pos k3]
    unfold cv
    rw [if_pos k1, if_pos k1, i2, c]
  · obtain ⟨i, i1, i2⟩ := cP_8 h wb k2
    refine ⟨i, i1, ?_⟩
    unfold cv
    rw [if_neg k1, if_neg k1]
    exact i2
theorem iC_3 {T : Nat → Nat → Int} {e : Int} (k : iC T e) : T 15 e.toNat ≠ 3 := fun q => by
  have b : bK T 30 e = e := bK_x (by omega)
  unfold iC pC at k
  rw [b] at k
  omega
/-- the index of an element is the node before it -/
def Ix3 (T : Nat → Nat → Int) (nd : Int) : Prop := ∀ j : Int, 1 ≤ j → j < nd → T 15 j.toNat = 3 → T 18 j.toNat = j - 1
theorem rU_F {T : Nat → Nat → Int} {V V0 : Nat → Prop} {bs : Int → Int} {R : Nat → Int} {E : Us → Int → Prop} {sb nd s00 x d lo hi : Int} {n : Nat} (ix : Ix3 T nd) (hs : sb ≤ 202) (hV : ∀ s : Nat, V s → V0 s ∨ s00 ≤ (s : Int)) (h : Sv8 T V bs R) (h1 : 1 ≤ lo) (h2 : hi ≤ nd) (w : qX T V sb n x lo hi) (ee : T 15 x.toNat = 3 → E (fun s al e _ => Fme T nd bs V0 s00 s al e) (T 18 x.toNat)) : rU T R E (fun s al e _ => Fme T nd bs V0 s00 s al e) x d := by
  obtain ⟨w1, w2, w3, w4⟩ := w
  have sy := w3.1
  have sy2 : T 17 x.toNat < 202 ∧ (V0 (T 17 x.toNat).toNat ∨ s00 ≤ T 17 x.toNat) := by
    have a := w3.2.1
    refine ⟨by omega, ?_⟩
    rcases hV _ w3.2.2 with q | q
    · exact Or.inl q
    · right
      omega
  refine ⟨fun k _ => ⟨⟨sy, sy2⟩, ?_⟩, fun k => ⟨⟨fun _ i => ⟨⟨sy, sy2⟩, Or.inr (Or.inr ⟨rfl, ?_⟩)⟩, fun _ _ => ⟨⟨sy, sy2⟩, Or.inl rfl⟩⟩, ee k⟩⟩
  · unfold ar1
    by_cases q : T 7 (T 17 x.toNat).toNat = 2 ∨ T 7 (T 17 x.toNat).toNat = 7 ∨ T 7 (T 17 x.toNat).toNat = 4
    · rw [if_pos q]
      exact Or.inl rfl
    · rw [if_neg q]
      exact Or.inr (Or.inl ⟨rfl, rfl⟩)
  · rcases w4 with w4 | ⟨_, w4⟩
    · omega
    · obtain ⟨i_q, i1, i2⟩ := cv_8 h w4 i
      have e := ix x (by omega) (by omega) k
      have k3 := iC_3 i
      rw [e] at k3
      refine ⟨x.toNat, i_q, by omega, ⟨k, by omega, ?_⟩, i1, rfl, i2⟩
      rw [show x.toNat - 1 = (x - 1).toNat by omega]
      exact k3
theorem eU_F {T : Nat → Nat → Int} {V V0 : Nat → Prop} {bs : Int → Int} {R : Nat → Int} {sb nd s00 lo0 hi0 : Int} (ix : Ix3 T nd) (hs : sb ≤ 202) (hV : ∀ s : Nat, V s → V0 s ∨ s00 ≤ (s : Int)) (h : Sv8 T V bs R) (h1 : 1 ≤ lo0) (h2 : hi0 ≤ nd) : ∀ {k n : Nat} {e lo hi : Int}, lo0 ≤ lo → hi ≤ hi0 → wE T V sb n e lo hi → eU T R k (fun s al e _ => Fme T nd bs V0 s00 s al e) e
  | 0, _, _, _, _, _, _, _ => trivial
  | k + 1, n, e, lo, hi, l1, l2, w => by
    obtain ⟨m, rfl⟩ := wE_pos w
    have wi := wE_in w
    refine ⟨fun q => ?_, fun q => ?_, fun q => eU_F ix hs hV h h1 h2 l1 (by omega) (wE_i5 w q)⟩
    · exact rU_F ix hs hV h (by omega) (by omega) (qX_wE w q) (fun k3 => eU_F ix hs hV h h1 h2 l1 (by omega) (wE_i3 w k3).2.2)
    · obtain ⟨m4, q1, q2, g3, g4⟩ := wE_i4 w q
      exact ⟨eU_F ix hs hV h h1 h2 l1 (by omega) g3, eU_F ix hs hV h h1 h2 (by omega) (by omega) g4⟩
theorem rU_Fr {T : Nat → Nat → Int} {V V0 : Nat → Prop} {bs : Int → Int} {R : Nat → Int} {sb nd s00 x d lo hi : Int} {n k : Nat} (ix : Ix3 T nd) (hs : sb ≤ 202) (hV : ∀ s : Nat, V s → V0 s ∨ s00 ≤ (s : Int)) (h : Sv8 T V bs R) (h1 : 1 ≤ lo) (h2 : hi ≤ nd) (w : qX T V sb n x lo hi) : rU T R (eU T R k) (fun s al e _ => Fme T nd bs V0 s00 s al e) x d := rU_F ix hs hV h h1 h2 w (fun k3 => by
  have q := qX_e w (by omega)
  have w1 := w.1
  have w2 := w.2.1
  exact eU_F ix hs hV h h1 h2 (Int.le_refl _) (by omega) q.1)
theorem Sv8_d {T : Nat → Nat → Int} {V : Nat → Prop} {bs : Int → Int} {R : Nat → Int} {s0 s1 : Int} (h : Sv8 T V bs R) (g : ∀ s : Nat, s0 ≤ (s : Int) → (s : Int) < s1 → T 7 s ≠ 10) : Sv8 T (Vd V s0 s1) bs R := fun s hs k => by
  rcases hs with hs | hs
  · exact h s hs k
  · exact absurd k (g s hs.1 hs.2)
theorem Sv8_u {T : Nat → Nat → Int} {V : Nat → Prop} {bs : Int → Int} {R : Nat → Int} {z : Int} (h : Sv8 T V bs R) (g : T 7 z.toNat ≠ 10) : Sv8 T (Vu V z) bs R := fun s hs k => by
  rcases hs with hs | hs
  · exact h s hs k
  · rw [← hs, Int.toNat_natCast] at g
    exact absurd k g
theorem vP_F {T : Nat → Nat → Int} {Bu bs : Int → Int} {V0 : Nat → Prop} {sb pb nd s00 : Int} (ix : Ix3 T nd) (hsb : sb ≤ 202) : ∀ {n : Nat} {V : Nat → Prop} {S : Int → Int} {p lo hi s0 s1 : Int}, 1 ≤ lo → hi ≤ nd → wP T sb pb n V p lo hi s0 s1 → (∀ v b, Bs T n p v b → bs v = b) → (∀ s : Nat, V s → V0 s ∨ s00 ≤ (s : Int)) → s00 ≤ s0 → Sv8 T V bs (Rf S) → vP T Bu n S (fun s al e _ => Fme T nd bs V0 s00 s al e) p
  | 0, _, _, _, _, _, _, _, _, _, w, _, _, _, _ => w.elim
  | n + 1, V, S, p, lo, hi, s0, s1, l1, l2, w, hb', hV0, hs0, hs => by
    obtain ⟨lp, s0n, t23, t24, t1, w8⟩ := wP_t w
    have wd : wD T s0 (s0 + T 24 p.toNat) := by
      unfold wP at w
      exact w.2.2.2.2.2.2.1
    have ph : p < hi := (wP_in w).2
    have hv : Sv8 T (Vd V s0 (s0 + T 24 p.toNat)) bs (Rf S) := Sv8_d hs (fun s g1 g2 => by
      have := wd s g1 g2
      omega)
    have hV : ∀ s : Nat, Vd V s0 (s0 + T 24 p.toNat) s → V0 s ∨ s00 ≤ (s : Int) := fun s h => by
      rcases h with h | h
      · exact hV0 s h
      · right
        omega
    have hVu : ∀ {z : Int}, s00 ≤ z → ∀ s : Nat, Vu (Vd V s0 (s0 + T 24 p.toNat)) z s → V0 s ∨ s00 ≤ (s : Int) := fun hz s h => by
      rcases h with h | h
      · exact hV s h
      · right
        omega
    have ef : ∀ {m k : Nat} {e a b : Int}, 1 ≤ a → b ≤ hi → wE T (Vd V s0 (s0 + T 24 p.toNat)) sb m e a b → eU T (Rf S) k (fun s al e _ => Fme T nd bs V0 s00 s al e) e := fun a1 b1 g => eU_F ix hsb hV hv a1 (Int.le_trans b1 l2) (Int.le_refl _) (Int.le_refl _) g
    have rf : ∀ {m k : Nat} {ch x d a b : Int}, 1 ≤ a → b ≤ hi → wR T (Vd V s0 (s0 + T 24 p.toNat)) sb m ch x a b → rU T (Rf S) (eU T (Rf S) k) (fun s al e _ => Fme T nd bs V0 s00 s al e) x d := fun a1 b1 g => rU_Fr ix hsb hV hv a1 (Int.le_trans b1 l2) (qX_pX (pX_wR g))
    refine ⟨fun k => ?_, fun k => ?_, fun k => ?_, fun k l hl a ha => ?_, fun k l hl c hc => ?_, fun k => ?_, fun k i hi_q => ?_, fun k => ?_, fun k l hl c hc => ?_⟩
    · obtain ⟨_, g1, g2⟩ := wS_i22 w8 k
      exact ⟨ef (by omega) (Int.le_refl _) g2, rf l1 (by omega) g1⟩
    · obtain ⟨_, g1, g2⟩ := wS_i23 w8 k
      exact ⟨ef (by omega) (Int.le_refl _) g2, rf l1 (by omega) g1⟩
    · obtain ⟨_, g1, g2⟩ := wS_i24 w8 k
      exact ⟨rf l1 (by omega) g1, rf (by omega) (Int.le_refl _) g2⟩
    · obtain ⟨g1, g2, g3, l0, ch0, g4, g5⟩ := wS_i25 w8 k
      have e := CH_u hl ch0
      subst e
      obtain ⟨q, b, c, b1, c1, f1, f2, f3, f4, f5, f6, f7⟩ := wAs_mem g5 ha
      rw [← f4] at f7
      rcases f7 with f7 | f7 | f7 | f7
      · exact ⟨fun q => ef (by omega) (by omega) f7.2, fun q => absurd f7.1 q⟩
      · exact ⟨fun q => by omega, fun q => ⟨rf (by omega) (by omega) f7.2, fun q3 => by
          have w1 := f7.2.1
          have w2 := f7.2.2.1
          exact ef (by omega) (by omega) (wR_i3 f7.2 q3).2.2⟩⟩
      · exact ⟨fun q => by omega, fun q => ⟨rf (by omega) (by omega) f7.2, fun q3 => by
          have w1 := f7.2.1
          have w2 := f7.2.2.1
          exact ef (by omega) (by omega) (wR_i3 f7.2 q3).2.2⟩⟩
      · exact ⟨fun q => by omega, fun q => ⟨rU_Fr (n := 20) ix hsb hV hv (lo := b) (hi := a) (by omega) (by omega) (qX_pX (pX_wW f7.2)), fun q3 => by have := f7.2.2.2.1; omega⟩⟩
    · obtain ⟨l0, c0, ws⟩ := wP_row w k
      have e := CH_u hl c0
      subst e
      obtain ⟨a, b, u, v, a1, b1, a3, _, g⟩ := wCs_mem ws hc
      exact vP_F ix hsb (by omega) (by omega) g (fun v b h => hb' v b (Or.inr (Or.inr (Or.inl ⟨k, l, hl, c, hc, h⟩)))) hV (by omega) hv
    · obtain ⟨g1, g2, g3, a7, b7, g4, g5, g6, g7, g8, g9⟩ := wS_i27 w8 k
      exact ⟨⟨ef (by omega) (by omega) g7, ef (by omega) (by omega) g8⟩, vP_F ix hsb (by omega) l2 g9 (fun v b h => hb' v b (Or.inr (Or.inl ⟨Or.inl k, h⟩))) (hVu (by omega)) (by omega) (Sv8_u hv (by omega))⟩
    · obtain ⟨g1, g2, g3, g4, g5, g6, g7, g8⟩ := wS_i29 w8 k
      have eb := hb' _ _ (Or.inl ⟨k, rfl, rfl⟩)
      refine vP_F ix hsb (by omega) l2 g8 (fun v b h => hb' v b (Or.inr (Or.inl ⟨Or.inr (Or.inl k), h⟩))) (hVu (by omega)) (by omega) (fun s hs_q k10 => ?_)
      by_cases q : (s : Int) = T 17 p.toNat
      · refine ⟨i, by omega, ?_⟩
        show sB T S p i (s : Int) = _
        unfold sB
        rw [if_pos ⟨k, q⟩, q, eb]
      · rcases hs_q with hs_q | hs_q
        · obtain ⟨i_q, i1, i2⟩ := hv s hs_q k10
          refine ⟨i_q, i1, ?_⟩
          show sB T S p i (s : Int) = _
          unfold sB
          rw [if_neg (fun x => q x.2)]
          exact i2
        · omega
    · obtain ⟨a7, g1, g2, g3, g4⟩ := wS_i31 w8 k
      exact ⟨ef (by omega) (by omega) g3, vP_F ix hsb (by omega) l2 g4 (fun v b h => hb' v b (Or.inr (Or.inl ⟨Or.inr (Or.inr k), h⟩))) hV (by omega) hv⟩
    · rcases k with k | k
      · obtain ⟨l0, _, c0, ws⟩ := wS_i30 w8 k
        have e := CH_u hl c0
        subst e
        obtain ⟨a, b, u, v, a1, b1, a3, _, g⟩ := wCs_mem ws hc
        obtain ⟨e1, e2, m, e3, e4, e5, g⟩ := g
        exact ⟨fun q => ef (by omega) (by omega) e5, fun q => by omega, vP_F ix hsb (by omega) (by omega) g (fun v b h => hb' v b (Or.inr (Or.inr (Or.inr ⟨Or.inl k, l, hl, c, hc, h⟩)))) hV (by omega) hv⟩
      · obtain ⟨_, _, l0, c0, _, ws⟩ := wS_i32 w8 k
        have e := CH_u hl c0
        subst e
        obtain ⟨a, b, u, v, a1, b1, a3, _, g⟩ := wCs_mem ws hc
        obtain ⟨e1, e2, m, e3, e4, g, e5⟩ := g
        have vk := vP_F (Bu := Bu) (S := S) ix hsb (by omega) (by omega) g (fun v b h => hb' v b (Or.inr (Or.inr (Or.inr ⟨Or.inr k, l, hl, c, hc, h⟩)))) hV (by omega) hv
        rcases e5 with ⟨f1, a_q, f2, f3, f4, f5⟩ | ⟨f1, f2⟩ | ⟨a_q, b_q, f1, f2, f3, f4, f5, f6⟩
        · exact ⟨fun q => by omega, fun q1 q2 => ⟨rf (by omega) (by omega) f4, rf (by omega) (by omega) f5⟩, vk⟩
        · exact ⟨fun q => ef (by omega) (by omega) f2, fun q1 q2 => by omega, vk⟩
        · exact ⟨fun q => ef (by omega) (by omega) f4, fun q1 q2 => ⟨rf (by omega) (by omega) f5, rf (by omega) (by omega) f6⟩, vk⟩
theorem Fm_ex {T : Nat → Nat → Int} {sb pb nd : Int} {n : Nat} {V : Nat → Prop} {p lo hi s0 s1 : Int} (ix : Ix3 T nd) (hsb : sb ≤ 202) (hn : nd + 5 * ecn T nd ≤ 6055) (l1 : 1 ≤ lo) (l2 : hi ≤ nd) (w : wP T sb pb n V p lo hi s0 s1) (hv : ∀ s : Nat, V s → T 7 s ≠ 10) : ∃ Fm : Int → Int → Int → Prop, Fbd Fm 7324 ∧ (∀ Bu : Int → Int, vP T Bu n (fun _ => 0) (fun s al e _ => Fm s al e) p) ∧ ∀ s al e, Fm s al e → 0 ≤ s ∧ s < 202 ∧ (V s.toNat ∨ s0 ≤ s) := by
  have ex : ∀ v : Int, ∃ b : Int, ∀ b_q, Bs T n p v b_q → b = b_q := fun v => by
    by_cases q : ∃ b, Bs T n p v b
    · obtain ⟨b, h⟩ := q
      exact ⟨b, fun b_q h_q => Bs_u w h h_q⟩
    · exact ⟨0, fun b_q h_q => absurd ⟨b_q, h_q⟩ q⟩
  obtain ⟨bs, hbs⟩ := Classical.axiomOfChoice ex
  exact ⟨Fme T nd bs V s0, Fme_b hn, fun Bu => vP_F ix hsb l1 l2 w hbs (fun s h => Or.inl h) (Int.le_refl _) (fun s hs k => absurd k (hv s hs)), fun s al e h => h.1⟩
