/-! layout: steps of the proof of measure -/
def tr : List Nat := [7, 8, 12, 15, 17, 18, 19, 20, 21, 22, 23, 24, 29, 30, 32, 33]
theorem tr_no {as : List Nat} (hd : tr.all (fun k => !as.elem k) = true) {k : Nat} (hk : tr.elem k = true) : as.elem k = false := by
  have := List.all_eq_true.mp hd k (List.elem_iff.mp hk)
  simpa using this
theorem tr_k {A A_q : Nat → Nat → Int} {G G_q : Nat → Int} {gs as : List Nat} (hF : Fr gs as G A G_q A_q) (hd : tr.all (fun k => !as.elem k) = true) {k : Nat} (hk : tr.elem k = true) : A_q k = A k := hF.2 k (tr_no hd hk)
theorem wr_tr : ∀ k, wr.elem k = true → tr.elem k = true := fun k hk => by
  have := List.elem_iff.mp hk
  simp only [wr, List.mem_cons, List.not_mem_nil, or_false] at this
  rcases this with rfl | rfl | rfl | rfl | rfl | rfl | rfl | rfl | rfl <;> rfl
theorem sr_tr : ∀ k, sr.elem k = true → tr.elem k = true := fun k hk => by
  have := List.elem_iff.mp hk
  simp only [sr, List.mem_cons, List.not_mem_nil, or_false] at this
  rcases this with rfl | rfl | rfl <;> rfl
theorem tr_ag {A A_q : Nat → Nat → Int} {G G_q : Nat → Int} {gs as : List Nat} {lo hi : Int} (hF : Fr gs as G A G_q A_q) (hd : tr.all (fun k => !as.elem k) = true) : Ag lo hi A A_q := fun k j hk _ _ => congrFun (tr_k hF hd (wr_tr k hk)) j
theorem tr_sg {A A_q : Nat → Nat → Int} {G G_q : Nat → Int} {gs as : List Nat} {sb : Int} (hF : Fr gs as G A G_q A_q) (hd : tr.all (fun k => !as.elem k) = true) : Sg sb A A_q := fun k j hk _ => congrFun (tr_k hF hd (sr_tr k hk)) j
theorem tr_qg {A A_q : Nat → Nat → Int} {G G_q : Nat → Int} {gs as : List Nat} {pb : Int} (hF : Fr gs as G A G_q A_q) (hd : tr.all (fun k => !as.elem k) = true) : Qg pb A A_q := fun k j hk _ => by
  have := List.elem_iff.mp hk
  simp only [List.mem_cons, List.not_mem_nil, or_false] at this
  rcases this with rfl | rfl
  · exact congrFun (tr_k hF hd rfl) j
  · exact congrFun (tr_k hF hd rfl) j
theorem tr_lq {A A_q : Nat → Nat → Int} {G G_q : Nat → Int} {gs as : List Nat} {pb : Int} (hF : Fr gs as G A G_q A_q) (hd : tr.all (fun k => !as.elem k) = true) : Lq pb A A_q := fun k j hk _ => by
  have := List.elem_iff.mp hk
  simp only [List.mem_cons, List.not_mem_nil, or_false] at this
  rcases this with rfl | rfl
  · exact congrFun (tr_k hF hd rfl) j
  · exact congrFun (tr_k hF hd rfl) j
theorem wP_fr {A A_q : Nat → Nat → Int} {G G_q : Nat → Int} {gs as : List Nat} {sb pb : Int} {n : Nat} {V : Nat → Prop} {p lo hi s0 s1 : Int} (hF : Fr gs as G A G_q A_q) (hd : tr.all (fun k => !as.elem k) = true) (h0 : 0 ≤ lo) (hs : s1 ≤ sb) (h : wP A sb pb n V p lo hi s0 s1) : wP A_q sb pb n V p lo hi s0 s1 := wP_ag (tr_sg hF hd) (tr_qg hF hd) h0 hs (Ax_ag (tr_ag hF hd)) h
theorem La_fo {p lo hi a b : Int} {A A_q : Nat → Nat → Int} (h : Fo [25, 26, 27] a b A A_q) (hd : hi ≤ a ∨ b ≤ lo) : La p lo hi A A_q := fun k j hk g1 g2 _ => h k j hk (by omega)
theorem La_st {p lo hi v : Int} {A A_q : Nat → Nat → Int} {r : Nat} (e : A_q = uA A r p.toNat v) (hr : r = 26 ∨ r = 27) (h0 : 0 ≤ p) : La p lo hi A A_q := fun k j hk g1 g2 g3 => by
  rw [e]
  exact if_neg (fun q => by omega)
theorem Ln_fo {lo hi a b : Int} {A A_q : Nat → Nat → Int} (h : Fo [9, 10] a b A A_q) (hd : hi ≤ a ∨ b ≤ lo) : Ln lo hi A A_q := fun k j hk g1 g2 => h k j hk (by omega)
/-- a process that was measured stays so while another one is -/
theorem lP_cr {A A1 A2 : Nat → Nat → Int} {G G1 G1' G2 : Nat → Int} {gs as gs2 as2 : List Nat} {sb pb : Int} {n k : Nat} {V : Nat → Prop} {p lo hi s0 s1 a b u v f L z D z2 D2 : Int} (hF : Fr gs as G A G1 A1) (hd : tr.all (fun k => !as.elem k) = true) (hf : Fr gs2 as2 G1' A1 G2 A2) (hd2 : tr.all (fun k => !as2.elem k) = true) (hO : Fo [25, 26, 27] a b A1 A2) (hN : Fo [9, 10] u v A1 A2) (h0 : 0 ≤ lo) (hs : s1 ≤ sb) (w : wP A sb pb n V p lo hi s0 s1) (e1 : hi ≤ a ∨ b ≤ lo) (e2 : s1 ≤ u ∨ v ≤ s0) (hz : z ≤ z2) (hD : D ≤ D2) (h : lP A1 k p f L z D) : lP A2 k p f L z2 D2 :=
  lP_mono (Nat.le_refl _) hz hD (lP_mv (tr_sg hf hd2) (tr_lq hf hd2) h0 hs (tr_ag hf hd2) (La_fo hO e1) (Ln_fo hN e2) (wP_fr hF hd h0 hs w) h)
/-- its own size and depth are written down -/
theorem lP_own {A A_q : Nat → Nat → Int} {sb pb : Int} {n k r : Nat} {V : Nat → Prop} {p lo hi s0 s1 f L z D v : Int} (e : A_q = uA A r p.toNat v) (hr : r = 26 ∨ r = 27) (h0 : 0 ≤ lo) (hs : s1 ≤ sb) (w : wP A sb pb n V p lo hi s0 s1) (h : lP A k p f L z D) : lP A_q k p f L z D := by
  have i := wP_in w
  have ne : ∀ k, k ≠ 26 → k ≠ 27 → A_q k = A k := fun k h1 h2 => by
    rw [e]
    exact uA_ne (by omega)
  refine lP_mv (sb := sb) (pb := pb) (fun k j hk _ => ?_) (fun k j hk _ => ?_) h0 hs (fun k j hk _ _ => ?_) (La_st e hr (by omega)) (fun k j hk _ _ => ?_) w h
  · rw [ne k (by rintro rfl; cases hk) (by rintro rfl; cases hk)]
  · rw [ne k (by rintro rfl; cases hk) (by rintro rfl; cases hk)]
  · rw [ne k (by rintro rfl; cases hk) (by rintro rfl; cases hk)]
  · rw [ne k (by rintro rfl; cases hk) (by rintro rfl; cases hk)]
/-- SEQ: the processes before c are measured -/
def LSq (A A1 : Nat → Nat → Int) (sb pb : Int) (k : Nat) (V : Nat → Prop) (n c lo hi s0 s1 f L z D m t : Int) : Prop := LQ A (wP A sb pb k V) (fun l => ∀ e ∈ l, lP A1 k e f L z D) n c lo hi s0 s1 m t
theorem LSq_0 {A A1 : Nat → Nat → Int} {sb pb : Int} {k : Nat} {V : Nat → Prop} {n c lo hi s0 s1 f L z D : Int} (h : ∃ l, CH A (A 21 n.toNat) l ∧ wCs (wP A sb pb k V) l lo hi s0 s1) (hc : c = A 21 n.toNat) : LSq A A1 sb pb k V n c lo hi s0 s1 f L z D lo s0 := by
  obtain ⟨l, h1, h2⟩ := h
  exact LQ_0 h1 h2 hc (fun e he => by cases he)
theorem LSq_nx {A A1 A2 : Nat → Nat → Int} {G G1 G1' G2 : Nat → Int} {gs as gs2 as2 : List Nat} {sb pb : Int} {k : Nat} {V : Nat → Prop} {l : List Int} {c lo s0 m t m_q t_q f L z D z2 D2 r : Int} (hF : Fr gs as G A G1 A1) (hd : tr.all (fun k => !as.elem k) = true) (hf : Fr gs2 as2 G1' A1 G2 A2) (hd2 : tr.all (fun k => !as2.elem k) = true) (hO : Fo [25, 26, 27] m m_q A1 A2) (hN : Fo [9, 10] t t_q A1 A2) (h0 : 0 ≤ lo) (hs : t ≤ sb) (hw : wCs (wP A sb pb k V) l lo m s0 t) (h : ∀ e ∈ l, lP A1 k e f L z D) (hc : lP A2 k c f L z2 r) (hz : z ≤ z2) (hD : D ≤ D2) (hr : r ≤ D2) : ∀ e ∈ l ++ [c], lP A2 k e f L z2 D2 := fun e he => by
  rcases List.mem_append.mp he with he | he
  · obtain ⟨a, b, u, v, g1, g2, g3, g4, g5⟩ := wCs_mem hw he
    exact lP_cr hF hd hf hd2 hO hN (by omega) (by omega) g5 (.inl g2) (.inl g4) hz hD (h e he)
  · rw [List.mem_singleton.mp he]
    exact lP_mono (Nat.le_refl _) (Int.le_refl _) hr hc
theorem LSq_hd {A A1 : Nat → Nat → Int} {sb pb : Int} {k : Nat} {V : Nat → Prop} {n c lo hi s0 s1 f L z D m t : Int} (h : LSq A A1 sb pb k V n c lo hi s0 s1 f L z D m t) (hc : 0 < c) : ∃ (l1 : List Int) (m_q t_q : Int), lo ≤ m ∧ m < m_q ∧ m_q ≤ hi ∧ s0 ≤ t ∧ t ≤ t_q ∧ t_q ≤ s1 ∧ wP A sb pb k V c m m_q t t_q ∧ (∀ e ∈ l1, lP A1 k e f L z D) ∧ wCs (wP A sb pb k V) l1 lo m s0 t ∧ ∀ A2 z2 D2, (∀ e ∈ l1 ++ [c], lP A2 k e f L z2 D2) → LSq A A2 sb pb k V n (A 22 c.toNat) lo hi s0 s1 f L z2 D2 m_q t_q := by
  obtain ⟨l1, m_q, t_q, h1, h2, h3, h4, h5, h6, h7, h8, h9, h10⟩ := LQ_hd h hc
  have := wP_in h7
  exact ⟨l1, m_q, t_q, h1, by omega, h3, h4, h5, h6, h7, h8, h9, fun A2 z2 D2 q => h10 _ q⟩
theorem LSq_end {A A1 : Nat → Nat → Int} {sb pb : Int} {k : Nat} {V : Nat → Prop} {n c lo hi s0 s1 f L z D m t : Int} {G G1 : Nat → Int} {gs as : List Nat} (hF : Fr gs as G A G1 A1) (hd : tr.all (fun k => !as.elem k) = true) (h : LSq A A1 sb pb k V n c lo hi s0 s1 f L z D m t) (hc : c ≤ 0) : ∀ l, CH A1 (A1 21 n.toNat) l → ∀ e ∈ l, lP A1 k e f L z D := by
  obtain ⟨l, h1, h2, h3, _, _⟩ := LQ_end h hc
  intro l_q hl'
  have e : l_q = l := CH_un hl' (by
    rw [tr_k hF hd (k := 21) rfl]
    exact CH_ag (fun e he => congrFun (tr_k hF hd (k := 22) rfl) _) h1)
  rw [e]
  exact h3
/-- IF: the choices before c are measured -/
def LI (A A1 : Nat → Nat → Int) (sb pb : Int) (k : Nat) (V : Nat → Prop) (n c lo hi s0 s1 f L z D m t : Int) : Prop := LQ A (wI A V sb (wP A sb pb k V)) (fun l => ∀ e ∈ l, lI A1 (lP A1 k) f L z D e) n c lo hi s0 s1 m t
theorem LI_0 {A A1 : Nat → Nat → Int} {sb pb : Int} {k : Nat} {V : Nat → Prop} {n c lo hi s0 s1 f L z D : Int} (h : ∃ l, l ≠ [] ∧ CH A (A 21 n.toNat) l ∧ wCs (wI A V sb (wP A sb pb k V)) l lo hi s0 s1) (hc : c = A 21 n.toNat) : LI A A1 sb pb k V n c lo hi s0 s1 f L z D lo s0 := by
  obtain ⟨l, _, h1, h2⟩ := h
  exact LQ_0 h1 h2 hc (fun e he => by cases he)
theorem LI_hd {A A1 : Nat → Nat → Int} {sb pb : Int} {k : Nat} {V : Nat → Prop} {n c lo hi s0 s1 f L z D m t : Int} (h : LI A A1 sb pb k V n c lo hi s0 s1 f L z D m t) (hc : 0 < c) : ∃ (l1 : List Int) (m_q t_q x : Int), lo ≤ m ∧ m_q ≤ hi ∧ s0 ≤ t ∧ t ≤ t_q ∧ t_q ≤ s1 ∧ c = m ∧ c + 1 ≤ x ∧ x ≤ m_q ∧ wE A V sb 20 (A 17 c.toNat) (c + 1) x ∧ wP A sb pb k V (A 21 c.toNat) x m_q t t_q ∧ (∀ e ∈ l1, lI A1 (lP A1 k) f L z D e) ∧ wCs (wI A V sb (wP A sb pb k V)) l1 lo m s0 t ∧ ∀ A2 z2 D2, (∀ e ∈ l1 ++ [c], lI A2 (lP A2 k) f L z2 D2 e) → LI A A2 sb pb k V n (A 22 c.toNat) lo hi s0 s1 f L z2 D2 m_q t_q := by
  obtain ⟨l1, m_q, t_q, h1, h2, h3, h4, h5, h6, ⟨i1, i2, x, i3, i4, i5, i6⟩, h8, h9, h10⟩ := LQ_hd h hc
  exact ⟨l1, m_q, t_q, x, h1, h3, h4, h5, h6, i1, i3, i4, i5, i6, h8, h9, fun A2 z2 D2 q => h10 _ q⟩
theorem LI_end {A A1 : Nat → Nat → Int} {sb pb : Int} {k : Nat} {V : Nat → Prop} {n c lo hi s0 s1 f L z D m t : Int} {G G1 : Nat → Int} {gs as : List Nat} (hF : Fr gs as G A G1 A1) (hd : tr.all (fun k => !as.elem k) = true) (h : LI A A1 sb pb k V n c lo hi s0 s1 f L z D m t) (hc : c ≤ 0) : ∀ l, CH A1 (A1 21 n.toNat) l → ∀ e ∈ l, lI A1 (lP A1 k) f L z D e := by
  obtain ⟨l, h1, h2, h3, _, _⟩ := LQ_end h hc
  intro l_q hl'
  have e : l_q = l := CH_un hl' (by
    rw [tr_k hF hd (k := 21) rfl]
    exact CH_ag (fun e he => congrFun (tr_k hF hd (k := 22) rfl) _) h1)
  rw [e]
  exact h3
/-- two steps (the condition from A1 to A2, the process from A2 to A3) over the nodes m .. m_q and the names t .. t_q -/
theorem LI_nx {A A1 A3 : Nat → Nat → Int} {G G1 G1' G3 : Nat → Int} {gs as gs2 as2 : List Nat} {sb pb : Int} {k : Nat} {V : Nat → Prop} {l : List Int} {c lo s0 m t m_q t_q f L z D z2 D2 r : Int} (hF : Fr gs as G A G1 A1) (hd : tr.all (fun k => !as.elem k) = true) (hf : Fr gs2 as2 G1' A1 G3 A3) (hd2 : tr.all (fun k => !as2.elem k) = true) (hO : Fo [25, 26, 27] m m_q A1 A3) (hN : Fo [9, 10] t t_q A1 A3) (h0 : 0 ≤ lo) (hs : t ≤ sb) (hw : wCs (wI A V sb (wP A sb pb k V)) l lo m s0 t) (h : ∀ e ∈ l, lI A1 (lP A1 k) f L z D e) (hc1 : lE A3 22 (A 17 c.toNat) f z2) (hc : lP A3 k (A 21 c.toNat) f L z2 r) (hz : z ≤ z2) (hD : D ≤ D2) (hr : r ≤ D2) (hFF : A3 17 = A 17) (hFG : A3 21 = A 21) : ∀ e ∈ l ++ [c], lI A3 (lP A3 k) f L z2 D2 e := fun e he => by
  rcases List.mem_append.mp he with he | he
  · obtain ⟨a, b, u, v, g1, g2, g3, g4, i1, i2, x, i3, i4, i5, i6⟩ := wCs_mem hw he
    have q := h e he
    have e17 : A1 17 = A 17 := tr_k hF hd rfl
    have e21 : A1 21 = A 21 := tr_k hF hd rfl
    unfold lI at q ⊢
    rw [e17, e21] at q
    rw [hFF, hFG]
    have w5 : wE A1 V sb 20 (A 17 e.toNat) (e + 1) x := wE_ag (by omega) (tr_sg hF hd) (tr_ag hF hd) i5
    exact ⟨lE_sz (Nat.le_refl _) hz (lE_mv (by omega) (tr_ag hf hd2) (fun j j1 j2 => hO 25 j rfl (by omega)) w5 q.1), lP_cr hF hd hf hd2 hO hN (by omega) (by omega) i6 (.inl (by omega)) (.inl g4) hz hD q.2⟩
  · rw [List.mem_singleton.mp he]
    unfold lI
    rw [hFF, hFG]
    exact ⟨hc1, lP_mono (Nat.le_refl _) (Int.le_refl _) hr hc⟩
/-- arguments of a call -/
def LA (A A1 : Nat → Nat → Int) (V : Nat → Prop) (sb : Int) (n c lo hi f z m : Int) : Prop := ∃ (l1 l2 : List Int) (pa : Int), CH A (A 21 n.toNat) (l1 ++ l2) ∧ CH A c l2 ∧ lo ≤ m ∧ m ≤ hi ∧ wAs A V sb pa l2 m hi ∧ ∀ a ∈ l1, (∃ q x y, lo ≤ x ∧ y ≤ m ∧ wA A V sb q a x y) ∧ lE A1 22 (A 17 a.toNat) f z
theorem LA_0 {A A1 : Nat → Nat → Int} {V : Nat → Prop} {sb n c lo hi f z pa : Int} (h : ∃ l, CH A (A 21 n.toNat) l ∧ wAs A V sb pa l lo hi) (hc : c = A 21 n.toNat) : LA A A1 V sb n c lo hi f z lo := by
  obtain ⟨l, h, w⟩ := h
  exact ⟨[], l, pa, h, hc ▸ h, Int.le_refl _, wAs_le w, w, fun e he => by cases he⟩
theorem LA_hd {A A1 : Nat → Nat → Int} {V : Nat → Prop} {sb n c lo hi f z m : Int} (h : LA A A1 V sb n c lo hi f z m) (hc : 0 < c) : ∃ (l1 : List Int) (m_q pa : Int), lo ≤ m ∧ m < m_q ∧ m_q ≤ hi ∧ wA A V sb pa c m m_q ∧ (∀ a ∈ l1, (∃ q x y, lo ≤ x ∧ y ≤ m ∧ wA A V sb q a x y) ∧ lE A1 22 (A 17 a.toNat) f z) ∧ ∀ A2 z2, (∀ a ∈ l1 ++ [c], (∃ q x y, lo ≤ x ∧ y ≤ m_q ∧ wA A V sb q a x y) ∧ lE A2 22 (A 17 a.toNat) f z2) → LA A A2 V sb n (A 22 c.toNat) lo hi f z2 m_q := by
  obtain ⟨l1, l2, pa, h1, h2, h3, h4, h5, h6⟩ := h
  cases l2 with
  | nil =>
    have : c = 0 := h2
    omega
  | cons e l =>
    obtain ⟨g1, g2, g3⟩ := h2
    subst g1
    obtain ⟨m_q, k1, k2, k3, k4⟩ := h5
    have i1 := k3.1
    have i2 := k3.2.1
    refine ⟨l1, m_q, pa, h3, by omega, k2, k3, h6, fun A2 z2 q => ⟨l1 ++ [c], l, pa + 1, ?_, g3, by omega, k2, k4, q⟩⟩
    rw [List.append_assoc]
    exact h1
theorem LA_nx {A A1 A2 : Nat → Nat → Int} {G G1 G1' G2 : Nat → Int} {gs as gs2 as2 : List Nat} {V : Nat → Prop} {sb : Int} {l : List Int} {c lo m m_q f z z2 pa : Int} (hF : Fr gs as G A G1 A1) (hd : tr.all (fun k => !as.elem k) = true) (hf : Fr gs2 as2 G1' A1 G2 A2) (hd2 : tr.all (fun k => !as2.elem k) = true) (hO : Fo [25, 26, 27] m m_q A1 A2) (h0 : 0 ≤ lo) (hlo : lo ≤ m) (hm : m ≤ m_q) (hw : wA A V sb pa c m m_q) (h : ∀ a ∈ l, (∃ q x y, lo ≤ x ∧ y ≤ m ∧ wA A V sb q a x y) ∧ lE A1 22 (A 17 a.toNat) f z) (hc : lE A2 22 (A 17 c.toNat) f z2) (hz : z ≤ z2) : ∀ a ∈ l ++ [c], (∃ q x y, lo ≤ x ∧ y ≤ m_q ∧ wA A V sb q a x y) ∧ lE A2 22 (A 17 a.toNat) f z2 := fun e he => by
  rcases List.mem_append.mp he with he | he
  · obtain ⟨⟨q, x, y, g1, g2, g3⟩, g4⟩ := h e he
    refine ⟨⟨q, x, y, g1, by omega, g3⟩, lE_sz (Nat.le_refl _) hz ?_⟩
    have e1 : A1 17 = A 17 := tr_k hF hd rfl
    have e2 : A2 17 = A1 17 := tr_k hf hd2 rfl
    have w1 : wA A1 V sb q e x y := wA_ag (by omega) (tr_sg hF hd) (Ax_ag (tr_ag hF hd)) g3
    have := lA_mv (A := A1) (A_q := A2) (m := 22) (f := f) (z := z) (by omega) (tr_ag hf hd2) (fun j j1 j2 => hO 25 j rfl (by omega)) w1 (by rw [e1]; exact g4)
    rw [e2, e1] at this
    exact this
  · rw [List.mem_singleton.mp he]
    exact ⟨⟨pa, m, m_q, hlo, Int.le_refl _, hw⟩, hc⟩
theorem LA_end {A A1 : Nat → Nat → Int} {V : Nat → Prop} {sb n c lo hi f z m : Int} {G G1 : Nat → Int} {gs as : List Nat} (hF : Fr gs as G A G1 A1) (hd : tr.all (fun k => !as.elem k) = true) (h : LA A A1 V sb n c lo hi f z m) (hc : c ≤ 0) : ∀ l, CH A1 (A1 21 n.toNat) l → ∀ a ∈ l, lE A1 22 (A1 17 a.toNat) f z := by
  obtain ⟨l1, l2, pa, h1, h2, h3, h4, h5, h6⟩ := h
  cases l2 with
  | nil =>
    rw [List.append_nil] at h1
    intro l_q hl' a ha
    have e : l_q = l1 := CH_un hl' (by
      rw [tr_k hF hd (k := 21) rfl]
      exact CH_ag (fun e he => congrFun (tr_k hF hd (k := 22) rfl) _) h1)
    subst e
    rw [tr_k hF hd (k := 17) rfl]
    exact (h6 a ha).2
  | cons e l =>
    obtain ⟨g1, g2, g3⟩ := h2
    omega
theorem wA_xe {A : Nat → Nat → Int} {V : Nat → Prop} {sb pa e lo hi : Int} (h : wA A V sb pa e lo hi) : wE A V sb 20 (A 17 e.toNat) lo e ∨ wX A V sb (A 17 e.toNat) lo e := by
  obtain ⟨h1, h2, h3, h4, h5, h6, h7⟩ := h
  rcases h7 with h7 | h7 | h7 | h7
  · exact .inl h7.2
  · exact .inr (wX_wR h7.2)
  · exact .inr (wX_wR h7.2)
  · exact .inr (wX_wW h7.2)
theorem wX_fr {A A_q : Nat → Nat → Int} {G G_q : Nat → Int} {gs as : List Nat} {V : Nat → Prop} {sb e lo hi : Int} (hF : Fr gs as G A G_q A_q) (hd : wr.all (fun k => !as.elem k) = true) (hs : sr.all (fun k => !as.elem k) = true) (h0 : 0 ≤ lo) (h : wX A V sb e lo hi) : wX A_q V sb e lo hi := by
  obtain ⟨h1, h2, h3⟩ := h
  have ag : Ag lo hi A A_q := Ag_fr hF hd
  have q : ∀ k, wr.elem k = true → A_q k e.toNat = A k e.toNat := fun k hk => ag k e.toNat hk (by omega) (by omega)
  refine ⟨h1, h2, ?_⟩
  rw [q 15 rfl, q 18 rfl]
  rcases h3 with h3 | h3
  · exact .inl h3
  · exact .inr ⟨h3.1, wE_ag h0 (Sg_fr hF hs) (Ag_su ag (Int.le_refl _) (by omega)) h3.2⟩
/-- ALT: the guards before c are measured -/
def LG (A A1 : Nat → Nat → Int) (sb pb : Int) (k : Nat) (V : Nat → Prop) (n c lo hi s0 s1 f L z D m t : Int) : Prop := LQ A (wG A V sb (wP A sb pb k V)) (fun l => ∀ e ∈ l, lG A1 (lP A1 k) f L z D e) n c lo hi s0 s1 m t
theorem LG_0 {A A1 : Nat → Nat → Int} {sb pb : Int} {k : Nat} {V : Nat → Prop} {n c lo hi s0 s1 f L z D : Int} (h : ∃ l, CH A (A 21 n.toNat) l ∧ wCs (wG A V sb (wP A sb pb k V)) l lo hi s0 s1) (hc : c = A 21 n.toNat) : LG A A1 sb pb k V n c lo hi s0 s1 f L z D lo s0 := by
  obtain ⟨l, h1, h2⟩ := h
  exact LQ_0 h1 h2 hc (fun e he => by cases he)
/-- what a guard holds: a condition or none, a channel and a place or none -/
def gA (A : Nat → Nat → Int) (V : Nat → Prop) (sb e m : Int) : Prop := (A 17 e.toNat = 0 ∧ ∃ a, e + 1 ≤ a ∧ a ≤ m ∧ wR A V sb 20 1 (A 18 e.toNat) (e + 1) a ∧ wR A V sb 20 0 (A 19 e.toNat) a m) ∨ ((A 18 e.toNat = 0 ∧ A 19 e.toNat = 0) ∧ wE A V sb 22 (A 17 e.toNat) (e + 1) m) ∨ (∃ a b, e + 1 ≤ a ∧ a ≤ b ∧ b ≤ m ∧ wE A V sb 22 (A 17 e.toNat) (e + 1) a ∧ wR A V sb 20 1 (A 18 e.toNat) a b ∧ wR A V sb 20 0 (A 19 e.toNat) b m)
theorem LG_hd {A A1 : Nat → Nat → Int} {sb pb : Int} {k : Nat} {V : Nat → Prop} {n c lo hi s0 s1 f L z D m t : Int} (h : LG A A1 sb pb k V n c lo hi s0 s1 f L z D m t) (hc : 0 < c) : ∃ (l1 : List Int) (m_q t_q x : Int), lo ≤ m ∧ m_q ≤ hi ∧ s0 ≤ t ∧ t ≤ t_q ∧ t_q ≤ s1 ∧ c = m ∧ c + 1 ≤ x ∧ x ≤ m_q ∧ wP A sb pb k V (A 21 c.toNat) x m_q t t_q ∧ gA A V sb c x ∧ (∀ e ∈ l1, lG A1 (lP A1 k) f L z D e) ∧ wCs (wG A V sb (wP A sb pb k V)) l1 lo m s0 t ∧ ∀ A2 z2 D2, (∀ e ∈ l1 ++ [c], lG A2 (lP A2 k) f L z2 D2 e) → LG A A2 sb pb k V n (A 22 c.toNat) lo hi s0 s1 f L z2 D2 m_q t_q := by
  obtain ⟨l1, m_q, t_q, h1, h2, h3, h4, h5, h6, ⟨i1, i2, x, i3, i4, i5, i6⟩, h8, h9, h10⟩ := LQ_hd h hc
  exact ⟨l1, m_q, t_q, x, h1, h3, h4, h5, h6, i1, i3, i4, i5, i6, h8, h9, fun A2 z2 D2 q => h10 _ q⟩
theorem LG_end {A A1 : Nat → Nat → Int} {sb pb : Int} {k : Nat} {V : Nat → Prop} {n c lo hi s0 s1 f L z D m t : Int} {G G1 : Nat → Int} {gs as : List Nat} (hF : Fr gs as G A G1 A1) (hd : tr.all (fun k => !as.elem k) = true) (h : LG A A1 sb pb k V n c lo hi s0 s1 f L z D m t) (hc : c ≤ 0) : ∀ l, CH A1 (A1 21 n.toNat) l → ∀ e ∈ l, lG A1 (lP A1 k) f L z D e := by
  obtain ⟨l, h1, h2, h3, _, _⟩ := LQ_end h hc
  intro l_q hl'
  have e : l_q = l := CH_un hl' (by
    rw [tr_k hF hd (k := 21) rfl]
    exact CH_ag (fun e he => congrFun (tr_k hF hd (k := 22) rfl) _) h1)
  rw [e]
  exact h3
theorem LG_nx {A A1 A3 : Nat → Nat → Int} {G G1 G1' G3 : Nat → Int} {gs as gs2 as2 : List Nat} {sb pb : Int} {k : Nat} {V : Nat → Prop} {l : List Int} {c lo s0 m t m_q t_q f L z D z2 D2 r : Int} (hF : Fr gs as G A G1 A1) (hd : tr.all (fun k => !as.elem k) = true) (hf : Fr gs2 as2 G1' A1 G3 A3) (hd2 : tr.all (fun k => !as2.elem k) = true) (hO : Fo [25, 26, 27] m m_q A1 A3) (hN : Fo [9, 10] t t_q A1 A3) (h0 : 0 ≤ lo) (hs : t ≤ sb) (hw : wCs (wG A V sb (wP A sb pb k V)) l lo m s0 t) (h : ∀ e ∈ l, lG A1 (lP A1 k) f L z D e) (hc1 : 0 < A 17 c.toNat → lE A3 22 (A 17 c.toNat) f z2) (hc2 : lR A3 (A 18 c.toNat) f z2) (hc3 : lR A3 (A 19 c.toNat) f z2) (hc : lP A3 k (A 21 c.toNat) f L z2 r) (hz : z ≤ z2) (hD : D ≤ D2) (hr : r ≤ D2) : ∀ e ∈ l ++ [c], lG A3 (lP A3 k) f L z2 D2 e := fun e he => by
  have e17 : A1 17 = A 17 := tr_k hF hd rfl
  have e18 : A1 18 = A 18 := tr_k hF hd rfl
  have e19 : A1 19 = A 19 := tr_k hF hd rfl
  have e21 : A1 21 = A 21 := tr_k hF hd rfl
  have d17 : A3 17 = A 17 := (tr_k hf hd2 rfl).trans e17
  have d18 : A3 18 = A 18 := (tr_k hf hd2 rfl).trans e18
  have d19 : A3 19 = A 19 := (tr_k hf hd2 rfl).trans e19
  have d21 : A3 21 = A 21 := (tr_k hf hd2 rfl).trans e21
  rcases List.mem_append.mp he with he | he
  · obtain ⟨a, b, u, v, g1, g2, g3, g4, i1, i2, x, i3, i4, i5, i6⟩ := wCs_mem hw he
    have q := h e he
    unfold lG at q ⊢
    rw [e17, e18, e19, e21] at q
    rw [d17, d18, d19, d21]
    have a25 : ∀ a_q b_q : Int, b_q ≤ b → ∀ j : Nat, a_q ≤ (j : Int) → (j : Int) < b_q → A3 25 j = A1 25 j := fun a_q b_q g j j1 j2 => hO 25 j rfl (by omega)
    have eE : ∀ {e_q a_q b_q : Int}, wE A V sb 22 e_q a_q b_q → 0 ≤ a_q → b_q ≤ b → lE A1 22 e_q f z → lE A3 22 e_q f z2 := fun w1 k1 k2 w2 => lE_sz (Nat.le_refl _) hz (lE_mv k1 (tr_ag hf hd2) (a25 _ _ k2) (wE_ag k1 (tr_sg hF hd) (tr_ag hF hd) w1) w2)
    have eR : ∀ {ch e_q a_q b_q : Int}, wR A V sb 20 ch e_q a_q b_q → 0 ≤ a_q → b_q ≤ b → lR A1 e_q f z → lR A3 e_q f z2 := fun w1 k1 k2 w2 => lR_sz hz (lR_mv k1 (tr_ag hf hd2) (a25 _ _ k2) (wR_ag k1 (tr_sg hF hd) (tr_ag hF hd) w1) w2)
    refine ⟨fun q0 => ?_, ?_, ?_, lP_cr hF hd hf hd2 hO hN (by omega) (by omega) i5 (.inl (by omega)) (.inl g4) hz hD q.2.2.2⟩
    · rcases i6 with ⟨k1, u, k2, k3, k4, k5⟩ | ⟨k1, k2⟩ | ⟨u, v, k1, k2, k3, k4, k5, k6⟩
      · omega
      · exact eE k2 (by omega) (by omega) (q.1 q0)
      · exact eE k4 (by omega) (by omega) (q.1 q0)
    · rcases i6 with ⟨k1, u, k2, k3, k4, k5⟩ | ⟨k1, k2⟩ | ⟨u, v, k1, k2, k3, k4, k5, k6⟩
      · exact eR k4 (by omega) (by omega) q.2.1
      · exact lR_0 (by omega)
      · exact eR k5 (by omega) (by omega) q.2.1
    · rcases i6 with ⟨k1, u, k2, k3, k4, k5⟩ | ⟨k1, k2⟩ | ⟨u, v, k1, k2, k3, k4, k5, k6⟩
      · exact eR k5 (by omega) (by omega) q.2.2.1
      · exact lR_0 (by omega)
      · exact eR k6 (by omega) (by omega) q.2.2.1
  · rw [List.mem_singleton.mp he]
    unfold lG
    rw [d17, d18, d19, d21]
    exact ⟨hc1, hc2, hc3, lP_mono (Nat.le_refl _) (Int.le_refl _) hr hc⟩
/-- PAR: the branches before c are measured; al: 3 and what they want -/
def LB (A A1 : Nat → Nat → Int) (sb pb : Int) (k : Nat) (V : Nat → Prop) (n c lo hi s0 s1 L al m t : Int) : Prop := LQ A (wP A sb pb k V) (fun l => (∀ e ∈ l, lB A1 (lP A1 k) L e) ∧ (al < 1000000 → 3 + sD A1 l ≤ al)) n c lo hi s0 s1 m t ∧ 3 ≤ al ∧ al ≤ 3 + 1000000 * m
theorem LB_0 {A A1 : Nat → Nat → Int} {sb pb : Int} {k : Nat} {V : Nat → Prop} {n c lo hi s0 s1 L al : Int} (h : ∃ l, CH A (A 21 n.toNat) l ∧ (l.length : Int) = A 18 n.toNat ∧ wCs (wP A sb pb k V) l lo hi s0 s1) (hc : c = A 21 n.toNat) (h0 : 0 ≤ lo) (ha : al = 3) : LB A A1 sb pb k V n c lo hi s0 s1 L al lo s0 := by
  obtain ⟨l, h1, _, h2⟩ := h
  have n1 : ∀ e ∈ ([] : List Int), lB A1 (lP A1 k) L e := fun e he => by cases he
  have n2 : al < 1000000 → 3 + sD A1 [] ≤ al := fun _ => by
    have : sD A1 [] = 0 := rfl
    omega
  exact ⟨LQ_0 (N := fun l => (∀ e ∈ l, lB A1 (lP A1 k) L e) ∧ (al < 1000000 → 3 + sD A1 l ≤ al)) h1 h2 hc ⟨n1, n2⟩, by omega, by omega⟩
theorem LB_hd {A A1 : Nat → Nat → Int} {sb pb : Int} {k : Nat} {V : Nat → Prop} {n c lo hi s0 s1 L al m t : Int} (h : LB A A1 sb pb k V n c lo hi s0 s1 L al m t) (hc : 0 < c) : ∃ (l1 : List Int) (m_q t_q : Int), lo ≤ m ∧ m < m_q ∧ m_q ≤ hi ∧ s0 ≤ t ∧ t ≤ t_q ∧ t_q ≤ s1 ∧ 3 ≤ al ∧ al ≤ 3 + 1000000 * m ∧ wP A sb pb k V c m m_q t t_q ∧ ((∀ e ∈ l1, lB A1 (lP A1 k) L e) ∧ (al < 1000000 → 3 + sD A1 l1 ≤ al)) ∧ wCs (wP A sb pb k V) l1 lo m s0 t ∧ ∀ A2 al2, ((∀ e ∈ l1 ++ [c], lB A2 (lP A2 k) L e) ∧ (al2 < 1000000 → 3 + sD A2 (l1 ++ [c]) ≤ al2)) → 3 ≤ al2 → al2 ≤ 3 + 1000000 * m_q → LB A A2 sb pb k V n (A 22 c.toNat) lo hi s0 s1 L al2 m_q t_q := by
  obtain ⟨h, ha, ha2⟩ := h
  obtain ⟨l1, m_q, t_q, h1, h2, h3, h4, h5, h6, h7, h8, h9, h10⟩ := LQ_hd h hc
  have := wP_in h7
  exact ⟨l1, m_q, t_q, h1, by omega, h3, h4, h5, h6, ha, ha2, h7, h8, h9, fun A2 al2 q q1 q2 => ⟨h10 _ q, q1, q2⟩⟩
theorem lB_cr {A A1 A2 : Nat → Nat → Int} {G G1 G1' G2 : Nat → Int} {gs as gs2 as2 : List Nat} {sb pb : Int} {k : Nat} {V : Nat → Prop} {e a b u v m m_q t t_q L : Int} (hF : Fr gs as G A G1 A1) (hd : tr.all (fun k => !as.elem k) = true) (hf : Fr gs2 as2 G1' A1 G2 A2) (hd2 : tr.all (fun k => !as2.elem k) = true) (hO : Fo [25, 26, 27] m m_q A1 A2) (hN : Fo [9, 10] t t_q A1 A2) (h0 : 0 ≤ a) (hs : v ≤ sb) (hm : b ≤ m) (ht : v ≤ t) (w : wP A sb pb k V e a b u v) (h : lB A1 (lP A1 k) L e) : lB A2 (lP A2 k) L e ∧ A2 26 e.toNat = A1 26 e.toNat ∧ A2 27 e.toNat = A1 27 e.toNat := by
  have i := wP_in w
  have q26 : A2 26 e.toNat = A1 26 e.toNat := hO 26 _ rfl (by omega)
  have q27 : A2 27 e.toNat = A1 27 e.toNat := hO 27 _ rfl (by omega)
  refine ⟨?_, q26, q27⟩
  unfold lB at h ⊢
  rw [q26, q27]
  exact ⟨lP_cr hF hd hf hd2 hO hN h0 hs w (.inl hm) (.inl ht) (Int.le_refl _) (Int.le_refl _) h.1, h.2⟩
theorem LB_nx {A A1 A2 : Nat → Nat → Int} {G G1 G1' G2 : Nat → Int} {gs as gs2 as2 : List Nat} {sb pb : Int} {k : Nat} {V : Nat → Prop} {l : List Int} {c lo s0 m t m_q t_q L al al2 r x y : Int} (hF : Fr gs as G A G1 A1) (hd : tr.all (fun k => !as.elem k) = true) (hf : Fr gs2 as2 G1' A1 G2 A2) (hd2 : tr.all (fun k => !as2.elem k) = true) (hO : Fo [25, 26, 27] m m_q A1 A2) (hN : Fo [9, 10] t t_q A1 A2) (h0 : 0 ≤ lo) (hs : t ≤ sb) (hw : wCs (wP A sb pb k V) l lo m s0 t) (h : (∀ e ∈ l, lB A1 (lP A1 k) L e) ∧ (al < 1000000 → 3 + sD A1 l ≤ al)) (hc : lB A2 (lP A2 k) L c) (hx : A2 26 c.toNat = x) (hy : A2 27 c.toNat = y) (hr : (r = x + y + 3 ∧ r ≤ 1000000) ∨ r = 1000000) (hal : 3 ≤ al) (hr0 : 0 ≤ r) (ha2 : al2 = al + r) : (∀ e ∈ l ++ [c], lB A2 (lP A2 k) L e) ∧ (al2 < 1000000 → 3 + sD A2 (l ++ [c]) ≤ al2) := by
  have cr : ∀ e ∈ l, lB A2 (lP A2 k) L e ∧ A2 26 e.toNat = A1 26 e.toNat ∧ A2 27 e.toNat = A1 27 e.toNat := fun e he => by
    obtain ⟨a, b, u, v, g1, g2, g3, g4, g5⟩ := wCs_mem hw he
    exact lB_cr hF hd hf hd2 hO hN (by omega) (by omega) g2 g4 g5 (h.1 e he)
  refine ⟨fun e he => ?_, fun hl => ?_⟩
  · rcases List.mem_append.mp he with he | he
    · exact (cr e he).1
    · rw [List.mem_singleton.mp he]
      exact hc
  · rw [sD_add, sD_ag (fun e he => (cr e he).2), hx, hy]
    have := h.2 (by omega)
    omega
theorem LB_end {A A1 : Nat → Nat → Int} {sb pb : Int} {k : Nat} {V : Nat → Prop} {n c lo hi s0 s1 L al m t : Int} {G G1 : Nat → Int} {gs as : List Nat} (hF : Fr gs as G A G1 A1) (hd : tr.all (fun k => !as.elem k) = true) (h : LB A A1 sb pb k V n c lo hi s0 s1 L al m t) (hc : c ≤ 0) : (∀ l, CH A1 (A1 21 n.toNat) l → (∀ e ∈ l, lB A1 (lP A1 k) L e) ∧ (al < 1000000 → 3 + sD A1 l ≤ al)) ∧ 3 ≤ al ∧ al ≤ 3 + 1000000 * hi := by
  obtain ⟨h, ha, ha2⟩ := h
  obtain ⟨l, h1, h2, h3, e1, _⟩ := LQ_end h hc
  refine ⟨fun l_q hl' => ?_, ha, by omega⟩
  have e : l_q = l := CH_un hl' (by
    rw [tr_k hF hd (k := 21) rfl]
    exact CH_ag (fun e he => congrFun (tr_k hF hd (k := 22) rfl) _) h1)
  rw [e]
  exact h3
/-- a statement's words, by its kind -/
theorem lS_0 {A : Nat → Nat → Int} {M : Int → Int → Int → Int → Int → Prop} {p k f L z D : Int} (q : A 15 p.toNat = k) (hk : k = 20 ∨ k = 21) : lSt A M p f L z D := by
  refine ⟨fun g => ?_, fun g => ?_, fun g => ?_, fun g => ?_, fun g => ?_, fun g => ?_, fun g => ?_, fun g => ?_, fun g => ?_, fun g => ?_⟩ <;> exact (show False by omega).elim
theorem lS_22 {A : Nat → Nat → Int} {M : Int → Int → Int → Int → Int → Prop} {p k f L z D : Int} (q : A 15 p.toNat = k) (hk : k = 22 ∨ k = 23) (h : lR A (A 17 p.toNat) f z ∧ lE A 22 (A 18 p.toNat) f z) : lSt A M p f L z D := by
  refine ⟨fun _ => h, fun g => ?_, fun g => ?_, fun g => ?_, fun g => ?_, fun g => ?_, fun g => ?_, fun g => ?_, fun g => ?_, fun g => ?_⟩ <;> exact (show False by omega).elim
theorem lS_24 {A : Nat → Nat → Int} {M : Int → Int → Int → Int → Int → Prop} {p k f L z D : Int} (q : A 15 p.toNat = k) (hk : k = 24) (h : lR A (A 17 p.toNat) f z ∧ lR A (A 18 p.toNat) f z) : lSt A M p f L z D := by
  refine ⟨fun g => ?_, fun _ => h, fun g => ?_, fun g => ?_, fun g => ?_, fun g => ?_, fun g => ?_, fun g => ?_, fun g => ?_, fun g => ?_⟩ <;> exact (show False by omega).elim
theorem lS_25 {A : Nat → Nat → Int} {M : Int → Int → Int → Int → Int → Prop} {p k f L z D : Int} (q : A 15 p.toNat = k) (hk : k = 25) (h : (∀ l, CH A (A 21 p.toNat) l → ∀ a ∈ l, lE A 22 (A 17 a.toNat) f z) ∧ (D < 1000000 → 7 + A 32 (A 17 p.toNat).toNat + A 33 (A 17 p.toNat).toNat ≤ D)) : lSt A M p f L z D := by
  refine ⟨fun g => ?_, fun g => ?_, fun _ => h, fun g => ?_, fun g => ?_, fun g => ?_, fun g => ?_, fun g => ?_, fun g => ?_, fun g => ?_⟩ <;> exact (show False by omega).elim
theorem lS_26 {A : Nat → Nat → Int} {M : Int → Int → Int → Int → Int → Prop} {p k f L z D : Int} (q : A 15 p.toNat = k) (hk : k = 26) (h : ∀ l, CH A (A 21 p.toNat) l → ∀ c ∈ l, M c f L z D) : lSt A M p f L z D := by
  refine ⟨fun g => ?_, fun g => ?_, fun g => ?_, fun _ => h, fun g => ?_, fun g => ?_, fun g => ?_, fun g => ?_, fun g => ?_, fun g => ?_⟩ <;> exact (show False by omega).elim
theorem lS_27 {A : Nat → Nat → Int} {M : Int → Int → Int → Int → Int → Prop} {p k f L z D : Int} (q : A 15 p.toNat = k) (hk : k = 27) (h : A 9 (A 17 p.toNat).toNat = f ∧ A 10 (A 17 p.toNat).toNat = L ∧ f + 2 ≤ z ∧ lE A 22 (A 19 p.toNat) (f + 2) z ∧ lE A 22 (A 20 p.toNat) (f + 2) z ∧ M (A 21 p.toNat) (f + 2) L z D) : lSt A M p f L z D := by
  refine ⟨fun g => ?_, fun g => ?_, fun g => ?_, fun g => ?_, fun _ => h, fun g => ?_, fun g => ?_, fun g => ?_, fun g => ?_, fun g => ?_⟩ <;> exact (show False by omega).elim
theorem lS_28 {A : Nat → Nat → Int} {M : Int → Int → Int → Int → Int → Prop} {p k f L z D : Int} (q : A 15 p.toNat = k) (hk : k = 28) (h : A 25 p.toNat = f ∧ f + 3 ≤ z ∧ ∀ l, CH A (A 21 p.toNat) l → (∀ c ∈ l, lB A M L c) ∧ (D < 1000000 → 3 + sD A l ≤ D)) : lSt A M p f L z D := by
  refine ⟨fun g => ?_, fun g => ?_, fun g => ?_, fun g => ?_, fun g => ?_, fun _ => h, fun g => ?_, fun g => ?_, fun g => ?_, fun g => ?_⟩ <;> exact (show False by omega).elim
theorem lS_29 {A : Nat → Nat → Int} {M : Int → Int → Int → Int → Int → Prop} {p k f L z D : Int} (q : A 15 p.toNat = k) (hk : k = 29) (h : A 25 p.toNat = f ∧ f + 3 ≤ z ∧ lB A M L (A 21 p.toNat) ∧ (D < 1000000 → 3 + A 20 p.toNat * (A 26 (A 21 p.toNat).toNat + A 27 (A 21 p.toNat).toNat + 3) ≤ D)) : lSt A M p f L z D := by
  refine ⟨fun g => ?_, fun g => ?_, fun g => ?_, fun g => ?_, fun g => ?_, fun g => ?_, fun _ => h, fun g => ?_, fun g => ?_, fun g => ?_⟩ <;> exact (show False by omega).elim
theorem lS_30 {A : Nat → Nat → Int} {M : Int → Int → Int → Int → Int → Prop} {p k f L z D : Int} (q : A 15 p.toNat = k) (hk : k = 30) (h : ∀ l, CH A (A 21 p.toNat) l → ∀ c ∈ l, lI A M f L z D c) : lSt A M p f L z D := by
  refine ⟨fun g => ?_, fun g => ?_, fun g => ?_, fun g => ?_, fun g => ?_, fun g => ?_, fun g => ?_, fun _ => h, fun g => ?_, fun g => ?_⟩ <;> exact (show False by omega).elim
theorem lS_31 {A : Nat → Nat → Int} {M : Int → Int → Int → Int → Int → Prop} {p k f L z D : Int} (q : A 15 p.toNat = k) (hk : k = 31) (h : lE A 22 (A 17 p.toNat) f z ∧ M (A 21 p.toNat) f L z D) : lSt A M p f L z D := by
  refine ⟨fun g => ?_, fun g => ?_, fun g => ?_, fun g => ?_, fun g => ?_, fun g => ?_, fun g => ?_, fun g => ?_, fun _ => h, fun g => ?_⟩ <;> exact (show False by omega).elim
theorem lS_32 {A : Nat → Nat → Int} {M : Int → Int → Int → Int → Int → Prop} {p k f L z D : Int} (q : A 15 p.toNat = k) (hk : k = 32) (h : A 25 p.toNat = f ∧ f + 2 * A 18 p.toNat ≤ z ∧ ∀ l, CH A (A 21 p.toNat) l → ∀ g ∈ l, lG A M (f + 2 * A 18 p.toNat) L z D g) : lSt A M p f L z D := by
  refine ⟨fun g => ?_, fun g => ?_, fun g => ?_, fun g => ?_, fun g => ?_, fun g => ?_, fun g => ?_, fun g => ?_, fun g => ?_, fun _ => h⟩ <;> exact (show False by omega).elim
theorem pf_D {nd rb w r : Int} (h1 : 1 ≤ nd) (hb : rb = w ∨ rb = 1000000) (hr : r = 3 + nd * rb ∨ r = 1000000) (hl : r < 1000000) : 3 + nd * w ≤ r := by
  rcases hr with hr | hr
  · rcases hb with hb | hb
    · rw [← hb]
      omega
    · rw [hb] at hr
      omega
  · omega
theorem mul_b {a b : Int} (h1 : 0 ≤ a) (h2 : a ≤ 8) (h3 : 0 ≤ b) (h4 : b ≤ 1000000) : 0 ≤ a * b ∧ a * b ≤ 8000000 := by
  have : a = 0 ∨ a = 1 ∨ a = 2 ∨ a = 3 ∨ a = 4 ∨ a = 5 ∨ a = 6 ∨ a = 7 ∨ a = 8 := by omega
  rcases this with rfl | rfl | rfl | rfl | rfl | rfl | rfl | rfl | rfl <;> omega
/-- names: their words one behind the other -/
theorem zS_fr {A A_q : Nat → Nat → Int} {G G_q : Nat → Int} {gs as : List Nat} {s : Int} {m : Nat} (hF : Fr gs as G A G_q A_q) (hd : tr.all (fun k => !as.elem k) = true) : zS A_q s m = zS A s m := zS_ag (fun j _ => congrFun (tr_k hF hd (k := 8) rfl) _)
theorem zS_st {A : Nat → Nat → Int} {s0 s : Int} (h : s0 ≤ s) : zS A s0 (s + 1 - s0).toNat = zS A s0 (s - s0).toNat + A 8 s.toNat := by
  have e : (s + 1 - s0).toNat = (s - s0).toNat + 1 := by omega
  rw [e]
  show zS A s0 (s - s0).toNat + A 8 (s0 + (((s - s0).toNat : Nat) : Int)).toNat = _
  rw [show s0 + (((s - s0).toNat : Nat) : Int) = s by omega]
theorem lD_0 {A : Nat → Nat → Int} {s f L : Int} {m : Nat} (h : m = 0) : lD A s m f L := fun j hj => by omega
/-- the words of the name s are given -/
theorem lD_nx {A A1 A2 : Nat → Nat → Int} {s0 s f fr L : Int} {G G2 : Nat → Int} {gs as : List Nat} (hF : Fr gs as G A G2 A2) (hd : tr.all (fun k => !as.elem k) = true) (h0 : 0 ≤ s0) (hs : s0 ≤ s) (h8 : A1 8 = A 8) (h : lD A1 s0 (s - s0).toNat fr L) (hf : f = fr + zS A s0 (s - s0).toNat) (q9 : A2 9 s.toNat = f) (q10 : A2 10 s.toNat = L) (ag : ∀ k j : Nat, [9, 10].elem k = true → ¬ (s ≤ (j : Int) ∧ (j : Int) < s + 1) → A2 k j = A1 k j) : lD A2 s0 (s + 1 - s0).toNat fr L := fun j hj => by
  have z1 : ∀ i, zS A1 s0 i = zS A s0 i := fun i => zS_ag (fun j _ => congrFun h8 _)
  by_cases hc : j = (s - s0).toNat
  · rw [hc, show s0 + (((s - s0).toNat : Nat) : Int) = s by omega, q9, q10, zS_fr hF hd]
    exact ⟨hf, rfl⟩
  · have g := h j (by omega)
    rw [ag 9 _ rfl (by omega), ag 10 _ rfl (by omega), zS_fr hF hd, ← z1]
    exact g
theorem lD_fo {A A_q : Nat → Nat → Int} {s a b f L : Int} {m : Nat} {G G_q : Nat → Int} {gs as : List Nat} (hF : Fr gs as G A G_q A_q) (hd : tr.all (fun k => !as.elem k) = true) (hN : Fo [9, 10] a b A A_q) (h0 : 0 ≤ s) (hm : s + (m : Int) ≤ a ∨ b ≤ s) (h : lD A s m f L) : lD A_q s m f L := fun j hj => by
  rw [hN 9 _ rfl (by omega), hN 10 _ rfl (by omega), zS_fr hF hd]
  exact h j hj
theorem lP_mk {A A_q : Nat → Nat → Int} {n : Nat} {p f g L z D s0 dc : Int} {m : Nat} {G G_q : Nat → Int} {gs as : List Nat} (hF : Fr gs as G A G_q A_q) (hd : tr.all (fun k => !as.elem k) = true) (q23 : A_q 23 p.toNat = s0) (q24 : A_q 24 p.toNat = dc) (hm : m = dc.toNat) (hg : g = f + zS A s0 m) (hz : g ≤ z) (h1 : lD A_q s0 m f L) (h : lSt A_q (lP A_q n) p g L z D) : lP A_q (n + 1) p f L z D := by
  have e : zS A_q (A_q 23 p.toNat) (A_q 24 p.toNat).toNat = zS A s0 m := by
    rw [q23, q24, zS_fr hF hd, hm]
  refine ⟨by rw [q23, q24, ← hm]; exact h1, by rw [e, ← hg]; exact hz, ?_⟩
  rw [e, ← hg]
  exact h
theorem tG_fr {A A_q : Nat → Nat → Int} {G G_q : Nat → Int} {gs as : List Nat} {sb pb : Int} {k : Nat} {V : Nat → Prop} {n hi s0 s1 : Int} (hF : Fr gs as G A G_q A_q) (hd : tr.all (fun k => !as.elem k) = true) (h0 : 0 ≤ n) (hs : s1 ≤ sb) (h : ∃ l, CH A (A 21 n.toNat) l ∧ wCs (wG A V sb (wP A sb pb k V)) l (n + 1) hi s0 s1) : ∃ l, CH A_q (A_q 21 n.toNat) l ∧ wCs (wG A_q V sb (wP A_q sb pb k V)) l (n + 1) hi s0 s1 := by
  obtain ⟨l, h1, h2⟩ := h
  refine ⟨l, ?_, wCs_im (fun e a b u v g1 g2 g3 g4 w => wG_ag (by omega) (tr_sg hF hd) (Ax_ag (tr_ag hF hd)) (fun c a_q w1 w2 => wP_fr hF hd (by omega) (by omega) w2) w) (Int.le_refl _) (Int.le_refl _) h2⟩
  rw [tr_k hF hd (k := 21) rfl]
  exact CH_ag (fun e he => congrFun (tr_k hF hd (k := 22) rfl) _) h1
theorem wS_i223 {A : Nat → Nat → Int} {sb pb : Int} {R : (Nat → Prop) → Int → Int → Int → Int → Int → Prop} {V : Nat → Prop} {p lo hi t0 s1 : Int} (h : wSt A sb pb R V p lo hi t0 s1) (k : A 15 p.toNat = 22 ∨ A 15 p.toNat = 23) : ∃ ch, wR A V sb 20 ch (A 17 p.toNat) lo p ∧ wE A V sb 20 (A 18 p.toNat) (p + 1) hi := by
  rcases k with k | k
  · exact ⟨0, (wS_i22 h k).2⟩
  · exact ⟨1, (wS_i23 h k).2⟩
/-- what the PROCs before pb want -/
def PS (A : Nat → Nat → Int) (pb : Int) : Prop := ∀ q : Int, 0 ≤ q → q < pb → 0 ≤ A 32 q.toNat ∧ A 32 q.toNat ≤ 1000000 ∧ 0 ≤ A 33 q.toNat ∧ A 33 q.toNat ≤ 1000000
theorem PS_fr {A A_q : Nat → Nat → Int} {G G_q : Nat → Int} {gs as : List Nat} {pb : Int} (hF : Fr gs as G A G_q A_q) (hd : tr.all (fun k => !as.elem k) = true) (h : PS A pb) : PS A_q pb := fun q h1 h2 => by
  rw [tr_k hF hd (k := 32) rfl, tr_k hF hd (k := 33) rfl]
  exact h q h1 h2
def lG2 (A : Nat → Nat → Int) (M : Int → Int → Int → Int → Int → Prop) (p f L z D : Int) : Prop := A 25 p.toNat = f ∧ f + 2 * A 18 p.toNat ≤ z ∧ ∀ l, CH A (A 21 p.toNat) l → ∀ g ∈ l, lG A M (f + 2 * A 18 p.toNat) L z D g
theorem lB_mk {A : Nat → Nat → Int} {M : Int → Int → Int → Int → Int → Prop} {L c x y : Int} (q26 : A 26 c.toNat = x) (q27 : A 27 c.toNat = y) (h : M c 1 (L + 1) x y) (hx : 1 ≤ x ∧ x ≤ 1000000) (hy : 0 ≤ y ∧ y ≤ 1000000) : lB A M L c := by
  unfold lB
  rw [q26, q27]
  exact ⟨h, hx.1, hx.2, hy.1, hy.2⟩
theorem lD_st {A A_q : Nat → Nat → Int} {s f L z v : Int} {m r : Nat} (e : A_q = uA A r z.toNat v) (h0 : 0 ≤ s) (h1 : 0 ≤ z) (hr : r ≠ 8) (hz : (r ≠ 9 ∧ r ≠ 10) ∨ s + (m : Int) ≤ z) (h : lD A s m f L) : lD A_q s m f L := fun j hj => by
  have e8 : A_q 8 = A 8 := by
    rw [e]
    exact uA_ne (fun q => hr q.symm)
  have z1 : zS A_q s j = zS A s j := zS_ag (fun i _ => congrFun e8 _)
  have q : ∀ k, k = 9 ∨ k = 10 → A_q k (s + (j : Int)).toNat = A k (s + (j : Int)).toNat := fun k hk => by
    rw [e]
    exact if_neg (fun w => by omega)
  rw [q 9 (.inl rfl), q 10 (.inr rfl), z1]
  exact h j hj
theorem wA_in {A : Nat → Nat → Int} {V : Nat → Prop} {sb pa e lo hi : Int} (h : wA A V sb pa e lo hi) : lo ≤ e ∧ e < hi := ⟨h.1, h.2.1⟩
