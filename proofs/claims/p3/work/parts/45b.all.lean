/-! layout: all PROCs and processors -/
def tr2 : List Nat := [7, 8, 12, 15, 17, 18, 19, 20, 21, 22, 23, 24, 29, 30]
theorem tr2_k {A A_q : Nat → Nat → Int} {G G_q : Nat → Int} {gs as : List Nat} (hF : Fr gs as G A G_q A_q) (hd : tr2.all (fun k => !as.elem k) = true) {k : Nat} (hk : tr2.elem k = true) : A_q k = A k := hF.2 k (by
  have := List.all_eq_true.mp hd k (List.elem_iff.mp hk)
  simpa using this)
theorem wr_tr2 : ∀ k, wr.elem k = true → tr2.elem k = true := fun k hk => by
  have := List.elem_iff.mp hk
  simp only [wr, List.mem_cons, List.not_mem_nil, or_false] at this
  rcases this with rfl | rfl | rfl | rfl | rfl | rfl | rfl | rfl | rfl <;> rfl
theorem sr_tr2 : ∀ k, sr.elem k = true → tr2.elem k = true := fun k hk => by
  have := List.elem_iff.mp hk
  simp only [sr, List.mem_cons, List.not_mem_nil, or_false] at this
  rcases this with rfl | rfl | rfl <;> rfl
theorem tr2_ag {A A_q : Nat → Nat → Int} {G G_q : Nat → Int} {gs as : List Nat} {lo hi : Int} (hF : Fr gs as G A G_q A_q) (hd : tr2.all (fun k => !as.elem k) = true) : Ag lo hi A A_q := fun k j hk _ _ => congrFun (tr2_k hF hd (wr_tr2 k hk)) j
theorem tr2_sg {A A_q : Nat → Nat → Int} {G G_q : Nat → Int} {gs as : List Nat} {sb : Int} (hF : Fr gs as G A G_q A_q) (hd : tr2.all (fun k => !as.elem k) = true) : Sg sb A A_q := fun k j hk _ => congrFun (tr2_k hF hd (sr_tr2 k hk)) j
theorem tr2_qg {A A_q : Nat → Nat → Int} {G G_q : Nat → Int} {gs as : List Nat} {pb : Int} (hF : Fr gs as G A G_q A_q) (hd : tr2.all (fun k => !as.elem k) = true) : Qg pb A A_q := fun k j hk _ => by
  have := List.elem_iff.mp hk
  simp only [List.mem_cons, List.not_mem_nil, or_false] at this
  rcases this with rfl | rfl
  · exact congrFun (tr2_k hF hd rfl) j
  · exact congrFun (tr2_k hF hd rfl) j
theorem wP_fr2 {A A_q : Nat → Nat → Int} {G G_q : Nat → Int} {gs as : List Nat} {sb pb : Int} {n : Nat} {V : Nat → Prop} {p lo hi s0 s1 : Int} (hF : Fr gs as G A G_q A_q) (hd : tr2.all (fun k => !as.elem k) = true) (h0 : 0 ≤ lo) (hs : s1 ≤ sb) (h : wP A sb pb n V p lo hi s0 s1) : wP A_q sb pb n V p lo hi s0 s1 := wP_ag (tr2_sg hF hd) (tr2_qg hF hd) h0 hs (Ax_ag (tr2_ag hF hd)) h
/-- the PROC q among all: its tree, its parameters; lo, s0: where it begins, hi, s1: where it ends -/
def QA (A : Nat → Nat → Int) (q : Nat) (V : Nat → Prop) (lo hi s0 s1 : Int) : Prop := 1 ≤ lo ∧ lo ≤ hi ∧ 2 ≤ s0 ∧ 0 ≤ A 30 q ∧ A 30 q ≤ 6 ∧ s0 + 1 + A 30 q ≤ s1 ∧ A 29 q = s0 + 1 ∧ wM A (s0 + 1) (A 30 q) ∧ wP A s1 (q : Int) 18 V (A 31 q) lo hi (s0 + 1 + A 30 q) s1
theorem wQ_at {A : Nat → Nat → Int} : ∀ {Q q : Nat} {hi s1 : Int}, wQ A Q hi s1 → q < Q → ∃ (V : Nat → Prop) (lo_q hi_q s0' s1' : Int), wQ A q lo_q s0' ∧ hi_q ≤ hi ∧ s1' ≤ s1 ∧ QA A q V lo_q hi_q s0' s1'
  | 0, q, _, _, _, hq => absurd hq (by omega)
  | Q + 1, q, hi, s1, h, hq => by
    obtain ⟨lo, s0, V, h1, h2, h3, h4, h5, h6, h7, h8, h9, h10, h11, h12, h13⟩ := h
    by_cases hc : q = Q
    · subst hc
      exact ⟨V, lo, hi, s0, s1, h1, Int.le_refl _, Int.le_refl _, h2, h3, h4, h5, h6, h7, h10, h11, h13⟩
    · obtain ⟨V_q, a, b, u, v, g1, g2, g3, g4⟩ := wQ_at h1 (show q < Q by omega)
      exact ⟨V_q, a, b, u, v, g1, by omega, by omega, g4⟩
/-- the same, with what is seen there -/
def QV (A : Nat → Nat → Int) (q : Nat) (V : Nat → Prop) (s0 : Int) : Prop := ∀ s : Nat, V s → k01 A s ∨ ((s : Int) < s0 ∧ A 7 s = 14) ∨ (s0 + 1 ≤ (s : Int) ∧ (s : Int) < s0 + 1 + A 30 q)
/-- what was found for the PROC q -/
def lQ1 (A A1 : Nat → Nat → Int) (q : Nat) : Prop := lP A1 18 (A 31 q) (1 + A 30 q) 0 (A1 32 q) (A1 33 q) ∧ 1 + A 30 q ≤ A1 32 q ∧ A1 32 q ≤ 1000000 ∧ 0 ≤ A1 33 q ∧ A1 33 q ≤ 1000000 ∧ ∀ k : Nat, (k : Int) < A 30 q → A1 9 (A 29 q + (k : Int)).toNat = 1 + (k : Int) ∧ A1 10 (A 29 q + (k : Int)).toNat = 0
def MQa (A A1 : Nat → Nat → Int) (p ft : Int) : Prop := ∀ q : Nat, (q : Int) < p → lQ1 A A1 q ∧ (ft = 1 → A1 32 q + A1 33 q + 3 ≤ 4000)
theorem MQa_ps {A A1 : Nat → Nat → Int} {p ft : Int} (h30 : ∀ q : Nat, (q : Int) < p → 0 ≤ A 30 q) (h : MQa A A1 p ft) : PS A1 p := fun q h1 h2 => by
  have g := (h q.toNat (by omega)).1
  have g0 := h30 q.toNat (by omega)
  exact ⟨by have := g.2.1; omega, g.2.2.1, g.2.2.2.1, g.2.2.2.2.1⟩
theorem MQa_0 {A A1 : Nat → Nat → Int} {ft p : Int} (hp : p = 0) : MQa A A1 p ft := fun q hq => by omega
/-- it stays so while what lies behind is measured -/
theorem MQa_mv {A A1 A2 : Nat → Nat → Int} {G G1 G1' G2 : Nat → Int} {gs as gs2 as2 : List Nat} {q : Nat} {hi s1 p ft ft' a b u v : Int} (hF : Fr gs as G A G1 A1) (hd : tr2.all (fun k => !as.elem k) = true) (hf : Fr gs2 as2 G1' A1 G2 A2) (hd2 : tr2.all (fun k => !as2.elem k) = true) (hO : Fo [25, 26, 27] a b A1 A2) (hN : Fo [9, 10] u v A1 A2) (hq : Fx [32, 33] p A1 A2) (w : wQ A q hi s1) (e : p = (q : Int)) (ha : hi ≤ a) (hu : s1 ≤ u) (hft : ft' = 1 → ft = 1) (h : MQa A A1 p ft) : MQa A A2 p ft' := fun r hr => by
  obtain ⟨V, lo_q, hi_q, s0', s1', g1, g2, g3, k1, k2, k3, k4, k5, k6, k7, k8, k9⟩ := wQ_at (q := r) w (by omega)
  obtain ⟨⟨m1, m2, m3, m4, m5, m6⟩, m7⟩ := h r hr
  have q32 : A2 32 r = A1 32 r := hq 32 r rfl hr
  have q33 : A2 33 r = A1 33 r := hq 33 r rfl hr
  unfold lQ1
  rw [q32, q33]
  refine ⟨⟨?_, m2, m3, m4, m5, fun k hk => ?_⟩, fun h1 => m7 (hft h1)⟩
  · exact lP_mv (tr2_sg hf hd2) (fun k j hk hj => hq k j hk (by omega)) (by omega) (Int.le_refl _) (tr2_ag hf hd2) (La_fo hO (.inl (by omega))) (Ln_fo hN (.inl (by omega))) (wP_fr2 hF hd (by omega) (Int.le_refl _) k9) m1
  · rw [hN 9 _ rfl (by omega), hN 10 _ rfl (by omega)]
    exact m6 k hk
theorem MQa_nx {A A1 : Nat → Nat → Int} {p ft ft' r z : Int} (h : MQa A A1 p ft) (hp : 0 ≤ p) (hft : ft' = 1 → ft = 1 ∧ z + r + 3 ≤ 4000) (q32 : A1 32 p.toNat = z) (q33 : A1 33 p.toNat = r) (hl : lP A1 18 (A 31 p.toNat) (1 + A 30 p.toNat) 0 z r) (h1 : 1 + A 30 p.toNat ≤ z) (h2 : z ≤ 1000000) (h3 : 0 ≤ r) (h4 : r ≤ 1000000) (hk : ∀ k : Nat, (k : Int) < A 30 p.toNat → A1 9 (A 29 p.toNat + (k : Int)).toNat = 1 + (k : Int) ∧ A1 10 (A 29 p.toNat + (k : Int)).toNat = 0) : MQa A A1 (p + 1) ft' := fun q hq => by
  by_cases hc : (q : Int) = p
  · have e : q = p.toNat := by omega
    subst e
    unfold lQ1
    rw [q32, q33]
    exact ⟨⟨hl, h1, h2, h3, h4, hk⟩, fun g => (hft g).2⟩
  · exact ⟨(h q (by omega)).1, fun g => (h q (by omega)).2 (hft g).1⟩
/-- the rows of different processors lie apart -/
theorem wCs_fn {R : Int → Int → Int → Int → Int → Prop} : ∀ {l : List Int} {lo hi s0 s1 : Int}, wCs R l lo hi s0 s1 → l.Nodup → ∃ a b u v : Int → Int, (∀ p ∈ l, R p (a p) (b p) (u p) (v p) ∧ lo ≤ a p ∧ a p ≤ b p ∧ b p ≤ hi ∧ s0 ≤ u p ∧ u p ≤ v p ∧ v p ≤ s1) ∧ ∀ p ∈ l, ∀ p_q ∈ l, p ≠ p_q → (b p ≤ a p_q ∨ b p_q ≤ a p) ∧ (v p ≤ u p_q ∨ v p_q ≤ u p)
  | [], lo, hi, s0, s1, _, _ => ⟨fun _ => 0, fun _ => 0, fun _ => 0, fun _ => 0, fun p hp => absurd hp List.not_mem_nil, fun p hp => absurd hp List.not_mem_nil⟩
  | e :: l, lo, hi, s0, s1, h, hn => by
    obtain ⟨m, t, h1, h2, h3, h4, h5, h6⟩ := h
    obtain ⟨ne, hn'⟩ := List.nodup_cons.mp hn
    obtain ⟨a, b, u, v, g1, g2⟩ := wCs_fn h6 hn'
    refine ⟨fun p => if p = e then lo else a p, fun p => if p = e then m else b p, fun p => if p = e then s0 else u p, fun p => if p = e then t else v p, fun p hp => ?_, fun p hp p_q hp' hne => ?_⟩
    · by_cases hc : p = e
      · simp only [hc, if_true]
        exact ⟨h5, Int.le_refl _, h1, h2, Int.le_refl _, h3, h4⟩
      · simp only [hc, if_false]
        rcases List.mem_cons.mp hp with hp | hp
        · exact absurd hp hc
        · obtain ⟨k1, k2, k3, k4, k5, k6, k7⟩ := g1 p hp
          exact ⟨k1, by omega, k3, k4, by omega, k6, k7⟩
    · by_cases hc : p = e
      · have hc' : ¬ p_q = e := fun q => hne (hc.trans q.symm)
        simp only [hc, hc', if_true, if_false]
        rcases List.mem_cons.mp hp' with hp' | hp'
        · exact absurd hp' hc'
        · obtain ⟨k1, k2, k3, k4, k5, k6, k7⟩ := g1 p_q hp'
          exact ⟨.inl k2, .inl k5⟩
      · by_cases hc' : p_q = e
        · simp only [hc, hc', if_true, if_false]
          rcases List.mem_cons.mp hp with hp | hp
          · exact absurd hp hc
          · obtain ⟨k1, k2, k3, k4, k5, k6, k7⟩ := g1 p hp
            exact ⟨.inr k2, .inr k5⟩
        · simp only [hc, hc', if_false]
          rcases List.mem_cons.mp hp with hp | hp
          · exact absurd hp hc
          · rcases List.mem_cons.mp hp' with hp' | hp'
            · exact absurd hp' hc'
            · exact g2 p hp p_q hp' hne
/-- the processors: where their trees lie -/
def BA (A : Nat → Nat → Int) (V : Nat → Prop) (pb lo hi s0 s1 : Int) (a b u v : Int → Int) : Prop := (∀ p : Int, 0 ≤ p → p ≤ 5 → 0 < A 36 p.toNat → wP A (v p) pb 18 V (A 36 p.toNat) (a p) (b p) (u p) (v p) ∧ lo ≤ a p ∧ a p ≤ b p ∧ b p ≤ hi ∧ s0 ≤ u p ∧ u p ≤ v p ∧ v p ≤ s1) ∧ ∀ p p_q : Int, 0 ≤ p → p ≤ 5 → 0 < A 36 p.toNat → 0 ≤ p_q → p_q ≤ 5 → 0 < A 36 p_q.toNat → p ≠ p_q → (b p ≤ a p_q ∨ b p_q ≤ a p) ∧ (v p ≤ u p_q ∨ v p_q ≤ u p)
theorem wB_ba {A : Nat → Nat → Int} {V : Nat → Prop} {pb lo hi s0 s1 : Int} (h : wB A V pb lo hi s0 s1) : ∃ a b u v : Int → Int, BA A V pb lo hi s0 s1 a b u v := by
  obtain ⟨l, h1, h2, h3, h4⟩ := h
  obtain ⟨a, b, u, v, g1, g2⟩ := wCs_fn h4 h1
  exact ⟨a, b, u, v, fun p k1 k2 k3 => g1 p (h3 p k1 k2 k3), fun p p_q k1 k2 k3 k4 k5 k6 hne => g2 p (h3 p k1 k2 k3) p_q (h3 p_q k4 k5 k6) hne⟩
def MBs (A A1 : Nat → Nat → Int) (p ft : Int) : Prop := ∀ r : Int, 0 ≤ r → r < p → 0 < A 36 r.toNat → lP A1 18 (A 36 r.toNat) 1 0 (A1 37 r.toNat) (A1 38 r.toNat) ∧ 1 ≤ A1 37 r.toNat ∧ 0 ≤ A1 38 r.toNat ∧ (ft = 1 → A1 37 r.toNat + A1 38 r.toNat + 3 ≤ 4000)
theorem MBs_0 {A A1 : Nat → Nat → Int} {p ft : Int} (hp : p ≤ 0) : MBs A A1 p ft := fun r h1 h2 => by omega
theorem MBs_sk {A A1 : Nat → Nat → Int} {p ft : Int} (h : MBs A A1 p ft) (hp : A 36 p.toNat ≤ 0) : MBs A A1 (p + 1) ft := fun r h1 h2 h3 => by
  by_cases hc : r = p
  · rw [hc] at h3
    omega
  · exact h r h1 (by omega) h3
theorem MBs_mv {A A1 A2 : Nat → Nat → Int} {G G1 G1' G2 : Nat → Int} {gs as gs2 as2 : List Nat} {V : Nat → Prop} {pb lo hi s0 s1 p ft ft' : Int} {a b u v : Int → Int} (hF : Fr gs as G A G1 A1) (hd : tr2.all (fun k => !as.elem k) = true) (hf : Fr gs2 as2 G1' A1 G2 A2) (hd2 : tr2.all (fun k => !as2.elem k) = true) (hO : Fo [25, 26, 27] (a p) (b p) A1 A2) (hN : Fo [9, 10] (u p) (v p) A1 A2) (lq : Fx [32, 33] pb A1 A2) (h37 : Fx [37, 38] p A1 A2) (w : BA A V pb lo hi s0 s1 a b u v) (h0 : 0 ≤ lo) (hp0 : 0 ≤ p) (hp5 : p ≤ 5) (hb : 0 < A 36 p.toNat) (hft : ft' = 1 → ft = 1) (h : MBs A A1 p ft) : MBs A A2 p ft' := fun r h1 h2 h3 => by
  obtain ⟨m1, m2, m3, m4⟩ := h r h1 h2 h3
  obtain ⟨k1, k2, k3, k4, k5, k6, k7⟩ := w.1 r h1 (by omega) h3
  obtain ⟨d1, d2⟩ := w.2 r p h1 (by omega) h3 hp0 hp5 hb (by omega)
  rw [h37 37 r.toNat rfl (by omega), h37 38 r.toNat rfl (by omega)]
  exact ⟨lP_mv (tr2_sg hf hd2) lq (by omega) (Int.le_refl _) (tr2_ag hf hd2) (La_fo hO d1) (Ln_fo hN d2) (wP_fr2 hF hd (by omega) (Int.le_refl _) k1) m1, m2, m3, fun g => m4 (hft g)⟩
theorem MBs_nx {A A1 : Nat → Nat → Int} {p ft ft' r z : Int} (h : MBs A A1 p ft) (hp : 0 ≤ p) (hft : ft' = 1 → ft = 1 ∧ z + r + 3 ≤ 4000) (q37 : A1 37 p.toNat = z) (q38 : A1 38 p.toNat = r) (hl : lP A1 18 (A 36 p.toNat) 1 0 z r) (h1 : 1 ≤ z) (h3 : 0 ≤ r) : MBs A A1 (p + 1) ft' := fun q h0 hq h36 => by
  by_cases hc : q = p
  · subst hc
    rw [q37, q38]
    exact ⟨hl, h1, h3, fun g => (hft g).2⟩
  · obtain ⟨m1, m2, m3, m4⟩ := h q h0 (by omega) h36
    exact ⟨m1, m2, m3, fun g => m4 (hft g).1⟩
theorem MBs_ft {A A1 : Nat → Nat → Int} {p ft ft' : Int} (hft : ft' = 1 → ft = 1) (h : MBs A A1 p ft) : MBs A A1 p ft' := fun q h0 hq h36 => by
  obtain ⟨m1, m2, m3, m4⟩ := h q h0 hq h36
  exact ⟨m1, m2, m3, fun g => m4 (hft g)⟩
theorem MQa_ft {A A1 : Nat → Nat → Int} {p ft ft' : Int} (hft : ft' = 1 → ft = 1) (h : MQa A A1 p ft) : MQa A A1 p ft' := fun q hq => ⟨(h q hq).1, fun g => (h q hq).2 (hft g)⟩
/-- parameters: their words -/
def PK (A A1 : Nat → Nat → Int) (p k : Int) : Prop := ∀ j : Nat, (j : Int) < k → A1 9 (A 29 p.toNat + (j : Int)).toNat = 1 + (j : Int) ∧ A1 10 (A 29 p.toNat + (j : Int)).toNat = 0
theorem PK_0 {A A1 : Nat → Nat → Int} {p k : Int} (h : k ≤ 0) : PK A A1 p k := fun j hj => by omega
theorem PK_mv {A A1 A2 : Nat → Nat → Int} {p k u v : Int} (hN : Fo [9, 10] u v A1 A2) (h0 : 0 ≤ A 29 p.toNat) (hu : A 29 p.toNat + k ≤ u) (h : PK A A1 p k) : PK A A2 p k := fun j hj => by
  rw [hN 9 _ rfl (by omega), hN 10 _ rfl (by omega)]
  exact h j hj
theorem PK_nx {A A1 : Nat → Nat → Int} {p k s w l : Int} (h : PK A A1 p k) (hs : s = A 29 p.toNat + k) (q9 : A1 9 s.toNat = w) (q10 : A1 10 s.toNat = l) (hw : w = 1 + k) (hl : l = 0) : PK A A1 p (k + 1) := fun j hj => by
  by_cases hc : (j : Int) = k
  · rw [hc, ← hs, q9, q10]
    exact ⟨hw, hl⟩
  · exact h j (by omega)
theorem lP_qs {A A_q : Nat → Nat → Int} {sb pb : Int} {n k r : Nat} {V : Nat → Prop} {x lo hi s0 s1 f L z D p v : Int} (e : A_q = uA A r p.toNat v) (hr : r = 32 ∨ r = 33 ∨ r = 37 ∨ r = 38) (hp0 : 0 ≤ p) (hp : pb ≤ p ∨ 37 ≤ r) (h0 : 0 ≤ lo) (hs : s1 ≤ sb) (w : wP A sb pb n V x lo hi s0 s1) (h : lP A k x f L z D) : lP A_q k x f L z D := by
  have ne : ∀ k, k ≠ 32 → k ≠ 33 → k ≠ 37 → k ≠ 38 → A_q k = A k := fun k h1 h2 h3 h4 => by
    rw [e]
    exact uA_ne (by omega)
  refine lP_mv (sb := sb) (pb := pb) (fun k j hk _ => ?_) (fun k j hk hj => ?_) h0 hs (fun k j hk _ _ => ?_) (fun k j hk _ _ _ => ?_) (fun k j hk _ _ => ?_) w h
  · rw [ne k (by rintro rfl; cases hk) (by rintro rfl; cases hk) (by rintro rfl; cases hk) (by rintro rfl; cases hk)]
  · rw [e]
    exact if_neg (fun q => by
      have q1 := q.1
      have q2 := q.2
      have := List.elem_iff.mp hk
      simp only [List.mem_cons, List.not_mem_nil, or_false] at this
      omega)
  · rw [ne k (by rintro rfl; cases hk) (by rintro rfl; cases hk) (by rintro rfl; cases hk) (by rintro rfl; cases hk)]
  · rw [ne k (by rintro rfl; cases hk) (by rintro rfl; cases hk) (by rintro rfl; cases hk) (by rintro rfl; cases hk)]
  · rw [ne k (by rintro rfl; cases hk) (by rintro rfl; cases hk) (by rintro rfl; cases hk) (by rintro rfl; cases hk)]
/-- all words are given: PROCs, processors -/
def LL (A A1 : Nat → Nat → Int) (q : Int) : Prop := MQa A A1 q 1 ∧ MBs A A1 6 1
