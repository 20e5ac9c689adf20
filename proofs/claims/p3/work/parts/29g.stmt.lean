/-! statements and processes put together -/
theorem wS_skip {A : Nat → Nat → Int} {sb pb : Int} {R : (Nat → Prop) → Int → Int → Int → Int → Int → Prop} {V : Nat → Prop} {p k a b c d f x lo hi t s1 : Int} (h : ND A p k a b c d f x) (hk : k = 20 ∨ k = 21) (ht : t = s1) : wSt A sb pb R V p lo hi t s1 := .inl ⟨by rw [h.1]; exact hk, ht⟩
theorem wS_leaf {A : Nat → Nat → Int} {sb sb_q pb : Int} {V : Nat → Prop} {p lo hi t s1 : Int} {R : (Nat → Prop) → Int → Int → Int → Int → Int → Prop} (h : wL A sb pb V p lo hi) (hs : sb ≤ sb_q) (ht : t = s1) : wSt A sb_q pb R V p lo hi t s1 := by
  subst ht
  exact wSt_sb (R := R) hs (fun _ _ _ _ _ _ w => w) (wL_st h)
theorem wS_seq {A : Nat → Nat → Int} {sb pb : Int} {n : Nat} {V : Nat → Prop} {p a b c d f x many lo hi t0 s1 : Int} (h : ND A p 26 a b c d f x) (r : RL 0 A sb pb n V p many (p + 1) hi t0 s1) : wSt A sb pb (wP A sb pb n) V p lo hi t0 s1 := by
  obtain ⟨l, h1, h2, _⟩ := r
  exact .inr (.inr (.inr (.inr (.inr (.inl ⟨h.1, l, h1, wCs_id (fun _ _ _ _ _ w => w) h2⟩)))))
theorem wS_par {A : Nat → Nat → Int} {sb pb : Int} {n : Nat} {V : Nat → Prop} {p a b c d f x lo hi t0 s1 : Int} (h : ND A p 28 a b c d f x) (r : RL 0 A sb pb n V p b (p + 1) hi t0 s1) (h2 : 2 ≤ b) (h8 : b ≤ 8) (ha : a = 0 ∨ (a = 1 ∧ b = 2)) : wSt A sb pb (wP A sb pb n) V p lo hi t0 s1 := by
  obtain ⟨l, h1, h3, h4⟩ := r
  refine .inr (.inr (.inr (.inr (.inr (.inr (.inr (.inl ⟨h.1, ?_⟩)))))))
  rw [h.2.1, h.2.2.1]
  exact ⟨h2, h8, ha, l, h1, h4, wCs_id (fun _ _ _ _ _ w => w) h3⟩
theorem wS_for {A : Nat → Nat → Int} {sb pb : Int} {n : Nat} {V : Nat → Prop} {p b c d f x lo hi t0 s1 u v : Int} (h : ND A p 27 t0 b c d f x) (ht : t0 < s1) (hk : A 7 t0.toNat = 9) (w1 : p + 1 ≤ u) (w2 : u ≤ v) (w3 : v ≤ hi) (hc : wE A V sb 20 c (p + 1) u) (hd : wE A V sb 20 d u v) (hf : wP A sb pb n (Vu V t0) f v hi (t0 + 1) s1) : wSt A sb pb (wP A sb pb n) V p lo hi t0 s1 := by
  refine .inr (.inr (.inr (.inr (.inr (.inr (.inl ⟨h.1, h.2.1, ht, hk, u, v, w1, w2, w3, ?_⟩))))))
  rw [h.2.2.2.1, h.2.2.2.2.1, h.2.2.2.2.2.1]
  exact ⟨hc, hd, hf⟩
theorem wS_parfor {A : Nat → Nat → Int} {sb pb : Int} {n : Nat} {V : Nat → Prop} {p b c d f x lo hi t0 s1 : Int} (h : ND A p 29 t0 b c d f x) (ht : t0 < s1) (hk : A 7 t0.toNat = 10) (hc : 0 ≤ c) (hd : 1 ≤ d) (hd8 : d ≤ 8) (w1 : p + 1 ≤ hi) (hf : wP A sb pb n (Vu V t0) f (p + 1) hi (t0 + 1) s1) : wSt A sb pb (wP A sb pb n) V p lo hi t0 s1 := by
  refine .inr (.inr (.inr (.inr (.inr (.inr (.inr (.inr (.inl ⟨h.1, h.2.1, ht, hk, ?_⟩))))))))
  rw [h.2.2.2.1, h.2.2.2.2.1, h.2.2.2.2.2.1]
  exact ⟨hc, hd, hd8, w1, hf⟩
theorem wS_if {A : Nat → Nat → Int} {sb pb : Int} {n : Nat} {V : Nat → Prop} {p a b c d f x many lo hi t0 s1 : Int} (h : ND A p 30 a b c d f x) (r : RL 1 A sb pb n V p many (p + 1) hi t0 s1) (hm : 1 ≤ many) : wSt A sb pb (wP A sb pb n) V p lo hi t0 s1 := by
  obtain ⟨l, h1, h2, h3⟩ := r
  refine .inr (.inr (.inr (.inr (.inr (.inr (.inr (.inr (.inr (.inl ⟨h.1, l, fun q => ?_, h1, wCs_id (fun _ _ _ _ _ w => w) h2⟩)))))))))
  subst q
  simp at h3
  omega
theorem wS_while {A : Nat → Nat → Int} {sb pb : Int} {n : Nat} {V : Nat → Prop} {p a b c d f x lo hi t0 s1 u : Int} (h : ND A p 31 a b c d f x) (w1 : p + 1 ≤ u) (w2 : u ≤ hi) (ha : wE A V sb 20 a (p + 1) u) (hf : wP A sb pb n V f u hi t0 s1) : wSt A sb pb (wP A sb pb n) V p lo hi t0 s1 := by
  refine .inr (.inr (.inr (.inr (.inr (.inr (.inr (.inr (.inr (.inr (.inl ⟨h.1, u, w1, w2, ?_⟩))))))))))
  rw [h.2.1, h.2.2.2.2.2.1]
  exact ⟨ha, hf⟩
theorem wS_alt {A : Nat → Nat → Int} {sb pb : Int} {n : Nat} {V : Nat → Prop} {p a b c d f x lo hi t0 s1 : Int} (h : ND A p 32 a b c d f x) (r : RL 2 A sb pb n V p b (p + 1) hi t0 s1) (h1 : 1 ≤ b) (h8 : b ≤ 8) : wSt A sb pb (wP A sb pb n) V p lo hi t0 s1 := by
  obtain ⟨l, g1, g2, g3⟩ := r
  refine .inr (.inr (.inr (.inr (.inr (.inr (.inr (.inr (.inr (.inr (.inr ⟨h.1, ?_⟩))))))))))
  rw [h.2.2.1]
  exact ⟨h1, h8, l, g1, g3, wCs_id (fun _ _ _ _ _ w => w) g2⟩
theorem wP_mk {A A1 A2 : Nat → Nat → Int} {sb pb : Int} {n : Nat} {V : Nat → Prop} {p lo hi s0 t0 s1 dc : Int} (e1 : A1 = uA A 23 p.toNat s0) (e2 : A2 = uA A1 24 p.toNat dc) (hl : lo ≤ p) (hp : p < hi) (h0 : 0 ≤ lo) (hs0 : 0 ≤ s0) (hdc : 0 ≤ dc) (ht : t0 = s0 + dc) (hts : t0 ≤ s1) (hs : s1 ≤ sb) (hd : wD A s0 t0) (h : wSt A sb pb (wP A sb pb n) (Vd V s0 t0) p lo hi t0 s1) : wP A2 sb pb (n + 1) V p lo hi s0 s1 := by
  have sg : Sg sb A A2 := Fx_tr (Sg_ne e1 rfl) (Sg_ne e2 rfl) (Int.le_refl _)
  have qg : Qg pb A A2 := fun k j hk hj => (Qg_ne (pb := pb) e2 rfl k j hk hj).trans (Qg_ne (pb := pb) e1 rfl k j hk hj)
  have ay : Ay p lo hi A A2 := fun k j hk h1 h2 h3 => by
    rw [e2, e1]
    unfold uA
    rw [if_neg (fun q => h3 ⟨by omega, by omega⟩), if_neg (fun q => h3 ⟨by omega, by omega⟩)]
  have d24 : A2 24 p.toNat = dc := by
    rw [e2]
    exact uA_eq
  have d23 : A2 23 p.toNat = s0 := by
    rw [e2, e1]
    exact (congrFun (uA_ne (by decide)) _).trans uA_eq
  unfold wP
  rw [d24, d23, ← ht]
  refine ⟨hl, hp, hs0, rfl, hdc, hts, wD_fx sg (by omega) hd, ?_⟩
  exact wSt_ag h0 hl hp (by omega) hs ay sg qg (fun V e a b u v w => wP_in w) (fun V_q e a b u v w1 w2 w3 w4 w5 => wP_ag sg qg (by omega) (by omega) (Ax_ag (Ag_ay ay (by omega) w2 (.inl w1))) w5) h
theorem NX_r {A A_q : Nat → Nat → Int} {e v : Int} {r m : Nat} (e0 : A_q = uA A r m v) (hr : r ≠ 22) (h : NX A e) : NX A_q e := by
  unfold NX at h ⊢
  rw [e0, congrFun (uA_ne (fun q => hr q.symm)) _]
  exact h
theorem wD_tr {A : Nat → Nat → Int} {s0 s1 s2 : Int} (h : wD A s0 s1) (h2 : wD A s1 s2) : wD A s0 s2 := fun s g1 g2 => by
  by_cases hc : (s : Int) < s1
  · exact h s g1 hc
  · exact h2 s (by omega) g2
theorem DS_app {A : Nat → Nat → Int} {v0 v1 v2 s0 s1 s2 : Int} (h : DS A v0 v1 s0 s1) (h2 : DS A v1 v2 s1 s2) (h01 : s0 ≤ s1) (h12 : s1 ≤ s2) : DS A v0 v2 s0 s2 := DS_tr (DS_wd h (Int.le_refl _) h12) (DS_wd h2 h01 (Int.le_refl _))
theorem wP_eq {A : Nat → Nat → Int} {sb pb : Int} {n m : Nat} {V V_q : Nat → Prop} {p p_q lo lo_q hi hi_q s0 s0' s1 s1' : Int} (h : wP A sb pb n V p lo hi s0 s1) (hn : n ≤ m) (hV : V = V_q) (h1 : p = p_q) (h2 : lo = lo_q) (h3 : hi = hi_q) (h4 : s0 = s0') (h5 : s1 = s1') (h6 : sb ≤ s1') : wP A s1' pb m V_q p_q lo_q hi_q s0' s1' := by
  subst hV h1 h2 h3 h4 h5
  exact wP_sb h6 hn h
/-- a row whose number of members isn't kept -/
def CI (t : Nat) (A : Nat → Nat → Int) (sb pb : Int) (k : Nat) (V : Nat → Prop) (n last lo hi s0 s1 : Int) : Prop := ∃ many, CL t A sb pb k V n last many lo hi s0 s1 ∧ (last = 0 ∨ 1 ≤ many) ∧ 0 ≤ many
theorem CI_nil {t : Nat} {A : Nat → Nat → Int} {sb pb : Int} {k : Nat} {V : Nat → Prop} {n lo hi s0 s1 : Int} (h : A 21 n.toNat = 0) (h1 : lo = hi) (h2 : s0 = s1) : CI t A sb pb k V n 0 lo hi s0 s1 := by
  subst h1 h2
  exact ⟨0, CL_nil h, .inl rfl, Int.le_refl _⟩
theorem CI_sb {t : Nat} {A : Nat → Nat → Int} {sb sb_q pb : Int} {k : Nat} {V : Nat → Prop} {n last lo hi s0 s1 : Int} (hs : sb ≤ sb_q) (h : CI t A sb pb k V n last lo hi s0 s1) : CI t A sb_q pb k V n last lo hi s0 s1 := by
  obtain ⟨m, h1, h2⟩ := h
  exact ⟨m, CL_sb hs h1, h2⟩
theorem CI_ag {t : Nat} {A A_q : Nat → Nat → Int} {sb pb : Int} {k : Nat} {V : Nat → Prop} {n last lo hi s0 s1 : Int} (h0 : 0 ≤ lo) (hv : s1 ≤ sb) (sg : Sg sb A A_q) (qg : Qg pb A A_q) (ag : Ag lo hi A A_q) (hn : A_q 21 n.toNat = A 21 n.toNat) (h : CI t A sb pb k V n last lo hi s0 s1) : CI t A_q sb pb k V n last lo hi s0 s1 := by
  obtain ⟨m, h1, h2⟩ := h
  exact ⟨m, CL_ag h0 hv sg qg ag hn h1, h2⟩
theorem CI_one {t : Nat} {A A_q : Nat → Nat → Int} {sb pb : Int} {k : Nat} {V : Nat → Prop} {n last lo hi hi2 s0 s1 s2 y : Int} (e0 : A_q = uA A 21 n.toNat y) (hl : last = 0) (h0 : 0 ≤ n) (hn : n < lo) (hh : hi ≤ hi2) (hs : s1 ≤ s2) (hv : s2 ≤ sb) (hy : RQ t A sb pb k V y hi hi2 s1 s2) (hx : NX A y) (h : CI t A sb pb k V n last lo hi s0 s1) : CI t A_q sb pb k V n y lo hi2 s0 s2 := by
  obtain ⟨m, h1, h2, h3⟩ := h
  exact ⟨m + 1, CL_one e0 hl h0 hn hh hs hv hy hx h1, .inr (by omega), by omega⟩
theorem CI_two {t : Nat} {A A_q : Nat → Nat → Int} {sb pb : Int} {k : Nat} {V : Nat → Prop} {n last lo hi hi2 s0 s1 s2 y : Int} (e0 : A_q = uA A 22 last.toNat y) (hl : 0 < last) (h0 : 0 ≤ lo) (hh : hi ≤ hi2) (hs : s1 ≤ s2) (hv : s2 ≤ sb) (hy : RQ t A sb pb k V y hi hi2 s1 s2) (hx : NX A y) (h : CI t A sb pb k V n last lo hi s0 s1) : CI t A_q sb pb k V n y lo hi2 s0 s2 := by
  obtain ⟨m, h1, h2, h3⟩ := h
  exact ⟨m + 1, CL_two e0 hl h0 hh hs hv hy hx h1, .inr (by omega), by omega⟩
theorem wS_ifc {A : Nat → Nat → Int} {sb pb : Int} {n : Nat} {V : Nat → Prop} {p a b c d f x last lo hi t0 s1 : Int} (h : ND A p 30 a b c d f x) (r : CI 1 A sb pb n V p last (p + 1) hi t0 s1) (hl : last ≠ 0) : wSt A sb pb (wP A sb pb n) V p lo hi t0 s1 := by
  obtain ⟨m, h1, h2, _⟩ := r
  exact wS_if h (RL_cl h1) (by omega)
theorem RL_eq {t : Nat} {A : Nat → Nat → Int} {sb sb_q pb : Int} {k : Nat} {V : Nat → Prop} {n many lo hi s0 many' lo_q hi_q s0' : Int} (h : RL t A sb pb k V n many lo hi s0 sb) (h1 : many = many') (h2 : lo = lo_q) (h3 : hi = hi_q) (h4 : s0 = s0') (h5 : sb = sb_q) : RL t A sb_q pb k V n many' lo_q hi_q s0' sb_q := by
  subst h1 h2 h3 h4 h5
  exact h
theorem CI_eq {t : Nat} {A : Nat → Nat → Int} {sb pb : Int} {k : Nat} {V : Nat → Prop} {n last lo hi s0 s1 last' lo_q hi_q s0' s1' : Int} (h : CI t A sb pb k V n last lo hi s0 s1) (h1 : last = last') (h3 : lo = lo_q) (h4 : hi = hi_q) (h5 : s0 = s0') (h6 : s1 = s1') : CI t A sb pb k V n last' lo_q hi_q s0' s1' := by
  subst h1 h3 h4 h5 h6
  exact h
theorem wL_eq {A : Nat → Nat → Int} {sb pb : Int} {V : Nat → Prop} {p lo hi lo_q hi_q : Int} (h : wL A sb pb V p lo hi) (h1 : lo = lo_q) (h2 : hi = hi_q) : wL A sb pb V p lo_q hi_q := by
  subst h1 h2
  exact h
theorem wU_eq {A : Nat → Nat → Int} {V : Nat → Prop} {sb e lo hi lo_q hi_q : Int} (h : wU A V sb e lo hi) (h1 : lo = lo_q) (h2 : hi = hi_q) : wU A V sb e lo_q hi_q := by
  subst h1 h2
  exact h
theorem wU_sb {A : Nat → Nat → Int} {V : Nat → Prop} {sb sb_q e lo hi : Int} (hs : sb ≤ sb_q) (h : wU A V sb e lo hi) : wU A V sb_q e lo hi := by
  obtain ⟨h1, h2, h3, h4⟩ := h
  refine ⟨h1, h2, h3, ?_⟩
  rcases h4 with ⟨g1, a, g2, g3, g4, g5⟩ | ⟨g1, g2⟩ | ⟨a, b, g1, g2, g3, g4, g5, g6⟩
  · exact .inl ⟨g1, a, g2, g3, wR_sb hs g4, wR_sb hs g5⟩
  · exact .inr (.inl ⟨g1, wE_sb hs g2⟩)
  · exact .inr (.inr ⟨a, b, g1, g2, g3, wE_sb hs g4, wR_sb hs g5, wR_sb hs g6⟩)
theorem ND_ae {A : Nat → Nat → Int} {n k a a_q b c d f x : Int} (h : ND A n k a b c d f x) (e : a = a_q) : ND A n k a_q b c d f x := e ▸ h
theorem wP_vu {A : Nat → Nat → Int} {sb pb : Int} {n : Nat} {V : Nat → Prop} {p lo hi s0 s1 a a_q : Int} (e : a = a_q) (h : wP A sb pb n (Vu V a) p lo hi s0 s1) : wP A sb pb n (Vu V a_q) p lo hi s0 s1 := e ▸ h
