/-! what is used in a process; rows, loops, choices -/
abbrev Us := Int → Int → Int → Int → Prop
/-- the uses in a statement are allowed (Bu: what a PROC does with its parameter; R: the processes in it) -/
def uS (T : Nat → Nat → Int) (Bu : Int → Int) (R : (Int → Int) → Us → Int → Prop) (S : Int → Int) (U : Us) (p : Int) : Prop :=
  (T 15 p.toNat = 23 → uC T S U (T 17 p.toNat) 4) ∧ (T 15 p.toNat = 24 → uC T S U (T 17 p.toNat) 8) ∧
  (T 15 p.toNat = 25 → ∀ l, CH T (T 21 p.toNat) l → (∀ a ∈ l, T 7 (T 18 a.toNat).toNat = 8 → Bu (T 18 a.toNat) ≠ 0 → uC T S U (T 17 a.toNat) (Bu (T 18 a.toNat))) ∧ ∀ a ∈ l, ∀ b ∈ l, a ≠ b → T 7 (T 18 a.toNat).toNat = 8 → T 7 (T 18 b.toNat).toNat = 8 → Bu (T 18 a.toNat) ≠ 0 → Bu (T 18 b.toNat) ≠ 0 → NMt T (Rf S) (T 17 a.toNat) (T 17 b.toNat)) ∧
  (T 15 p.toNat = 26 → ∀ l, CH T (T 21 p.toNat) l → ∀ c ∈ l, R S U c) ∧ (T 15 p.toNat = 27 ∨ T 15 p.toNat = 31 → R S U (T 21 p.toNat)) ∧ (T 15 p.toNat = 30 → ∀ l, CH T (T 21 p.toNat) l → ∀ c ∈ l, R S U (T 21 c.toNat)) ∧
  (T 15 p.toNat = 32 → ∀ l, CH T (T 21 p.toNat) l → ∀ g ∈ l, (0 < T 18 g.toNat → uC T S U (T 18 g.toNat) 8) ∧ R S U (T 21 g.toNat)) ∧
  (T 15 p.toNat = 28 ∨ T 15 p.toNat = 29 → ∃ L : Nat → List (Int × Int × Int × Int), (∀ i : Nat, (i : Int) < mny T p → R (sB T S p i) (fun s al e b => (s, al, e, b) ∈ L i) (kid T p i) ∧ ∀ u ∈ L i, u.1 < T 23 p.toNat + T 24 p.toNat → U u.1 u.2.1 u.2.2.1 u.2.2.2) ∧ ∀ i j : Nat, (i : Int) < mny T p → (j : Int) < mny T p → i ≠ j → ∀ u ∈ L i, ∀ w ∈ L j, u.1 = w.1 → u.1 < T 23 p.toNat + T 24 p.toNat → (u.2.1 = 1 ∨ w.2.1 = 1 ∨ u.2.2.1 = w.2.2.1 ∨ T 7 u.1.toNat ≠ 4) → NC u.2.2.2 w.2.2.2)
def uP (T : Nat → Nat → Int) (Bu : Int → Int) : Nat → (Int → Int) → Us → Int → Prop
  | 0, _, _, _ => True
  | n + 1, S, U, p => uS T Bu (uP T Bu n) S (Ud U (T 23 p.toNat) (T 23 p.toNat + T 24 p.toNat)) p
/-- processes one behind the other -/
theorem gLs_g {C : Nat → Nat → Int} {N : Int} {P : Int → Cx → Prop} {c : Cx} {R : Int → Int → Int → Int → Int → Prop} (hle : ∀ e a b u v, R e a b u v → a ≤ b) : ∀ {l : List Int} {k k_q l0 l1 : Int}, gLs R l k k_q l0 l1 → k_q ≤ N → (∀ e ∈ l, ∀ a b u v, R e a b u v → b ≤ k_q → Gd (Kc C) N P b c → Gd (Kc C) N P a c) → Gd (Kc C) N P k_q c → Gd (Kc C) N P k c
  | [], _, _, _, _, h, _, _, g => by
    have h : _ = _ := h.1
    subst h
    exact g
  | e :: l, k, k_q, l0, l1, h, hk, hR, g => by
    obtain ⟨a, m, h1, h2, h3, h4⟩ := h
    have := gLs_le hle h4
    exact hR e List.mem_cons_self _ _ _ _ h3 this (gLs_g hle h4 hk (fun e_q he' => hR e_q (List.mem_cons_of_mem _ he')) g)
theorem CH_u {T : Nat → Nat → Int} : ∀ {u v : List Int} {c : Int}, CH T c u → CH T c v → u = v
  | [], [], _, _, _ => rfl
  | [], e :: v, c, h, g => by
    have h : c = 0 := h
    have := g.1
    have := g.2.1
    omega
  | e :: u, [], c, h, g => by
    have g : c = 0 := g
    have := h.1
    have := h.2.1
    omega
  | e :: u, e_q :: v, c, h, g => by
    obtain ⟨h1, h2, h3⟩ := h
    obtain ⟨g1, g2, g3⟩ := g
    have : e = e_q := h1.symm.trans g1
    subst this
    rw [CH_u h3 g3]
/-- all pieces of the children -/
theorem gQ_l {T : Nat → Nat → Int} {R : Int → Int → Int → Int → Int → Prop} {n k k_q l0 l1 : Int} {l : List Int} (h : gQ T R n 0 k k_q l0 l1) (hl : CH T (T 21 n.toNat) l) : gLs R l k k_q l0 l1 := by
  obtain ⟨u, v, h1, h2, h3⟩ := h
  cases v with
  | nil =>
    rw [List.append_nil] at h1
    rw [CH_u hl h1]
    exact h3
  | cons e v =>
    have := h2.1
    have := h2.2.1
    omega
theorem Gd_x {K : Kd} {N : Int} {P P' : Int → Cx → Prop} {j : Int} {c : Cx} (h : Gd K N P j c) (hp : ∀ i d, P i d → P' i d) : Gd K N P' j c := by
  obtain ⟨Ty, h1, h2⟩ := h
  refine ⟨Ty, h1, fun i d q => ?_⟩
  obtain ⟨e, w, q | q⟩ := h2 i d q
  · exact ⟨e, w, Or.inl (hp _ _ q)⟩
  · exact ⟨e, w, Or.inr q⟩
/-- WHILE -/
theorem gWh_g {T C : Nat → Nat → Int} {F S : Int → Int} {nw N : Int} {V : Nat → Prop} {U : Us} {P : Int → Cx → Prop} {R : Int → Int → Int → Int → Int → Prop} {p k k_q l0 l1 f : Int} {c : Cx} (hE : En T F nw V U c f) (h : gWh T C F S nw R p k k_q l0 l1) (hl : lE T 22 (T 17 p.toNat) f (cZ c)) (hk : k_q ≤ N) (hle : ∀ e a b u v, R e a b u v → a ≤ b) (hR : ∀ P a b u v, R (T 21 p.toNat) a b u v → b ≤ N → Gd (Kc C) N P b c → Gd (Kc C) N P a c) (g : Gd (Kc C) N P k_q c) : Gd (Kc C) N P k c := by
  obtain ⟨a, b, d, m1, m2, _, _, _, h1, h2, h3, h4⟩ := h
  obtain ⟨i1, i2, i3, i4⟩ := JP_k h2
  obtain ⟨j1, j2, j3, j4⟩ := JP_k h4
  have le3 := hle _ _ _ _ _ h3
  obtain ⟨ra, rb, rd, m, dw, bf, f1⟩ := En_r hE
  have nm : cMd c ≠ 1 := by omega
  have wf := En_w hE
  have ec : sR c r0 r0 r0 = c := (En_i hE).symm
  refine Gd_l (gE_0 (P := fun i d => P i d ∨ (i = k ∧ d = c)) hE (by omega) h1 hl (Int.le_refl _) (by omega) (Gs_d (Gs_cj i2 i1 (by omega) wf i3 i4 ?_ (Gd_x g (fun i e q => Or.inl q)))))
  rw [rb, rd, ec]
  refine hR _ _ _ _ _ h3 (by omega) (Gs_d (Gs_j j2 (by omega) wf j3 m j4 (Gd_p (e := c) ?_ (Or.inr ⟨rfl, rfl⟩))))
  have : a0 c = c := ec
  rw [this]
  exact Wkr_r wf
/-- IF: the choices -/
theorem gIc_g {T C : Nat → Nat → Int} {F S : Int → Int} {nw N : Int} {V : Nat → Prop} {U : Us} {P : Int → Cx → Prop} {R : Int → Int → Int → Int → Int → Prop} {le e k k_q l0 l1 f : Int} {c : Cx} (hE : En T F nw V U c f) (h : gIc T C F S nw R le e k k_q l0 l1) (hl : lE T 22 (T 17 e.toNat) f (cZ c)) (hk : k_q ≤ N) (hle : ∀ e a b u v, R e a b u v → a ≤ b) (hR : ∀ a b u v, R (T 21 e.toNat) a b u v → b ≤ N → Gd (Kc C) N P b c → Gd (Kc C) N P a c) (hp : 0 < le) {t : Int} (ht : C 50 le.toNat = t) (g : Gd (Kc C) N P k_q c) (g2 : Gd (Kc C) N P t c) : Gd (Kc C) N P k c := by
  obtain ⟨a, b, d, m1, m2, _, _, _, h1, h2, h3, h4⟩ := h
  obtain ⟨i1, i2, i3, i4⟩ := JP_k h2
  obtain ⟨j1, j2, j3, j4⟩ := WY_k h4 hp ht
  have le3 := hle _ _ _ _ _ h3
  obtain ⟨ra, rb, rd, m, dw, bf, f1⟩ := En_r hE
  have wf := En_w hE
  have ec : sR c r0 r0 r0 = c := (En_i hE).symm
  refine Gs_d (gE_0 hE (by omega) h1 hl (Int.le_refl _) (by omega) (Gs_d (Gs_cj i2 i1 (by omega) wf i3 i4 ?_ g)))
  rw [rb, rd, ec]
  refine hR _ _ _ _ h3 (by omega) (Gs_d (Gs_j j2 (by omega) wf j3 m j4 ?_))
  have : a0 c = c := ec
  rw [this]
  exact g2
theorem gIf_g {T C : Nat → Nat → Int} {F S : Int → Int} {nw N : Int} {V : Nat → Prop} {U : Us} {P : Int → Cx → Prop} {R : Int → Int → Int → Int → Int → Prop} {p k k_q l0 l1 f : Int} {c : Cx} {l : List Int} (hE : En T F nw V U c f) (h : gIf T C F S nw R p k k_q l0 l1) (hc : CH T (T 21 p.toNat) l) (hl : ∀ e ∈ l, lE T 22 (T 17 e.toNat) f (cZ c)) (hk : k_q ≤ N) (hle : ∀ e a b u v, R e a b u v → a ≤ b) (hR : ∀ e ∈ l, ∀ a b u v, R (T 21 e.toNat) a b u v → b ≤ N → Gd (Kc C) N P b c → Gd (Kc C) N P a c) (g : Gd (Kc C) N P k_q c) : Gd (Kc C) N P k c := by
  obtain ⟨le, a, m, _, _, ⟨p0, _, _, p1⟩, h1, h2⟩ := h
  obtain ⟨i1, i2, i3, i4⟩ := ST_k h2
  obtain ⟨ra, rb, rd, md, dw, bf, f1⟩ := En_r hE
  have leI : ∀ e x y u v, gIc T C F S nw R le e x y u v → x ≤ y := fun e x y u v q => by
    obtain ⟨a, b, d, m1, m2, _, _, _, q1, q2, q3, q4⟩ := q
    have := gE_le q1
    have := (JP_k q2).1
    have := hle _ _ _ _ _ q3
    have := WY_le q4
    omega
  refine gLs_g leI (gQ_l h1 hc) (by omega) (fun e he x y u v q hy gy => gIc_g hE q (hl e he) (by omega) hle (hR e he) p0 p1 gy g) (Gs_d (Gs_stp i2 (by omega) (En_w hE) i3 (Or.inr i4) md))
/-- SEQ FOR -/
theorem gFo_g {T C : Nat → Nat → Int} {F S : Int → Int} {nw N : Int} {V : Nat → Prop} {U : Us} {P : Int → Cx → Prop} {R : Int → Int → Int → Int → Int → Prop} {p k k_q l0 l1 f : Int} {c : Cx} (hE : En T F nw V U c f) (h : gFo T C F S nw R p k k_q l0 l1) (hi : T 9 (T 17 p.toNat).toNat = f) (hz : f + 2 ≤ cZ c) (hx : lE T 22 (T 19 p.toNat) (f + 2) (cZ c)) (hy : lE T 22 (T 20 p.toNat) (f + 2) (cZ c)) (hk : k_q ≤ N) (hle : ∀ e a b u v, R e a b u v → a ≤ b) (hR : ∀ P a b u v, R (T 21 p.toNat) a b u v → b ≤ N → Gd (Kc C) N P b c → Gd (Kc C) N P a c) (g : Gd (Kc C) N P k_q c) : Gd (Kc C) N P k c := by
  obtain ⟨a, b, d0, d, e, f0, gg, hh, m2, m3, m4, _, _, _, _, h1, h2, h3, h4, h5, h6, h7, h8, h9⟩ := h
  rw [hi] at h2 h4 h5 h8
  obtain ⟨y1, h5a, y2, h5b, y3, h5c, h5d⟩ := h5
  have h5d : e = y3 := h5d
  obtain ⟨x1, g1, x2, g2, x3, g3, x4, g4, x5, g5, x6, g6, g7⟩ := h8
  have g7 : hh = x6 := g7
  obtain ⟨i1, i2, i3, i4⟩ := ST_k h2
  obtain ⟨j1, j2, j3, j4⟩ := ST_k h4
  obtain ⟨p1, p2, p3, p4⟩ := ST_k h5a
  obtain ⟨q1, q2, q3, q4⟩ := ST_k h5b
  obtain ⟨r1, r2, r3, r4⟩ := ST_k h5c
  obtain ⟨t1, t2, t3, t4⟩ := JP_k h6
  obtain ⟨u1, u2, u3, u4⟩ := ST_k g1
  obtain ⟨v1, v2, v3, v4⟩ := ST_k g2
  obtain ⟨w1, w2, w3, w4⟩ := ST_k g3
  obtain ⟨z1, z2, z3, z4⟩ := ST_k g4
  obtain ⟨o1, o2, o3, o4⟩ := ST_k g5
  obtain ⟨n1, n2, n3, n4⟩ := ST_k g6
  obtain ⟨k1, k2, k3, k4⟩ := JP_k h9
  have le7 := hle _ _ _ _ _ h7
  have le3 := gE_le h3
  obtain ⟨ra, rb, rd, md, dw, bf, f1⟩ := En_r hE
  have nm : cMd c ≠ 1 := by omega
  have wf := En_w hE
  have ec : sR c r0 r0 r0 = c := (En_i hE).symm
  have fr : ∀ o, f ≤ o → o + 1 ≤ cZ c → ∀ {x y z : Rt}, New (sR c x y z) o (cCp c) := fun o o1 o2 {x y z} => Or.inr ⟨Bf_f (c := sR c x y z) bf f1 o1 o2 (by omega), Or.inl rfl⟩
  have wfr : ∀ {x y z : Rt}, x = r0 → y = r0 → z = r0 → Wf (sR c x y z) := fun {x y z} e1 e2 e3 => by
    subst e1 e2 e3
    exact Wf_m s0 s0 s0 nm
  have back : ∀ {Q : Int → Cx → Prop} {j : Int} {x y z : Rt}, Gd (Kc C) N Q j c → Gd (Kc C) N Q j (sR c x y z) := fun {Q j x y z} q => by
    rw [← ec] at q
    exact Gd_r nm q
  -- the loop
  have loop : Gd (Kc C) N P d c := by
    refine Gd_l ?_
    rw [← ec]
    refine Gs_psh (t := r0) p2 p1 (by omega) (wfr rfl rfl rfl) (Or.inr (Or.inr (Or.inl ⟨p3, dw, Or.inr rfl⟩))) (Gs_d (Gs_psh (t := r0) q2 q1 (by omega) (Wf_m s0 s0 s0 nm) (Or.inl ⟨q3, Or.inr rfl⟩) (Gs_d (Gs_two (t := r0) r2 r1 (by omega) (Wf_m s0 s0 s0 nm) r3 (by omega) (by omega) md (Or.inl rfl) ?_))))
    rw [← h5d]
    refine Gs_d (Gs_cj (c := sR c r0 r0 r0) t2 t1 (by omega) (wfr rfl rfl rfl) t3 t4 ?_ (back (Gd_x g (fun i e q => Or.inl q))))
    refine back (hR _ _ _ _ _ h7 (by omega) ?_)
    rw [← ec]
    refine Gs_d (Gs_psh (t := r0) u2 u1 (by omega) (wfr rfl rfl rfl) (Or.inr (Or.inr (Or.inl ⟨u3, dw, Or.inr rfl⟩))) (Gs_d (Gs_any v2 v1 (by omega) (Wf_m s0 s0 s0 nm) (Or.inr (Or.inr (Or.inl v3))) (Gs_d (Gs_stl (l := cCp c) w2 w1 (by omega) (Wf_m s0 s0 s0 nm) w3 dw md (by rw [w4]; exact fr f (Int.le_refl _) (by omega)) ?_)))))
    refine Gs_d (Gs_psh (c := sR c r0 r0 r0) (t := r0) z2 z1 (by omega) (wfr rfl rfl rfl) (Or.inr (Or.inr (Or.inl ⟨z3, dw, Or.inr rfl⟩))) (Gs_d (Gs_any o2 o1 (by omega) (Wf_m s0 s0 s0 nm) (Or.inr (Or.inr (Or.inl o3))) (Gs_d (Gs_stl (l := cCp c) n2 n1 (by omega) (Wf_m s0 s0 s0 nm) n3 dw md (by rw [n4]; exact fr (f + 1) (by omega) (by omega)) ?_)))))
    rw [← g7]
    refine Gs_d (Gs_j (c := sR c r0 r0 r0) k2 (by omega) (wfr rfl rfl rfl) k3 md k4 (Gd_p (e := sR c r0 r0 r0) ?_ (Or.inr ⟨rfl, rfl⟩)))
    exact Wkr_r (wfr rfl rfl rfl)
  refine Gs_d (gE_0 hE (by omega) h1 hx (by omega) (by omega) (Gs_d (Gs_stl (l := cCp c) i2 i1 (by omega) wf i3 dw md (by rw [i4, ← ec]; exact fr f (Int.le_refl _) (by omega)) ?_)))
  refine back ?_
  exact Gs_d (gE_0 hE (by omega) h3 hy (by omega) (by omega) (Gs_d (Gs_stl (l := cCp c) j2 j1 (by omega) wf j3 dw md (by rw [j4, ← ec]; exact fr (f + 1) (by omega) (by omega)) (back loop))))
