/-! EACH RULE AS A STEP: a branch is started -/
theorem Nxs_t {K : Kd} {N : Int} {ty m m1 : Int → Int} {g g1 : Int → Fm} {A_q : Nat → Nat → Int} {p : Int} (l : Lst ty m g m1 g1) (h : Nxs K N ty g1 m1 A_q p) : Nxs K N ty g m A_q p := by
  obtain ⟨ty_q, g_q, n1, n2, n3, n4⟩ := h
  exact ⟨ty_q, g_q, n1, n2, n3, Lst_t l (fun _ _ => rfl) n4⟩
theorem aw_ne {K : Kd} {N : Int} {m ty : Int → Int} {g : Int → Fm} {V W : Int} (h : MI K N m ty g) (v1 : fOn (g V) = 1) (v2 : fSu (g V) = 2) (w1 : fOn (g W) = 1) (w2 : fSu (g W) = 2) (n : V ≠ W) : fAw (g V) ≠ fAw (g W) := by
  have tv := (h.1 V v1).2.1.2.2.2.2.2 v2
  have tw := (h.1 W w1).2.1.2.2.2.2.2 w2
  obtain ⟨a1, a2, a3, a4, a5, a6, a7⟩ := (h.1 V v1).1
  obtain ⟨b1, b2, b3, b4, b5, b6, b7⟩ := (h.1 W w1).1
  rcases h.2.1 V W v1 w1 n with q | q | q
  · have := q.1
    omega
  · have := q.2.1
    omega
  · have := q.2.1
    omega
/-- another frame's own words -/
theorem oth_u {K : Kd} {N : Int} {m ty : Int → Int} {g : Int → Fm} {U W : Int} (h : MI K N m ty g) (hU : fOn (g U) = 1) (hW : fOn (g W) = 1) (n : W ≠ U) : ∀ y, W - 3 ≤ y → y < fHi (g W) → ¬ (U - 3 ≤ y ∧ y ≤ U) := fun y y1 y2 y3 => by
  obtain ⟨a1, a2, a3, a4, a5, a6, a7⟩ := (h.1 U hU).1
  obtain ⟨b1, b2, b3, b4, b5, b6, b7⟩ := (h.1 W hW).1
  rcases h.2.1 W U hW hU n with q | q | q
  · have := q.1
    omega
  · have := q.2.1
    omega
  · have := q.2.1
    omega
theorem Oky_u {K : Kd} {N : Int} {m ty m_q : Int → Int} {g : Int → Fm} {U : Int} (h : MI K N m ty g) (x : X2 g) (hU : fOn (g U) = 1) (c : ∀ y, m_q y ≠ m y → ty y = 1 ∨ ty y = 2 ∨ ty y = 5 ∨ (ty y = 6 ∧ U - 3 ≤ y ∧ y ≤ U)) : Oky m m_q g U := fun W hW n => by
  refine ⟨?_, fun o k => ?_⟩
  · obtain ⟨t, y1, y2⟩ := fR_6 h hW
    by_cases e : m_q (fR g W - 1) = m (fR g W - 1)
    · exact e
    · rcases c _ e with q | q | q | q
      · omega
      · omega
      · omega
      · exact absurd q.2 (oth_u h hU hW n _ (by omega) y2)
  · obtain ⟨t, k_q, cl⟩ := Kpt_t h x hW k
    by_cases e : m_q (W + o) = m (W + o)
    · exact e
    · rcases c _ e with q | q | q | q
      · omega
      · omega
      · omega
      · omega
/-- V becomes ready, r is as it was or something else that is not ready: what SK_ad and SX_mk ask for -/
theorem SK_two {K : Kd} {N : Int} {ty : Int → Int} {g G : Int → Fm} {A A4 : Nat → Nat → Int} {p V r : Int} (h : SK K N ty g A p) (hV : fOn (g V) = 1) (hV1 : fSx (g V) ≠ 1) (o : ∀ W, fOn (g W) = 1 → W ≠ r → W ≠ V → ldM A4 p (fR g W - 1) = ldM A p (fR g W - 1) ∧ ∀ o, Kpt (cCp (fCx (g W))) o → ldM A4 p (W + o) = ldM A p (W + o)) (gr : fOn (G r) = 1 → fSx (G r) ≠ 1) (go : ∀ W, W ≠ r → W ≠ V → G W = g W)
    (fv : fR G V = fR g V) (rv : Rst K (ldM A4 p) G V) (e71 : A4 71 = A 71) (e72 : A4 72 = A 72) (e73 : A4 73 = A 73) (e74 : A4 74 = A 74) (e75 : A4 75 = A 75) (e76 : A4 76 = A 76) (e77 : A4 77 = A 77) :
    (∀ W, fOn (G W) = 1 → fSx (G W) = 1 → ¬ Asd G A4 p W → Rst K (ldM A4 p) G W) ∧ (A4 73 p.toNat ≠ 0 → 0 < A4 72 (2 * p + 1).toNat) ∧
    (∀ W, fOn (G W) = 1 → fSx (G W) = 1 → Asd G A4 p W → Psx K (G W) (ldM A4 p (fR G W - 1)) (A4 77 p.toNat) ∧ Rgs (ldM A4 p) G W (A4 74 p.toNat) (A4 75 p.toNat) (A4 76 p.toNat)) := by
  obtain ⟨hM, hR0, hR1, hS1, hS2, hS3⟩ := h
  have nr : ∀ W, fOn (G W) = 1 → fSx (G W) = 1 → W ≠ r := fun W w1 w2 e => by
    subst e
    exact gr w1 w2
  have fr : ∀ W, W ≠ r → W ≠ V → fR G W = fR g W := fun W n n_q => by
    show W + cDw (fCx (G W)) = W + cDw (fCx (g W))
    rw [go W n n_q]
  have as : ∀ W, W ≠ r → W ≠ V → (Asd G A4 p W ↔ Asd g A p W) := fun W n n_q => by
    unfold Asd rw0
    rw [fr W n n_q, go W n n_q, e71, e73]
  rw [e72, e73, e74, e75, e76, e77]
  refine ⟨fun W w1 w2 w3 => ?_, hS2, fun W w1 w2 w3 => ?_⟩
  · by_cases n_q : W = V
    · subst n_q
      exact rv
    · have n := nr W w1 w2
      rw [as W n n_q] at w3
      have gw := go W n n_q
      rw [gw] at w1 w2
      obtain ⟨s1, s2, s3⟩ := hS1 W w1 w2 w3
      unfold Rst
      rw [fr W n n_q, gw]
      exact ⟨(o W w1 n n_q).1.trans s1, s2, s3⟩
  · by_cases n_q : W = V
    · subst n_q
      exfalso
      obtain ⟨k1, _, k3⟩ := w3
      rw [e73] at k1
      have k3' : A 71 (1100 * (2 * p + 1) + 0).toNat = 2 * fR g W + 1 := by
        rw [← e71, ← fv]
        exact k3
      obtain ⟨V0, v1, v2, v3, v4⟩ := hR1.2.1 0 (by omega) (hS2 k1)
      have v1' : A 71 (1100 * (2 * p + 1) + 0).toNat = 2 * fR g V0 + 1 := v1
      have := W_far hM v2 hV (fun e => by subst e; omega)
      omega
    · have n := nr W w1 w2
      rw [as W n n_q] at w3
      have gw := go W n n_q
      rw [gw] at w1 w2
      obtain ⟨s1, s2⟩ := hS3 W w1 w2 w3
      have q := Rgs_m hM w1 (o W w1 n n_q).2 s2
      unfold Rgs at q ⊢
      rw [fr W n n_q, gw]
      refine ⟨?_, q⟩
      rw [(o W w1 n n_q).1]
      exact s1
section
variable {K : Kd} {N : Int} {ty : Int → Int} {g : Int → Fm} {A A_q : Nat → Nat → Int} {p r : Int}
theorem SF_s2 (h : SF K N ty g A p r) (hd : cMd (fCx (g r)) = 2) : fSu (g r) = 2 := by
  obtain ⟨a1, a2, a3, a4, a5, a6⟩ := h.1.1.1 r h.2.2.1.1
  by_cases u0 : fSu (g r) = 0
  · exact absurd hd (a4.2.2.2.1 u0)
  · by_cases u1 : fSu (g r) = 1
    · have := (a4.2.2.1 u1).2.1
      omega
    · have b0 := a1.2.2.2.2.2.2.2.2.2.2.2.1
      have b2 := a1.2.2.2.2.2.2.2.2.2.2.2.2
      omega
theorem ru_stp {it im om d t : Int} {l : List (Int × Int)} (s : Sby K N) (kb : Kb K) (hp : 0 ≤ p) (h : SF K N ty g A p r) (kv : kV K (fSt (g r)) = 15 ∨ kV K (fSt (g r)) = 16) (hd : cMd (fCx (g r)) = 2) (pe : cPe (fCx (g r)) = (d, t) :: l) (hl : kV K (fSt (g r)) = 16 → l ≠ []) (ca : cA (fCx (g r)) = (2, -d, 1)) (cb : (cB (fCx (g r))).1 = 5) (cb' : (cB (fCx (g r))).2.1 = kP K t)
    (o1 : Gd K N (fun _ _ => False) (fSt (g r) + 1) (sM (sR (fCx (g r)) (cC (fCx (g r))) (cC (fCx (g r))) (cC (fCx (g r)))) (2, l, cWs (fCx (g r))))) (ha : opR A A_q it im om p (kV K (fSt (g r)))) : Nxs K N ty g (ldM A p) A_q p := by
  have hu := SF_s2 h hd
  obtain ⟨hS, x, ⟨z1, z2, z3, z4, z5, z6, z7, z8⟩, u⟩ := h
  obtain ⟨a, b, n, bb, dd, v1, v2, A1, A2, A3, A4, _, hA, hB, hr, hv1, hv2, s1, s2, t1, t2, hq, hdd, mk⟩ := opR_f15 ha kv
  have hM := hS.1
  obtain ⟨a1, a2, a3, a4, a5, a6⟩ := hM.1 r z1
  obtain ⟨b01, b02, b03, b04⟩ := (a6 hu).1 (d, t) (by rw [pe]; exact List.mem_cons_self)
  have pw := (a6 hu).2.1
  rw [pe] at pw
  have pw' := List.pairwise_cons.mp pw
  obtain ⟨U, eU⟩ : ∃ U, U = r - d := ⟨_, rfl⟩
  have B1 : fOn (g U) = 1 := by
    rw [eU]
    exact b01
  have B2 : fSx (g U) = 5 := by
    rw [eU]
    exact b02
  have B3 : fSt (g U) = t := by
    rw [eU]
    exact b03
  have B4 : fPa (g U) = fAw (g r) := by
    rw [eU]
    exact b04
  have nU : U ≠ r := fun e => by
    rw [e] at B2
    omega
  obtain ⟨c1, c2, c3, c4, c5, c6⟩ := hM.1 U B1
  have HU := c1
  obtain ⟨d1, d2, d3, d4, d5, d6, d7⟩ := c1
  have pbr : 0 ≤ fPb (g r) ∧ fPb (g r) ≤ 1 := ⟨a1.2.2.2.2.2.2.2.2.1, a1.2.2.2.2.2.2.2.2.2.1⟩
  have w5 := c4.2.2.2.2.2.2.2.2.2.2.2.2.2.2.2.2 B2
  have w5' := c4.2.2.2.2.2.2.2.2.2.1 (Or.inr (Or.inr (Or.inr B2)))
  obtain ⟨R1, R2, R3⟩ := z7
  rw [ca] at R1
  have q1 : r + -d ≤ A 60 p.toNat ∧ A 60 p.toNat < r + -d + 1 := R1.2.1 rfl (by show -2000000 ≤ r + -d; omega) (by show r + -d + 1 ≤ 2000000; omega)
  have q2 := R2.2.2.2.1 cb
  have bt := kb t
  have ea : a = U := by omega
  have eb : b = kP K t := by omega
  have e1 : v1 = U - 1 := by
    rw [hv1, i32_to (by omega) (by omega)]
    omega
  have e2 : v2 = U - 3 := by
    rw [hv2, i32_to (by omega) (by omega)]
    omega
  have z3' : A 66 p.toNat = 2 * (r + cDw (fCx (g r))) + fPb (g r) := z3
  have bbr : 0 ≤ bb ∧ bb ≤ 1 := by
    rcases hq with hq | hq <;> omega
  have ed : dd = 2 * U + bb := by
    rw [hdd, i32_to (by omega) (by omega)]
    omega
  have sC2 : Sup (cCp (fCx (g r))) (cC (fCx (g r))) := a4.2.2.2.2.2.2.2.2.1
  have c0 := x.1 r z1 hu
  obtain ⟨e, he⟩ : ∃ e, e = sM (sR (fCx (g r)) (cC (fCx (g r))) (cC (fCx (g r))) (cC (fCx (g r)))) (2, l, cWs (fCx (g r))) := ⟨_, rfl⟩
  have hM1 : MI K N (ldM A p) ty (ug g r (ws (g r) 0 (fCh (g r)) (fSt (g r) + 1) e)) := by
    rw [he]
    exact MI_pha hM z1 hu (Or.inl rfl) o1 rfl rfl rfl (fun y hy => by rw [pe]; exact List.mem_cons_of_mem _ hy) pw'.2 ⟨sC2, sC2, sC2⟩ (fun _ _ _ => rfl) (Chs_u hM.2.2 (fun x => Att_0 z2 (by omega)))
  rw [← he] at o1
  obtain ⟨g1, hg1⟩ : ∃ g1, g1 = ug g r (ws (g r) 0 (fCh (g r)) (fSt (g r) + 1) e) := ⟨_, rfl⟩
  rw [← hg1] at hM1
  have g1r : g1 r = ws (g r) 0 (fCh (g r)) (fSt (g r) + 1) e := by
    rw [hg1]
    exact ug_e
  have g1o : ∀ W, W ≠ r → g1 W = g W := fun W n => by
    rw [hg1]
    exact ug_n n
  have g1U := g1o U nU
  have o4 : ∀ k, k ≠ 59 → k ≠ 60 → k ≠ 61 → A4 k = A k := fun k k1 k2 k3 => by
    rw [t2, take_c.2.2 k k2 k3, t1, take_c.2.2 k k2 k3, s2, stM_ne k1, s1, stM_ne k1]
  have em : ldM A4 p = um (um (ldM A p) (U - 1) (kP K t)) (U - 3) 0 := by
    have e59 : A4 59 = A2 59 := by
      rw [t2, take_c.2.2 59 (by decide) (by decide), t1, take_c.2.2 59 (by decide) (by decide)]
    rw [ldM_f (p := p) e59, s2, e2, ld_um hp (by omega) (by omega), s1, e1, ld_um hp (by omega) (by omega), eb]
  have mo : ∀ y, y ≠ U - 1 → y ≠ U - 3 → ldM A4 p y = ldM A p y := fun y y1 y2 => by
    rw [em, um_n y2, um_n y1]
  have t6 := c2
  have hM2 : MI K N (ldM A4 p) ty (ug g1 U (bo (g1 U) bb)) := by
    refine MI_brn hM1 (by rw [g1U]; exact B1) (by rw [g1U]; exact B2) (fun W w1 w2 y hy => ?_) bbr (fun y y1 y2 => mo y (by omega) (by omega)) (fun y hy => ?_)
    · by_cases n : W = r
      · subst n
        rw [g1r] at hy
        have hy' : y ∈ l := by
          rw [he] at hy
          exact hy
        have := pw'.1 y hy'
        have : d ≠ y.1 := this
        omega
      · rw [g1o W n] at w1 w2 hy
        intro ew
        have := ((hM.1 W w1).2.2.2.2.2 w2).1 y hy
        rw [ew] at this
        have := this.2.2.2
        exact aw_ne hM z1 hu w1 w2 (fun e => n e.symm) (by omega)
    · refine mo y (fun e => ?_) (fun e => ?_)
      · rw [e, t6.2.2.1] at hy
        omega
      · rw [e, t6.1] at hy
        omega
  obtain ⟨G, hG⟩ : ∃ G, G = ug g1 U (bo (g1 U) bb) := ⟨_, rfl⟩
  have GU : G U = bo (g U) bb := by
    rw [hG, ug_e, g1U]
  have Gr : G r = ws (g r) 0 (fCh (g r)) (fSt (g r) + 1) e := by
    rw [hG, ug_n (fun q => nU q.symm), g1r]
  have Go : ∀ W, W ≠ r → W ≠ U → G W = g W := fun W n n_q => by
    rw [hG, ug_n n_q, g1o W n]
  have ok : Oky (ldM A p) (ldM A4 p) g U := Oky_u hM x B1 (fun y hy => by
    by_cases y1 : y = U - 1
    · subst y1
      exact Or.inr (Or.inr (Or.inr ⟨t6.2.2.1, by omega, by omega⟩))
    · by_cases y3 : y = U - 3
      · subst y3
        exact Or.inr (Or.inr (Or.inr ⟨t6.1, by omega, by omega⟩))
      · exact absurd (mo y y1 y3) hy)
  have dwU : cDw (fCx (g U)) = 0 := w5.2.2.1
  have fU : fR g U = U := by
    show U + cDw (fCx (g U)) = U
    omega
  have fGU : fR G U = fR g U := by
    show U + cDw (fCx (G U)) = U + cDw (fCx (g U))
    rw [GU]
    rfl
  have rst : Rst K (ldM A4 p) G U := by
    unfold Rst
    rw [fGU, fU, GU]
    refine ⟨?_, w5'.2, w5'.1⟩
    rw [em, um_n (by omega), um_e]
    show kP K t = kP K (fSt (g U))
    rw [B3]
  obtain ⟨H1, H2, H3⟩ := SK_two (r := r) hS B1 (by omega) (fun W w1 _ w2 => ok W w1 w2) (fun _ => by rw [Gr]; exact (show (0 : Int) ≠ 1 by decide)) Go fGU rst (o4 71 (by decide) (by decide) (by decide)) (o4 72 (by decide) (by decide) (by decide)) (o4 73 (by decide) (by decide) (by decide)) (o4 74 (by decide) (by decide) (by decide)) (o4 75 (by decide) (by decide) (by decide)) (o4 76 (by decide) (by decide) (by decide)) (o4 77 (by decide) (by decide) (by decide))
  have x3 : X2 G := by
    refine ⟨fun V w1 w2 => ?_, fun V w1 w2 w3 w4 => ?_⟩
    · by_cases n : V = r
      · subst n
        rw [Gr]
        show cCp e = []
        rw [he]
        exact c0
      · by_cases n_q : V = U
        · subst n_q
          rw [GU] at w2
          have w2' : fSu (g V) = 2 := w2
          omega
        · rw [Go V n n_q] at w1 w2 ⊢
          exact x.1 V w1 w2
    · by_cases n : V = r
      · subst n
        rw [Gr]
        show ∃ U, fOn (G U) = 1 ∧ fPa (G U) = fAw (g V) ∧ (fSx (G U) = 5 ∨ (fSx (G U) = 1 ∧ fPb (G U) = fPb (g V)))
        rcases hq with hq | hq
        · obtain ⟨y, l_q, el⟩ : ∃ y l_q, l = y :: l_q := by
            cases hl' : l with
            | nil => exact absurd hl' (hl hq.1)
            | cons y l_q => exact ⟨y, l_q, rfl⟩
          have ym : y ∈ l := by
            rw [el]
            exact List.mem_cons_self
          obtain ⟨y1, y2, y3, y4⟩ := (a6 hu).1 y (by rw [pe]; exact List.mem_cons_of_mem _ ym)
          have yd : d ≠ y.1 := pw'.1 y ym
          refine ⟨V - y.1, ?_⟩
          rw [Go (V - y.1) (fun e => by rw [e] at y2; omega) (by omega)]
          exact ⟨y1, y4, Or.inl y2⟩
        · refine ⟨U, ?_⟩
          rw [GU]
          refine ⟨B1, B4, Or.inr ⟨rfl, ?_⟩⟩
          show bb = fPb (g V)
          omega
      · by_cases n_q : V = U
        · subst n_q
          rw [GU] at w2
          have w2' : fSu (g V) = 2 := w2
          omega
        · rw [Go V n n_q] at w1 w2 w3 w4 ⊢
          obtain ⟨R, r1, r2⟩ := w4
          have hR : ∃ R, fOn (g R) = 1 ∧ fPa (g R) = fAw (g V) := by
            by_cases nR : R = r
            · subst nR
              rw [Gr] at r2
              exact ⟨R, z1, r2⟩
            · by_cases nR' : R = U
              · subst nR'
                rw [GU] at r2
                exact ⟨R, B1, r2⟩
              · rw [Go R nR nR'] at r1 r2
                exact ⟨R, r1, r2⟩
          obtain ⟨U0, u1, u2, u3⟩ := x.2 V w1 w2 w3 hR
          refine ⟨U0, ?_⟩
          rw [Go U0 (fun e => by subst e; omega) (fun e => by
            subst e
            exact aw_ne hM z1 hu w1 w2 (fun e => n e.symm) (by omega))]
          exact ⟨u1, u2, u3⟩
  rw [← hG] at hM2
  refine Nxs_t (m1 := ldM A4 p) (g1 := G) (Lst_gen (fun W w1 w2 => Go W (fun e => by subst e; omega) (fun e => by subst e; omega)) (fun k k1 k2 _ _ => mo k (by omega) (by omega))) ?_
  rw [hG] at hM2 H1 H3 x3 ⊢
  refine SX_mk (b := bb) s hp (by omega) hM2 ?_ ?_ (by rw [g1U]; omega) (by rw [g1U]; exact B1) rfl rfl ?_ H1 H2 H3 (Or.inr ⟨r, ?_, fun W w1 w2 => ?_⟩) x3 mk
  · show Rdy g1 0 (A4 72 (2 * p).toNat) (fun i => A4 71 (1100 * (2 * p) + i).toNat)
    rw [o4 71 (by decide) (by decide) (by decide), o4 72 (by decide) (by decide) (by decide), hg1]
    exact Rdy_o hS.2.1 (Or.inl (by omega))
  · show Rdy g1 1 (A4 72 (2 * p + 1).toNat) (fun i => A4 71 (1100 * (2 * p + 1) + i).toNat)
    rw [o4 71 (by decide) (by decide) (by decide), o4 72 (by decide) (by decide) (by decide), hg1]
    exact Rdy_o hS.2.2.1 (Or.inl (by omega))
  · rw [g1U]
    show dd = 2 * (U + cDw (fCx (g U))) + bb
    omega
  · rw [← hG]
    have k60 : A4 60 p.toNat = A 62 p.toNat ∧ A4 61 p.toNat = A 62 p.toNat ∧ A4 62 p.toNat = A 62 p.toNat := by
      have y62 : A2 62 = A 62 := by
        rw [s2, stM_ne (by decide), s1, stM_ne (by decide)]
      refine ⟨?_, ?_, ?_⟩
      · rw [t2, take_c.1, t1, take_c.2.1, y62]
      · rw [t2, take_c.2.1, t1, take_c.2.2 62 (by decide) (by decide), y62]
      · rw [o4 62 (by decide) (by decide) (by decide)]
    have rk : Rok (ldM A4 p) r (fPb (g r)) (cC (fCx (g r))) (A 62 p.toNat) := Rok_m (fun q => by
      obtain ⟨q_q, hq_q, _⟩ := sC2 q
      rw [c0] at hq_q
      exact absurd hq_q List.not_mem_nil) R3
    unfold RN Rgs fR
    rw [Gr, k60.1, k60.2.1, k60.2.2, o4 66 (by decide) (by decide) (by decide), o4 64 (by decide) (by decide) (by decide), o4 63 (by decide) (by decide) (by decide), o4 65 (by decide) (by decide) (by decide), o4 73 (by decide) (by decide) (by decide), z5, z6]
    have dwe : cDw e = cDw (fCx (g r)) := by
      rw [he]
      rfl
    refine ⟨z1, rfl, ?_, ?_, Or.inl (Pos_0 s o1), ?_, z8⟩
    · show _ = 2 * (r + cDw e) + fPb (g r)
      rw [dwe]
      exact z3
    · show _ = r + cDw e
      rw [dwe]
      exact z4
    · show Rok _ _ _ (cA e) _ ∧ Rok _ _ _ (cB e) _ ∧ Rok _ _ _ (cC e) _
      rw [he]
      exact ⟨rk, rk, rk⟩
  · rw [← hG] at w1 w2
    by_cases n : W = r
    · exact n
    · by_cases n_q : W = U
      · subst n_q
        rw [GU] at w2
        exact absurd w2 (show ¬ (1 : Int) = 0 by decide)
      · rw [Go W n n_q] at w1 w2
        exact u W w1 w2
end
