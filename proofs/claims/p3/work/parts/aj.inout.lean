/-! EACH RULE AS A STEP: IN and OUT, all their cases -/
theorem um_c {m : Int → Int} {a b x y : Int} (n : a ≠ b) : um (um m a x) b y = um (um m b y) a x := funext (fun z => by
  unfold um
  by_cases q : z = a
  · by_cases w : z = b
    · omega
    · rw [if_neg w, if_pos q, if_pos q]
  · by_cases w : z = b
    · rw [if_pos w, if_neg q, if_pos w]
    · rw [if_neg w, if_neg q, if_neg q, if_neg w])
theorem ad_cg {X Y : Nat → Nat → Int} {q d : Int} (h1 : X 71 = Y 71) (h2 : X 72 = Y 72) : adM X q d 71 = adM Y q d 71 := by
  unfold adM uA
  rw [h1, h2]
section
variable {K : Kd} {N : Int} {ty : Int → Int} {g : Int → Fm} {A A_q : Nat → Nat → Int} {p r : Int}
/-- it waits to send; the one in ALT at the channel is told, and goes on if it waits -/
theorem st_wake {a v V : Int} {A2 B1 B2 B3 A4 : Nat → Nat → Int} (s : Sby K N) (hp : 0 ≤ p) (h : SF K N ty g A p r) (hu : fSu (g r) = 0) (hd : cMd (fCx (g r)) = 0) (dw : cDw (fCx (g r)) = 0) (o1 : Gd K N (fun _ _ => False) (fSt (g r) + 1) (a0 (fCx (g r)))) (ta : ty a = 2) (a16 : 14 ≤ a ∧ a < 4016) (o2 : ∀ k, k ≠ 60 → k ≠ 61 → k < 78 → A2 k = A k) (s1 : B1 = stM A2 p (r - 2) v) (s2 : B2 = stM B1 p (r - 3) 0) (s3 : B3 = stM B2 p a (2 * r + fPb (g r)))
    (nV : V ≠ r) (hV : Ats (ldM A p) g a V) (md : cMd (fCx (g V)) = 1) (m4 : ldM A p (V - 3) = 2 → fSx (g V) = 4) (sn : fSx (g V) ≠ 2 ∧ fSx (g V) ≠ 3) (k : wkR B3 A4 p (2 * V + fPb (g V))) (e : A_q = waitM A4 p) (c2 : ∃ u, u / 4 % 2 = 1 ∧ Cl (ldM A p) r (cCp (fCx (g r))) 2 a u) : Nxs K N ty g (ldM A p) A_q p := by
  have q := SF_rw h dw
  obtain ⟨hS, x, ⟨z1, z2, z3, z4, z5, z6, z7, z8⟩, u⟩ := h
  have hM := hS.1
  obtain ⟨a1, a2, a3, a4, a5, a6⟩ := hM.1 r z1
  obtain ⟨b1, b2, b3, b4, b5, b6, b7⟩ := a1
  obtain ⟨y1, y2, y3, y4, y5, y6, y7, y8⟩ := hV
  obtain ⟨d1, d2, d3, d4, d5, d6⟩ := hM.1 V y1
  obtain ⟨i1, i2, i3, i4, i5, i6, i7⟩ := d1
  have s5 : fSx (g V) ≠ 5 := fun w => by
    have := (d4.2.2.2.2.2.2.2.2.2.2.2.2.2.2.2.2 w).2.1
    omega
  have o3 : ∀ k, k ≠ 59 → k ≠ 60 → k ≠ 61 → k < 78 → B3 k = A k := fun k k1 k2 k3 k4 => by
    rw [s3, stM_ne k1, s2, stM_ne k1, s1, stM_ne k1, o2 k k2 k3 k4]
  have em3 : ldM B3 p = um (um (um (ldM A p) (r - 2) v) (r - 3) 0) a (2 * r + fPb (g r)) := by
    rw [s3, ld_um hp (by omega) (by omega), s2, ld_um hp (by omega) (by omega), s1, ld_um hp (by omega) (by omega), ldM_f (p := p) (o2 59 (by decide) (by decide) (by decide))]
  have n1 : a ≠ r - 1 := fun w => by
    rw [w, a2.2.2.1] at ta
    omega
  have n2 : a ≠ r - 2 := fun w => by
    rw [w, a2.2.1] at ta
    omega
  have n3 : a ≠ r - 3 := fun w => by
    rw [w, a2.1] at ta
    omega
  have nv := oth_u hM z1 y1 nV (V - 3) (by omega) (by omega)
  have nva : V - 3 ≠ a := fun w => by
    rw [← w, d2.1] at ta
    omega
  have v3 : ldM B3 p (V - 3) = ldM A p (V - 3) := by
    rw [em3, um_n nva, um_n (by omega), um_n (by omega)]
  have dv2 : (2 * V + fPb (g V)) / 2 = V := by omega
  unfold wkR at k
  rw [dv2, v3] at k
  obtain ⟨C0, hC0⟩ : ∃ C0, C0 = stM B3 p (V - 3) 3 := ⟨_, rfl⟩
  rw [← hC0] at k
  have oC : ∀ k, k ≠ 59 → k ≠ 60 → k ≠ 61 → k < 78 → C0 k = A k := fun k k1 k2 k3 k4 => by
    rw [hC0, stM_ne k1, o3 k k1 k2 k3 k4]
  have emC : ldM C0 p = um (ldM B3 p) (V - 3) 3 := by
    rw [hC0]
    exact ld_um hp (by omega) (by omega)
  obtain ⟨mw, hmw⟩ : ∃ mw, mw = um (um (um (um (ldM A p) (r - 2) v) (r - 3) 0) a (2 * r + fPb (g r))) (r - 1) (kP K (fSt (g r) + 1)) := ⟨_, rfl⟩
  have mo : ∀ y, y ≠ r - 1 → y ≠ r - 2 → y ≠ r - 3 → y ≠ a → mw y = ldM A p y := fun y w1 w2 w3 w4 => by
    rw [hmw, um_n w1, um_n w4, um_n w3, um_n w2]
  have hMw : MI K N mw ty (ug g r (ws (g r) 2 a (fSt (g r) + 1) (a0 (fCx (g r))))) := by
    refine MI_wai hM z1 hu z2 hd dw (Or.inl rfl) o1 rfl (fun y w1 w2 => mo y (by omega) (by omega) (by omega) (fun w => w1 (by rw [w]; exact ta))) (fun y w1 w2 => mo y (fun w => ?_) (fun w => ?_) (fun w => ?_) w2) ?_ ?_ ?_ (fun _ => c2) (fun w => absurd w (show ¬ (2 : Int) = 3 by decide))
    · rw [w, a2.2.2.1] at w1
      omega
    · rw [w, a2.2.1] at w1
      omega
    · rw [w, a2.1] at w1
      omega
    · rw [hmw, um_n (by omega), um_n (fun w => n3 w.symm), um_e]
    · rw [hmw, um_e]
    · rw [hmw, um_n n1, um_e]
  obtain ⟨g1, hg1⟩ : ∃ g1, g1 = ug g r (ws (g r) 2 a (fSt (g r) + 1) (a0 (fCx (g r)))) := ⟨_, rfl⟩
  rw [← hg1] at hMw
  have g1r : g1 r = ws (g r) 2 a (fSt (g r) + 1) (a0 (fCx (g r))) := by
    rw [hg1]
    exact ug_e
  have g1V : g1 V = g V := by
    rw [hg1]
    exact ug_n nV
  obtain ⟨m_q, hm'⟩ : ∃ m_q, m_q = um mw (V - 3) 3 := ⟨_, rfl⟩
  have moV : ∀ y, y ≠ V - 3 → m_q y = mw y := fun y w => by
    rw [hm', um_n w]
  have oky : ∀ W, fOn (g W) = 1 → W ≠ r → m_q (fR g W - 1) = ldM A p (fR g W - 1) ∧ ∀ o, Kpt (cCp (fCx (g W))) o → m_q (W + o) = ldM A p (W + o) := fun W hW n => by
    obtain ⟨w1, w2⟩ := oth_w hM z1 hu hW n
    obtain ⟨t, f1, f2⟩ := fR_6 hM hW
    refine ⟨?_, fun o kk => ?_⟩
    · have p1 := w1 (fR g W - 1) (by omega) f2
      have p2 : fR g W - 1 ≠ V - 3 := by
        by_cases nW : W = V
        · subst nW
          show W + cDw (fCx (g W)) - 1 ≠ W - 3
          omega
        · have := oth_u hM y1 hW nW (fR g W - 1) (by omega) f2
          omega
      have p3 : fR g W - 1 ≠ a := fun w => by
        rw [w] at t
        omega
      rw [moV _ p2, mo _ (by omega) (by omega) (by omega) p3]
    · obtain ⟨tk, k_q, cl⟩ := Kpt_t hM x hW kk
      have p1 : W + o ≠ V - 3 := fun w => by
        rw [w, d2.1] at tk
        omega
      have p2 : W + o ≠ a := fun w => by
        rw [w] at tk
        omega
      have p3 := w2 _ _ _ cl
      rw [moV _ p1, mo _ (by omega) (by omega) (by omega) p2]
  have ml : ∀ l, 0 ≤ l → l ≤ 11 → m_q l = ldM A p l := fun l l1 l2 => by
    rw [moV l (by omega), mo l (by omega) (by omega) (by omega) (by omega)]
  have fin : ∀ X : Nat → Nat → Int, (∀ k, k = 63 ∨ k = 64 → X k = A k) → X 59 = C0 59 → waitM X p = goneM (stM X p (r - 1) (kP K (fSt (g r) + 1))) p ∧ ldM (waitM X p) p = m_q := fun X x1 x2 => by
    have ew : waitM X p = goneM (stM X p (r - 1) (kP K (fSt (g r) + 1))) p := by
      unfold waitM
      rw [x1 64 (Or.inr rfl), x1 63 (Or.inl rfl), q.1, z5]
    refine ⟨ew, ?_⟩
    rw [ew, ldM_f (p := p) (gone_c.2 59 (by decide)), ld_um hp (by omega) (by omega), ldM_f (p := p) x2, emC, em3, hm', hmw]
    exact um_c (by omega)
  rcases k with ⟨k1, k2⟩ | ⟨k1, k2⟩
  · subst k2
    obtain ⟨ew, em⟩ := fin A4 (fun k hk => oC k (by omega) (by omega) (by omega) (by omega)) rfl
    rw [← e] at em
    rw [ew] at e
    obtain ⟨f1, f2⟩ := gone_c (A := stM A4 p (r - 1) (kP K (fSt (g r) + 1))) (p := p)
    rw [← e] at f1 f2
    have o4 : ∀ k, k ≠ 59 → k ≠ 60 → k ≠ 61 → k ≠ 66 → k < 78 → A_q k = A k := fun k k1 k2 k3 k5 k4 => by
      rw [f2 k k5, stM_ne k1, oC k k1 k2 k3 k4]
    have hM' : MI K N (ldM A_q p) ty g1 := by
      have z := MI_tel (sx := fSx (g1 V)) (m_q := m_q) hMw (by rw [g1V]; exact y1) (by rw [g1V]; exact md) (Or.inl ⟨rfl, by rw [g1V]; exact s5⟩) moV (by rw [hm', um_e])
      have eg : ws (g1 V) (fSx (g1 V)) (fCh (g1 V)) (fSt (g1 V)) (fCx (g1 V)) = g1 V := rfl
      rw [eg, ug_i] at z
      rw [em]
      exact z
    rw [hg1] at hM'
    refine ⟨ty, ug g r (ws (g r) 2 a (fSt (g r) + 1) (a0 (fCx (g r)))), ⟨SK_own hS z2 hM' (by rw [em]; exact oky) (o4 71 (by decide) (by decide) (by decide) (by decide) (by decide)) (o4 72 (by decide) (by decide) (by decide) (by decide) (by decide)) (o4 73 (by decide) (by decide) (by decide) (by decide) (by decide)) (o4 74 (by decide) (by decide) (by decide) (by decide) (by decide)) (o4 75 (by decide) (by decide) (by decide) (by decide) (by decide)) (o4 76 (by decide) (by decide) (by decide) (by decide) (by decide)) (o4 77 (by decide) (by decide) (by decide) (by decide) (by decide)) (fun _ => show (2 : Int) ≠ 1 by decide), Or.inl ⟨f1, fun W w1 w2 => ?_⟩⟩, X2_own x z1 z2 (fun _ => rfl) (fun w _ => ?_), fun _ _ => rfl, Lst_own (by omega) (fun l l1 l2 _ _ => by rw [em]; exact ml l l1 l2)⟩
    · by_cases n : W = r
      · subst n
        rw [ug_e] at w2
        exact absurd w2 (show ¬ (2 : Int) = 0 by decide)
      · rw [ug_n n] at w1 w2
        exact n (u W w1 w2)
    · have w_q : fSu (g r) = 2 := w
      omega
  · have sx4 := m4 k1
    have q66 : C0 66 p.toNat ≠ -1 := by
      rw [oC 66 (by decide) (by decide) (by decide) (by decide)]
      omega
    have e4 : A4 = adM C0 (2 * p + fPb (g V)) (2 * V + fPb (g V)) := by
      rcases k2 with ⟨_, m2⟩ | ⟨m1, _⟩
      · rw [m2, show (2 * V + fPb (g V)) % 2 = fPb (g V) by omega]
      · exact absurd m1 q66
    have o40 : ∀ k, k ≠ 71 → k ≠ 72 → A4 k = C0 k := fun k k1 k2 => by
      rw [e4]
      exact ad_o ⟨k1, k2⟩
    obtain ⟨ew, em⟩ := fin A4 (fun k hk => (o40 k (by omega) (by omega)).trans (oC k (by omega) (by omega) (by omega) (by omega))) (o40 59 (by decide) (by decide))
    rw [← e] at em
    rw [ew] at e
    obtain ⟨f1, f2⟩ := gone_c (A := stM A4 p (r - 1) (kP K (fSt (g r) + 1))) (p := p)
    rw [← e] at f1 f2
    obtain ⟨C, hC⟩ : ∃ C, C = stM C0 p (r - 1) (kP K (fSt (g r) + 1)) := ⟨_, rfl⟩
    have emC2 : ldM C p = m_q := by
      rw [hC, ld_um hp (by omega) (by omega), emC, em3, hm', hmw]
      exact um_c (by omega)
    have oC2 : ∀ k, k ≠ 59 → k ≠ 60 → k ≠ 61 → k < 78 → C k = A k := fun k k1 k2 k3 k4 => by
      rw [hC, stM_ne k1, oC k k1 k2 k3 k4]
    have hM2 : MI K N (ldM C p) ty (ug g1 V (ws (g1 V) 1 (fCh (g1 V)) (fSt (g1 V)) (fCx (g1 V)))) := by
      rw [emC2]
      exact MI_tel (sx := 1) hMw (by rw [g1V]; exact y1) (by rw [g1V]; exact md) (Or.inr ⟨by rw [g1V]; exact sx4, rfl⟩) moV (by rw [hm', um_e])
    obtain ⟨G, hG⟩ : ∃ G, G = ug g1 V (ws (g1 V) 1 (fCh (g1 V)) (fSt (g1 V)) (fCx (g1 V))) := ⟨_, rfl⟩
    have GV : G V = ws (g V) 1 (fCh (g V)) (fSt (g V)) (fCx (g V)) := by
      rw [hG, ug_e, g1V]
    have Gr : G r = ws (g r) 2 a (fSt (g r) + 1) (a0 (fCx (g r))) := by
      rw [hG, ug_n (fun q => nV q.symm), g1r]
    have Go : ∀ W, W ≠ r → W ≠ V → G W = g W := fun W n n_q => by
      rw [hG, ug_n n_q, hg1, ug_n n]
    have fV : fR g V = V := by
      show V + cDw (fCx (g V)) = V
      omega
    have fGV : fR G V = fR g V := by
      show V + cDw (fCx (G V)) = V + cDw (fCx (g V))
      rw [GV]
      rfl
    have rg := d4.2.2.2.2.2.2.2.2.2.1 (Or.inr (Or.inr (Or.inl sx4)))
    have rk := (d4.2.2.2.2.2.2.2.2.2.2.2.1 (Or.inr (Or.inr sx4))).2
    have rst : Rst K (ldM C p) G V := by
      unfold Rst
      rw [fGV, GV, emC2]
      refine ⟨?_, rg.2, rg.1⟩
      rw [(oky V y1 nV).1, fV]
      exact rk
    obtain ⟨H1, H2, H3⟩ := SK_two (r := r) (A4 := C) hS y1 (by omega) (fun W w1 w2 _ => by rw [emC2]; exact oky W w1 w2) (fun _ => by rw [Gr]; exact (show (2 : Int) ≠ 1 by decide)) Go fGV rst (oC2 71 (by decide) (by decide) (by decide) (by decide)) (oC2 72 (by decide) (by decide) (by decide) (by decide)) (oC2 73 (by decide) (by decide) (by decide) (by decide)) (oC2 74 (by decide) (by decide) (by decide) (by decide)) (oC2 75 (by decide) (by decide) (by decide) (by decide)) (oC2 76 (by decide) (by decide) (by decide) (by decide)) (oC2 77 (by decide) (by decide) (by decide) (by decide))
    have x3 : X2 G := by
      refine X2_gen x (fun W w1 w2 => Go W (fun e => ?_) (fun e => ?_)) (fun R r1 => ?_) (fun U u1 u2 => Go U (fun e => by subst e; omega) (fun e => by subst e; omega)) (aw_0 hM)
      · subst e
        rw [Gr] at w2
        have w2' : fSu (g W) = 2 := w2
        omega
      · subst e
        rw [GV] at w2
        have w2' : fSu (g W) = 2 := w2
        omega
      · by_cases n : R = r
        · subst n
          rw [Gr]
          exact Or.inr ⟨z1, rfl⟩
        · by_cases n_q : R = V
          · subst n_q
            rw [GV]
            exact Or.inr ⟨y1, rfl⟩
          · rw [Go R n n_q] at r1 ⊢
            exact Or.inr ⟨r1, rfl⟩
    have hk : SK K N ty G (adM C (2 * p + fPb (g V)) (2 * V + fPb (g V))) p := by
      rw [hG] at H1 H3 ⊢
      refine SK_ad hp (by omega) hM2 ?_ ?_ (by rw [g1V]; omega) (by rw [g1V]; exact y1) rfl (by rw [g1V]; rfl) ?_ H1 H2 H3
      · show Rdy g1 0 (C 72 (2 * p).toNat) (fun i => C 71 (1100 * (2 * p) + i).toNat)
        rw [oC2 71 (by decide) (by decide) (by decide) (by decide), oC2 72 (by decide) (by decide) (by decide) (by decide), hg1]
        exact Rdy_o hS.2.1 (Or.inl (by omega))
      · show Rdy g1 1 (C 72 (2 * p + 1).toNat) (fun i => C 71 (1100 * (2 * p + 1) + i).toNat)
        rw [oC2 71 (by decide) (by decide) (by decide) (by decide), oC2 72 (by decide) (by decide) (by decide) (by decide), hg1]
        exact Rdy_o hS.2.2.1 (Or.inl (by omega))
      · rw [g1V]
        show 2 * V + fPb (g V) = 2 * (V + cDw (fCx (g V))) + fPb (g V)
        omega
    have e71 : A_q 71 = adM C (2 * p + fPb (g V)) (2 * V + fPb (g V)) 71 := by
      rw [f2 71 (by decide), stM_ne (by decide), e4]
      exact ad_cg (by rw [hC, stM_ne (by decide)]) (by rw [hC, stM_ne (by decide)])
    have e72 : A_q 72 = adM C (2 * p + fPb (g V)) (2 * V + fPb (g V)) 72 := by
      rw [f2 72 (by decide), stM_ne (by decide), e4]
      unfold adM uA
      rw [hC, stM_ne (show (72 : Nat) ≠ 59 by decide)]
    have eo : ∀ k, k = 73 ∨ k = 74 ∨ k = 75 ∨ k = 76 ∨ k = 77 → A_q k = adM C (2 * p + fPb (g V)) (2 * V + fPb (g V)) k := fun k hk => by
      rw [f2 k (by omega), stM_ne (by omega), o40 k (by omega) (by omega), ad_o ⟨by omega, by omega⟩, hC, stM_ne (by omega)]
    have eml : ldM A_q p = ldM (adM C (2 * p + fPb (g V)) (2 * V + fPb (g V))) p := by
      rw [em, ldM_f (p := p) (ad_o (A := C) (q := 2 * p + fPb (g V)) (d := 2 * V + fPb (g V)) (k := 59) ⟨by decide, by decide⟩), emC2]
    refine ⟨ty, G, ⟨?_, Or.inl ⟨f1, fun W w1 w2 => ?_⟩⟩, x3, fun _ _ => rfl, Lst_gen (fun W w1 w2 => Go W (fun e => by subst e; omega) (fun e => by subst e; omega)) (fun l l1 l2 _ _ => by rw [em]; exact ml l l1 l2)⟩
    · unfold SK Asd rw0 at hk ⊢
      rw [eml, e71, e72, eo 73 (by decide), eo 74 (by decide), eo 75 (by decide), eo 76 (by decide), eo 77 (by decide)]
      exact hk
    · by_cases n : W = r
      · subst n
        rw [Gr] at w2
        exact absurd w2 (show ¬ (2 : Int) = 0 by decide)
      · by_cases n_q : W = V
        · subst n_q
          rw [GV] at w2
          exact absurd w2 (show ¬ (1 : Int) = 0 by decide)
        · rw [Go W n n_q] at w1 w2
          exact n (u W w1 w2)
theorem ru_in {it im om : Int} (s : Sby K N) (hp : 0 ≤ p) (h : SF K N ty g A p r) (kv : kV K (fSt (g r)) = 20) (dw : cDw (fCx (g r)) = 0) (hd : cMd (fCx (g r)) = 0) (ca : Chr (cCp (fCx (g r))) (cA (fCx (g r))) 8) (cb : Dtr (cCp (fCx (g r))) (cB (fCx (g r))) 1) (o1 : Gd K N (fun _ _ => False) (fSt (g r) + 1) (a0 (fCx (g r)))) (ha : opR A A_q it im om p (kV K (fSt (g r)))) : Nxs K N ty g (ldM A p) A_q p := by
  have hu := SF_lf h (by omega)
  have q := SF_rw h dw
  have cok := SF_cok h hu
  have L := (h.1.1.1 r h.2.2.1.1).1.1
  have R := h.2.2.1.2.2.2.2.2.2.1
  have z1 := h.2.2.1.1
  have z2 := h.2.2.1.2.1
  obtain ⟨a, b, _, hA, hB, sp⟩ := opR_f20 ha (by omega)
  obtain ⟨A1, A2, _, t1, t2, k⟩ := spR_f20 sp kv
  obtain ⟨ua, bu, cla⟩ := Chr_c (v := a) (b := 8) cok L (Or.inr rfl) ca (by rw [← hA]; exact R.1)
  obtain ⟨ub, clb⟩ := Dtr_c (v := b) cok cb (by rw [← hB]; exact R.2.1)
  obtain ⟨ta, a1, a2, a3⟩ := cok.1 _ _ _ cla
  obtain ⟨tb, b1, b2, b3⟩ := cok.1 _ _ _ clb
  have b16 : 16 ≤ b := by
    rcases b3 with b3 | b3
    · exact b3
    · exact absurd b3.1 (by decide)
  have o2 : ∀ k, k ≠ 60 → k ≠ 61 → A2 k = A k := fun k k1 k2 => by
    rw [t2, take_c.2.2 k k1 k2, t1, take_c.2.2 k k1 k2]
  have e2 := ldM_f (p := p) (o2 59 (by decide) (by decide))
  rcases k with ⟨v, h13, hc, l, e⟩ | ⟨v, B1, B2, h11, hc, l, s1, e1, e⟩ | ⟨is, b_q, r2, B1, B2, hh, l, n, hb, l2, s1, s2, m⟩ | ⟨is, w, n, B1, B2, B3, l, hh, hw, hr, s1, s2, s3, e⟩
  · refine st_dat (t := b) (v := v) s h hu hd o1 (fun k k1 k2 k3 _ => ?_) ?_ tb b16
    · rw [e, stM_ne k1, o2 k k2 k3]
    · rw [e, ld_um hp (by omega) (by omega), e2]
  · refine st_dat (t := b) (v := v) s h hu hd o1 (fun k k1 k2 k3 k4 => ?_) ?_ tb b16
    · rw [e, uA_ne (by omega), e1, uA_ne (by omega), s1, stM_ne k1, o2 k k2 k3]
    · have e59 : A_q 59 = B1 59 := by
        rw [e, uA_ne (by decide), e1, uA_ne (by decide)]
      rw [ldM_f (p := p) e59, s1, ld_um hp (by omega) (by omega), e2]
  · rw [e2] at l l2
    rcases (at_in h.1.1 z1 hu z2 hd cla bu).2 with w | ⟨V, v1, v2, v3, v4, v5, v6, v7⟩
    · omega
    · have ei : is = 2 * V + fPb (g V) := by rw [l]; exact v2.2.2.1
      rw [ei] at m
      exact st_meet s hp h hu hd o1 v1 v2 (Or.inl v3) v4 v7 ta tb ⟨b16, b2⟩ (by omega) o2 s1 s2 m
  · rw [o2 64 (by decide) (by decide), q.1] at hw
    rw [o2 66 (by decide) (by decide), q.2.1] at hr
    subst hw hr
    obtain ⟨g_q, n1, n2, n3, _⟩ := st_wait (sx := 3) hp h hu hd dw o1 (Or.inr rfl) ta ⟨a1, a2⟩ (fun k k1 k2 _ => o2 k k1 k2) s1 s2 s3 e (fun w => absurd w (show ¬ (3 : Int) = 2 by decide)) (fun _ => ⟨⟨ua, bu, cla⟩, ⟨ub, clb⟩⟩) (fun l1 l2 l3 => by
      exfalso
      rcases a3 with a3 | a3
      · omega
      · have := a3.2.2 bu
        omega)
    exact ⟨ty, g_q, n1, n2, fun _ _ => rfl, n3⟩
/-- OUT; where it goes to a link: who waits there then -/
theorem ru_out {it im om : Int} (s : Sby K N) (hp : 0 ≤ p) (h : SF K N ty g A p r) (kv : kV K (fSt (g r)) = 21) (dw : cDw (fCx (g r)) = 0) (hd : cMd (fCx (g r)) = 0) (ca : Chr (cCp (fCx (g r))) (cA (fCx (g r))) 4) (o1 : Gd K N (fun _ _ => False) (fSt (g r) + 1) (a0 (fCx (g r)))) (ha : opR A A_q it im om p (kV K (fSt (g r)))) : (∃ a, A 60 p.toNat = a ∧ ¬ (0 ≤ a ∧ a ≤ 11) ∧ Nxs K N ty g (ldM A p) A_q p) ∨ ∃ a g_q, A 60 p.toNat = a ∧ 0 ≤ a ∧ a ≤ 11 ∧ ty (-1 - a) / 4 % 2 = 1 ∧ SI K N ty g_q A_q p ∧ X2 g_q ∧ Lst ty (ldM A p) g (ldM A_q p) g_q ∧ Lka (ldM A_q p) g_q a r := by
  have hu := SF_lf h (by omega)
  have q := SF_rw h dw
  have cok := SF_cok h hu
  have L := (h.1.1.1 r h.2.2.1.1).1.1
  have R := h.2.2.1.2.2.2.2.2.2.1
  have z1 := h.2.2.1.1
  have z2 := h.2.2.1.2.1
  have hM := h.1.1
  obtain ⟨a, b, _, hA, hB, sp⟩ := opR_f20 ha (by omega)
  obtain ⟨A1, A2, _, t1, t2, k⟩ := spR_f21 sp kv
  obtain ⟨ua, bu, cla⟩ := Chr_c (v := a) (b := 4) cok L (Or.inl rfl) ca (by rw [← hA]; exact R.1)
  obtain ⟨ta, a1, a2, a3⟩ := cok.1 _ _ _ cla
  obtain ⟨_, at2⟩ := at_out hM z1 hu z2 hd cla bu
  have o2 : ∀ k, k ≠ 60 → k ≠ 61 → A2 k = A k := fun k k1 k2 => by
    rw [t2, take_c.2.2 k k1 k2, t1, take_c.2.2 k k1 k2]
  have e2 := ldM_f (p := p) (o2 59 (by decide) (by decide))
  rcases k with ⟨h12, e⟩ | ⟨h12, e⟩ | ⟨is, b_q, r3, c_q, r2, B1, B2, hh, l, n, hb, l3, z, hb', l2, s1, s2, m⟩ | ⟨is, w, n, B1, B2, B3, B4, B5, B6, B7, hh, l, hw, hr, e1, e2', e3, e4, s1, s2, s3, e⟩ | ⟨is, w, n, B1, B2, B3, hh, l, n_q, hw, hr, s1, s2, s3, e⟩ | ⟨is, b_q, r3, w, n, B1, B2, B3, B4, hh, l, n_q, hb, l3, z, hw, hr, s1, s2, s3, k, e⟩
  · refine Or.inl ⟨a, hA, by omega, ?_⟩
    refine Nxs_reg s h (fun k k1 k2 _ _ _ => by rw [e, o2 k k1 k2]) (by rw [e, o2 63 (by decide) (by decide)]; exact h.2.2.1.2.2.2.2.1) o1 rfl rfl rfl ⟨s0, s0, s0⟩ ⟨Rok_0, Rok_0, Rok_0⟩
  · refine Or.inl ⟨a, hA, by omega, ?_⟩
    refine Nxs_reg s h (fun k k1 k2 _ _ k5 => by rw [e, uA_ne (by omega), o2 k k1 k2]) (by rw [e, uA_ne (by decide), o2 63 (by decide) (by decide)]; exact h.2.2.1.2.2.2.2.1) o1 rfl rfl rfl ⟨s0, s0, s0⟩ ⟨Rok_0, Rok_0, Rok_0⟩
  · refine Or.inl ⟨a, hA, by omega, ?_⟩
    rw [e2] at l l3 l2
    rcases at2 with w | ⟨V, v1, v2, v3⟩
    · omega
    · have ei : is = 2 * V + fPb (g V) := by rw [l]; exact v2.2.2.1
      have y4 := v2.2.2.2.1
      have y5 := v2.2.2.2.2.1
      have eb : b_q = V := by omega
      have ec : c_q = V := by omega
      rw [eb] at l3
      rw [ec] at l2
      rcases v3 with ⟨x1, x2, x3, x4, x5, y, cy⟩ | ⟨x1, x2, _⟩
      · rw [← l2] at cy
        obtain ⟨k1, k2, k3, k4⟩ := (hM.1 V v2.1).2.2.1.1 _ _ _ cy
        have k5 : 16 ≤ r2 := by
          rcases k4 with k4 | k4
          · exact k4
          · exact absurd k4.1 (by decide)
        rw [ei] at m
        exact st_meet s hp h hu hd o1 v1 v2 (Or.inr x1) x2 x5 ta k1 ⟨k5, k3⟩ (by omega) o2 s1 s2 m
      · exact absurd (l3.symm.trans z) x2
  · rw [o2 64 (by decide) (by decide), q.1] at hw
    rw [o2 66 (by decide) (by decide), q.2.1] at hr
    subst hw hr
    obtain ⟨g_q, n1, n2, n3, n4⟩ := st_wait (sx := 2) hp h hu hd dw o1 (Or.inl rfl) ta ⟨a1, a2⟩ (A2 := B4) (fun k k1 k2 k3 => by rw [e4, uA_ne (by omega), e3, uA_ne (by omega), e2', uA_ne (by omega), e1, uA_ne (by omega), o2 k k1 k2]) s1 s2 s3 e (fun _ => ⟨ua, bu, cla⟩) (fun w => absurd w (show ¬ (2 : Int) = 3 by decide)) (fun _ _ _ ⟨W, d⟩ => by
      obtain ⟨d1, d2, d3, d4, d5⟩ := d
      have pW := (hM.1 W d1).1.2.2.2.2.2.2.2.2
      have HW := (hM.1 W d1).1
      have HW1 := HW.1
      have HW2 := HW.2.1
      have HW6 := HW.2.2.2.2.2.1
      rcases at2 with w | ⟨V, v1, v2, v3⟩
      · omega
      · have y3 := v2.2.2.1
        have y4 := v2.2.2.2.1
        have y5 := v2.2.2.2.2.1
        have eW : W = V := by omega
        subst eW
        rcases v3 with v3 | v3
        · have := v3.1
          omega
        · exact v3.2.2.2.1 d3)
    refine Or.inr ⟨a, g_q, hA, hh.1, hh.2, ?_, n1, n2, n3, n4 rfl⟩
    rcases a3 with a3 | a3
    · omega
    · exact a3.2.1 bu
  · rw [o2 64 (by decide) (by decide), q.1] at hw
    rw [o2 66 (by decide) (by decide), q.2.1] at hr
    subst hw hr
    refine Or.inl ⟨a, hA, by omega, ?_⟩
    obtain ⟨g_q, n1, n2, n3, n4⟩ := st_wait (sx := 2) hp h hu hd dw o1 (Or.inl rfl) ta ⟨a1, a2⟩ (fun k k1 k2 _ => o2 k k1 k2) s1 s2 s3 e (fun _ => ⟨ua, bu, cla⟩) (fun w => absurd w (show ¬ (2 : Int) = 3 by decide)) (fun l1 l2 _ => absurd l2 (by omega))
    exact ⟨ty, g_q, n1, n2, fun _ _ => rfl, n3⟩
  · rw [o2 64 (by decide) (by decide), q.1] at hw
    rw [o2 66 (by decide) (by decide), q.2.1] at hr
    subst hw hr
    refine Or.inl ⟨a, hA, by omega, ?_⟩
    rw [e2] at l l3
    rcases at2 with w | ⟨V, v1, v2, v3⟩
    · omega
    · have ei : is = 2 * V + fPb (g V) := by rw [l]; exact v2.2.2.1
      have y4 := v2.2.2.2.1
      have y5 := v2.2.2.2.2.1
      have eb : b_q = V := by omega
      rw [eb] at l3
      rcases v3 with ⟨x1, x2, x3, _⟩ | ⟨x1, x2, x3, x4, x5⟩
      · exact absurd (l3.trans x3) z
      · rw [ei] at k
        exact st_wake s hp h hu hd dw o1 ta (by omega) (fun k k1 k2 _ => o2 k k1 k2) s1 s2 s3 v1 v2 x1 x3 ⟨x4, x5⟩ k e ⟨ua, bu, cla⟩
end
