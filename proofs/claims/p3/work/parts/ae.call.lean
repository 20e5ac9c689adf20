/-! EACH RULE AS A STEP: CALL and RET -/
theorem Rdy_k {g g_q : Int → Fm} {b n : Int} {rd : Int → Int} (r : Rdy g b n rd) (k : ∀ W, fOn (g W) = 1 → fSx (g W) = 1 → g_q W = g W) : Rdy g_q b n rd := by
  obtain ⟨r0, r1, r2⟩ := r
  refine ⟨r0, fun i a c => ?_, r2⟩
  obtain ⟨W, w1, w2, w3, w4⟩ := r1 i a c
  refine ⟨W, ?_⟩
  show rd i = 2 * (W + cDw (fCx (g_q W))) + b ∧ _
  rw [k W w2 w3]
  exact ⟨w1, w2, w3, w4⟩
theorem SK_gen {K : Kd} {N : Int} {ty ty_q : Int → Int} {g g_q : Int → Fm} {A A_q : Nat → Nat → Int} {p r : Int} (h : SK K N ty g A p) (hx : fSx (g r) = 0) (hM : MI K N (ldM A_q p) ty_q g_q) (o : Oky (ldM A p) (ldM A_q p) g r)
    (k1 : ∀ W, fOn (g W) = 1 → fSx (g W) = 1 → g_q W = g W) (k2 : ∀ W, fOn (g_q W) = 1 → fSx (g_q W) = 1 → g_q W = g W)
    (e71 : A_q 71 = A 71) (e72 : A_q 72 = A 72) (e73 : A_q 73 = A 73) (e74 : A_q 74 = A 74) (e75 : A_q 75 = A 75) (e76 : A_q 76 = A 76) (e77 : A_q 77 = A 77) : SK K N ty_q g_q A_q p := by
  obtain ⟨hM0, hR0, hR1, hS1, hS2, hS3⟩ := h
  have nr : ∀ W, fSx (g W) = 1 → W ≠ r := fun W w1 e => by
    subst e
    omega
  have as : ∀ W, g_q W = g W → (Asd g_q A_q p W ↔ Asd g A p W) := fun W n => by
    show (A_q 73 p.toNat ≠ 0 ∧ fPb (g_q W) = 1 ∧ A_q 71 (1100 * (2 * p + 1) + 0).toNat = 2 * (W + cDw (fCx (g_q W))) + 1) ↔ (A 73 p.toNat ≠ 0 ∧ fPb (g W) = 1 ∧ A 71 (1100 * (2 * p + 1) + 0).toNat = 2 * (W + cDw (fCx (g W))) + 1)
    rw [n, e71, e73]
  unfold SK rw0
  rw [e71, e72, e73, e74, e75, e76, e77]
  refine ⟨hM, Rdy_k hR0 k1, Rdy_k hR1 k1, fun W w1 w2 w3 => ?_, hS2, fun W w1 w2 w3 => ?_⟩
  · have n := k2 W w1 w2
    rw [as W n] at w3
    rw [n] at w1 w2
    obtain ⟨s1, s2, s3⟩ := hS1 W w1 w2 w3
    show ldM A_q p (W + cDw (fCx (g_q W)) - 1) = kP K (fSt (g_q W)) ∧ (fCx (g_q W)).2.2.1 = (r0, r0, r0) ∧ fSu (g_q W) = 0
    rw [n]
    exact ⟨(o W w1 (nr W w2)).1.trans s1, s2, s3⟩
  · have n := k2 W w1 w2
    rw [as W n] at w3
    rw [n] at w1 w2
    obtain ⟨s1, s2⟩ := hS3 W w1 w2 w3
    have q := Rgs_m hM0 w1 (o W w1 (nr W w2)).2 s2
    unfold Rgs at q ⊢
    show Psx K (g_q W) (ldM A_q p (W + cDw (fCx (g_q W)) - 1)) (A 77 p.toNat) ∧ _
    rw [n]
    refine ⟨?_, q⟩
    have e : ldM A_q p (W + cDw (fCx (g W)) - 1) = ldM A p (fR g W - 1) := (o W w1 (nr W w2)).1
    rw [e]
    exact s1
theorem X2_gen {g g_q : Int → Fm} (x : X2 g) (k : ∀ V, fOn (g_q V) = 1 → fSu (g_q V) = 2 → g_q V = g V) (kr : ∀ R, fOn (g_q R) = 1 → fPa (g_q R) = 0 ∨ (fOn (g R) = 1 ∧ fPa (g_q R) = fPa (g R))) (ku : ∀ U, fOn (g U) = 1 → (fSx (g U) = 5 ∨ fSx (g U) = 1) → g_q U = g U) (ha : ∀ V, fOn (g V) = 1 → fSu (g V) = 2 → fAw (g V) ≠ 0) : X2 g_q := by
  refine ⟨fun V v1 v2 => ?_, fun V v1 v2 v3 v4 => ?_⟩
  · have e := k V v1 v2
    rw [e] at v1 v2 ⊢
    exact x.1 V v1 v2
  · have e := k V v1 v2
    rw [e] at v1 v2 v3 v4 ⊢
    obtain ⟨R, r1, r2⟩ := v4
    have hR : ∃ R, fOn (g R) = 1 ∧ fPa (g R) = fAw (g V) := by
      rcases kr R r1 with q | ⟨q1, q2⟩
      · exact absurd (r2.symm.trans q) (ha V v1 v2)
      · exact ⟨R, q1, q2.symm.trans r2⟩
    obtain ⟨U, u1, u2, u3⟩ := x.2 V v1 v2 v3 hR
    have eu := ku U u1 (by
      rcases u3 with u3 | u3
      · exact Or.inl u3
      · exact Or.inr u3.1)
    refine ⟨U, ?_⟩
    rw [eu]
    exact ⟨u1, u2, u3⟩
theorem aw_0 {K : Kd} {N : Int} {m ty : Int → Int} {g : Int → Fm} (h : MI K N m ty g) : ∀ V, fOn (g V) = 1 → fSu (g V) = 2 → fAw (g V) ≠ 0 := fun V v1 v2 => by
  have t := (h.1 V v1).2.1.2.2.2.2.2 v2
  obtain ⟨a1, a2, a3, a4, a5, a6, a7⟩ := (h.1 V v1).1
  omega
theorem Lst_gen {ty m m_q : Int → Int} {g g_q : Int → Fm} (k : ∀ W, fOn (g W) = 1 → fSx (g W) = 2 → g_q W = g W) (hl : ∀ l, 0 ≤ l → l ≤ 11 → ty (-1 - l) / 8 % 2 = 0 → (∃ W, Lka m g l W) → m_q l = m l) : Lst ty m g m_q g_q := fun l W a b c d => by
  unfold Lka
  rw [k W d.1 d.2.2.1, hl l a b c ⟨W, d⟩]
  exact d
/-- no other frame in the stretch of a leaf -/
theorem no_in {K : Kd} {N : Int} {m ty : Int → Int} {g : Int → Fm} {r W : Int} (h : MI K N m ty g) (hr : fOn (g r) = 1) (hu : fSu (g r) = 0) (n : W ≠ r) (h1 : fLo (g r) ≤ W) (h2 : W < fHi (g r)) : fOn (g W) ≠ 1 := fun hW => by
  have q := (oth_w h hr hu hW n).1 W (by omega) (by
    obtain ⟨a1, a2, a3, a4, a5, a6, a7⟩ := (h.1 W hW).1
    omega)
  exact q ⟨h1, h2⟩
theorem gk_1 {g : Int → Fm} {r W2 : Int} {f F2 : Fm} (n2 : W2 ≠ r) (h1 : fOn F2 = 1) : gk g r f (fun W => if W = W2 then F2 else fo) r = f ∧ gk g r f (fun W => if W = W2 then F2 else fo) W2 = F2 ∧ ∀ W, W ≠ r → W ≠ W2 → gk g r f (fun W => if W = W2 then F2 else fo) W = g W := by
  refine ⟨if_pos rfl, ?_, fun W q1 q2 => ?_⟩
  · have i1 : (if W2 = W2 then F2 else fo) = F2 := if_pos rfl
    show (if W2 = r then f else if fOn (if W2 = W2 then F2 else fo) = 1 then (if W2 = W2 then F2 else fo) else g W2) = F2
    rw [if_neg n2, i1, if_pos h1]
  · have i1 : (if W = W2 then F2 else fo) = fo := if_neg q2
    show (if W = r then f else if fOn (if W = W2 then F2 else fo) = 1 then (if W = W2 then F2 else fo) else g W) = g W
    rw [if_neg q1, i1]
    exact if_neg (show ¬ (0 : Int) = 1 by decide)
section
variable {K : Kd} {N : Int} {ty : Int → Int} {g : Int → Fm} {A A_q : Nat → Nat → Int} {p r : Int}
theorem ru_call {t : Int} {c1 c2 : Cx} (s : Sby K N) (kb : Kb K) (hp : 0 ≤ p) (h : SF K N ty g A p r) (k : kF K (fSt (g r)) = 9) (dw : cDw (fCx (g r)) = 0) (hd : cMd (fCx (g r)) = 0) (ht : kP K t = kP K (fSt (g r) + 1) + kV K (fSt (g r))) (w1 : Wkr c1 (a0 (fCx (g r)))) (ab : Abv c1) (ca : Cal (fCx (g r)) c1 c2) (k1 : cEk c2 = 1) (k2 : cDw c2 = cZ c2 + 3) (k3 : 1 ≤ cZ c2) (k4 : 0 ≤ cD c2) (k5 : 7 + cZ c2 + cD c2 ≤ cD (fCx (g r))) (k6 : c2.2.2 = ((r0, r0, r0), (0, [], [])))
    (o1 : Gd K N (fun _ _ => False) (fSt (g r) + 1) c1) (o2 : Gd K N (fun _ _ => False) t c2) (ha : acR A A_q p (kF K (fSt (g r))) (kV K (fSt (g r)))) : Nxs K N ty g (ldM A p) A_q p := by
  have hu := SF_lf h (by omega)
  have q := SF_rw h dw
  obtain ⟨hS, x, ⟨z1, z2, z3, z4, z5, z6, z7, z8⟩, u⟩ := h
  obtain ⟨w, i, n, b, A1, A2, A3, _, hw, hi, hr, hb, e1, s1, e3, e⟩ := acR_f9 ha k
  have H := (hS.1.1 r z1).1
  obtain ⟨b1, b2, b3, b4, b5, b6, b7, b8, b9, b10, b11, b12, b13⟩ := H
  have bt := kb t
  obtain ⟨W2, eW⟩ : ∃ W2, W2 = r - 7 - cZ c2 := ⟨_, rfl⟩
  obtain ⟨ty_q, t1, hM⟩ := MI_call hS.1 z1 hu z2 hd dw w1 ab ca k1 k2 k3 k4 k5 k6 o1 o2 eW
  have o12 : ∀ q, q ≠ 59 → q ≠ 63 → q ≠ 64 → q ≠ 66 → A_q q = A q := fun q q1 q2 q3 q4 => by
    rw [e, uA_ne q4, e3, uA_ne q2, s1, stM_ne q1, e1, uA_ne q3]
  have em : ldM A_q p = um (ldM A p) (r - 4) (kP K (fSt (g r) + 1)) := by
    have e59 : A_q 59 = stM A1 p (w - 4) i 59 := by
      rw [e, uA_ne (by decide), e3, uA_ne (by decide), s1]
    rw [ldM_f (p := p) e59, show w - 4 = r - 4 by omega, ld_um hp (by omega) (by omega), show i = kP K (fSt (g r) + 1) by omega, ldM_f (p := p) (show A1 59 = A 59 by rw [e1]; exact uA_ne (by decide))]
  rw [← em] at hM
  obtain ⟨g_q, hg⟩ : ∃ g_q, g_q = gk g r (fOn (g r), 1, 6, fPb (g r), fCh (g r), fPa (g r), fAw (g r), fLo (g r), fHi (g r), fSt (g r) + 1, c1, fRs (g r), fRx (g r)) (fun W => if W = W2 then (1, 0, 0, fPb (g r), 0, 0, 0, fLo (g r), r - 3, t, c2, 0, c2) else fo) := ⟨_, rfl⟩
  rw [← hg] at hM
  have n2 : W2 ≠ r := by omega
  obtain ⟨gr, g2, go⟩ := gk_1 (g := g) (r := r) (f := (fOn (g r), 1, 6, fPb (g r), fCh (g r), fPa (g r), fAw (g r), fLo (g r), fHi (g r), fSt (g r) + 1, c1, fRs (g r), fRx (g r))) (W2 := W2) (F2 := (1, 0, 0, fPb (g r), 0, 0, 0, fLo (g r), r - 3, t, c2, 0, c2)) n2 rfl
  rw [← hg] at gr g2 go
  have of2 : fOn (g W2) ≠ 1 := no_in hS.1 z1 hu n2 (by omega) (by omega)
  have ne : ∀ y, ldM A_q p y ≠ ldM A p y → y = r - 4 := fun y hy => by
    by_cases q : y = r - 4
    · exact q
    · rw [em, um_n q] at hy
      exact absurd rfl hy
  have kk : ∀ W, fOn (g W) = 1 → fSx (g W) ≠ 0 → g_q W = g W := fun W q1 q2 => go W (fun e => by subst e; omega) (fun e => by subst e; exact of2 q1)
  have hK : SK K N ty_q g_q A_q p := SK_gen hS z2 hM (Oky_m hS.1 x z1 hu (fun y hy => Or.inr (Or.inr (Or.inr (by rw [ne y hy]; omega))))) (fun W q1 q2 => kk W q1 (by omega)) (fun W q1 q2 => by
    refine go W (fun e => ?_) (fun e => ?_)
    · subst e
      rw [gr] at q2
      exact absurd q2 (show ¬ (6 : Int) = 1 by decide)
    · subst e
      rw [g2] at q2
      exact absurd q2 (show ¬ (0 : Int) = 1 by decide)) (o12 71 (by decide) (by decide) (by decide) (by decide)) (o12 72 (by decide) (by decide) (by decide) (by decide)) (o12 73 (by decide) (by decide) (by decide) (by decide)) (o12 74 (by decide) (by decide) (by decide) (by decide)) (o12 75 (by decide) (by decide) (by decide) (by decide)) (o12 76 (by decide) (by decide) (by decide) (by decide)) (o12 77 (by decide) (by decide) (by decide) (by decide))
  have c2a : c2.2.2.1 = (r0, r0, r0) := by rw [k6]
  refine ⟨ty_q, g_q, ⟨hK, Or.inr ⟨W2, ?_, fun W q1 q2 => ?_⟩⟩, X2_gen x (fun V v1 v2 => ?_) (fun R r1 => ?_) (fun U u1 u2 => kk U u1 (by omega)) (aw_0 hS.1), t1, Lst_gen (fun W q1 q2 => kk W q1 (by omega)) (fun l l1 l2 _ _ => ?_)⟩
  · unfold RN Rgs fR
    rw [g2]
    refine ⟨rfl, rfl, ?_, ?_, Or.inl ?_, ?_, fun q => ?_⟩
    · rw [e, uA_eq]
      show 2 * (w - 4) + b = 2 * (W2 + cDw c2) + fPb (g r)
      omega
    · rw [e, uA_ne (by decide), e3, uA_ne (by decide), s1, stM_ne (by decide), e1, uA_eq]
      show w - 4 = W2 + cDw c2
      omega
    · have e63 : A_q 63 p.toNat = kP K t := by
        rw [e, uA_ne (by decide), e3, uA_eq, i32_to (by omega) (by omega)]
        omega
      rw [e63, o12 65 (by decide) (by decide) (by decide) (by decide), z6]
      exact Pos_0 s o2
    · show Rok _ _ _ c2.2.2.1.1 _ ∧ Rok _ _ _ c2.2.2.1.2.1 _ ∧ Rok _ _ _ c2.2.2.1.2.2 _
      rw [c2a]
      exact ⟨Rok_0, Rok_0, Rok_0⟩
    · rw [o12 73 (by decide) (by decide) (by decide) (by decide)] at q
      exact z8 q
  · by_cases n : W = W2
    · exact n
    · by_cases n_q : W = r
      · subst n_q
        rw [gr] at q2
        exact absurd q2 (show ¬ (6 : Int) = 0 by decide)
      · rw [go W n_q n] at q1 q2
        exact absurd (u W q1 q2) n_q
  · refine go V (fun e => ?_) (fun e => ?_)
    · subst e
      rw [gr] at v2
      exact absurd v2 (show ¬ (1 : Int) = 2 by decide)
    · subst e
      rw [g2] at v2
      exact absurd v2 (show ¬ (0 : Int) = 2 by decide)
  · by_cases n : R = W2
    · subst n
      rw [g2]
      exact Or.inl rfl
    · by_cases n_q : R = r
      · subst n_q
        rw [gr]
        exact Or.inr ⟨z1, rfl⟩
      · rw [go R n_q n] at r1 ⊢
        exact Or.inr ⟨r1, rfl⟩
  · rw [em]
    exact um_n (by omega)
theorem ru_ret {it im om : Int} (s : Sby K N) (h : SF K N ty g A p r) (kv : kV K (fSt (g r)) = 19) (ek : cEk (fCx (g r)) = 1) (dw : cDw (fCx (g r)) = cZ (fCx (g r)) + 3) (hd : cMd (fCx (g r)) = 0) (ha : opR A A_q it im om p (kV K (fSt (g r)))) : Nxs K N ty g (ldM A p) A_q p := by
  have hu := SF_lf h (by omega)
  obtain ⟨hS, x, ⟨z1, z2, z3, z4, z5, z6, z7, z8⟩, u⟩ := h
  obtain ⟨w, n, v, b, A1, A2, _, hw, hr, l, hb, e1, e2, e⟩ := opR_f19 ha kv
  obtain ⟨a1, a2, a3, a4, a5, a6⟩ := hS.1.1 r z1
  obtain ⟨b1, b2, b3, b4, b5, b6, b7, b8, b9, b10, b11, b12, b13⟩ := a1
  obtain ⟨⟨m1, m2, m3, m4, m5, m6, m7⟩, hM⟩ := MI_ret hS.1 z1 hu z2 hd ek
  have su1 := (a5.1 ek).2.1
  obtain ⟨C, eC⟩ : ∃ C, C = r + cZ (fCx (g r)) + 7 := ⟨_, rfl⟩
  rw [← eC] at m1 m2 m3 m4 m5 m6 m7 hM su1
  have sx6 := ((hS.1.1 C m1).2.2.2.1.2.2.1 su1).2.2.1
  have z3' : A 66 p.toNat = 2 * (r + cDw (fCx (g r))) + fPb (g r) := z3
  have z4' : A 64 p.toNat = r + cDw (fCx (g r)) := z4
  have o12 : ∀ q, q ≠ 63 → q ≠ 64 → q ≠ 66 → A_q q = A q := fun q q2 q3 q4 => by
    rw [e, uA_ne q4, e2, uA_ne q3, e1, uA_ne q2]
  have em := ldM_f (p := p) (o12 59 (by decide) (by decide) (by decide))
  obtain ⟨g_q, hg⟩ : ∃ g_q, g_q = ug (ug g r fo) C (up (g C) 0 (fSt (g C)) (fCx (g C))) := ⟨_, rfl⟩
  rw [← hg] at hM
  have gC : g_q C = up (g C) 0 (fSt (g C)) (fCx (g C)) := by
    rw [hg]
    exact ug_e
  have gr : g_q r = fo := by
    rw [hg, ug_n (fun q => m7 q.symm)]
    exact ug_e
  have go : ∀ W, W ≠ r → W ≠ C → g_q W = g W := fun W q1 q2 => by
    rw [hg, ug_n q2, ug_n q1]
  have kk : ∀ W, fOn (g W) = 1 → fSx (g W) ≠ 0 → fSx (g W) ≠ 6 → g_q W = g W := fun W q1 q2 q3 => go W (fun e => by subst e; omega) (fun e => by subst e; omega)
  have hM' : MI K N (ldM A_q p) ty g_q := by
    rw [em]
    exact hM
  have hK : SK K N ty g_q A_q p := SK_gen hS z2 hM' (Oky_e em) (fun W q1 q2 => kk W q1 (by omega) (by omega)) (fun W q1 q2 => by
    refine go W (fun e => ?_) (fun e => ?_)
    · subst e
      rw [gr] at q1
      exact absurd q1 (show ¬ (0 : Int) = 1 by decide)
    · subst e
      rw [gC] at q2
      exact absurd q2 (show ¬ (0 : Int) = 1 by decide)) (o12 71 (by decide) (by decide) (by decide)) (o12 72 (by decide) (by decide) (by decide)) (o12 73 (by decide) (by decide) (by decide)) (o12 74 (by decide) (by decide) (by decide)) (o12 75 (by decide) (by decide) (by decide)) (o12 76 (by decide) (by decide) (by decide)) (o12 77 (by decide) (by decide) (by decide))
  refine ⟨ty, g_q, ⟨hK, Or.inr ⟨C, ?_, fun W q1 q2 => ?_⟩⟩, X2_gen x (fun V v1 v2 => ?_) (fun R r1 => ?_) (fun U u1 u2 => kk U u1 (by omega) (by omega)) (aw_0 hS.1), fun _ _ => rfl, Lst_gen (fun W q1 q2 => kk W q1 (by omega) (by omega)) (fun l _ _ _ _ => by rw [em])⟩
  · have oC := (hM'.1 C (by rw [gC]; exact m1)).2.2.2.1.1
    rw [gC] at oC
    unfold RN Rgs fR
    rw [gC]
    refine ⟨m1, rfl, ?_, ?_, Or.inl ?_, ?_, fun q => ?_⟩
    · rw [e, uA_eq]
      show 2 * (w + 4) + b = 2 * (C + cDw (fCx (g C))) + fPb (g C)
      omega
    · rw [e, uA_ne (by decide), e2, uA_eq]
      show w + 4 = C + cDw (fCx (g C))
      omega
    · have e63 : A_q 63 p.toNat = kP K (fSt (g C)) := by
        rw [e, uA_ne (by decide), e2, uA_ne (by decide), e1, uA_eq, l, ← m4]
        exact congrArg (ldM A p) (by omega)
      rw [e63, o12 65 (by decide) (by decide) (by decide), z6]
      exact Pos_0 s oC
    · show Rok _ _ _ (fCx (g C)).2.2.1.1 _ ∧ Rok _ _ _ (fCx (g C)).2.2.1.2.1 _ ∧ Rok _ _ _ (fCx (g C)).2.2.1.2.2 _
      rw [m5]
      exact ⟨Rok_0, Rok_0, Rok_0⟩
    · rw [o12 73 (by decide) (by decide) (by decide)] at q
      have := z8 q
      show fPb (g C) = 0
      omega
  · by_cases n : W = C
    · exact n
    · by_cases n_q : W = r
      · subst n_q
        rw [gr] at q1
        exact absurd q1 (show ¬ (0 : Int) = 1 by decide)
      · rw [go W n_q n] at q1 q2
        exact absurd (u W q1 q2) n_q
  · refine go V (fun e => ?_) (fun e => ?_)
    · subst e
      rw [gr] at v1
      exact absurd v1 (show ¬ (0 : Int) = 1 by decide)
    · subst e
      rw [gC] at v2
      exact absurd v2 (show ¬ (0 : Int) = 2 by decide)
  · by_cases n : R = C
    · subst n
      rw [gC]
      exact Or.inr ⟨m1, rfl⟩
    · by_cases n_q : R = r
      · subst n_q
        rw [gr] at r1
        exact absurd r1 (show ¬ (0 : Int) = 1 by decide)
      · rw [go R n_q n] at r1 ⊢
        exact Or.inr ⟨r1, rfl⟩
end
