/-! FROM OUTSIDE: a process is made ready or told by a link or by the keys -/
section
variable {K : Kd} {N : Int} {ty : Int → Int} {g : Int → Fm} {A B A_q : Nat → Nat → Int} {q V : Int}
/-- links other than a -/
def Nxa (K : Kd) (N : Int) (ty : Int → Int) (g : Int → Fm) (m : Int → Int) (A_q : Nat → Nat → Int) (q a : Int) : Prop := ∃ (ty_q : Int → Int) (g_q : Int → Fm), SI K N ty_q g_q A_q q ∧ X2 g_q ∧ (∀ x, x < 16 → ty_q x = ty x) ∧ ∀ l W, 0 ≤ l → l ≤ 11 → l ≠ a → ty (-1 - l) / 8 % 2 = 0 → Lka m g l W → Lka (ldM A_q q) g_q l W
theorem ext_mk {f : Fm} {a : Int} (s : Sby K N) (hq : 0 ≤ q) (h : SI K N ty g A q) (x : X2 g) (y1 : fOn (g V) = 1) (su : fSu (g V) = 0) (sx : fSx (g V) ≠ 0 ∧ fSx (g V) ≠ 1 ∧ fSx (g V) ≠ 5) (dw : cDw (fCx (g V)) = 0) (hf : f = ws (g V) 1 (fCh f) (fSt (g V)) (fCx (g V))) (hM : MI K N (ldM B q) ty (ug g V f)) (ok : ∀ W, fOn (g W) = 1 → W ≠ V → ldM B q (fR g W - 1) = ldM A q (fR g W - 1) ∧ ∀ o, Kpt (cCp (fCx (g W))) o → ldM B q (W + o) = ldM A q (W + o)) (m1 : ldM B q (V - 1) = kP K (fSt (g V))) (rg : (fCx (g V)).2.2.1 = (r0, r0, r0))
    (o : ∀ k, 60 ≤ k → k ≤ 77 → B k = A k) (mk : mkR B A_q q (2 * V + fPb (g V))) (hl : ∀ l W, 0 ≤ l → l ≤ 11 → l ≠ a → Lka (ldM A q) g l W → W ≠ V ∧ ldM B q l = ldM A q l) : Nxa K N ty g (ldM A q) A_q q a := by
  obtain ⟨hS, hr⟩ := h
  have hM0 := hS.1
  have pb := (hM0.1 V y1).1
  have p9 := pb.2.2.2.2.2.2.2.2.1
  have p10 := pb.2.2.2.2.2.2.2.2.2.1
  have fe : fOn f = 1 ∧ fSu f = 0 ∧ fSx f = 1 ∧ fPb f = fPb (g V) ∧ fPa f = fPa (g V) ∧ fCx f = fCx (g V) ∧ fSt f = fSt (g V) := by
    rw [hf]
    exact ⟨y1, su, rfl, rfl, rfl, rfl, rfl⟩
  obtain ⟨f1, f2, f3, f4, f5, f6, f7⟩ := fe
  obtain ⟨G, hG⟩ : ∃ G, G = ug g V f := ⟨_, rfl⟩
  have GV : G V = f := by
    rw [hG]
    exact ug_e
  have Go : ∀ W, W ≠ V → G W = g W := fun W n => by
    rw [hG]
    exact ug_n n
  have fGV : fR G V = fR g V := by
    show V + cDw (fCx (G V)) = V + cDw (fCx (g V))
    rw [GV, f6]
  have rst : Rst K (ldM B q) G V := by
    show ldM B q (V + cDw (fCx (G V)) - 1) = kP K (fSt (G V)) ∧ (fCx (G V)).2.2.1 = (r0, r0, r0) ∧ fSu (G V) = 0
    rw [GV, f6, f7, dw, show V + 0 - 1 = V - 1 by omega]
    exact ⟨m1, rg, f2⟩
  have off : fOn (g (-1)) ≠ 1 := fun w => by
    obtain ⟨b1, b2, b3, b4, b5, b6, b7⟩ := (hM0.1 (-1) w).1
    omega
  have nm : (-1 : Int) ≠ V := fun w => by
    rw [← w] at y1
    exact off y1
  obtain ⟨H1, H2, H3⟩ := SK_two (r := -1) (A4 := B) (G := G) hS y1 sx.2.1 (fun W w1 _ w2 => ok W w1 w2) (fun w => by rw [Go (-1) nm] at w; exact absurd w off) (fun W _ n => Go W n) fGV rst (o 71 (by decide) (by decide)) (o 72 (by decide) (by decide)) (o 73 (by decide) (by decide)) (o 74 (by decide) (by decide)) (o 75 (by decide) (by decide)) (o 76 (by decide) (by decide)) (o 77 (by decide) (by decide))
  have x3 : X2 G := by
    refine X2_gen x (fun W w1 w2 => Go W (fun e => ?_)) (fun R r1 => ?_) (fun U u1 u2 => Go U (fun e => by subst e; omega)) (aw_0 hM0)
    · subst e
      rw [GV] at w2
      omega
    · by_cases n : R = V
      · subst n
        rw [GV, f5]
        exact Or.inr ⟨y1, rfl⟩
      · rw [Go R n] at r1 ⊢
        exact Or.inr ⟨r1, rfl⟩
  have key : Nxs K N ty G (ldM B q) A_q q := by
    rw [hG] at H1 H3 x3 ⊢
    refine SX_mk (b := fPb (g V)) s hq (by omega) hM ?_ ?_ sx.2.1 f1 f3 f4 ?_ H1 H2 H3 ?_ x3 mk
    · show Rdy g 0 (B 72 (2 * q).toNat) (fun i => B 71 (1100 * (2 * q) + i).toNat)
      rw [o 71 (by decide) (by decide), o 72 (by decide) (by decide)]
      exact hS.2.1
    · show Rdy g 1 (B 72 (2 * q + 1).toNat) (fun i => B 71 (1100 * (2 * q + 1) + i).toNat)
      rw [o 71 (by decide) (by decide), o 72 (by decide) (by decide)]
      exact hS.2.2.1
    · rw [f6, dw]
      omega
    · rw [← hG]
      rcases hr with ⟨w1, w2⟩ | ⟨r, ⟨z1, z2, z3, z4, z5, z6, z7⟩, u⟩
      · refine Or.inl ⟨by rw [o 66 (by decide) (by decide)]; exact w1, fun W v1 v2 => ?_⟩
        by_cases n : W = V
        · subst n
          rw [GV] at v2
          omega
        · rw [Go W n] at v1 v2
          exact w2 W v1 v2
      · have nr : r ≠ V := fun e => by
          subst e
          exact sx.1 z2
        refine Or.inr ⟨r, ?_, fun W v1 v2 => ?_⟩
        · have q6 := Rgs_m hM0 z1 (ok r z1 nr).2 z6
          unfold RN Rgs fR at *
          rw [Go r nr, o 60 (by decide) (by decide), o 61 (by decide) (by decide), o 62 (by decide) (by decide), o 63 (by decide) (by decide), o 64 (by decide) (by decide), o 65 (by decide) (by decide), o 66 (by decide) (by decide), o 73 (by decide) (by decide)]
          exact ⟨z1, z2, z3, z4, z5, q6, z7⟩
        · by_cases n : W = V
          · subst n
            rw [GV] at v2
            omega
          · rw [Go W n] at v1 v2
            exact u W v1 v2
  obtain ⟨ty_q, g_q, k1, k2, k3, k4⟩ := key
  refine ⟨ty_q, g_q, k1, k2, k3, fun l W l0 l1 na b8 d => k4 l W l0 l1 b8 ?_⟩
  obtain ⟨n, e⟩ := hl l W l0 l1 na d
  unfold Lka
  rw [Go W n, e]
  exact d
/-- the one that waits at a is made ready; data may be written for it -/
theorem ext_rdy {a : Int} (s : Sby K N) (hq : 0 ≤ q) (h : SI K N ty g A q) (x : X2 g) (hV : Ats (ldM A q) g a V) (hs : fSx (g V) = 2 ∨ fSx (g V) = 3) (hc : fCh (g V) = a) (m1 : ldM A q (V - 1) = kP K (fSt (g V))) (ta : ty a = 2) (em : ldM B q = um (ldM A q) a (-1) ∨ ∃ t v, ty t = 1 ∧ 16 ≤ t ∧ ldM B q = um (um (ldM A q) t v) a (-1)) (o : ∀ k, 60 ≤ k → k ≤ 77 → B k = A k) (mk : mkR B A_q q (2 * V + fPb (g V))) : Nxa K N ty g (ldM A q) A_q q a := by
  have hM := h.1.1
  obtain ⟨y1, y2, y3, y4, y5, y6, y7, y8⟩ := hV
  obtain ⟨c1, c2, c3, c4, c5, c6⟩ := hM.1 V y1
  have rg := c4.2.2.2.2.2.2.2.2.2.1 (by rcases hs with w | w; exact Or.inl w; exact Or.inr (Or.inl w))
  have ch : ∀ y, ldM B q y ≠ ldM A q y → y = a ∨ (ty y = 1 ∧ 16 ≤ y) := fun y hy => by
    rcases em with em | ⟨t, v, t1, t2, em⟩
    · by_cases w : y = a
      · exact Or.inl w
      · rw [em, um_n w] at hy
        exact absurd rfl hy
    · by_cases w : y = a
      · exact Or.inl w
      · by_cases w_q : y = t
        · rw [w_q]
          exact Or.inr ⟨t1, t2⟩
        · rw [em, um_n w, um_n w_q] at hy
          exact absurd rfl hy
  have hM2 : MI K N (ldM B q) ty (ug g V (ws (g V) 1 a (fSt (g V)) (fCx (g V)))) := by
    rcases em with em | ⟨t, v, t1, t2, em⟩
    · exact MI_rdy hM y1 hs hc (fun y n => by rw [em, um_n n]) ta (by rw [em, um_e])
    · exact MI_rdy (MI_dat (v := v) hM y1 (by omega) (by omega) t1) y1 hs hc (fun y n => by rw [em, um_n n]) ta (by rw [em, um_e])
  have ok : Oky (ldM A q) (ldM B q) g V := Oky_u hM x y1 (fun y hy => by
    rcases ch y hy with w | w
    · rw [w]
      exact Or.inr (Or.inl ta)
    · exact Or.inl w.1)
  refine ext_mk s hq h x y1 y2 (by omega) y8 rfl hM2 ok ?_ rg.2 o mk (fun l W l0 l1 na d => ⟨fun e => ?_, ?_⟩)
  · by_cases w : ldM B q (V - 1) = ldM A q (V - 1)
    · exact w.trans m1
    · exfalso
      rcases ch _ w with w | w
      · rw [← w, c2.2.2.1] at ta
        omega
      · rw [c2.2.2.1] at w
        omega
  · have := d.2.2.2.1
    rw [e, hc] at this
    exact na this.symm
  · by_cases w : ldM B q l = ldM A q l
    · exact w
    · exfalso
      rcases ch _ w with w | w
      · exact na w
      · omega
/-- the one in ALT at a is told -/
theorem ext_wk {a : Int} (s : Sby K N) (hq : 0 ≤ q) (h : SI K N ty g A q) (x : X2 g) (hV : Ats (ldM A q) g a V) (md : cMd (fCx (g V)) = 1) (m4 : ldM A q (V - 3) = 2 → fSx (g V) = 4) (sn : fSx (g V) ≠ 2 ∧ fSx (g V) ≠ 3) (o : ∀ k, 59 ≤ k → k ≤ 77 → B k = A k) (k : wkR B A_q q (2 * V + fPb (g V))) : Nxa K N ty g (ldM A q) A_q q a := by
  have hM := h.1.1
  obtain ⟨y1, y2, y3, y4, y5, y6, y7, y8⟩ := hV
  obtain ⟨c1, c2, c3, c4, c5, c6⟩ := hM.1 V y1
  have s5 : fSx (g V) ≠ 5 := fun w => by
    have := (c4.2.2.2.2.2.2.2.2.2.2.2.2.2.2.2.2 w).2.1
    omega
  have e0 := ldM_f (p := q) (o 59 (by decide) (by decide))
  have dv2 : (2 * V + fPb (g V)) / 2 = V := by omega
  unfold wkR at k
  rw [dv2, e0] at k
  obtain ⟨C, hC⟩ : ∃ C, C = stM B q (V - 3) 3 := ⟨_, rfl⟩
  rw [← hC] at k
  have em : ldM C q = um (ldM A q) (V - 3) 3 := by
    rw [hC, ld_um hq (by omega) (by omega), e0]
  have mo : ∀ y, y ≠ V - 3 → ldM C q y = ldM A q y := fun y w => by
    rw [em, um_n w]
  have oC : ∀ k, 60 ≤ k → k ≤ 77 → C k = A k := fun k k1 k2 => by
    rw [hC, stM_ne (by omega), o k (by omega) k2]
  have ok : Oky (ldM A q) (ldM C q) g V := Oky_u hM x y1 (fun y hy => by
    by_cases w : y = V - 3
    · subst w
      exact Or.inr (Or.inr (Or.inr ⟨c2.1, by omega, by omega⟩))
    · exact absurd (mo y w) hy)
  have okV : ldM C q (fR g V - 1) = ldM A q (fR g V - 1) ∧ ∀ o, Kpt (cCp (fCx (g V))) o → ldM C q (V + o) = ldM A q (V + o) := by
    refine ⟨mo _ (by show V + cDw (fCx (g V)) - 1 ≠ V - 3; omega), fun o kp => mo _ (fun w => ?_)⟩
    have t := (Kpt_t hM x y1 kp).1
    rw [w, c2.1] at t
    omega
  have oka : ∀ W, fOn (g W) = 1 → ldM C q (fR g W - 1) = ldM A q (fR g W - 1) ∧ ∀ o, Kpt (cCp (fCx (g W))) o → ldM C q (W + o) = ldM A q (W + o) := fun W hW => by
    by_cases n : W = V
    · subst n
      exact okV
    · exact ok W hW n
  rcases k with ⟨k1, k2⟩ | ⟨k1, k2⟩
  · subst k2
    have hM2 : MI K N (ldM A_q q) ty g := by
      have z := MI_tel (sx := fSx (g V)) (m_q := ldM A_q q) hM y1 md (Or.inl ⟨rfl, s5⟩) mo (by rw [em, um_e])
      have eg : ws (g V) (fSx (g V)) (fCh (g V)) (fSt (g V)) (fCx (g V)) = g V := rfl
      rw [eg, ug_i] at z
      exact z
    obtain ⟨⟨_, hR0, hR1, hS1, hS2, hS3⟩, hr⟩ := h
    refine ⟨ty, g, ⟨?_, ?_⟩, x, fun _ _ => rfl, fun l W l0 l1 _ _ d => ?_⟩
    · unfold SK Asd rw0 at *
      rw [oC 71 (by decide) (by decide), oC 72 (by decide) (by decide), oC 73 (by decide) (by decide), oC 74 (by decide) (by decide), oC 75 (by decide) (by decide), oC 76 (by decide) (by decide), oC 77 (by decide) (by decide)]
      refine ⟨hM2, hR0, hR1, fun W w1 w2 w3 => ?_, hS2, fun W w1 w2 w3 => ?_⟩
      · obtain ⟨t1, t2, t3⟩ := hS1 W w1 w2 w3
        exact ⟨(oka W w1).1.trans t1, t2, t3⟩
      · obtain ⟨t1, t2⟩ := hS3 W w1 w2 w3
        rw [(oka W w1).1]
        exact ⟨t1, Rgs_m hM w1 (oka W w1).2 t2⟩
    · rcases hr with ⟨w1, w2⟩ | ⟨r, ⟨z1, z2, z3, z4, z5, z6, z7⟩, u⟩
      · exact Or.inl ⟨by rw [oC 66 (by decide) (by decide)]; exact w1, w2⟩
      · refine Or.inr ⟨r, ?_, u⟩
        have q6 := Rgs_m hM z1 (oka r z1).2 z6
        unfold RN
        rw [oC 60 (by decide) (by decide), oC 61 (by decide) (by decide), oC 62 (by decide) (by decide), oC 63 (by decide) (by decide), oC 64 (by decide) (by decide), oC 65 (by decide) (by decide), oC 66 (by decide) (by decide), oC 73 (by decide) (by decide)]
        exact ⟨z1, z2, z3, z4, z5, q6, z7⟩
    · unfold Lka
      rw [mo l (by omega)]
      exact d
  · have sx4 := m4 k1
    have hM2 : MI K N (ldM C q) ty (ug g V (ws (g V) 1 (fCh (g V)) (fSt (g V)) (fCx (g V)))) := MI_tel (sx := 1) hM y1 md (Or.inr ⟨sx4, rfl⟩) mo (by rw [em, um_e])
    have rg := c4.2.2.2.2.2.2.2.2.2.1 (Or.inr (Or.inr (Or.inl sx4)))
    have rk := (c4.2.2.2.2.2.2.2.2.2.2.2.1 (Or.inr (Or.inr sx4))).2
    refine ext_mk s hq h x y1 y2 (by omega) y8 rfl hM2 ok ?_ rg.2 oC k2 (fun l W l0 l1 na d => ⟨fun e => ?_, mo l (by omega)⟩)
    · rw [mo _ (by omega)]
      exact rk
    · have := d.2.2.1
      rw [e] at this
      omega
end
