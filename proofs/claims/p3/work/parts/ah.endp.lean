/-! EACH RULE AS A STEP: a branch ends -/
section
variable {K : Kd} {N : Int} {ty : Int → Int} {g : Int → Fm} {A A_q : Nat → Nat → Int} {p r : Int}
theorem ru_end {it im om : Int} (hp : 0 ≤ p) (hI : Ib A) (h : SF K N ty g A p r) (kv : kV K (fSt (g r)) = 17) (ek : cEk (fCx (g r)) = 2) (hd : cMd (fCx (g r)) = 0) (ca : cA (fCx (g r)) = (2, cPd (fCx (g r)), 1)) (ha : opR A A_q it im om p (kV K (fSt (g r)))) : Nxs K N ty g (ldM A p) A_q p := by
  have hu := SF_lf h (by omega)
  have h_q := h
  obtain ⟨hS, x, ⟨z1, z2, z3, z4, z5, z6, z7, z8⟩, u⟩ := h
  obtain ⟨a, _, hA, eb⟩ := opR_f17 ha kv
  have hM := hS.1
  obtain ⟨a1, a2, a3, a4, a5, a6⟩ := hM.1 r z1
  obtain ⟨pa, V, v1, v2, v3, v4, v5⟩ := a5.2.1 ek
  have tv := (hM.1 V v1).2.1
  have tv2 := tv.2.2.2.2.2 v2
  have HV := (hM.1 V v1).1
  obtain ⟨b1, b2, b3, b4, b5, b6, b7, b8, b9, b10, b11, b12, b13⟩ := HV
  have WV := (hM.1 V v1).2.2.2.1.2.1 v2
  have BV := (hM.1 V v1).2.2.2.2.2 v2
  have nV : V ≠ r := fun e => by
    rw [e] at v2
    omega
  have rb : 19 ≤ r ∧ r < 4016 := by
    obtain ⟨d1, d2, d3, d4, d5, d6, d7⟩ := a1
    omega
  obtain ⟨R1, R2, R3⟩ := z7
  rw [ca] at R1
  have q1 : r + cPd (fCx (g r)) ≤ A 60 p.toNat ∧ A 60 p.toNat < r + cPd (fCx (g r)) + 1 := R1.2.1 rfl (by show -2000000 ≤ r + cPd (fCx (g r)); omega) (by show r + cPd (fCx (g r)) + 1 ≤ 2000000; omega)
  have ea : a = fPa (g r) := by omega
  have aw : fAw (g V) = a := by omega
  have cn := (cnt_p (g := g) (a := a) 4016).2 r (by omega) (by omega) z1 (by omega)
  have cm : 1 ≤ ldM A p (a + 1) := by
    have := BV.2.2.1
    rw [aw] at this
    omega
  have ci : ldM A p (a + 1) ≤ 2147483647 := by
    unfold ldM
    rw [if_pos ⟨by omega, by omega⟩]
    exact (hI 59 _ (by decide) (by decide)).2
  obtain ⟨A1, s1, eb⟩ := eb
  rw [i32_to (by omega) (by omega)] at s1
  have em1 : ldM A1 p = um (ldM A p) (fPa (g r) + 1) (ldM A p (fPa (g r) + 1) - 1) := by
    rw [s1, ← ea]
    exact ld_um hp (by omega) (by omega)
  have o1 : ∀ k, k ≠ 59 → A1 k = A k := fun k k1 => by
    rw [s1, stM_ne k1]
  have hM1 : MI K N (ldM A1 p) ty (ug g r fo) := by
    rw [em1]
    exact MI_end1 hM z1 hu z2 hd v1 v2 v3
  have mo1 : ∀ y, y ≠ a + 1 → ldM A1 p y = ldM A p y := fun y hy => by
    rw [em1]
    exact um_n (by omega)
  rcases eb with ⟨e0, e⟩ | ⟨e0, A3, mk, e⟩
  · obtain ⟨c1, c2⟩ := gone_c (A := A1) (p := p)
    rw [← e] at c1 c2
    have em := ldM_f (p := p) (c2 59 (by decide))
    refine Nxs_gone (ty_q := ty) (f := fo) h_q (by rw [em]; exact hM1) (Oky_m hM x z1 hu (fun y hy => ?_)) ((c2 71 (by decide)).trans (o1 71 (by decide))) ((c2 72 (by decide)).trans (o1 72 (by decide))) ((c2 73 (by decide)).trans (o1 73 (by decide))) ((c2 74 (by decide)).trans (o1 74 (by decide))) ((c2 75 (by decide)).trans (o1 75 (by decide))) ((c2 76 (by decide)).trans (o1 76 (by decide))) ((c2 77 (by decide)).trans (o1 77 (by decide))) (fun q => absurd q (show ¬ (0 : Int) = 1 by decide)) (fun q _ => absurd q (show ¬ (0 : Int) = 2 by decide)) c1 (fun _ _ => rfl) (fun l l1 l2 _ _ => ?_)
    · rw [em] at hy
      by_cases y1 : y = a + 1
      · subst y1
        rw [← aw]
        exact Or.inr (Or.inr (Or.inl tv2.2.2.2.1))
      · exact absurd (mo1 y y1) hy
    · rw [em]
      exact mo1 l (by omega)
  · obtain ⟨G1, hG1⟩ : ∃ G1, G1 = ug g r fo := ⟨_, rfl⟩
    have G1r : G1 r = fo := by
      rw [hG1]
      exact ug_e
    have G1o : ∀ W, W ≠ r → G1 W = g W := fun W n => by
      rw [hG1]
      exact ug_n n
    rw [← hG1] at hM1
    have G1V := G1o V nV
    have d1 : ldM A1 p (a + 2) = 2 * V + fPb (g V) := by
      rw [mo1 _ (by omega), ← aw]
      exact WV.2.2.1
    have d0 : ldM A1 p a = kP K (fRs (g V)) := by
      rw [mo1 _ (by omega), ← aw]
      exact WV.2.1
    have sV : fSx (g V) ≠ 0 ∧ fSx (g V) ≠ 1 := by
      refine ⟨fun q => nV (u V v1 q), fun q => ?_⟩
      obtain ⟨U, u1, u2, u3⟩ := x.2 V v1 v2 (Or.inr q) ⟨r, z1, by omega⟩
      have nU : U ≠ r := fun e => by
        subst e
        omega
      obtain ⟨f1, f2, f3, f4, f5, f6, f7⟩ := (hM.1 U u1).1
      have q2 := ((hM1.1 V (by rw [G1V]; exact v1)).2.2.2.2.2 (by rw [G1V]; exact v2)).2.2.1
      rw [G1V, aw, e0] at q2
      have q3 := (cnt_p (g := G1) (a := a) 4016).2 U (by omega) (by omega) (by rw [G1o U nU]; exact u1) (by rw [G1o U nU]; omega)
      omega
    have sV5 : fSx (g V) ≠ 5 ∧ fSx (g V) ≠ 2 := by
      have w := (hM.1 V v1).2.2.2.1.2.2.2.2.2.2.2.2.2.1
      refine ⟨fun q => ?_, fun q => ?_⟩
      · have := (w (Or.inr (Or.inr (Or.inr q)))).1
        omega
      · have := (w (Or.inl q)).1
        omega
    have dv2 : (2 * V + fPb (g V)) / 2 = V := by omega
    rw [d1, d0, dv2] at mk
    obtain ⟨A2, hA2⟩ : ∃ A2, A2 = stM (stM A1 p (V - 1) (kP K (fRs (g V)))) p (V - 3) 0 := ⟨_, rfl⟩
    rw [← hA2] at mk
    have o2 : ∀ k, k ≠ 59 → A2 k = A k := fun k k1 => by
      rw [hA2, stM_ne k1, stM_ne k1, o1 k k1]
    have em2 : ldM A2 p = um (um (ldM A1 p) (V - 1) (kP K (fRs (g V)))) (V - 3) 0 := by
      rw [hA2, ld_um hp (by omega) (by omega), ld_um hp (by omega) (by omega)]
    have mo2 : ∀ y, y ≠ V - 1 → y ≠ V - 3 → ldM A2 p y = ldM A1 p y := fun y y1 y3 => by
      rw [em2, um_n y3, um_n y1]
    have hM2 : MI K N (ldM A2 p) ty (ug G1 V (up (G1 V) 1 (fRs (G1 V)) (fRx (G1 V)))) := by
      refine MI_end2 hM1 (by rw [G1V]; exact v1) (by rw [G1V]; exact v2) (by rw [G1V, aw, e0]; omega) (fun y y1 y2 => mo2 y (by omega) (by omega)) (fun y hy => mo2 y (fun e => ?_) (fun e => ?_))
      · rw [e, tv.2.2.1] at hy
        omega
      · rw [e, tv.1] at hy
        omega
    obtain ⟨G, hG⟩ : ∃ G, G = ug G1 V (up (G1 V) 1 (fRs (G1 V)) (fRx (G1 V))) := ⟨_, rfl⟩
    have GV : G V = up (g V) 1 (fRs (g V)) (fRx (g V)) := by
      rw [hG, ug_e, G1V]
    have Gr : G r = fo := by
      rw [hG, ug_n (fun q => nV q.symm), G1r]
    have Go : ∀ W, W ≠ r → W ≠ V → G W = g W := fun W n n_q => by
      rw [hG, ug_n n_q, G1o W n]
    have dwC : cDw (fCx (g V)) = 0 := by
      rcases b8 with q | q
      · exact q
      · have := q.2.2
        omega
    have dwR : cDw (fRx (g V)) = 0 := by
      have := congrArg (fun t : Hd => t.2.2.2.2) (b11 v2)
      have : cDw (fRx (g V)) = cDw (fCx (g V)) := this
      omega
    have fV : fR g V = V := by
      show V + cDw (fCx (g V)) = V
      omega
    have fGV : fR G V = fR g V := by
      show V + cDw (fCx (G V)) = V + cDw (fCx (g V))
      rw [GV]
      show V + cDw (fRx (g V)) = _
      omega
    have ok : Oky (ldM A p) (ldM A2 p) g V := Oky_u hM x v1 (fun y hy => by
      by_cases y1 : y = V - 1
      · subst y1
        exact Or.inr (Or.inr (Or.inr ⟨tv.2.2.1, by omega, by omega⟩))
      · by_cases y3 : y = V - 3
        · subst y3
          exact Or.inr (Or.inr (Or.inr ⟨tv.1, by omega, by omega⟩))
        · by_cases ya : y = a + 1
          · subst ya
            rw [← aw]
            exact Or.inr (Or.inr (Or.inl tv2.2.2.2.1))
          · exact absurd ((mo2 y y1 y3).trans (mo1 y ya)) hy)
    have rst : Rst K (ldM A2 p) G V := by
      unfold Rst
      rw [fGV, fV, GV]
      refine ⟨?_, WV.2.2.2.2.2.2.2, rfl⟩
      rw [em2, um_n (by omega), um_e]
      rfl
    obtain ⟨H1, H2, H3⟩ := SK_two (r := r) hS v1 sV.2 (fun W w1 _ w2 => ok W w1 w2) (fun q => by rw [Gr] at q; exact absurd q (show ¬ (0 : Int) = 1 by decide)) Go fGV rst (o2 71 (by decide)) (o2 72 (by decide)) (o2 73 (by decide)) (o2 74 (by decide)) (o2 75 (by decide)) (o2 76 (by decide)) (o2 77 (by decide))
    have x3 : X2 G := by
      refine ⟨fun W w1 w2 => ?_, fun W w1 w2 w3 w4 => ?_⟩
      · have n : W ≠ r := fun e => by
          subst e
          rw [Gr] at w1
          exact absurd w1 (show ¬ (0 : Int) = 1 by decide)
        have n_q : W ≠ V := fun e => by
          subst e
          rw [GV] at w2
          exact absurd w2 (show ¬ (0 : Int) = 2 by decide)
        rw [Go W n n_q] at w1 w2 ⊢
        exact x.1 W w1 w2
      · have n : W ≠ r := fun e => by
          subst e
          rw [Gr] at w1
          exact absurd w1 (show ¬ (0 : Int) = 1 by decide)
        have n_q : W ≠ V := fun e => by
          subst e
          rw [GV] at w2
          exact absurd w2 (show ¬ (0 : Int) = 2 by decide)
        rw [Go W n n_q] at w1 w2 w3 w4 ⊢
        obtain ⟨R, r1, r2⟩ := w4
        have hR : ∃ R, fOn (g R) = 1 ∧ fPa (g R) = fAw (g W) := by
          by_cases nR : R = r
          · subst nR
            rw [Gr] at r1
            exact absurd r1 (show ¬ (0 : Int) = 1 by decide)
          · by_cases nR' : R = V
            · subst nR'
              rw [GV] at r2
              exact ⟨R, v1, r2⟩
            · rw [Go R nR nR'] at r1 r2
              exact ⟨R, r1, r2⟩
        obtain ⟨U0, u1, u2, u3⟩ := x.2 W w1 w2 w3 hR
        refine ⟨U0, ?_⟩
        rw [Go U0 (fun e => by subst e; omega) (fun e => by
          subst e
          rcases u3 with u3 | u3
          · exact sV5.1 u3
          · exact sV.2 u3.1)]
        exact ⟨u1, u2, u3⟩
    have hpb : fPb (g V) = 0 ∨ fPb (g V) = 1 := by omega
    rw [← hG] at hM2
    have hk : SK K N ty G (adM A2 (2 * p + fPb (g V)) (2 * V + fPb (g V))) p := by
      rw [hG] at hM2 H1 H3 ⊢
      refine SK_ad hp hpb hM2 ?_ ?_ (by rw [G1V]; exact sV.2) (by rw [G1V]; exact v1) rfl (by rw [G1V]; rfl) ?_ H1 H2 H3
      · show Rdy G1 0 (A2 72 (2 * p).toNat) (fun i => A2 71 (1100 * (2 * p) + i).toNat)
        rw [o2 71 (by decide), o2 72 (by decide), hG1]
        exact Rdy_o hS.2.1 (Or.inl (by omega))
      · show Rdy G1 1 (A2 72 (2 * p + 1).toNat) (fun i => A2 71 (1100 * (2 * p + 1) + i).toNat)
        rw [o2 71 (by decide), o2 72 (by decide), hG1]
        exact Rdy_o hS.2.2.1 (Or.inl (by omega))
      · rw [G1V]
        show 2 * V + fPb (g V) = 2 * (V + cDw (fRx (g V))) + fPb (g V)
        omega
    have z3' : A 66 p.toNat = 2 * fR g r + fPb (g r) := z3
    have fi := fR_in hM z1
    have pr := a1.2.2.2.2.2.2.2.2.1
    have e3 : A3 = adM A2 (2 * p + fPb (g V)) (2 * V + fPb (g V)) := by
      rcases mk with ⟨_, m2⟩ | ⟨m1, _⟩
      · rw [m2, show (2 * V + fPb (g V)) % 2 = fPb (g V) by omega]
      · rw [o2 66 (by decide)] at m1
        omega
    rw [← e3] at hk
    obtain ⟨c1, c2⟩ := gone_c (A := A3) (p := p)
    rw [← e] at c1 c2
    have em' : ldM A_q p = ldM A2 p := by
      rw [ldM_f (p := p) (c2 59 (by decide)), e3]
      exact ldM_f (ad_o ⟨by decide, by decide⟩)
    refine ⟨ty, G, ⟨?_, Or.inl ⟨c1, fun W w1 w2 => ?_⟩⟩, x3, fun _ _ => rfl, Lst_gen (fun W w1 w2 => Go W (fun e => by subst e; omega) (fun e => by subst e; exact sV5.2 w2)) (fun l l1 l2 _ _ => ?_)⟩
    · unfold SK Asd rw0 at hk ⊢
      rw [ldM_f (p := p) (c2 59 (by decide)), c2 71 (by decide), c2 72 (by decide), c2 73 (by decide), c2 74 (by decide), c2 75 (by decide), c2 76 (by decide), c2 77 (by decide)]
      exact hk
    · by_cases n : W = r
      · subst n
        rw [Gr] at w1
        exact absurd w1 (show ¬ (0 : Int) = 1 by decide)
      · by_cases n_q : W = V
        · subst n_q
          rw [GV] at w2
          exact absurd w2 (show ¬ (1 : Int) = 0 by decide)
        · rw [Go W n n_q] at w1 w2
          exact n (u W w1 w2)
    · rw [em', mo2 l (by omega) (by omega), mo1 l (by omega)]
end
