/-! EACH RULE AS A STEP: IN and OUT -/
section
variable {K : Kd} {N : Int} {ty : Int → Int} {g : Int → Fm} {A A_q : Nat → Nat → Int} {p r : Int}
/-- a word of data is written; it goes on, its registers free -/
theorem st_dat {t v : Int} (s : Sby K N) (h : SF K N ty g A p r) (hu : fSu (g r) = 0) (hd : cMd (fCx (g r)) = 0) (o1 : Gd K N (fun _ _ => False) (fSt (g r) + 1) (a0 (fCx (g r)))) (o : ∀ k, k ≠ 59 → k ≠ 60 → k ≠ 61 → k < 78 → A_q k = A k) (em : ldM A_q p = um (ldM A p) t v) (tt : ty t = 1) (t16 : 16 ≤ t) : Nxs K N ty g (ldM A p) A_q p := by
  have h_q := h
  obtain ⟨hS, x, ⟨z1, z2, z3, z4, z5, z6, z7, z8⟩, u⟩ := h
  have hM : MI K N (ldM A_q p) ty (ug g r (mv (g r) (fSt (g r) + 1) (a0 (fCx (g r))))) := by
    rw [em]
    exact MI_reg (MI_dat hS.1 z1 (by omega) (by omega) tt) z1 hu z2 o1 rfl (Or.inl rfl) rfl ⟨s0, s0, s0⟩ (fun y _ q => absurd q (by omega))
  refine Nxs_own h_q hM (Oky_m hS.1 x z1 hu (fun y hy => Or.inl ?_)) (o 71 (by decide) (by decide) (by decide) (by decide)) (o 72 (by decide) (by decide) (by decide) (by decide)) (o 73 (by decide) (by decide) (by decide) (by decide)) (o 74 (by decide) (by decide) (by decide) (by decide)) (o 75 (by decide) (by decide) (by decide) (by decide)) (o 76 (by decide) (by decide) (by decide) (by decide)) (o 77 (by decide) (by decide) (by decide) (by decide)) z1 z2 rfl rfl (fun q => ?_) ?_ ?_ (Or.inl ?_) ⟨Rok_0, Rok_0, Rok_0⟩ (fun _ _ => rfl) (fun l l1 l2 _ _ => ?_)
  · by_cases q : y = t
    · rw [q]
      exact tt
    · rw [em, um_n q] at hy
      exact absurd rfl hy
  · have q_q : fSu (g r) = 2 := q
    omega
  · rw [o 66 (by decide) (by decide) (by decide) (by decide), z3]
    rfl
  · rw [o 64 (by decide) (by decide) (by decide) (by decide), z4]
    rfl
  · rw [o 63 (by decide) (by decide) (by decide) (by decide), o 65 (by decide) (by decide) (by decide) (by decide), z5, z6]
    exact Pos_0 s o1
  · rw [em]
    exact um_n (by omega)
/-- the partner that waits at the channel becomes ready; it goes on -/
theorem st_meet {V a t v : Int} {A2 B1 B2 : Nat → Nat → Int} (s : Sby K N) (hp : 0 ≤ p) (h : SF K N ty g A p r) (hu : fSu (g r) = 0) (hd : cMd (fCx (g r)) = 0) (o1 : Gd K N (fun _ _ => False) (fSt (g r) + 1) (a0 (fCx (g r)))) (nV : V ≠ r) (hV : Ats (ldM A p) g a V) (hs : fSx (g V) = 2 ∨ fSx (g V) = 3) (hc : fCh (g V) = a) (m1 : ldM A p (V - 1) = kP K (fSt (g V))) (ta : ty a = 2) (tt : ty t = 1) (t16 : 16 ≤ t ∧ t < 4016) (a16 : 14 ≤ a ∧ a < 4016)
    (o2 : ∀ k, k ≠ 60 → k ≠ 61 → A2 k = A k) (s1 : B1 = stM A2 p t v) (s2 : B2 = stM B1 p a (-1)) (mk : mkR B2 A_q p (2 * V + fPb (g V))) : Nxs K N ty g (ldM A p) A_q p := by
  obtain ⟨hS, x, ⟨z1, z2, z3, z4, z5, z6, z7, z8⟩, u⟩ := h
  have hM := hS.1
  obtain ⟨y1, y2, y3, y4, y5, y6, y7, y8⟩ := hV
  obtain ⟨c1, c2, c3, c4, c5, c6⟩ := hM.1 V y1
  have em1 : ldM B1 p = um (ldM A p) t v := by
    rw [s1, ld_um hp (by omega) (by omega), ldM_f (p := p) (o2 59 (by decide) (by decide))]
  have em : ldM B2 p = um (um (ldM A p) t v) a (-1) := by
    rw [s2, ld_um hp (by omega) (by omega), em1]
  have mo : ∀ y, y ≠ t → y ≠ a → ldM B2 p y = ldM A p y := fun y n1 n2 => by
    rw [em, um_n n2, um_n n1]
  have o4 : ∀ k, k ≠ 59 → k ≠ 60 → k ≠ 61 → B2 k = A k := fun k k1 k2 k3 => by
    rw [s2, stM_ne k1, s1, stM_ne k1, o2 k k2 k3]
  obtain ⟨g1, hg1⟩ : ∃ g1, g1 = ug g r (mv (g r) (fSt (g r) + 1) (a0 (fCx (g r)))) := ⟨_, rfl⟩
  have g1r : g1 r = mv (g r) (fSt (g r) + 1) (a0 (fCx (g r))) := by
    rw [hg1]
    exact ug_e
  have g1V : g1 V = g V := by
    rw [hg1]
    exact ug_n nV
  have hM1 : MI K N (ldM B1 p) ty g1 := by
    rw [em1, hg1]
    exact MI_reg (MI_dat hM z1 (by omega) (by omega) tt) z1 hu z2 o1 rfl (Or.inl rfl) rfl ⟨s0, s0, s0⟩ (fun y _ q => absurd q (by omega))
  have hM2 : MI K N (ldM B2 p) ty (ug g1 V (ws (g1 V) 1 a (fSt (g1 V)) (fCx (g1 V)))) := by
    refine MI_rdy hM1 (by rw [g1V]; exact y1) (by rw [g1V]; exact hs) (by rw [g1V]; exact hc) (fun y n => ?_) ta ?_
    · rw [em, em1]
      exact um_n n
    · rw [em]
      exact um_e
  obtain ⟨G, hG⟩ : ∃ G, G = ug g1 V (ws (g1 V) 1 a (fSt (g1 V)) (fCx (g1 V))) := ⟨_, rfl⟩
  have GV : G V = ws (g V) 1 a (fSt (g V)) (fCx (g V)) := by
    rw [hG, ug_e, g1V]
  have Gr : G r = mv (g r) (fSt (g r) + 1) (a0 (fCx (g r))) := by
    rw [hG, ug_n (fun q => nV q.symm), g1r]
  have Go : ∀ W, W ≠ r → W ≠ V → G W = g W := fun W n n_q => by
    rw [hG, ug_n n_q, hg1, ug_n n]
  have ok : Oky (ldM A p) (ldM B2 p) g V := Oky_u hM x y1 (fun y hy => by
    by_cases q1 : y = t
    · rw [q1]
      exact Or.inl tt
    · by_cases q2 : y = a
      · rw [q2]
        exact Or.inr (Or.inl ta)
      · exact absurd (mo y q1 q2) hy)
  have fV : fR g V = V := by
    show V + cDw (fCx (g V)) = V
    omega
  have fGV : fR G V = fR g V := by
    show V + cDw (fCx (G V)) = V + cDw (fCx (g V))
    rw [GV]
    rfl
  have rg := c4.2.2.2.2.2.2.2.2.2.1 (by rcases hs with q | q; exact Or.inl q; exact Or.inr (Or.inl q))
  have rst : Rst K (ldM B2 p) G V := by
    unfold Rst
    rw [fGV, fV, GV]
    refine ⟨?_, rg.2, rg.1⟩
    rw [mo (V - 1) (fun q => ?_) (fun q => ?_)]
    · exact m1
    · rw [← q, c2.2.2.1] at tt
      omega
    · rw [← q, c2.2.2.1] at ta
      omega
  obtain ⟨H1, H2, H3⟩ := SK_two (r := r) hS y1 (by omega) (fun W w1 _ w2 => ok W w1 w2) (fun _ => by rw [Gr]; show fSx (g r) ≠ 1; omega) Go fGV rst (o4 71 (by decide) (by decide) (by decide)) (o4 72 (by decide) (by decide) (by decide)) (o4 73 (by decide) (by decide) (by decide)) (o4 74 (by decide) (by decide) (by decide)) (o4 75 (by decide) (by decide) (by decide)) (o4 76 (by decide) (by decide) (by decide)) (o4 77 (by decide) (by decide) (by decide))
  have x3 : X2 G := by
    refine X2_gen x (fun W w1 w2 => Go W (fun e => ?_) (fun e => ?_)) (fun R r1 => ?_) (fun U u1 u2 => Go U (fun e => by subst e; omega) (fun e => by subst e; omega)) (aw_0 hM)
    · subst e
      rw [Gr] at w2
      have w2' : fSu (g W) = 2 := w2
      omega
    · subst e
      rw [GV] at w2
      have w2' : fSu (g W) = 2 := w2
      omega
    · by_cases n : R = r
      · subst n
        rw [Gr]
        exact Or.inr ⟨z1, rfl⟩
      · by_cases n_q : R = V
        · subst n_q
          rw [GV]
          exact Or.inr ⟨y1, rfl⟩
        · rw [Go R n n_q] at r1 ⊢
          exact Or.inr ⟨r1, rfl⟩
  rw [← hG] at hM2
  refine Nxs_t (m1 := ldM B2 p) (g1 := G) (fun l W l1 l2 l3 d => ?_) ?_
  · have dn : W ≠ V := fun e => by
      have q := d.2.2.2.1
      rw [e, hc] at q
      omega
    unfold Lka
    rw [Go W (fun e => by have q := d.2.2.1; rw [e] at q; omega) dn, mo l (by omega) (by omega)]
    exact d
  rw [hG] at hM2 H1 H3 x3 ⊢
  refine SX_mk (b := fPb (g V)) s hp (by omega) hM2 ?_ ?_ (by rw [g1V]; omega) (by rw [g1V]; exact y1) rfl (by rw [g1V]; rfl) ?_ H1 H2 H3 (Or.inr ⟨r, ?_, fun W w1 w2 => ?_⟩) x3 mk
  · show Rdy g1 0 (B2 72 (2 * p).toNat) (fun i => B2 71 (1100 * (2 * p) + i).toNat)
    rw [o4 71 (by decide) (by decide) (by decide), o4 72 (by decide) (by decide) (by decide), hg1]
    exact Rdy_o hS.2.1 (Or.inl (by omega))
  · show Rdy g1 1 (B2 72 (2 * p + 1).toNat) (fun i => B2 71 (1100 * (2 * p + 1) + i).toNat)
    rw [o4 71 (by decide) (by decide) (by decide), o4 72 (by decide) (by decide) (by decide), hg1]
    exact Rdy_o hS.2.2.1 (Or.inl (by omega))
  · rw [g1V]
    show 2 * V + fPb (g V) = 2 * (V + cDw (fCx (g V))) + fPb (g V)
    omega
  · rw [← hG]
    unfold RN Rgs fR
    rw [Gr, o4 66 (by decide) (by decide) (by decide), o4 64 (by decide) (by decide) (by decide), o4 63 (by decide) (by decide) (by decide), o4 65 (by decide) (by decide) (by decide), o4 73 (by decide) (by decide) (by decide), z5, z6]
    exact ⟨z1, z2, z3, z4, Or.inl (Pos_0 s o1), ⟨Rok_0, Rok_0, Rok_0⟩, z8⟩
  · rw [← hG] at w1 w2
    by_cases n : W = r
    · exact n
    · by_cases n_q : W = V
      · subst n_q
        rw [GV] at w2
        exact absurd w2 (show ¬ (1 : Int) = 0 by decide)
      · rw [Go W n n_q] at w1 w2
        exact u W w1 w2
/-- it waits at a channel -/
theorem st_wait {sx a v : Int} {A2 B1 B2 B3 : Nat → Nat → Int} (hp : 0 ≤ p) (h : SF K N ty g A p r) (hu : fSu (g r) = 0) (hd : cMd (fCx (g r)) = 0) (dw : cDw (fCx (g r)) = 0) (o1 : Gd K N (fun _ _ => False) (fSt (g r) + 1) (a0 (fCx (g r)))) (hs : sx = 2 ∨ sx = 3) (ta : ty a = 2) (a16 : 0 ≤ a ∧ a < 4016) (o2 : ∀ k, k ≠ 60 → k ≠ 61 → k < 78 → A2 k = A k) (s1 : B1 = stM A2 p (r - 2) v) (s2 : B2 = stM B1 p (r - 3) 0) (s3 : B3 = stM B2 p a (2 * r + fPb (g r))) (e : A_q = waitM B3 p)
    (c2 : sx = 2 → ∃ u, u / 4 % 2 = 1 ∧ Cl (ldM A p) r (cCp (fCx (g r))) 2 a u) (c3 : sx = 3 → (∃ u, u / 8 % 2 = 1 ∧ Cl (ldM A p) r (cCp (fCx (g r))) 2 a u) ∧ ∃ u, Cl (ldM A p) r (cCp (fCx (g r))) 1 v u)
    (hl : 0 ≤ a → a ≤ 11 → ty (-1 - a) / 8 % 2 = 0 → ¬ ∃ W, Lka (ldM A p) g a W) : ∃ g_q, SI K N ty g_q A_q p ∧ X2 g_q ∧ Lst ty (ldM A p) g (ldM A_q p) g_q ∧ (sx = 2 → Lka (ldM A_q p) g_q a r) := by
  have sxn : sx ≠ 1 ∧ sx ≠ 0 := by
    rcases hs with w | w <;> rw [w] <;> exact ⟨by decide, by decide⟩
  have q := SF_rw h dw
  obtain ⟨hS, x, ⟨z1, z2, z3, z4, z5, z6, z7, z8⟩, u⟩ := h
  have hM := hS.1
  obtain ⟨a1, a2, a3, a4, a5, a6⟩ := hM.1 r z1
  obtain ⟨b1, b2, b3, b4, b5, b6, b7⟩ := a1
  have o3 : ∀ k, k ≠ 59 → k ≠ 60 → k ≠ 61 → k < 78 → B3 k = A k := fun k k1 k2 k3 k4 => by
    rw [s3, stM_ne k1, s2, stM_ne k1, s1, stM_ne k1, o2 k k2 k3 k4]
  have ew : waitM B3 p = goneM (stM B3 p (r - 1) (kP K (fSt (g r) + 1))) p := by
    unfold waitM
    rw [o3 64 (by decide) (by decide) (by decide) (by decide), o3 63 (by decide) (by decide) (by decide) (by decide), q.1, z5]
  rw [ew] at e
  obtain ⟨f1, f2⟩ := gone_c (A := stM B3 p (r - 1) (kP K (fSt (g r) + 1))) (p := p)
  rw [← e] at f1 f2
  have o4 : ∀ k, k ≠ 59 → k ≠ 60 → k ≠ 61 → k ≠ 66 → k < 78 → A_q k = A k := fun k k1 k2 k3 k5 k4 => by
    rw [f2 k k5, stM_ne k1, o3 k k1 k2 k3 k4]
  have em : ldM A_q p = um (um (um (um (ldM A p) (r - 2) v) (r - 3) 0) a (2 * r + fPb (g r))) (r - 1) (kP K (fSt (g r) + 1)) := by
    rw [ldM_f (p := p) (f2 59 (by decide)), ld_um hp (by omega) (by omega), s3, ld_um hp (by omega) (by omega), s2, ld_um hp (by omega) (by omega), s1, ld_um hp (by omega) (by omega), ldM_f (p := p) (o2 59 (by decide) (by decide) (by decide))]
  have n1 : a ≠ r - 1 := fun w => by
    rw [w, a2.2.2.1] at ta
    omega
  have n2 : a ≠ r - 2 := fun w => by
    rw [w, a2.2.1] at ta
    omega
  have n3 : a ≠ r - 3 := fun w => by
    rw [w, a2.1] at ta
    omega
  have mo : ∀ y, y ≠ r - 1 → y ≠ r - 2 → y ≠ r - 3 → y ≠ a → ldM A_q p y = ldM A p y := fun y w1 w2 w3 w4 => by
    rw [em, um_n w1, um_n w4, um_n w3, um_n w2]
  have e3 : ldM A_q p (r - 3) = 0 := by
    rw [em, um_n (by omega), um_n (fun w => n3 w.symm), um_e]
  have e1 : ldM A_q p (r - 1) = kP K (fSt (g r) + 1) := by
    rw [em, um_e]
  have e2 : ldM A_q p (r - 2) = v := by
    rw [em, um_n (by omega), um_n (fun w => n2 w.symm), um_n (by omega), um_e]
  have ea : ldM A_q p a = 2 * r + fPb (g r) := by
    rw [em, um_n n1, um_e]
  have hM' : MI K N (ldM A_q p) ty (ug g r (ws (g r) sx a (fSt (g r) + 1) (a0 (fCx (g r))))) := by
    refine MI_wai hM z1 hu z2 hd dw hs o1 rfl (fun y w1 w2 => mo y (by omega) (by omega) (by omega) (fun w => w1 (by rw [w]; exact ta))) (fun y w1 w2 => mo y (fun w => ?_) (fun w => ?_) (fun w => ?_) w2) e3 e1 ea c2 (fun w => ⟨(c3 w).1, by rw [e2]; exact (c3 w).2⟩)
    · rw [w, a2.2.2.1] at w1
      omega
    · rw [w, a2.2.1] at w1
      omega
    · rw [w, a2.1] at w1
      omega
  have ok : Oky (ldM A p) (ldM A_q p) g r := Oky_m hM x z1 hu (fun y hy => by
    by_cases w4 : y = a
    · rw [w4]
      exact Or.inr (Or.inl ta)
    · by_cases w : r - 3 ≤ y ∧ y ≤ r - 1
      · exact Or.inr (Or.inr (Or.inr (by omega)))
      · exact absurd (mo y (by omega) (by omega) (by omega) w4) hy)
  refine ⟨ug g r (ws (g r) sx a (fSt (g r) + 1) (a0 (fCx (g r)))), ⟨SK_own hS z2 hM' ok (o4 71 (by decide) (by decide) (by decide) (by decide) (by decide)) (o4 72 (by decide) (by decide) (by decide) (by decide) (by decide)) (o4 73 (by decide) (by decide) (by decide) (by decide) (by decide)) (o4 74 (by decide) (by decide) (by decide) (by decide) (by decide)) (o4 75 (by decide) (by decide) (by decide) (by decide) (by decide)) (o4 76 (by decide) (by decide) (by decide) (by decide) (by decide)) (o4 77 (by decide) (by decide) (by decide) (by decide) (by decide)) (fun _ => sxn.1), Or.inl ⟨f1, fun W w1 w2 => ?_⟩⟩, X2_own x z1 z2 (fun _ => rfl) (fun w _ => ?_), Lst_own (by omega) (fun l l1 l2 l3 l4 => ?_), fun w => ?_⟩
  · by_cases n : W = r
    · subst n
      rw [ug_e] at w2
      exact sxn.2 w2
    · rw [ug_n n] at w1 w2
      exact n (u W w1 w2)
  · have w_q : fSu (g r) = 2 := w
    omega
  · by_cases w4 : l = a
    · subst w4
      exact absurd l4 (hl l1 l2 l3)
    · exact mo l (by omega) (by omega) (by omega) w4
  · unfold Lka
    rw [ug_e]
    exact ⟨z1, ea, w, rfl, dw⟩
end
