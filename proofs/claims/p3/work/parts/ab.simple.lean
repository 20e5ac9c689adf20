/-! EACH RULE AS A STEP: the simple ones -/
/-- memory and registers are ints -/
def Ib (A : Nat → Nat → Int) : Prop := ∀ k n, 59 ≤ k → k ≤ 61 → -2147483648 ≤ A k n ∧ A k n ≤ 2147483647
def Kb (K : Kd) : Prop := ∀ t, -2147483648 ≤ kP K t ∧ kP K t ≤ 2147483647
section
variable {K : Kd} {N : Int} {ty : Int → Int} {g : Int → Fm} {A A_q : Nat → Nat → Int} {p r : Int}
theorem SF_rw (h : SF K N ty g A p r) (dw : cDw (fCx (g r)) = 0) : A 64 p.toNat = r ∧ A 66 p.toNat = 2 * r + fPb (g r) ∧ 16 ≤ r ∧ r < 4016 := by
  have s3 := h.2.2.1.2.2.1
  have s4 := h.2.2.1.2.2.2.1
  have f := fR_in h.1.1 h.2.2.1.1
  have e : fR g r = r := by
    show r + cDw (fCx (g r)) = r
    omega
  rw [e] at s3 s4 f
  exact ⟨s4, s3, by omega, by omega⟩
theorem ru_psh {t : Rt} (s : Sby K N) (h : SF K N ty g A p r) (hp : Psh K (fCx (g r)) (fSt (g r)) t) (f15 : kF K (fSt (g r)) ≠ 15) (o1 : Gd K N (fun _ _ => False) (fSt (g r) + 1) (sR (fCx (g r)) t (cA (fCx (g r))) (cB (fCx (g r))))) (ha : acR A A_q p (kF K (fSt (g r))) (kV K (fSt (g r)))) : Nxs K N ty g (ldM A p) A_q p := by
  rcases hp with ⟨k, ht⟩ | ⟨k, dw, ht⟩ | ⟨k, dw, ht⟩ | ⟨k, _⟩
  · obtain ⟨_, e⟩ := acR_f4 ha k
    rcases ht with ht | ht
    · subst ht
      exact st_psh s h o1 (Sup_n (by show (5 : Int) ≠ 3; decide)) (Rok_5 rfl) e
    · subst ht
      exact st_psh s h o1 s0 Rok_0 e
  · obtain ⟨w, _, hw, e⟩ := acR_f1 ha k
    have q := SF_rw h dw
    subst ht
    refine st_psh s h o1 (Sup_n (by show (2 : Int) ≠ 3; decide)) (Rok_2 (fun q1 q2 => ?_)) e
    rw [i32_to (by omega) (by omega)]
    omega
  · obtain ⟨w, v, x, _, hw, ev, l, e⟩ := acR_f7 ha k
    have q := SF_rw h dw
    rcases ht with ⟨ht, kp⟩ | ht
    · subst ht
      refine st_psh s h o1 (fun _ => kp) (Rok_3 (fun _ => ?_)) e
      obtain ⟨_, k_q, cl⟩ := Kpt_t h.1.1 h.2.1 h.2.2.1.1 kp
      have b := ((h.1.1.1 r h.2.2.1.1).2.2.1.1 _ _ _ cl).2
      have b1 := b.1
      have b2 := b.2.1
      have e2 : v = r + kV K (fSt (g r)) := by
        rw [ev, i32_to (by omega) (by omega)]
        omega
      rw [l, e2]
      omega
    · subst ht
      exact st_psh s h o1 s0 Rok_0 e
  · exact absurd k f15
theorem ru_self {t : Rt} (s : Sby K N) (h : SF K N ty g A p r) {it im om : Int} (hp : Psh K (fCx (g r)) (fSt (g r)) t) (f15 : kF K (fSt (g r)) = 15) (o1 : Gd K N (fun _ _ => False) (fSt (g r) + 1) (sR (fCx (g r)) t (cA (fCx (g r))) (cB (fCx (g r))))) (ha : opR A A_q it im om p (kV K (fSt (g r)))) : Nxs K N ty g (ldM A p) A_q p := by
  rcases hp with ⟨k, _⟩ | ⟨k, _⟩ | ⟨k, _⟩ | ⟨k, kv, dw, ht⟩
  · omega
  · omega
  · omega
  · obtain ⟨n, _, hr, e⟩ := opR_f30 ha kv
    have q := SF_rw h dw
    subst ht
    exact st_psh s h o1 (Sup_n (by show (6 : Int) ≠ 3; decide)) (Rok_6 (by omega)) e
theorem ru_any (s : Sby K N) (h : SF K N ty g A p r) (hp : kF K (fSt (g r)) = 3 ∨ kF K (fSt (g r)) = 5 ∨ kF K (fSt (g r)) = 8 ∨ kF K (fSt (g r)) = 12) (o1 : Gd K N (fun _ _ => False) (fSt (g r) + 1) (sR (fCx (g r)) r0 (cB (fCx (g r))) (cC (fCx (g r))))) (ha : acR A A_q p (kF K (fSt (g r))) (kV K (fSt (g r)))) : Nxs K N ty g (ldM A p) A_q p := by
  rcases hp with k | k | k | k
  · obtain ⟨v, _, e⟩ := acR_f3 ha k
    exact st_any s h o1 e
  · obtain ⟨v, _, e⟩ := acR_f5 ha (Or.inl k)
    exact st_any s h o1 e
  · obtain ⟨v, _, e⟩ := acR_f5 ha (Or.inr k)
    exact st_any s h o1 e
  · obtain ⟨v, _, e⟩ := acR_f12 ha k
    exact st_any s h o1 e
theorem ru_cj {t : Int} (s : Sby K N) (kb : Kb K) (h : SF K N ty g A p r) (k : kF K (fSt (g r)) = 10) (ht : kP K t = kP K (fSt (g r) + 1) + kV K (fSt (g r))) (o1 : Gd K N (fun _ _ => False) (fSt (g r) + 1) (sR (fCx (g r)) (cB (fCx (g r))) (cC (fCx (g r))) (cC (fCx (g r))))) (o2 : Gd K N (fun _ _ => False) t (fCx (g r))) (ha : acR A A_q p (kF K (fSt (g r))) (kV K (fSt (g r)))) : Nxs K N ty g (ldM A p) A_q p := by
  have s5 := h.2.2.1.2.2.2.2.1
  have b := kb t
  rcases acR_f10 ha k with ⟨i, _, h0, hi, e⟩ | ⟨_, hn, e⟩
  · refine st_jmp s h o2 (Or.inl rfl) ?_ e
    rw [i32_to (by omega) (by omega)]
    omega
  · exact st_take s h o1 (SF_sup h).2.1 h.2.2.1.2.2.2.2.2.2.1.2.1 e
/-- a jump; the slice of time ends -/
theorem ru_j {t : Int} (s : Sby K N) (kb : Kb K) (hp : 0 ≤ p) (h : SF K N ty g A p r) (k : kF K (fSt (g r)) = 0) (hd : cMd (fCx (g r)) = 0) (ht : kP K t = kP K (fSt (g r) + 1) + kV K (fSt (g r))) (o1 : Gd K N (fun _ _ => False) t (a0 (fCx (g r)))) (ha : acR A A_q p (kF K (fSt (g r))) (kV K (fSt (g r)))) : Nxs K N ty g (ldM A p) A_q p := by
  have s5 := h.2.2.1.2.2.2.2.1
  have b := kb t
  rcases acR_f0 ha k with ⟨i, _, hi, e⟩ | ⟨i, w, n, v, A1, A2, A3, _, hi, hw, hr, hb, ev, e1, s1, m, d⟩
  · refine st_jmp s h o1 (Or.inr rfl) ?_ e
    rw [i32_to (by omega) (by omega)]
    omega
  · have hv : v = kP K t := by
      rw [ev, i32_to (by omega) (by omega)]
      omega
    obtain ⟨hS, x, ⟨z1, z2, z3, z4, z5, z6, z7, z8⟩, u⟩ := h
    have hM := hS.1
    obtain ⟨a1, a2, a3, a4, a5, a6⟩ := hM.1 r z1
    have fi := fR_in hM z1
    have pb := a1.2.2.2.2.2.2.2.2
    have hu : fSu (g r) = 0 := by
      by_cases u1 : fSu (g r) = 1
      · have := (a4.2.2.1 u1).2.2.1
        omega
      · by_cases u2 : fSu (g r) = 2
        · have := (a4.2.1 u2).2.2.2.2.2.1
          omega
        · have b0 := a1.2.2.2.2.2.2.2.2.2.2.2.1
          have b2 := a1.2.2.2.2.2.2.2.2.2.2.2.2
          omega
    have o12 : ∀ q, q ≠ 59 → q ≠ 63 → A2 q = A q := fun q q1 q2 => by
      rw [s1, stM_ne q1, e1, uA_ne q2]
    have mo : ∀ y, y ≠ fR g r - 1 → ldM A2 p y = ldM A p y := fun y hy => by
      rw [s1, ld_ne hp hp (Or.inr (by omega)), e1]
      exact ldM_k (uA_ne (by decide))
    have mi : ldM A2 p (fR g r - 1) = kP K t := by
      rw [s1, ← hv, ← hw, z4]
      exact ld_eq hp (by omega) (by omega)
    have hm1 : MI K N (ldM A p) ty (ug g r (mv (g r) t (a0 (fCx (g r))))) := MI_reg hM z1 hu z2 o1 rfl (Or.inl rfl) rfl ⟨s0, s0, s0⟩ (fun y _ q => absurd q (by omega))
    have fr : fR (ug g r (mv (g r) t (a0 (fCx (g r))))) r = fR g r := by
      show r + cDw (fCx (ug g r (mv (g r) t (a0 (fCx (g r)))) r)) = r + cDw (fCx (g r))
      rw [ug_e]
      rfl
    obtain ⟨G, hG⟩ : ∃ G, G = ug g r (mv (g r) t (a0 (fCx (g r)))) := ⟨_, rfl⟩
    have gr : G r = mv (g r) t (a0 (fCx (g r))) := by
      rw [hG]
      exact ug_e
    rw [← hG] at hm1 fr
    have hm2 : MI K N (ldM A2 p) ty G := MI_sav (r := r) hm1 (by rw [gr]; exact z1) (by rw [gr]; exact z2) (by rw [fr]; exact mo)
    have ok : Oky (ldM A p) (ldM A2 p) g r := Oky_m hM x z1 hu (fun y hy => by
      by_cases q : y = fR g r - 1
      · right; right; right
        omega
      · exact absurd (mo y q) hy)
    have k2 : SK K N ty G A2 p := by
      rw [hG] at hm2 ⊢
      exact SK_own hS z2 hm2 ok (o12 71 (by decide) (by decide)) (o12 72 (by decide) (by decide)) (o12 73 (by decide) (by decide)) (o12 74 (by decide) (by decide)) (o12 75 (by decide) (by decide)) (o12 76 (by decide) (by decide)) (o12 77 (by decide) (by decide)) (fun _ => by show fSx (g r) ≠ 1; omega)
    have x2 : X2 G := by
      rw [hG]
      exact X2_own x z1 z2 (fun _ => rfl) (fun q _ => by
        have q_q : fSu (g r) = 2 := q
        omega)
    have hpb : fPb (G r) = 1 := by
      rw [gr]
      show fPb (g r) = 1
      omega
    have q66 : A2 66 p.toNat = n := by
      rw [o12 66 (by decide) (by decide)]
      exact hr
    have q3 : A3 = adM A2 (2 * p + 1) n := by
      rcases m with ⟨_, m2⟩ | ⟨m1, _⟩
      · rw [hb] at m2
        exact m2
      · omega
    have hu' : ∀ W, fOn (G W) = 1 → fSx (G W) = 0 → W = r := fun W v1 v2 => by
      by_cases n : W = r
      · exact n
      · rw [hG, ug_n n] at v1 v2
        exact u W v1 v2
    obtain ⟨k3, k4⟩ := SK_slc (b := 1) (d := n) hp (Or.inr rfl) k2 (by rw [gr]; exact z1) (by rw [gr]; exact z2) hpb (by rw [gr]; exact hu) (by rw [gr]; rfl) (by rw [fr, mi, gr]; rfl) (by rw [fr]; omega) hu'
    have x3 : X2 (ug G r (ws (G r) 1 (fCh (G r)) (fSt (G r)) (fCx (G r)))) := X2_own x2 (by rw [gr]; exact z1) (by rw [gr]; exact z2) (fun _ => rfl) (fun q _ => by
      have q_q : fSu (G r) = 2 := q
      rw [gr] at q_q
      have q'' : fSu (g r) = 2 := q_q
      omega)
    rw [← q3] at k3
    obtain ⟨ty_q, g_q, n1, n2, n3, n4⟩ := SX_dsp s k3 x3 k4 hp d
    refine ⟨ty_q, g_q, n1, n2, n3, ?_⟩
    have l1 : Lst ty (ldM A p) g (ldM A2 p) G := by
      rw [hG]
      exact Lst_own (by omega) (fun l l1 l2 _ _ => mo l (by omega))
    have l2 : Lst ty (ldM A2 p) G (ldM A3 p) (ug G r (ws (G r) 1 (fCh (G r)) (fSt (G r)) (fCx (G r)))) := Lst_own (by rw [gr]; show fSx (g r) ≠ 2; omega) (fun l _ _ _ _ => by
      rw [q3]
      exact ldM_k (ad_o ⟨by decide, by decide⟩))
    exact Lst_t (Lst_t l1 (fun _ _ => rfl) l2) (fun _ _ => rfl) n4
end
