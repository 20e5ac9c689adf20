/-! a PROC is called, and comes back -/
theorem Bck_g {K : Kd} {m m_q : Int → Int} {g g_q : Int → Fm} {W : Int} {f0 : Fm} (hg : ∀ V, fOn (g V) = 1 → fSu (g V) ≠ 0 → g_q V = g V) (hm : cEk (fCx f0) = 1 → m_q (W + cZ (fCx f0) + 3) = m (W + cZ (fCx f0) + 3)) (b : Bck K m g W f0) : Bck K m_q g_q W f0 := by
  obtain ⟨b1, b2, b3⟩ := b
  refine ⟨fun k => ?_, fun k => ?_, b3⟩
  · obtain ⟨c1, c2, c3, c4, c5⟩ := b1 k
    rw [hg _ c1 (by omega), hm k]
    exact ⟨c1, c2, c3, c4, c5⟩
  · obtain ⟨c1, V, c2, c3, c4, c5, c6⟩ := b2 k
    refine ⟨c1, V, ?_⟩
    rw [hg _ c2 (by omega)]
    exact ⟨c2, c3, c4, c5, c6⟩
theorem Bck_f {K : Kd} {m : Int → Int} {g : Int → Fm} {W : Int} {f f0 : Fm} (e1 : (fCx f).1 = (fCx f0).1) (e2 : fLo f = fLo f0) (e3 : fHi f = fHi f0) (e4 : fPa f = fPa f0) (e5 : fPb f = fPb f0) (b : Bck K m g W f0) : Bck K m g W f := by
  unfold Bck cEk cZ cPd at b ⊢
  rw [e1, e2, e3, e4, e5]
  exact b
/-- rights above: none of them leads into what lies below -/
theorem Abv_n {m ty : Int → Int} {W b lo hi z : Int} {l : List Cp} (hl : 16 ≤ lo) (hh : W < hi) (h : ∀ q ∈ l, qK q ≠ 8 ∧ qK q ≠ 9 ∧ (qK q ≠ 5 → 1 ≤ qO q)) (k : Cok m ty W b lo hi z l) {t x u : Int} (c : Cl m W l t x u) : ¬ (lo ≤ x ∧ x ≤ W) := fun hx => by
  obtain ⟨q, hq, w⟩ := c
  obtain ⟨h1, h2, h3⟩ := h q hq
  obtain ⟨c1, c2, c3, c4, c5, c6⟩ := k.2.1 q hq
  by_cases q5 : qK q = 5
  · have := c6 q5
    rcases w with w | w | w | w | w | w | w | w <;> omega
  · have h3 := h3 q5
    rcases w with w | w | w | w | w | w | w | w
    · omega
    · omega
    · omega
    · have t := (c3.1 w.1 x w.2.2.1 w.2.2.2 hx.1 (by omega)).1
      omega
    · omega
    · rcases w.1 with e | e | e
      · have := c3.2.1 e
        omega
      · exact h1 e
      · exact h2 e
    · exact q5 w.1
    · omega
theorem Sep_d {m ty : Int → Int} {W b lo hi z : Int} {l : List Cp} {r s : Rt} {v w : Int} (h : Sep l r s) (k : Cok m ty W b lo hi z l) (h5 : ∀ p, p = r ∨ p = s → p.1 = 5 → p.2.1 ≤ 13) (h2 : ∀ p, p = r ∨ p = s → p.1 = 2 → 0 ≤ W + p.2.1 ∧ W + p.2.1 + p.2.2 ≤ 4016) (a : Rok m W b r v) (c : Rok m W b s w) : v ≠ w := fun e => by
  subst e
  have chan : ∀ p : Rt, p.1 = 2 → Chr l p 0 → Rok m W b p v → 16 ≤ v ∧ ∃ q ∈ l, qK q = 2 ∧ W + qO q ≤ v ∧ v < W + qO q + qN q := fun p p1 p2 p3 => by
    have pb := Chr_b p2 k p1
    obtain ⟨q, hq, hs, d | d | d⟩ := p2
    · omega
    · have := p3.2.1 p1 (by omega) (by omega)
      have := (k.2.1 q hq).1.2 d.2.1
      exact ⟨by omega, q, hq, d.2.1, by omega, by omega⟩
    · omega
  rcases h with d | d | d | d | d | d | d
  · have := a.2.2.2.1 d.1
    have := c.2.2.2.1 d.2.1
    omega
  · have b1 := h2 r (Or.inl rfl) d.1
    have b2 := h2 s (Or.inr rfl) d.2.1
    have := a.2.1 d.1 (by omega) (by omega)
    have := c.2.1 d.2.1 (by omega) (by omega)
    have d3 := d.2.2
    unfold Ov at d3
    omega
  · have := a.2.2.2.1 d.1
    have := (chan s d.2.1 d.2.2 c).1
    have := h5 r (Or.inl rfl) d.1
    omega
  · have := c.2.2.2.1 d.2.1
    have := (chan r d.1 d.2.2 a).1
    have := h5 s (Or.inr rfl) d.2.1
    omega
  · obtain ⟨d1, d2, d3, d4, d5, ⟨q, hq, q1, q2⟩, q_q, hq_q, q1', q2'⟩ := d
    have t1 := a.2.2.1 d1 (Or.inl d3)
    have t2 := c.2.2.1 d2 (Or.inl d4)
    rw [← q2, d3] at t1
    rw [← q2', d4] at t2
    have := (k.2.2 q hq q1).1 q_q hq_q q1' (by omega)
    omega
  · obtain ⟨d1, d2, d3, d4, q, hq, q1, q2⟩ := d
    have t1 := a.2.2.1 d1 (Or.inl d3)
    rw [← q2, d3] at t1
    obtain ⟨_, q_q, hq_q, q1', q2', q3'⟩ := chan s d2 d4 c
    have := (k.2.2 q hq q1).2 q_q hq_q q1'
    omega
  · obtain ⟨d1, d2, d3, d4, q, hq, q1, q2⟩ := d
    have t1 := c.2.2.1 d2 (Or.inl d3)
    rw [← q2, d3] at t1
    obtain ⟨_, q_q, hq_q, q1', q2', q3'⟩ := chan r d1 d4 a
    have := (k.2.2 q hq q1).2 q_q hq_q q1'
    omega
theorem Chs_u {m ty : Int → Int} {g : Int → Fm} {r : Int} {f : Fm} (h : Chs m ty g) (a : ∀ x, ¬ Att m g x r) : Chs m ty (ug g r f) := fun x hx => by
  rcases h x hx with b | ⟨W, b⟩
  · exact Or.inl b
  · by_cases e : W = r
    · subst e
      exact absurd b (a x)
    · refine Or.inr ⟨W, ?_⟩
      unfold Att at b ⊢
      rw [ug_n e]
      exact b
def fo : Fm := (0, 0, 0, 0, 0, 0, 0, 0, 0, 0, ((0, 0, 0, 0, 0), [], (r0, r0, r0), (0, [], [])), 0, ((0, 0, 0, 0, 0), [], (r0, r0, r0), (0, [], [])))
/-- RET -/
theorem MI_ret {K : Kd} {N : Int} {m ty : Int → Int} {g : Int → Fm} {r : Int} (h : MI K N m ty g) (hr : fOn (g r) = 1) (hu : fSu (g r) = 0) (hx : fSx (g r) = 0) (hd : cMd (fCx (g r)) = 0) (hk : cEk (fCx (g r)) = 1) :
    (fOn (g (r + cZ (fCx (g r)) + 7)) = 1 ∧ fPb (g (r + cZ (fCx (g r)) + 7)) = fPb (g r) ∧ cDw (fCx (g (r + cZ (fCx (g r)) + 7))) = 0 ∧ m (r + cZ (fCx (g r)) + 3) = kP K (fSt (g (r + cZ (fCx (g r)) + 7))) ∧ (fCx (g (r + cZ (fCx (g r)) + 7))).2.2.1 = (r0, r0, r0) ∧ cMd (fCx (g (r + cZ (fCx (g r)) + 7))) = 0 ∧ r + cZ (fCx (g r)) + 7 ≠ r) ∧
    MI K N m ty (ug (ug g r fo) (r + cZ (fCx (g r)) + 7) (up (g (r + cZ (fCx (g r)) + 7)) 0 (fSt (g (r + cZ (fCx (g r)) + 7))) (fCx (g (r + cZ (fCx (g r)) + 7))))) := by
  obtain ⟨a1, a2, a3, a4, a5, a6⟩ := h.1 r hr
  obtain ⟨b1, b2, b3, b4, b5⟩ := a5.1 hk
  have hz := a1.2.2.2.2.1
  have hi := a1.2.2.2.2.2.2.1 hk
  generalize hV : r + cZ (fCx (g r)) + 7 = V at b1 b2 b3 b4 b5 ⊢
  have hn : V ≠ r := by omega
  obtain ⟨v1, v2, v3, v4, v5, v6⟩ := h.1 V b1
  have w3 := v4.2.2.1 b2
  have hdw : cDw (fCx (g V)) = 0 := by
    rcases v1.2.2.2.2.2.2.2.1 with q | q
    · exact q
    · omega
  refine ⟨⟨b1, b4, hdw, b5, w3.2.2.2, w3.2.1, hn⟩, ?_⟩
  have M1 := MI_off (f := fo) (m_q := m) h hr hu (by omega) rfl (fun x => Att_0 hx (by omega)) (fun _ _ => rfl) (fun _ _ _ => Or.inl rfl)
  have eV : ug g r fo V = g V := ug_n hn
  have hs6 := w3.2.2.1
  have M2 := MI_up (r := V) (sx := 0) (j := fSt (g V)) (e := fCx (g V)) (m_q := m) M1 (by rw [eV]; exact b1) (fun W hW hWn => ?_) (by rw [eV]; omega) (by rw [eV]) hdw (by rw [eV]; exact (if_neg (by omega)).symm) (fun _ _ _ => rfl) (by
      rw [eV]
      have sup : ∀ q : Rt, q = r0 → Sup (cCp (fCx (g V))) q := fun q e => e ▸ Sup_0
      have eA : cA (fCx (g V)) = r0 := congrArg (fun t : Rt × Rt × Rt => t.1) w3.2.2.2
      have eB : cB (fCx (g V)) = r0 := congrArg (fun t : Rt × Rt × Rt => t.2.1) w3.2.2.2
      have eC : cC (fCx (g V)) = r0 := congrArg (fun t : Rt × Rt × Rt => t.2.2) w3.2.2.2
      have md := w3.2.1
      refine ⟨v4.1, fun q => absurd q (show ¬ (0 : Int) = 2 by decide), fun q => absurd q (show ¬ (0 : Int) = 1 by decide), fun _ => show cMd (fCx (g V)) ≠ 2 by omega, fun q => absurd q (show ¬ cMd (fCx (g V)) = 1 by omega), show 0 ≤ cMd (fCx (g V)) ∧ cMd (fCx (g V)) ≤ 2 by omega, sup _ eA, sup _ eB, sup _ eC, fun k => absurd k (show ¬ ((0 : Int) = 2 ∨ (0 : Int) = 3 ∨ (0 : Int) = 4 ∨ (0 : Int) = 5) by decide), fun k => absurd k (show ¬ ((0 : Int) = 2 ∨ (0 : Int) = 3) by decide), fun k => absurd k (show ¬ ((0 : Int) = 2 ∨ (0 : Int) = 3 ∨ (0 : Int) = 4) by decide), fun k => absurd k (show ¬ (0 : Int) = 4 by decide), fun k => absurd k (show ¬ (0 : Int) = 3 by decide), fun k => absurd k (show ¬ (0 : Int) = 2 by decide), fun k => absurd k (show ¬ (0 : Int) = 3 by decide), fun k => absurd k (show ¬ (0 : Int) = 5 by decide)⟩) (Chs_u M1.2.2 (fun x a => ?_))
  · rw [eV] at M2
    exact M2
  · rw [eV]
    have e1 : W ≠ r := fun q => by
      rw [q, ug_e] at hW
      exact absurd hW (by decide)
    rw [ug_n e1] at hW ⊢
    rw [b3]
    have := Prs_r hu a1 (h.1 W hW).1 (h.2.1 r W hr hW (fun q => e1 q.symm))
    omega
  · unfold Att at a
    rw [eV] at a
    rcases a.2.2.2 with ⟨q, _⟩ | ⟨q, _⟩
    · omega
    · have := w3.2.1
      omega
