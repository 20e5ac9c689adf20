/-! processes wait at channels, and are ready again -/
theorem not_l {K : Kd} {N : Int} {m ty : Int → Int} {g : Int → Fm} {r : Int} (h : MI K N m ty g) (h5 : fSx (g r) ≠ 5) : ∀ W, fOn (g W) = 1 → fSu (g W) = 2 → ∀ y ∈ cPe (fCx (g W)), W - y.1 ≠ r := fun W hW k y hy q => by
  have := (((h.1 W hW).2.2.2.2.2 k).1 y hy).2.1
  rw [q] at this
  exact h5 this
/-- others at channels stay there -/
theorem Chs_k {K : Kd} {N : Int} {m ty m_q : Int → Int} {g : Int → Fm} {r x : Int} {f : Fm} (h : MI K N m ty g) (hr : fOn (g r) = 1) (c : Ctl r m ty m_q) (hm : ∀ y, ty y = 2 → y ≠ x → m_q y = m y) (hx : ty x = 2 → m_q x = -1 ∨ Att m_q (ug g r f) x r ∨ (m_q x = m x ∧ (Att m g x r → Att m_q (ug g r f) x r))) (ho : ∀ y, ty y = 2 → y ≠ x → Att m g y r → Att m_q (ug g r f) y r) : Chs m_q ty (ug g r f) := fun y hy => by
  have oth : ∀ W, Att m g y W → W ≠ r → m_q y = m y → Att m_q (ug g r f) y W := fun W a q e => Att_m a (h.1 W a.1) (Sam_k h hr a.1 q c).1 e (ug_n q)
  by_cases e : y = x
  · subst e
    rcases hx hy with a | a | ⟨a, b⟩
    · exact Or.inl a
    · exact Or.inr ⟨r, a⟩
    · rcases h.2.2 y hy with d | ⟨W, d⟩
      · exact Or.inl (a.trans d)
      · by_cases q : W = r
        · subst q
          exact Or.inr ⟨W, b d⟩
        · exact Or.inr ⟨W, oth W d q a⟩
  · rcases h.2.2 y hy with d | ⟨W, d⟩
    · exact Or.inl ((hm y hy e).trans d)
    · by_cases q : W = r
      · subst q
        exact Or.inr ⟨W, ho y hy e d⟩
      · exact Or.inr ⟨W, oth W d q (hm y hy e)⟩
theorem Cl_kr {K : Kd} {N : Int} {m ty m_q : Int → Int} {g : Int → Fm} {r k x u : Int} (h : MI K N m ty g) (hr : fOn (g r) = 1) (c : Ctl r m ty m_q) : Cl m_q r (fQ (g r)) k x u ↔ Cl m r (fQ (g r)) k x u := Cl_m (Sam_p (Sam_kr h hr c) (h.1 r hr).2.2.1)
/-- it waits in IN or OUT -/
theorem MI_wai {K : Kd} {N : Int} {m ty m_q : Int → Int} {g : Int → Fm} {r x sx j : Int} {e : Cx} (h : MI K N m ty g) (hr : fOn (g r) = 1) (hu : fSu (g r) = 0) (hx : fSx (g r) = 0) (hd : cMd (fCx (g r)) = 0) (hdw : cDw (fCx (g r)) = 0)
    (hs : sx = 2 ∨ sx = 3) (o1 : Gd K N (fun _ _ => False) j e) (he : e = a0 (fCx (g r))) (c : Ctl r m ty m_q) (hm : ∀ y, ty y = 2 → y ≠ x → m_q y = m y) (m3 : m_q (r - 3) = 0) (m1 : m_q (r - 1) = kP K j) (mx : m_q x = 2 * r + fPb (g r))
    (c2 : sx = 2 → ∃ u, u / 4 % 2 = 1 ∧ Cl m r (cCp (fCx (g r))) 2 x u) (c3 : sx = 3 → (∃ u, u / 8 % 2 = 1 ∧ Cl m r (cCp (fCx (g r))) 2 x u) ∧ ∃ u, Cl m r (cCp (fCx (g r))) 1 (m_q (r - 2)) u) : MI K N m_q ty (ug g r (ws (g r) sx x j e)) := by
  have n45 : ¬ sx = 4 ∧ ¬ sx = 5 := by
    clear c2 c3
    omega
  have hf0 : fQ (g r) = cCp (fCx (g r)) := if_neg (by omega)
  have hf1 : fQ (ws (g r) sx x j e) = cCp (fCx (g r)) := by
    rw [he]
    exact if_neg (show ¬ fSu (g r) = 2 by omega)
  have cl : ∀ {k y u : Int}, Cl m_q r (cCp (fCx (g r))) k y u ↔ Cl m r (cCp (fCx (g r))) k y u := fun {k y u} => by
    have := Cl_kr (k := k) (x := y) (u := u) h hr c
    rw [hf0] at this
    exact this
  have ex : e.1 = (fCx (g r)).1 ∧ cCp e = cCp (fCx (g r)) ∧ e.2.2.1 = (r0, r0, r0) ∧ e.2.2.2 = (fCx (g r)).2.2.2 ∧ cDw e = 0 := by
    rw [he]
    exact ⟨rfl, rfl, rfl, rfl, hdw⟩
  have md : cMd e = 0 := (congrArg (fun q : Mo => q.1) ex.2.2.2.1).trans hd
  have eA : cA e = r0 := congrArg (fun t : Rt × Rt × Rt => t.1) ex.2.2.1
  have eB : cB e = r0 := congrArg (fun t : Rt × Rt × Rt => t.2.1) ex.2.2.1
  have eC : cC e = r0 := congrArg (fun t : Rt × Rt × Rt => t.2.2) ex.2.2.1
  have sup : ∀ q : Rt, q = r0 → Sup (cCp e) q := fun q e => e ▸ Sup_0
  refine MI_sta h hr hu (not_l h (by omega)) ex.1 ex.2.1 c ⟨o1, fun q => absurd q (show ¬ fSu (g r) = 2 by omega), fun q => absurd q (show ¬ fSu (g r) = 1 by omega), fun _ => show cMd e ≠ 2 by omega, fun q => absurd q (show ¬ cMd e = 1 by omega), show 0 ≤ cMd e ∧ cMd e ≤ 2 by omega, sup _ eA, sup _ eB, sup _ eC, fun _ => ⟨hu, ex.2.2.1⟩, fun _ => ⟨m3, md⟩, fun _ => ⟨ex.2.2.2.2, m1⟩, fun q => absurd q n45.1, fun q => ?_, fun q => ?_, fun q => ?_, fun q => absurd q n45.2⟩ (Chs_k h hr c hm (fun _ => Or.inr (Or.inl ⟨?_, ?_, ?_, Or.inl ⟨?_, ?_⟩⟩)) (fun y _ _ a => absurd a (Att_0 hx (by omega))))
  · rw [hf1]
    obtain ⟨u, a⟩ := (c3 q).2
    exact ⟨u, cl.mpr a⟩
  · rw [hf1]
    obtain ⟨u, b, a⟩ := c2 q
    exact ⟨u, b, cl.mpr a⟩
  · rw [hf1]
    obtain ⟨u, b, a⟩ := (c3 q).1
    exact ⟨u, b, cl.mpr a⟩
  · rw [ug_e]
    exact hr
  · rw [ug_e]
    exact mx
  · rw [ug_e]
    exact ex.2.2.2.2
  · rw [ug_e]
    exact hs
  · rw [ug_e]
    rfl
/-- it was waited for: ready -/
theorem MI_rdy {K : Kd} {N : Int} {m ty m_q : Int → Int} {g : Int → Fm} {V x : Int} (h : MI K N m ty g) (hV : fOn (g V) = 1) (hs : fSx (g V) = 2 ∨ fSx (g V) = 3) (hc : fCh (g V) = x) (hm : ∀ y, y ≠ x → m_q y = m y) (tx : ty x = 2) (mx : m_q x = -1) : MI K N m_q ty (ug g V (ws (g V) 1 x (fSt (g V)) (fCx (g V)))) := by
  obtain ⟨a1, a2, a3, a4, a5, a6⟩ := h.1 V hV
  obtain ⟨hu, hR⟩ := a4.2.2.2.2.2.2.2.2.2.1 (by omega)
  have hmd := (a4.2.2.2.2.2.2.2.2.2.2.1 hs).2
  have c : Ctl V m ty m_q := fun y y1 _ => hm y (fun e => by subst e; exact y1 tx)
  have s8 := a4.2.2.2.2.2.2.1
  have s9 := a4.2.2.2.2.2.2.2.1
  have s10 := a4.2.2.2.2.2.2.2.2.1
  refine MI_sta h hV hu (not_l h (by omega)) rfl rfl c (Wok_r hu (Or.inr rfl) a4.1 ⟨Or.inl hmd, fun q => absurd q (show ¬ cMd (fCx (g V)) = 1 by omega)⟩ ⟨s8, s9, s10⟩) (Chs_k h hV c (fun y _ q => hm y q) (fun _ => Or.inl mx) (fun y _ q a => ?_))
  exfalso
  rcases a.2.2.2 with ⟨_, b⟩ | ⟨b, _⟩ <;> omega
/-- a process in ALT is told that one is there -/
theorem MI_tel {K : Kd} {N : Int} {m ty m_q : Int → Int} {g : Int → Fm} {V sx : Int} (h : MI K N m ty g) (hV : fOn (g V) = 1) (hd : cMd (fCx (g V)) = 1) (hs : (sx = fSx (g V) ∧ sx ≠ 5) ∨ (fSx (g V) = 4 ∧ sx = 1)) (hm : ∀ y, y ≠ V - 3 → m_q y = m y) (m3 : m_q (V - 3) = 3) : MI K N m_q ty (ug g V (ws (g V) sx (fCh (g V)) (fSt (g V)) (fCx (g V)))) := by
  obtain ⟨a1, a2, a3, a4, a5, a6⟩ := h.1 V hV
  have n23 : ¬ (fSx (g V) = 2 ∨ fSx (g V) = 3) := fun q => by
    have := (a4.2.2.2.2.2.2.2.2.2.2.1 q).2
    omega
  have n5 : fSx (g V) ≠ 5 := fun q => by
    have := (a4.2.2.2.2.2.2.2.2.2.2.2.2.2.2.2.2 q).2.1
    omega
  have hu : fSu (g V) = 0 := by
    have h1 := fun q => (a4.2.1 q).2.2.2.2.2.1
    have h2 := fun q => (a4.2.2.1 q).2.1
    have := a1.2.2.2.2.2.2.2.2.2.2.2
    by_cases q1 : fSu (g V) = 1
    · have := h2 q1
      omega
    · by_cases q2 : fSu (g V) = 2
      · have := h1 q2
        omega
      · omega
  have c : Ctl V m ty m_q := fun y _ y2 => hm y (by omega)
  have s8 := a4.2.2.2.2.2.2.1
  have s9 := a4.2.2.2.2.2.2.2.1
  have s10 := a4.2.2.2.2.2.2.2.2.1
  have d5 := a4.2.2.2.2.1 hd
  have w10 : fSx (g V) = 4 → fSu (g V) = 0 ∧ (fCx (g V)).2.2.1 = (r0, r0, r0) := fun q => a4.2.2.2.2.2.2.2.2.2.1 (by omega)
  have w12 : fSx (g V) = 4 → cDw (fCx (g V)) = 0 ∧ m (V - 1) = kP K (fSt (g V)) := fun q => a4.2.2.2.2.2.2.2.2.2.2.2.1 (by omega)
  have e1 : m_q (V - 1) = m (V - 1) := hm _ (by omega)
  have e0 : m_q V = m V := hm _ (by omega)
  have sub : sx = 4 → fSx (g V) = 4 := fun q => by omega
  have n2 : ¬ (sx = 2 ∨ sx = 3) := by omega
  have n5' : ¬ sx = 5 := by omega
  have tx : ∀ y, ty y = 2 → m_q y = m y := fun y hy => hm y (fun e => by
    have := a2.1
    subst e
    omega)
  refine MI_sta h hV hu (not_l h n5) rfl rfl c ⟨a4.1, fun q => absurd q (show ¬ fSu (g V) = 2 by omega), fun q => absurd q (show ¬ fSu (g V) = 1 by omega), fun _ => show cMd (fCx (g V)) ≠ 2 by omega, fun _ => ⟨⟨show m_q (V - 3) ≠ 0 by omega, fun q => absurd q (show ¬ m_q (V - 3) = 2 by omega)⟩, ?_, d5.2.2⟩, a4.2.2.2.2.2.1, s8, s9, s10, fun q => w10 (sub (by rcases q with q | q | q | q; exact absurd (Or.inl q) n2; exact absurd (Or.inr q) n2; exact q; exact absurd q n5')), fun q => absurd q n2, fun q => ?_, fun _ => hd, fun q => absurd (Or.inr q) n2, fun q => absurd (Or.inl q) n2, fun q => absurd (Or.inr q) n2, fun q => absurd q n5'⟩ (Chs_k (x := V - 3) h hV c (fun y hy _ => tx y hy) (fun q => absurd q (by have := a2.1; omega)) (fun y hy _ a => ?_))
  · show m_q V = -1 ∨ m_q V ∈ cWs (fCx (g V))
    rw [e0]
    exact d5.2.1
  · have q4 : sx = 4 := by
      rcases q with q | q | q
      · exact absurd (Or.inl q) n2
      · exact absurd (Or.inr q) n2
      · exact q
    have := w12 (sub q4)
    exact ⟨this.1, e1.trans this.2⟩
  · have := Att_m (g_q := g) a (h.1 V hV) ⟨fun _ _ _ => ⟨rfl, fun _ => rfl⟩, fun _ _ _ _ => ⟨rfl, fun _ _ => rfl⟩, fun _ _ => rfl⟩ (rfl : m y = m y) rfl
    obtain ⟨b1, b2, b3, b4⟩ := a
    have hf0 : fQ (g V) = cCp (fCx (g V)) := if_neg (by omega)
    rw [hf0] at a3
    have hSr := Sam_kr h hV c
    rw [hf0] at hSr
    refine ⟨by rw [ug_e]; exact b1, by rw [ug_e, tx y hy]; exact b2, by rw [ug_e]; exact b3, Or.inr ?_⟩
    rcases b4 with ⟨q, _⟩ | ⟨_, z, hz, z1, z2⟩
    · exact absurd q n23
    · obtain ⟨⟨q, q1, q2, q3, q4⟩, q_q, q1', q2', q3'⟩ := d5.2.2 z hz
      rw [ug_e]
      refine ⟨hd, z, hz, ?_, ?_⟩
      · rw [Kpt_m hSr a3 ⟨q, q1, q3, Or.inr (Or.inr (Or.inr q2))⟩]
        exact z1
      · rw [Kpt_m hSr a3 ⟨q_q, q1', q3', Or.inr (Or.inr (Or.inl q2'))⟩]
        exact z2
