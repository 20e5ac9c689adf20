/-! A PROCESS'S PLACE IS KEPT: its I goes into the word below what W holds -/
theorem MI_svl {K : Kd} {N : Int} {m ty m_q : Int → Int} {g : Int → Fm} {r : Int} (h : MI K N m ty g) (hr : fOn (g r) = 1) (hu : fSu (g r) = 0) (hx : fSx (g r) = 0) (hm : ∀ y, y ≠ fR g r - 1 → m_q y = m y) : MI K N m_q ty g := by
  obtain ⟨a1, a2, a3, a4, a5, a6⟩ := h.1 r hr
  have hf0 : fQ (g r) = cCp (fCx (g r)) := if_neg (by omega)
  rw [hf0] at a3
  have y6 : ty (fR g r - 1) = 6 ∧ fR g r - 1 ≠ r - 3 ∧ fR g r - 1 ≠ r ∧ (cEk (fCx (g r)) = 1 → fR g r - 1 ≠ r + cZ (fCx (g r)) + 3) := by
    have z := a1.2.2.2.2.1
    rcases a1.2.2.2.2.2.2.2.1 with q | ⟨q1, q2, _⟩
    · have e : fR g r - 1 = r - 1 := by
        show r + cDw (fCx (g r)) - 1 = r - 1
        omega
      rw [e]
      exact ⟨a2.2.2.1, by omega, by omega, fun _ => by omega⟩
    · have e : fR g r - 1 = r + cZ (fCx (g r)) + 2 := by
        show r + cDw (fCx (g r)) - 1 = _
        omega
      rw [e]
      exact ⟨(a2.2.2.2.2.1 q1).2.2.1, by omega, by omega, fun _ => by omega⟩
  have hin := fR_in h hr
  have k6 : ∀ {k x u : Int}, Cl m r (cCp (fCx (g r))) k x u → k ≠ 6 := fun {k x u} q => by
    obtain ⟨q0, _, w⟩ := q
    rcases w with w | w | w | w | w | w | w | w <;> omega
  have sam : Sam m ty m_q ty r (r - 3) (cCp (fCx (g r))) := ⟨fun x x1 x2 => absurd x1 (by omega), fun k x u q => ⟨rfl, fun _ _ => hm x (fun e => by
    have e1 := (a3.1 k x u q).1
    have e2 := k6 q
    have e3 := y6.1
    rw [← e] at e3
    omega)⟩, fun _ _ => rfl⟩
  have pn := Sam_p sam a3
  have mo : cMd (fCx (g r)) = 0 ∨ cMd (fCx (g r)) = 1 := by
    have := a4.2.2.2.1 hu
    have := a4.2.2.2.2.2.1
    omega
  have e3 : m_q (r - 3) = m (r - 3) := hm _ (fun e => y6.2.1 e.symm)
  have e0 : m_q r = m r := hm _ (fun e => y6.2.2.1 e.symm)
  have ge : ug g r (mv (g r) (fSt (g r)) (fCx (g r))) = g := funext (fun W => by
    by_cases q : W = r
    · subst q
      rw [ug_e]
      rfl
    · rw [ug_n q])
  have key := MI_leaf (m_q := m_q) (ty_q := ty) (j := fSt (g r)) (w := cDw (fCx (g r))) (e := fCx (g r)) h hr hu hx (fun x nx => ⟨rfl, fun _ => hm x (fun e => nx (by omega))⟩) a4.1 rfl
    (by rcases a1.2.2.2.2.2.2.2.1 with q | ⟨q1, q2, _⟩; exact Or.inl q; exact Or.inr ⟨q1, q2⟩) (Cok_m sam a3) (fun k x u q => Or.inl ⟨u, ⟨fun t => t, fun t => t⟩, (Cl_m pn).mp q⟩) (fun _ _ t => t) (fun q => hm _ (fun e => y6.2.2.2 q e.symm))
    ⟨mo, fun q => by rw [e3, e0]; exact a4.2.2.2.2.1 q⟩ ⟨a4.2.2.2.2.2.2.1, a4.2.2.2.2.2.2.2.1, a4.2.2.2.2.2.2.2.2.1⟩
    (fun x tx => Or.inr (Or.inl ⟨tx, hm x (fun e => by have := y6.1; rw [← e] at this; omega), fun a => by
      rw [ge]
      have ex : m_q x = m x := hm x (fun e => by have := y6.1; rw [← e] at this; omega)
      obtain ⟨b1, b2, b3, b4⟩ := a
      refine ⟨b1, ex.trans b2, b3, ?_⟩
      rcases b4 with ⟨q, _⟩ | ⟨q, z, hz, z1, z2⟩
      · exact absurd q (by omega)
      · obtain ⟨⟨s, s1, s2, s3, _⟩, s_q, s1', s2', s3'⟩ := (a4.2.2.2.2.1 q).2.2 z hz
        refine Or.inr ⟨q, z, hz, ?_, ?_⟩
        · rw [Kpt_m sam a3 ⟨s, s1, s3, Or.inr (Or.inr (Or.inr s2))⟩]
          exact z1
        · rw [Kpt_m sam a3 ⟨s_q, s1', s3', Or.inr (Or.inr (Or.inl s2'))⟩]
          exact z2⟩))
  rw [ge] at key
  exact key
