/-! the same for a frame that starts branches, and for all that run -/
theorem MI_sav {K : Kd} {N : Int} {m ty m_q : Int → Int} {g : Int → Fm} {r : Int} (h : MI K N m ty g) (hr : fOn (g r) = 1) (hx : fSx (g r) = 0) (hm : ∀ y, y ≠ fR g r - 1 → m_q y = m y) : MI K N m_q ty g := by
  obtain ⟨a1, a2, a3, a4, a5, a6⟩ := h.1 r hr
  have su : fSu (g r) = 0 ∨ fSu (g r) = 2 := by
    have h1 := fun q => (a4.2.2.1 q).2.2.1
    have h2 := a1.2.2.2.2.2.2.2.2.2.2.2
    by_cases q : fSu (g r) = 1
    · have := h1 q
      omega
    · omega
  rcases su with hu | hu
  · exact MI_svl h hr hu hx hm
  · have w2 := a4.2.1 hu
    have e : fR g r - 1 = r - 1 := by
      show r + cDw (fCx (g r)) - 1 = r - 1
      rcases a1.2.2.2.2.2.2.2.1 with q | ⟨_, _, q⟩ <;> omega
    rw [e] at hm
    have c : Ctl r m ty m_q := fun y _ y2 => hm y (by omega)
    have ge : ug g r (ws (g r) 0 (fCh (g r)) (fSt (g r)) (fCx (g r))) = g := funext (fun W => by
      by_cases q : W = r
      · subst q
        rw [ug_e, ← hx]
        rfl
      · rw [ug_n q])
    have tx : ∀ x, ty x = 2 → m_q x = m x := fun x t => hm x (fun q => by
      have := a2.2.2.1
      rw [← q] at this
      omega)
    have key := MI_pha (sx := 0) (j := fSt (g r)) (e := fCx (g r)) h hr hu (Or.inl rfl) a4.1 rfl w2.2.2.2.2.2.1 rfl (fun y hy => hy) (a6 hu).2.1 ⟨a4.2.2.2.2.2.2.1, a4.2.2.2.2.2.2.2.1, a4.2.2.2.2.2.2.2.2.1⟩ c
      (Chs_k (x := r - 1) h hr c (fun y t _ => tx y t) (fun t => absurd a2.2.2.1 (by omega)) (fun y _ _ a => absurd a (Att_0 hx (by have := w2.2.2.2.2.2.1; omega))))
    rw [ge] at key
    exact key
