/-! READY AND RUNNING -/
/-- one that was ready runs, one that ran is ready: nothing else changes -/
theorem MI_trn {K : Kd} {N : Int} {m ty : Int → Int} {g : Int → Fm} {r sx : Int} (h : MI K N m ty g) (hr : fOn (g r) = 1) (hx : fSx (g r) = 0 ∨ fSx (g r) = 1) (hs : sx = 0 ∨ sx = 1) : MI K N m ty (ug g r (ws (g r) sx (fCh (g r)) (fSt (g r)) (fCx (g r)))) := by
  obtain ⟨a1, a2, a3, a4, a5, a6⟩ := h.1 r hr
  have c : Ctl r m ty m := fun _ _ _ => rfl
  have s8 := a4.2.2.2.2.2.2.1
  have s9 := a4.2.2.2.2.2.2.2.1
  have s10 := a4.2.2.2.2.2.2.2.2.1
  have hC : Chs m ty (ug g r (ws (g r) sx (fCh (g r)) (fSt (g r)) (fCx (g r)))) := fun x tx => by
    rcases h.2.2 x tx with e | ⟨W, a⟩
    · exact Or.inl e
    · refine Or.inr ⟨W, ?_⟩
      by_cases q : W = r
      · subst q
        obtain ⟨b1, b2, b3, b4⟩ := a
        unfold Att
        rw [ug_e]
        refine ⟨b1, b2, b3, ?_⟩
        rcases b4 with ⟨b, _⟩ | b
        · exact absurd b (by omega)
        · exact Or.inr b
      · unfold Att at a ⊢
        rw [ug_n q]
        exact a
  have su : fSu (g r) = 0 ∨ fSu (g r) = 2 := by
    have h1 := fun q => (a4.2.2.1 q).2.2.1
    have h2 := a1.2.2.2.2.2.2.2.2.2.2.2
    by_cases q : fSu (g r) = 1
    · have := h1 q
      omega
    · omega
  rcases su with hu | hu
  · refine MI_sta h hr hu (not_l h (by omega)) rfl rfl c (Wok_r hu hs a4.1 ⟨?_, fun q => ?_⟩ ⟨s8, s9, s10⟩) hC
    · have := a4.2.2.2.1 hu
      have := a4.2.2.2.2.2.1
      show cMd (fCx (g r)) = 0 ∨ cMd (fCx (g r)) = 1
      omega
    · obtain ⟨b1, b2, b3⟩ := a4.2.2.2.2.1 q
      refine ⟨⟨b1.1, fun w => ?_⟩, b2, b3⟩
      have := b1.2 w
      omega
  · have w2 := a4.2.1 hu
    exact MI_pha h hr hu (by omega) a4.1 rfl w2.2.2.2.2.2.1 rfl (fun y hy => hy) (a6 hu).2.1 ⟨s8, s9, s10⟩ c hC
/-- where I stands within the bytes of a step, and what O holds there -/
def Pos (K : Kd) (j I O : Int) : Prop := ∃ i, 0 ≤ i ∧ i < kP K (j + 1) - kP K j ∧ I = kP K j + i ∧ O = prt (kV K j) (kP K (j + 1) - kP K j) i
/-- the registers of one that runs (or is put aside) -/
def Rgs (m : Int → Int) (g : Int → Fm) (r a b c : Int) : Prop := Rok m r (fPb (g r)) (cA (fCx (g r))) a ∧ Rok m r (fPb (g r)) (cB (fCx (g r))) b ∧ Rok m r (fPb (g r)) (cC (fCx (g r))) c
/-- one that is ready, and begins anew with A, B, C, O 0 -/
def Rst (K : Kd) (m : Int → Int) (g : Int → Fm) (W : Int) : Prop := m (fR g W - 1) = kP K (fSt (g W)) ∧ (fCx (g W)).2.2.1 = (r0, r0, r0) ∧ fSu (g W) = 0
theorem Rok_0 {m : Int → Int} {W b v : Int} : Rok m W b r0 v := ⟨fun q => absurd q (show ¬ (0 : Int) = 1 by decide), fun q => absurd q (show ¬ (0 : Int) = 2 by decide), fun q => absurd q (show ¬ (0 : Int) = 3 by decide), fun q => absurd q (show ¬ (0 : Int) = 5 by decide), fun q => absurd q (show ¬ (0 : Int) = 6 by decide)⟩
theorem Rst_g {K : Kd} {m : Int → Int} {g : Int → Fm} {W a b c : Int} (h : Rst K m g W) : Rgs m g W a b c := by
  obtain ⟨_, e, _⟩ := h
  have eA : cA (fCx (g W)) = r0 := congrArg (fun t : Rt × Rt × Rt => t.1) e
  have eB : cB (fCx (g W)) = r0 := congrArg (fun t : Rt × Rt × Rt => t.2.1) e
  have eC : cC (fCx (g W)) = r0 := congrArg (fun t : Rt × Rt × Rt => t.2.2) e
  unfold Rgs
  rw [eA, eB, eC]
  exact ⟨Rok_0, Rok_0, Rok_0⟩
