/-! WHO IS AT A CHANNEL: OUT meets only takers, IN only senders -/
/-- a frame in ALT runs by itself -/
theorem alt_lf {K : Kd} {N : Int} {m : Int → Int} {W : Int} {f : Fm} (a1 : Hok W f) (a4 : Wok K N m W f) (hd : cMd (fCx f) = 1) : fSu f = 0 := by
  have h1 := fun q => (a4.2.1 q).2.2.2.2.2.1
  have h2 := fun q => (a4.2.2.1 q).2.1
  have := a1.2.2.2.2.2.2.2.2.2.2.2
  by_cases q1 : fSu f = 1
  · have := h2 q1
    omega
  · by_cases q2 : fSu f = 2
    · have := h1 q2
      omega
    · omega
theorem Att_l {K : Kd} {N : Int} {m ty : Int → Int} {g : Int → Fm} {x W : Int} (h : MI K N m ty g) (a : Att m g x W) : fSu (g W) = 0 := by
  obtain ⟨a1, a2, a3, a4, a5, a6⟩ := h.1 W a.1
  rcases a.2.2.2 with ⟨q, _⟩ | ⟨q, _⟩
  · exact (a4.2.2.2.2.2.2.2.2.2.1 (by omega)).1
  · exact alt_lf a1 a4 q
/-- by which right, with which bits -/
theorem Att_c {K : Kd} {N : Int} {m ty : Int → Int} {g : Int → Fm} {x W : Int} (h : MI K N m ty g) (a : Att m g x W) : ∃ u, Cl m W (fQ (g W)) 2 x u ∧ ((fSx (g W) = 2 ∧ fCh (g W) = x ∧ u / 4 % 2 = 1) ∨ (fSx (g W) = 3 ∧ fCh (g W) = x ∧ u / 8 % 2 = 1) ∨ (cMd (fCx (g W)) = 1 ∧ u / 8 % 2 = 1)) := by
  have hl := Att_l h a
  obtain ⟨a1, a2, a3, a4, a5, a6⟩ := h.1 W a.1
  have hf : fQ (g W) = cCp (fCx (g W)) := if_neg (by omega)
  rcases a.2.2.2 with ⟨q | q, e⟩ | ⟨q, z, hz, z1, _⟩
  · obtain ⟨u, b, c⟩ := a4.2.2.2.2.2.2.2.2.2.2.2.2.2.2.1 q
    rw [e] at c
    exact ⟨u, c, Or.inl ⟨q, e, b⟩⟩
  · obtain ⟨u, b, c⟩ := a4.2.2.2.2.2.2.2.2.2.2.2.2.2.2.2.1 q
    rw [e] at c
    exact ⟨u, c, Or.inr (Or.inl ⟨q, e, b⟩)⟩
  · obtain ⟨⟨s, s1, s2, s3, s4⟩, _⟩ := (a4.2.2.2.2.1 q).2.2 z hz
    refine ⟨qU s, ⟨s, hf ▸ s1, Or.inr (Or.inr (Or.inr (Or.inr (Or.inr (Or.inl ⟨Or.inr (Or.inl s2), rfl, ?_, rfl⟩)))))⟩, Or.inr (Or.inr ⟨q, s4⟩)⟩
    rw [s3]
    exact z1.symm
/-- two that run by themselves hold no channel with the same bit -/
theorem lf_nc {K : Kd} {N : Int} {m ty : Int → Int} {g : Int → Fm} {r W x u u_q : Int} (h : MI K N m ty g) (hr : fOn (g r) = 1) (hW : fOn (g W) = 1) (n : W ≠ r) (l : fSu (g r) = 0) (l_q : fSu (g W) = 0) (c : Cl m r (fQ (g r)) 2 x u) (c_q : Cl m W (fQ (g W)) 2 x u_q) : NC u u_q := by
  rcases h.2.1 r W hr hW (Ne.symm n) with p | p | p
  · exact p.2.2.2 x u u_q c c_q
  · exact absurd l p.2.2.1
  · exact absurd l_q p.2.2.1
/-- what is known of one that is at a channel -/
def Ats (m : Int → Int) (g : Int → Fm) (x W : Int) : Prop := fOn (g W) = 1 ∧ fSu (g W) = 0 ∧ m x = 2 * W + fPb (g W) ∧ 0 ≤ fPb (g W) ∧ fPb (g W) ≤ 1 ∧ 19 ≤ W ∧ W < 4016 ∧ cDw (fCx (g W)) = 0
theorem Att_s {K : Kd} {N : Int} {m ty : Int → Int} {g : Int → Fm} {x W : Int} (h : MI K N m ty g) (a : Att m g x W) : Ats m g x W := by
  have hl := Att_l h a
  obtain ⟨⟨a1, a2, a3, a4, a5, a6, a7, a8, a9, a10, a11⟩, _⟩ := h.1 W a.1
  exact ⟨a.1, hl, a.2.1, a9, a10, by omega, by omega, a.2.2.1⟩
/-- OUT: nobody, or one that takes, or one in ALT -/
theorem at_out {K : Kd} {N : Int} {m ty : Int → Int} {g : Int → Fm} {r x u : Int} (h : MI K N m ty g) (hr : fOn (g r) = 1) (hu : fSu (g r) = 0) (hx : fSx (g r) = 0) (hd : cMd (fCx (g r)) = 0) (c : Cl m r (cCp (fCx (g r))) 2 x u) (hb : u / 4 % 2 = 1) :
    ty x = 2 ∧ (m x = -1 ∨ ∃ W, W ≠ r ∧ Ats m g x W ∧ ((fSx (g W) = 3 ∧ fCh (g W) = x ∧ m (W - 3) = 0 ∧ cMd (fCx (g W)) = 0 ∧ m (W - 1) = kP K (fSt (g W)) ∧ ∃ v, Cl m W (fQ (g W)) 1 (m (W - 2)) v) ∨ (cMd (fCx (g W)) = 1 ∧ m (W - 3) ≠ 0 ∧ (m (W - 3) = 2 → fSx (g W) = 4) ∧ fSx (g W) ≠ 2 ∧ fSx (g W) ≠ 3))) := by
  have hf : fQ (g r) = cCp (fCx (g r)) := if_neg (by omega)
  rw [← hf] at c
  have tx := ((h.1 r hr).2.2.1.1 _ _ _ c).1
  refine ⟨tx, ?_⟩
  rcases h.2.2 x tx with e | ⟨W, a⟩
  · exact Or.inl e
  · have n : W ≠ r := fun q => by
      subst q
      exact Att_0 hx (by omega) a
    refine Or.inr ⟨W, n, Att_s h a, ?_⟩
    obtain ⟨v, d, k⟩ := Att_c h a
    have nc := lf_nc h hr a.1 n hu (Att_l h a) c d
    have a4 := (h.1 W a.1).2.2.2.1
    rcases k with ⟨_, _, k⟩ | ⟨k1, k2, _⟩ | ⟨k1, _⟩
    · exact absurd ⟨hb, k⟩ nc.1
    · have b1 := a4.2.2.2.2.2.2.2.2.2.2.1 (Or.inr k1)
      have b2 := a4.2.2.2.2.2.2.2.2.2.2.2.1 (Or.inr (Or.inl k1))
      exact Or.inl ⟨k1, k2, b1.1, b1.2, b2.2, a4.2.2.2.2.2.2.2.2.2.2.2.2.2.1 k1⟩
    · have b := (a4.2.2.2.2.1 k1).1
      have b1 := a4.2.2.2.2.2.2.2.2.2.2.1
      refine Or.inr ⟨k1, b.1, b.2, fun q => ?_, fun q => ?_⟩
      · exact b.1 (b1 (Or.inl q)).1
      · exact b.1 (b1 (Or.inr q)).1
/-- with the right to take: itself (in ALT), or one that sends -/
theorem at_bit {K : Kd} {N : Int} {m ty : Int → Int} {g : Int → Fm} {r x u : Int} (h : MI K N m ty g) (hr : fOn (g r) = 1) (hu : fSu (g r) = 0) (c : Cl m r (cCp (fCx (g r))) 2 x u) (hb : u / 8 % 2 = 1) :
    ty x = 2 ∧ (m x = -1 ∨ Att m g x r ∨ ∃ W, W ≠ r ∧ Ats m g x W ∧ fSx (g W) = 2 ∧ fCh (g W) = x ∧ m (W - 3) = 0 ∧ cMd (fCx (g W)) = 0 ∧ m (W - 1) = kP K (fSt (g W))) := by
  have hf : fQ (g r) = cCp (fCx (g r)) := if_neg (by omega)
  rw [← hf] at c
  have tx := ((h.1 r hr).2.2.1.1 _ _ _ c).1
  refine ⟨tx, ?_⟩
  rcases h.2.2 x tx with e | ⟨W, a⟩
  · exact Or.inl e
  · by_cases n : W = r
    · subst n
      exact Or.inr (Or.inl a)
    · refine Or.inr (Or.inr ⟨W, n, Att_s h a, ?_⟩)
      obtain ⟨v, d, k⟩ := Att_c h a
      have nc := lf_nc h hr a.1 n hu (Att_l h a) c d
      have a4 := (h.1 W a.1).2.2.2.1
      rcases k with ⟨k1, k2, _⟩ | ⟨_, _, k⟩ | ⟨_, k⟩
      · have b1 := a4.2.2.2.2.2.2.2.2.2.2.1 (Or.inl k1)
        have b2 := a4.2.2.2.2.2.2.2.2.2.2.2.1 (Or.inl k1)
        exact ⟨k1, k2, b1.1, b1.2, b2.2⟩
      · exact absurd ⟨hb, k⟩ nc.2
      · exact absurd ⟨hb, k⟩ nc.2
/-- IN: nobody, or one that sends -/
theorem at_in {K : Kd} {N : Int} {m ty : Int → Int} {g : Int → Fm} {r x u : Int} (h : MI K N m ty g) (hr : fOn (g r) = 1) (hu : fSu (g r) = 0) (hx : fSx (g r) = 0) (hd : cMd (fCx (g r)) = 0) (c : Cl m r (cCp (fCx (g r))) 2 x u) (hb : u / 8 % 2 = 1) :
    ty x = 2 ∧ (m x = -1 ∨ ∃ W, W ≠ r ∧ Ats m g x W ∧ fSx (g W) = 2 ∧ fCh (g W) = x ∧ m (W - 3) = 0 ∧ cMd (fCx (g W)) = 0 ∧ m (W - 1) = kP K (fSt (g W))) := by
  obtain ⟨t, e | e | e⟩ := at_bit h hr hu c hb
  · exact ⟨t, Or.inl e⟩
  · exact absurd e (Att_0 hx (by omega))
  · exact ⟨t, Or.inr e⟩
/-- a register that is a channel's address, with a bit: a claim -/
theorem Chr_c {m ty : Int → Int} {W lo hi z : Int} {l : List Cp} {b v t : Int} {R : Rt} (k : Cok m ty W t lo hi z l) (hl : 16 ≤ lo) (hb : b = 4 ∨ b = 8) (hc : Chr l R b) (hv : Rok m W t R v) : ∃ u, u / b % 2 = 1 ∧ Cl m W l 2 v u := by
  obtain ⟨⟨w, s, c⟩, _⟩ := Chr_d hc k hl hv
  refine ⟨w, ?_, c⟩
  rcases hb with e | e <;> subst e
  · exact s.1 (by decide)
  · exact s.2 (by decide)
/-- a register that is the address of data: a claim -/
theorem Dtr_c {m ty : Int → Int} {W lo hi z : Int} {l : List Cp} {v t : Int} {R : Rt} (k : Cok m ty W t lo hi z l) (hc : Dtr l R 1) (hv : Rok m W t R v) : ∃ u, Cl m W l 1 v u := ⟨0, (Dtr_d hc k hv (Int.le_refl _) (by omega)).1⟩
