/-! frames that wait, and frames below them -/
theorem Prs_f {m : Int → Int} {r W : Int} {f f_q k : Fm} (e1 : fLo f_q = fLo f) (e2 : fHi f_q = fHi f) (e3 : fSu f_q = fSu f) (e4 : fQ f_q = fQ f) (p : Prs m r f W k) : Prs m r f_q W k := by
  unfold Prs Apt Blw at p ⊢
  rw [e1, e2, e3, e4]
  exact p
/-- own words of two frames are apart -/
theorem Own_n {m : Int → Int} {W V : Int} {f f_q : Fm} (hW : Hok W f) (hV : Hok V f_q) (p : Prs m W f V f_q) {x : Int} (h1 : W - 3 ≤ x) (h2 : x < fHi f) (h3 : V - 3 ≤ x) (h4 : x < fHi f_q) : False := by
  obtain ⟨a1, a2, a3, a4, a5, a6, a7⟩ := hW
  obtain ⟨b1, b2, b3, b4, b5, b6, b7⟩ := hV
  rcases p with p | p | p
  · rcases p.1 with p | p <;> omega
  · have := p.2.1
    omega
  · have := p.2.1
    omega
/-- a frame's words for going on are written, and words of channels -/
def Ctl (r : Int) (m ty m_q : Int → Int) : Prop := ∀ x, ty x ≠ 2 → ¬ (r - 3 ≤ x ∧ x ≤ r) → m_q x = m x
theorem Sam_k {K : Kd} {N : Int} {m ty m_q : Int → Int} {g : Int → Fm} {r W : Int} (h : MI K N m ty g) (hr : fOn (g r) = 1) (hW : fOn (g W) = 1) (hn : W ≠ r) (c : Ctl r m ty m_q) : Sam m ty m_q ty W (fHi (g W)) (fQ (g W)) ∧ (fSu (g W) = 2 → m_q (fAw (g W) + 1) = m (fAw (g W) + 1)) := by
  have hh := h.1 r hr
  have hw := h.1 W hW
  obtain ⟨t1, t2, t3, t4, t5⟩ := hh.2.1
  have p := h.2.1 W r hW hr hn
  have L1 := hh.1.2.2.1
  have L2 := hh.1.2.2.2.2.1
  have ctl : ∀ x, r - 3 ≤ x → x ≤ r → ty x = 6 := fun x x1 x2 => by
    have : x = r - 3 ∨ x = r - 2 ∨ x = r - 1 ∨ x = r := by omega
    rcases this with e | e | e | e <;> subst e <;> assumption
  refine ⟨⟨fun x x1 x2 => ⟨rfl, fun q => c x (by omega) (fun y => Own_n hw.1 hh.1 p x1 x2 y.1 (by omega))⟩, fun k x u q => ⟨rfl, fun q1 q2 => c x q2 (fun y => ?_)⟩, fun _ _ => rfl⟩, fun q => ?_⟩
  · have e := ctl x y.1 y.2
    have e2 := (hw.2.2.1.1 k x u q).1
    obtain ⟨q0, _, w⟩ := q
    rcases w with w | w | w | w | w | w | w | w <;> omega
  · have e := (hw.2.1.2.2.2.2.2 q).2.2.2.1
    refine c _ (by omega) (fun y => ?_)
    have := ctl _ y.1 y.2
    omega
theorem Sam_kr {K : Kd} {N : Int} {m ty m_q : Int → Int} {g : Int → Fm} {r : Int} (h : MI K N m ty g) (hr : fOn (g r) = 1) (c : Ctl r m ty m_q) : Sam m ty m_q ty r (r - 3) (fQ (g r)) := by
  have hh := h.1 r hr
  obtain ⟨t1, t2, t3, t4, t5⟩ := hh.2.1
  have ctl : ∀ x, r - 3 ≤ x → x ≤ r → ty x = 6 := fun x x1 x2 => by
    have : x = r - 3 ∨ x = r - 2 ∨ x = r - 1 ∨ x = r := by omega
    rcases this with e | e | e | e <;> subst e <;> assumption
  refine ⟨fun x x1 x2 => absurd x1 (by omega), fun k x u q => ⟨rfl, fun q1 q2 => c x q2 (fun y => ?_)⟩, fun _ _ => rfl⟩
  have e := ctl x y.1 y.2
  have e2 := (hh.2.2.1.1 k x u q).1
  obtain ⟨q0, _, w⟩ := q
  rcases w with w | w | w | w | w | w | w | w <;> omega
/-- a leaf's state changes: it waits, it is ready -/
def ws (f : Fm) (sx ch j : Int) (c : Cx) : Fm := (fOn f, fSu f, sx, fPb f, ch, fPa f, fAw f, fLo f, fHi f, j, c, fRs f, fRx f)
theorem MI_sta {K : Kd} {N : Int} {m ty m_q : Int → Int} {g : Int → Fm} {r sx ch j : Int} {e : Cx} (h : MI K N m ty g) (hr : fOn (g r) = 1) (hu : fSu (g r) = 0) (h5 : ∀ W, fOn (g W) = 1 → fSu (g W) = 2 → ∀ y ∈ cPe (fCx (g W)), W - y.1 ≠ r)
    (o2 : e.1 = (fCx (g r)).1) (o3 : cCp e = cCp (fCx (g r))) (c : Ctl r m ty m_q) (hW : Wok K N m_q r (ws (g r) sx ch j e)) (hC : Chs m_q ty (ug g r (ws (g r) sx ch j e))) : MI K N m_q ty (ug g r (ws (g r) sx ch j e)) := by
  have s : Stay g r (ws (g r) sx ch j e) := ⟨⟨rfl, rfl, rfl, rfl⟩, fun W hW k q => by
    have := ((h.1 W hW).2.2.2.2.1.1 k).2.1
    rw [q] at this
    omega, h5, fun W hW k q => absurd q (by omega)⟩
  have hS := fun W (hW : fOn (g W) = 1) (hn : W ≠ r) => Sam_k h hr hW hn c
  have hSr := Sam_kr h hr c
  obtain ⟨a1, a2, a3, a4, a5, a6⟩ := h.1 r hr
  have eq : fQ (ws (g r) sx ch j e) = fQ (g r) := by
    unfold fQ
    show (if fSu (g r) = 2 then cCp (fRx (g r)) else cCp e) = _
    rw [o3]
  refine MI_own h s hS ⟨?_, ?_, ?_, hW, ?_, ?_⟩ (fun W hW hn => Prs_f (f := g r) rfl rfl rfl eq (Prs_m (Sam_p hSr a3) (Sam_p (hS W hW hn).1 (h.1 W hW).2.2.1) (h.2.1 r W hr hW (fun q => hn q.symm)))) hC
  · unfold Hok at a1 ⊢
    show 16 ≤ fLo (g r) ∧ fLo (g r) + 3 + e.1.2.2.2.1 ≤ r ∧ r + e.1.2.2.1 ≤ fHi (g r) ∧ fHi (g r) ≤ 4016 ∧ 1 ≤ e.1.2.2.1 ∧ 0 ≤ e.1.2.2.2.1 ∧ (e.1.1 = 1 → fHi (g r) = r + e.1.2.2.1 + 4) ∧ (e.1.2.2.2.2 = 0 ∨ (e.1.1 = 1 ∧ e.1.2.2.2.2 = e.1.2.2.1 + 3 ∧ fSu (g r) = 0)) ∧ 0 ≤ fPb (g r) ∧ fPb (g r) ≤ 1 ∧ (fSu (g r) = 2 → (fRx (g r)).1 = e.1) ∧ 0 ≤ fSu (g r) ∧ fSu (g r) ≤ 2
    rw [o2]
    exact a1
  · unfold Tok at a2 ⊢
    show ty (r - 3) = 6 ∧ ty (r - 2) = 6 ∧ ty (r - 1) = 6 ∧ ty r = 6 ∧ (e.1.1 = 1 → ty (r + e.1.2.2.1) = 6 ∧ ty (r + e.1.2.2.1 + 1) = 6 ∧ ty (r + e.1.2.2.1 + 2) = 6 ∧ ty (r + e.1.2.2.1 + 3) = 6) ∧ (fSu (g r) = 2 → r + 1 ≤ fAw (g r) ∧ fAw (g r) + 3 ≤ r + e.1.2.2.1 ∧ ty (fAw (g r)) = 6 ∧ ty (fAw (g r) + 1) = 5 ∧ ty (fAw (g r) + 2) = 6)
    rw [o2]
    exact a2
  · rw [eq]
    show Cok m_q ty r (fPb (g r)) (fLo (g r)) (fHi (g r)) e.1.2.2.1 (fQ (g r))
    rw [o2]
    exact Cok_m hSr a3
  · have hz : cEk (fCx (g r)) = 1 → m_q (r + cZ (fCx (g r)) + 3) = m (r + cZ (fCx (g r)) + 3) := fun k => by
      have := (a2.2.2.2.2.1 k).2.2.2
      have := a1.2.2.2.2.1
      exact c _ (by omega) (by omega)
    have := Bck_m (m_q := m_q) s hr hz a5
    unfold Bck at this ⊢
    show (e.1.1 = 1 → fOn (ug g r _ (r + e.1.2.2.1 + 7)) = 1 ∧ fSu (ug g r _ (r + e.1.2.2.1 + 7)) = 1 ∧ fLo (ug g r _ (r + e.1.2.2.1 + 7)) = fLo (g r) ∧ fPb (ug g r _ (r + e.1.2.2.1 + 7)) = fPb (g r) ∧ m_q (r + e.1.2.2.1 + 3) = kP K (fSt (ug g r _ (r + e.1.2.2.1 + 7)))) ∧ (e.1.1 = 2 → fPa (g r) = r + e.1.2.1 ∧ ∃ V, fOn (ug g r _ V) = 1 ∧ fSu (ug g r _ V) = 2 ∧ fAw (ug g r _ V) = fPa (g r) ∧ fLo (ug g r _ V) ≤ fLo (g r) ∧ fHi (g r) ≤ V - 3) ∧ (e.1.1 ≠ 2 → fPa (g r) = 0)
    rw [o2]
    exact this
  · exact fun q => absurd q (show ¬ fSu (g r) = 2 by omega)
/-- a frame that waited for others runs on: none is below it any more -/
def up (f : Fm) (sx j : Int) (c : Cx) : Fm := (fOn f, 0, sx, fPb f, fCh f, fPa f, fAw f, fLo f, fHi f, j, c, fRs f, fRx f)
theorem MI_up {K : Kd} {N : Int} {m ty m_q : Int → Int} {g : Int → Fm} {r sx j : Int} {e : Cx} (h : MI K N m ty g) (hr : fOn (g r) = 1) (hb : ∀ W, fOn (g W) = 1 → W ≠ r → ¬ (fLo (g r) ≤ fLo (g W) ∧ fHi (g W) ≤ r - 3)) (h5 : fSx (g r) ≠ 5)
    (o2 : e.1 = (fCx (g r)).1) (hw : cDw e = 0) (o3 : cCp e = fQ (g r)) (c : Ctl r m ty m_q) (hW : Wok K N m_q r (up (g r) sx j e)) (hC : Chs m_q ty (ug g r (up (g r) sx j e))) : MI K N m_q ty (ug g r (up (g r) sx j e)) := by
  have hok : ∀ W, fOn (g W) = 1 → 1 ≤ cZ (fCx (g W)) ∧ W + cZ (fCx (g W)) ≤ fHi (g W) := fun W q => ⟨(h.1 W q).1.2.2.2.2.1, (h.1 W q).1.2.2.1⟩
  have s : Stay g r (up (g r) sx j e) := ⟨⟨rfl, rfl, rfl, rfl⟩, fun W hW k q => by
    have b := (h.1 W hW).2.2.2.2.1.1 k
    have hi := (h.1 W hW).1.2.2.2.2.2.2.1 k
    rw [q] at b
    have := hok W hW
    exact hb W hW (by omega) ⟨by omega, by omega⟩, fun W hW k y hy q => by
    have := (((h.1 W hW).2.2.2.2.2 k).1 y hy).2.1
    rw [q] at this
    exact h5 this, fun W hW k q q1 q2 q3 => by
    have := hok W hW
    exact absurd ⟨q2, q3⟩ (hb W hW (by omega))⟩
  have hS := fun W (hW : fOn (g W) = 1) (hn : W ≠ r) => Sam_k h hr hW hn c
  have hSr := Sam_kr h hr c
  obtain ⟨a1, a2, a3, a4, a5, a6⟩ := h.1 r hr
  have eq : fQ (up (g r) sx j e) = fQ (g r) := by
    rw [← o3]
    rfl
  refine MI_own h s hS ⟨?_, ?_, ?_, hW, ?_, ?_⟩ (fun W hW hn => ?_) hC
  · obtain ⟨b1, b2, b3, b4, b5, b6, b7, b8, b9, b10, b11, b12, b13⟩ := a1
    unfold Hok
    show 16 ≤ fLo (g r) ∧ fLo (g r) + 3 + e.1.2.2.2.1 ≤ r ∧ r + e.1.2.2.1 ≤ fHi (g r) ∧ fHi (g r) ≤ 4016 ∧ 1 ≤ e.1.2.2.1 ∧ 0 ≤ e.1.2.2.2.1 ∧ (e.1.1 = 1 → fHi (g r) = r + e.1.2.2.1 + 4) ∧ (e.1.2.2.2.2 = 0 ∨ (e.1.1 = 1 ∧ e.1.2.2.2.2 = e.1.2.2.1 + 3 ∧ (0 : Int) = 0)) ∧ 0 ≤ fPb (g r) ∧ fPb (g r) ≤ 1 ∧ ((0 : Int) = 2 → (fRx (g r)).1 = e.1) ∧ (0 : Int) ≤ 0 ∧ (0 : Int) ≤ 2
    have hw' : e.1.2.2.2.2 = 0 := hw
    rw [hw']
    rw [o2]
    exact ⟨b1, b2, b3, b4, b5, b6, b7, Or.inl rfl, b9, b10, fun q => absurd q (by decide), by omega, by omega⟩
  · obtain ⟨t1, t2, t3, t4, t5, t6⟩ := a2
    unfold Tok
    show ty (r - 3) = 6 ∧ ty (r - 2) = 6 ∧ ty (r - 1) = 6 ∧ ty r = 6 ∧ (e.1.1 = 1 → ty (r + e.1.2.2.1) = 6 ∧ ty (r + e.1.2.2.1 + 1) = 6 ∧ ty (r + e.1.2.2.1 + 2) = 6 ∧ ty (r + e.1.2.2.1 + 3) = 6) ∧ ((0 : Int) = 2 → _)
    rw [o2]
    exact ⟨t1, t2, t3, t4, t5, fun q => absurd q (by decide)⟩
  · rw [eq]
    show Cok m_q ty r (fPb (g r)) (fLo (g r)) (fHi (g r)) e.1.2.2.1 (fQ (g r))
    rw [o2]
    exact Cok_m hSr a3
  · have hz : cEk (fCx (g r)) = 1 → m_q (r + cZ (fCx (g r)) + 3) = m (r + cZ (fCx (g r)) + 3) := fun k => by
      have := (a2.2.2.2.2.1 k).2.2.2
      have := a1.2.2.2.2.1
      exact c _ (by omega) (by omega)
    have := Bck_m (m_q := m_q) s hr hz a5
    unfold Bck at this ⊢
    show (e.1.1 = 1 → fOn (ug g r _ (r + e.1.2.2.1 + 7)) = 1 ∧ fSu (ug g r _ (r + e.1.2.2.1 + 7)) = 1 ∧ fLo (ug g r _ (r + e.1.2.2.1 + 7)) = fLo (g r) ∧ fPb (ug g r _ (r + e.1.2.2.1 + 7)) = fPb (g r) ∧ m_q (r + e.1.2.2.1 + 3) = kP K (fSt (ug g r _ (r + e.1.2.2.1 + 7)))) ∧ (e.1.1 = 2 → fPa (g r) = r + e.1.2.1 ∧ ∃ V, fOn (ug g r _ V) = 1 ∧ fSu (ug g r _ V) = 2 ∧ fAw (ug g r _ V) = fPa (g r) ∧ fLo (ug g r _ V) ≤ fLo (g r) ∧ fHi (g r) ≤ V - 3) ∧ (e.1.1 ≠ 2 → fPa (g r) = 0)
    rw [o2]
    exact this
  · exact fun q => absurd q (show ¬ (0 : Int) = 2 by decide)
  · have p := Prs_m (Sam_p hSr a3) (Sam_p (hS W hW hn).1 (h.1 W hW).2.2.1) (h.2.1 r W hr hW (fun q => hn q.symm))
    rcases p with p | p | p
    · left
      unfold Apt at p ⊢
      rw [eq]
      exact p
    · exact absurd ⟨p.1, p.2.1⟩ (hb W hW hn)
    · right; right
      exact p
