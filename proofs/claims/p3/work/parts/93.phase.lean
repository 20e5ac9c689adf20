/-! a PAR's branches are started, and end -/
/-- a leaf that runs or is ready -/
theorem Wok_r {K : Kd} {N : Int} {m : Int → Int} {r : Int} {f : Fm} (hu : fSu f = 0) (hx : fSx f = 0 ∨ fSx f = 1) (o1 : Gd K N (fun _ _ => False) (fSt f) (fCx f)) (o7 : (cMd (fCx f) = 0 ∨ cMd (fCx f) = 1) ∧ (cMd (fCx f) = 1 → (m (r - 3) ≠ 0 ∧ m (r - 3) ≠ 2) ∧ (m r = -1 ∨ m r ∈ cWs (fCx f)) ∧ ∀ y ∈ cPe (fCx f), (∃ q ∈ cCp (fCx f), qK q = 8 ∧ qO q = y.2 ∧ qU q / 8 % 2 = 1) ∧ ∃ q ∈ cCp (fCx f), qK q = 6 ∧ qO q = y.1))
    (o8 : Sup (cCp (fCx f)) (cA (fCx f)) ∧ Sup (cCp (fCx f)) (cB (fCx f)) ∧ Sup (cCp (fCx f)) (cC (fCx f))) : Wok K N m r f :=
  ⟨o1, fun q => absurd q (by omega), fun q => absurd q (by omega), fun _ => by rcases o7.1 with q | q <;> omega, fun q => ⟨⟨(o7.2 q).1.1, fun w => absurd w (o7.2 q).1.2⟩, (o7.2 q).2⟩, by rcases o7.1 with q | q <;> omega, o8.1, o8.2.1, o8.2.2, fun q => absurd q (by omega), fun q => absurd q (by omega), fun q => absurd q (by omega), fun q => absurd q (by omega), fun q => absurd q (by omega), fun q => absurd q (by omega), fun q => absurd q (by omega), fun q => absurd q (by omega)⟩
/-- the frame that starts branches -/
theorem MI_pha {K : Kd} {N : Int} {m ty m_q : Int → Int} {g : Int → Fm} {r sx j : Int} {e : Cx} (h : MI K N m ty g) (hr : fOn (g r) = 1) (hu : fSu (g r) = 2) (hsx : sx = 0 ∨ sx = 1 ∨ sx = 6)
    (o1 : Gd K N (fun _ _ => False) j e) (o2 : e.1 = (fCx (g r)).1) (hmd : cMd e = 2) (hws : cWs e = cWs (fCx (g r))) (hp1 : ∀ y ∈ cPe e, y ∈ cPe (fCx (g r))) (hp2 : (cPe e).Pairwise (fun a b => a.1 ≠ b.1)) (o8 : Sup (cCp e) (cA e) ∧ Sup (cCp e) (cB e) ∧ Sup (cCp e) (cC e))
    (c : Ctl r m ty m_q) (hC : Chs m_q ty (ug g r (ws (g r) sx (fCh (g r)) j e))) : MI K N m_q ty (ug g r (ws (g r) sx (fCh (g r)) j e)) := by
  obtain ⟨a1, a2, a3, a4, a5, a6⟩ := h.1 r hr
  have h5 : fSx (g r) ≠ 5 := fun q => by
    have := (a4.2.2.2.2.2.2.2.2.2.1 (Or.inr (Or.inr (Or.inr q)))).1
    omega
  have s : Stay g r (ws (g r) sx (fCh (g r)) j e) := Stay_l h ⟨rfl, rfl, rfl, rfl⟩ (by omega) h5 (fun _ => ⟨hu, rfl⟩)
  have hS := fun W (hW : fOn (g W) = 1) (hn : W ≠ r) => Sam_k h hr hW hn c
  have hSr := Sam_kr h hr c
  have eq : fQ (ws (g r) sx (fCh (g r)) j e) = fQ (g r) := by
    unfold fQ
    show (if fSu (g r) = 2 then cCp (fRx (g r)) else cCp e) = (if fSu (g r) = 2 then cCp (fRx (g r)) else cCp (fCx (g r)))
    rw [if_pos hu, if_pos hu]
  obtain ⟨t1, t2, t3, t4, t5, t6⟩ := a2
  obtain ⟨u1, u2, u3, u4, u5⟩ := t6 hu
  have H := a1
  obtain ⟨b1, b2, b3, b4, b5, b6, b7, b8, b9, b10, b11, b12, b13⟩ := a1
  have eaw : m_q (fAw (g r)) = m (fAw (g r)) := c _ (by omega) (by omega)
  have eaw2 : m_q (fAw (g r) + 2) = m (fAw (g r) + 2) := c _ (by omega) (by omega)
  have eaw1 : m_q (fAw (g r) + 1) = m (fAw (g r) + 1) := c _ (by omega) (by omega)
  refine MI_own h s hS ⟨?_, ?_, ?_, ?_, ?_, ?_⟩ (fun W hW hn => Prs_f (f := g r) rfl rfl rfl eq (Prs_m (Sam_p hSr a3) (Sam_p (hS W hW hn).1 (h.1 W hW).2.2.1) (h.2.1 r W hr hW (fun q => hn q.symm)))) hC
  · unfold Hok
    show 16 ≤ fLo (g r) ∧ fLo (g r) + 3 + e.1.2.2.2.1 ≤ r ∧ r + e.1.2.2.1 ≤ fHi (g r) ∧ fHi (g r) ≤ 4016 ∧ 1 ≤ e.1.2.2.1 ∧ 0 ≤ e.1.2.2.2.1 ∧ (e.1.1 = 1 → fHi (g r) = r + e.1.2.2.1 + 4) ∧ (e.1.2.2.2.2 = 0 ∨ (e.1.1 = 1 ∧ e.1.2.2.2.2 = e.1.2.2.1 + 3 ∧ fSu (g r) = 0)) ∧ 0 ≤ fPb (g r) ∧ fPb (g r) ≤ 1 ∧ (fSu (g r) = 2 → (fRx (g r)).1 = e.1) ∧ 0 ≤ fSu (g r) ∧ fSu (g r) ≤ 2
    rw [o2]
    exact H
  · unfold Tok
    show ty (r - 3) = 6 ∧ ty (r - 2) = 6 ∧ ty (r - 1) = 6 ∧ ty r = 6 ∧ (e.1.1 = 1 → ty (r + e.1.2.2.1) = 6 ∧ ty (r + e.1.2.2.1 + 1) = 6 ∧ ty (r + e.1.2.2.1 + 2) = 6 ∧ ty (r + e.1.2.2.1 + 3) = 6) ∧ (fSu (g r) = 2 → r + 1 ≤ fAw (g r) ∧ fAw (g r) + 3 ≤ r + e.1.2.2.1 ∧ ty (fAw (g r)) = 6 ∧ ty (fAw (g r) + 1) = 5 ∧ ty (fAw (g r) + 2) = 6)
    rw [o2]
    exact ⟨t1, t2, t3, t4, t5, t6⟩
  · rw [eq]
    show Cok m_q ty r (fPb (g r)) (fLo (g r)) (fHi (g r)) e.1.2.2.1 (fQ (g r))
    rw [o2]
    exact Cok_m hSr a3
  · obtain ⟨x1, x2, x3, x4, x5, x6, x7, x8⟩ := a4.2.1 hu
    refine ⟨o1, fun k => ?_, fun q => absurd q (show ¬ fSu (g r) = 1 by omega), fun q => absurd q (show ¬ fSu (g r) = 0 by omega), fun q => absurd q (show ¬ cMd e = 1 by omega), show 0 ≤ cMd e ∧ cMd e ≤ 2 by omega, o8.1, o8.2.1, o8.2.2, fun q => absurd q (show ¬ (sx = 2 ∨ sx = 3 ∨ sx = 4 ∨ sx = 5) by omega), fun q => absurd q (show ¬ (sx = 2 ∨ sx = 3) by omega), fun q => absurd q (show ¬ (sx = 2 ∨ sx = 3 ∨ sx = 4) by omega), fun q => absurd q (show ¬ sx = 4 by omega), fun q => absurd q (show ¬ sx = 3 by omega), fun q => absurd q (show ¬ sx = 2 by omega), fun q => absurd q (show ¬ sx = 3 by omega), fun q => absurd q (show ¬ sx = 5 by omega)⟩
    exact ⟨x1, eaw.trans x2, eaw2.trans x3, x4, x5, hmd, hws.trans x7, x8⟩
  · have hz : cEk (fCx (g r)) = 1 → m_q (r + cZ (fCx (g r)) + 3) = m (r + cZ (fCx (g r)) + 3) := fun k => by
      have := (t5 k).2.2.2
      exact c _ (by omega) (by omega)
    have := Bck_m (m_q := m_q) s hr hz a5
    exact Bck_f (f0 := g r) o2 rfl rfl rfl rfl this
  · have := Brs_m (m_q := m_q) s hr (fun _ => eaw1) a6
    intro k
    obtain ⟨y1, y2, y3, y4⟩ := this k
    exact ⟨fun z hz => y1 z (hp1 z hz), hp2, y3, y4⟩
theorem Cok_b {m ty : Int → Int} {W b b_q lo hi z : Int} {l : List Cp} (h : ∀ q ∈ l, qK q ≠ 8 ∧ qK q ≠ 9 ∧ (qK q ≠ 5 → 1 ≤ qO q)) (c : Cok m ty W b lo hi z l) : Cok m ty W b_q lo hi z l := by
  refine ⟨c.1, fun q hq => ?_, c.2.2⟩
  obtain ⟨c1, c2, c3, c4, c5, c6⟩ := c.2.1 q hq
  obtain ⟨h1, h2, h3⟩ := h q hq
  exact ⟨c1, c2, c3, c4, fun k => by rcases k with k | k; exact absurd k h2; exact absurd (h3 (by omega)) (by omega), c6⟩
/-- a branch is started -/
def bo (f : Fm) (pb : Int) : Fm := (fOn f, fSu f, 1, pb, fCh f, fPa f, fAw f, fLo f, fHi f, fSt f, fCx f, fRs f, fRx f)
theorem MI_brn {K : Kd} {N : Int} {m ty m_q : Int → Int} {g : Int → Fm} {r pb : Int} (h : MI K N m ty g) (hr : fOn (g r) = 1) (h5 : fSx (g r) = 5) (hl : ∀ W, fOn (g W) = 1 → fSu (g W) = 2 → ∀ y ∈ cPe (fCx (g W)), W - y.1 ≠ r) (hb : 0 ≤ pb ∧ pb ≤ 1) (c : Ctl r m ty m_q) (hm2 : ∀ x, ty x = 2 → m_q x = m x) : MI K N m_q ty (ug g r (bo (g r) pb)) := by
  obtain ⟨a1, a2, a3, a4, a5, a6⟩ := h.1 r hr
  obtain ⟨hu, hR⟩ := a4.2.2.2.2.2.2.2.2.2.1 (Or.inr (Or.inr (Or.inr h5)))
  obtain ⟨k1, k2, k3, k4⟩ := a4.2.2.2.2.2.2.2.2.2.2.2.2.2.2.2.2 h5
  have s : Stay g r (bo (g r) pb) := ⟨⟨rfl, rfl, rfl, rfl⟩, fun W hW k q => by
    have := ((h.1 W hW).2.2.2.2.1.1 k).2.1
    rw [q] at this
    omega, hl, fun W hW k q => absurd q (by omega)⟩
  have hS := fun W (hW : fOn (g W) = 1) (hn : W ≠ r) => Sam_k h hr hW hn c
  have hSr := Sam_kr h hr c
  have hf0 : fQ (g r) = cCp (fCx (g r)) := if_neg (by omega)
  have eA : cA (fCx (g r)) = r0 := congrArg (fun t : Rt × Rt × Rt => t.1) hR
  have eB : cB (fCx (g r)) = r0 := congrArg (fun t : Rt × Rt × Rt => t.2.1) hR
  have eC : cC (fCx (g r)) = r0 := congrArg (fun t : Rt × Rt × Rt => t.2.2) hR
  have sup : ∀ q : Rt, q = r0 → Sup (cCp (fCx (g r))) q := fun q e => e ▸ Sup_0
  have H := a1
  obtain ⟨b1, b2, b3, b4, b5, b6, b7, b8, b9, b10, b11, b12, b13⟩ := a1
  refine MI_own h s hS ⟨⟨b1, b2, b3, b4, b5, b6, b7, b8, hb.1, hb.2, b11, b12, b13⟩, a2, ?_, ?_, ?_, ?_⟩ (fun W hW hn => Prs_f (f := g r) rfl rfl rfl rfl (Prs_m (Sam_p hSr a3) (Sam_p (hS W hW hn).1 (h.1 W hW).2.2.1) (h.2.1 r W hr hW (fun q => hn q.symm)))) (fun x hx => ?_)
  · have := Cok_m hSr a3
    show Cok m_q ty r pb (fLo (g r)) (fHi (g r)) (cZ (fCx (g r))) (fQ (g r))
    rw [hf0] at this ⊢
    exact Cok_b k4 this
  · exact Wok_r hu (Or.inr rfl) a4.1 ⟨Or.inl k2, fun q => absurd q (show ¬ cMd (fCx (g r)) = 1 by omega)⟩ ⟨sup _ eA, sup _ eB, sup _ eC⟩
  · obtain ⟨x1, x2, x3⟩ := Bck_m (m_q := m_q) s hr (fun k => absurd k (by omega)) a5
    exact ⟨fun k => absurd k (show ¬ cEk (fCx (g r)) = 1 by omega), x2, x3⟩
  · exact fun q => absurd q (show ¬ fSu (g r) = 2 by omega)
  · rcases h.2.2 x hx with b | ⟨W, b⟩
    · exact Or.inl ((hm2 x hx).trans b)
    · have hn : W ≠ r := fun e => by
        subst e
        rcases b.2.2.2 with ⟨q, _⟩ | ⟨q, _⟩ <;> omega
      exact Or.inr ⟨W, Att_m b (h.1 W b.1) (hS W b.1 hn).1 (hm2 x hx) (ug_n hn)⟩
theorem cnt_p {g : Int → Fm} {a : Int} : ∀ (n : Nat), 0 ≤ cnt g a n ∧ ∀ W : Int, 0 ≤ W → W < (n : Int) → fOn (g W) = 1 → fPa (g W) = a → 1 ≤ cnt g a n
  | 0 => ⟨Int.le_refl _, fun W w1 w2 => by omega⟩
  | n + 1 => by
    obtain ⟨p1, p2⟩ := cnt_p (g := g) (a := a) n
    have e : cnt g a (n + 1) = cnt g a n + (if fOn (g (n : Int)) = 1 ∧ fPa (g (n : Int)) = a then 1 else 0) := rfl
    have i : 0 ≤ (if fOn (g (n : Int)) = 1 ∧ fPa (g (n : Int)) = a then (1 : Int) else 0) := by split <;> omega
    refine ⟨by omega, fun W w1 w2 w3 w4 => ?_⟩
    by_cases q : W = (n : Int)
    · subst q
      rw [e, if_pos ⟨w3, w4⟩]
      omega
    · have := p2 W w1 (by omega) w3 w4
      omega
/-- ENDP: one branch less -/
theorem MI_end1 {K : Kd} {N : Int} {m ty : Int → Int} {g : Int → Fm} {r V : Int} (h : MI K N m ty g) (hr : fOn (g r) = 1) (hu : fSu (g r) = 0) (hx : fSx (g r) = 0) (hd : cMd (fCx (g r)) = 0) (v1 : fOn (g V) = 1) (v2 : fSu (g V) = 2) (v3 : fAw (g V) = fPa (g r)) : MI K N (um m (fPa (g r) + 1) (m (fPa (g r) + 1) - 1)) ty (ug g r fo) := by
  have t5 := ((h.1 V v1).2.1.2.2.2.2.2 v2).2.2.2.1
  rw [v3] at t5
  refine MI_off h hr hu (by omega) rfl (fun x => Att_0 hx (by omega)) (fun x q => um_n (fun e => by subst e; exact q t5)) (fun W hW k => ?_)
  by_cases e : fAw (g W) = fPa (g r)
  · exact Or.inr ⟨e, by rw [e]; exact um_e⟩
  · exact Or.inl (um_n (by omega))
/-- ENDP: the last one; the frame around goes on -/
theorem MI_end2 {K : Kd} {N : Int} {m ty m_q : Int → Int} {g : Int → Fm} {V : Int} (h : MI K N m ty g) (v1 : fOn (g V) = 1) (v2 : fSu (g V) = 2) (v4 : m (fAw (g V) + 1) ≤ 0) (c : Ctl V m ty m_q) (hm2 : ∀ x, ty x = 2 → m_q x = m x) : MI K N m_q ty (ug g V (up (g V) 1 (fRs (g V)) (fRx (g V)))) := by
  obtain ⟨a1, a2, a3, a4, a5, a6⟩ := h.1 V v1
  obtain ⟨y1, y2, y3, y4⟩ := a6 v2
  obtain ⟨x1, x2, x3, x4, x5, x6, x7, x8⟩ := a4.2.1 v2
  have cp := cnt_p (g := g) (a := fAw (g V)) 4016
  have h5 : fSx (g V) ≠ 5 := fun q => by
    have := (a4.2.2.2.2.2.2.2.2.2.1 (Or.inr (Or.inr (Or.inr q)))).1
    omega
  have h6 : fSx (g V) ≠ 2 ∧ fSx (g V) ≠ 3 := ⟨fun q => by
    have := (a4.2.2.2.2.2.2.2.2.2.1 (Or.inl q)).1
    omega, fun q => by
    have := (a4.2.2.2.2.2.2.2.2.2.1 (Or.inr (Or.inl q))).1
    omega⟩
  have eh := a1.2.2.2.2.2.2.2.2.2.2.1 v2
  have edw : cDw (fRx (g V)) = 0 := by
    have : cDw (fRx (g V)) = cDw (fCx (g V)) := congrArg (fun t : Hd => t.2.2.2.2) eh
    rcases a1.2.2.2.2.2.2.2.1 with q | q <;> omega
  have sup : ∀ q : Rt, q = r0 → Sup (cCp (fRx (g V))) q := fun q e => e ▸ Sup_0
  have eA : cA (fRx (g V)) = r0 := congrArg (fun t : Rt × Rt × Rt => t.1) x8
  have eB : cB (fRx (g V)) = r0 := congrArg (fun t : Rt × Rt × Rt => t.2.1) x8
  have eC : cC (fRx (g V)) = r0 := congrArg (fun t : Rt × Rt × Rt => t.2.2) x8
  refine MI_up h v1 (fun W hW hn q => ?_) h5 eh edw (if_pos v2).symm c (Wok_r rfl (Or.inr rfl) x1 ⟨Or.inl x5, fun q => absurd q (show ¬ cMd (fRx (g V)) = 1 by omega)⟩ ⟨sup _ eA, sup _ eB, sup _ eC⟩) (fun x hx => ?_)
  · obtain ⟨U, u1, u2, u3, u4⟩ := y4 W hW q.1 q.2
    obtain ⟨b1, b2, b3, b4, b5, b6, b7⟩ := (h.1 U u1).1
    have := cp.2 U (by omega) (by omega) u1 u2
    omega
  · rcases h.2.2 x hx with b | ⟨W, b⟩
    · exact Or.inl ((hm2 x hx).trans b)
    · have hn : W ≠ V := fun e => by
        subst e
        rcases b.2.2.2 with ⟨q, _⟩ | ⟨q, _⟩
        · omega
        · omega
      exact Or.inr ⟨W, Att_m b (h.1 W b.1) (Sam_k h v1 b.1 hn c).1 (hm2 x hx) (ug_n hn)⟩
