/-! small steps of the frame that runs -/
def um (m : Int → Int) (x v : Int) : Int → Int := fun y => if y = x then v else m y
theorem um_e {m : Int → Int} {x v : Int} : um m x v x = v := if_pos rfl
theorem um_n {m : Int → Int} {x v y : Int} (h : y ≠ x) : um m x v y = m y := if_neg h
theorem ug_i {g : Int → Fm} {r : Int} : ug g r (g r) = g := by
  funext W
  by_cases h : W = r
  · subst h
    exact ug_e
  · exact ug_n h
/-- somebody at a channel stays there -/
theorem Att_m {K : Kd} {N : Int} {m ty m_q ty_q : Int → Int} {g g_q : Int → Fm} {x W : Int} (a : Att m g x W) (hL : Loc K N m ty g W (g W)) (h : Sam m ty m_q ty_q W (fHi (g W)) (fQ (g W))) (hm : m_q x = m x) (hg : g_q W = g W) : Att m_q g_q x W := by
  obtain ⟨a1, a2, a3, a4⟩ := a
  obtain ⟨l1, l2, l3, l4, l5, l6⟩ := hL
  refine ⟨hg ▸ a1, ?_, hg ▸ a3, ?_⟩
  · rw [hg, hm]
    exact a2
  · rw [hg]
    rcases a4 with a4 | ⟨a4, e, he, a5, a6⟩
    · exact Or.inl a4
    · have hsu : fSu (g W) = 0 := by
        have h1 := l4.2.1
        have h2 := l4.2.2.1
        have h3 := l1.2.2.2.2.2.2.2.2.2.2.2
        by_cases q1 : fSu (g W) = 1
        · have := (h2 q1).2.1
          omega
        · by_cases q2 : fSu (g W) = 2
          · have := (h1 q2).2.2.2.2.2.1
            omega
          · omega
      have hl : fQ (g W) = cCp (fCx (g W)) := if_neg (by omega)
      rw [hl] at l3 h
      obtain ⟨⟨q, q1, q2, q3, q4⟩, q_q, q1', q2', q3'⟩ := (l4.2.2.2.2.1 a4).2.2 e he
      refine Or.inr ⟨a4, e, he, ?_, ?_⟩
      · rw [Kpt_m h l3 ⟨q, q1, q3, Or.inr (Or.inr (Or.inr q2))⟩]
        exact a5
      · rw [Kpt_m h l3 ⟨q_q, q1', q3', Or.inr (Or.inr (Or.inl q2'))⟩]
        exact a6
/-- data are written -/
theorem MI_dat {K : Kd} {N : Int} {m ty : Int → Int} {g : Int → Fm} {r x v : Int} (h : MI K N m ty g) (hr : fOn (g r) = 1) (h1 : fSu (g r) ≠ 1) (h5 : fSx (g r) ≠ 5) (hx : ty x = 1) : MI K N (um m x v) ty g := by
  have hS : ∀ W, Sam m ty (um m x v) ty W (fHi (g W)) (fQ (g W)) := fun W => ⟨fun y _ _ => ⟨rfl, fun q => um_n (fun e => by subst e; omega)⟩, fun k y u _ => ⟨rfl, fun q _ => um_n (fun e => by subst e; omega)⟩, fun _ _ => rfl⟩
  have s : Stay g r (g r) := Stay_l h ⟨rfl, rfl, rfl, rfl⟩ h1 h5 (fun q => ⟨q, rfl⟩)
  have hq : ∀ W, fOn (g W) = 1 → fSu (g W) = 2 → um m x v (fAw (g W) + 1) = m (fAw (g W) + 1) := fun W hW q => um_n (fun e => by
    have := ((h.1 W hW).2.1.2.2.2.2.2 q).2.2.2.1
    rw [e] at this
    omega)
  have hh := MI_own (m_q := um m x v) (ty_q := ty) h s (fun W hW _ => ⟨hS W, hq W hW⟩) (Loc_m s hr (hS r) (hq r hr) (h.1 r hr)) (fun W hW hn => Prs_m (Sam_p (hS r) (h.1 r hr).2.2.1) (Sam_p (hS W) (h.1 W hW).2.2.1) (h.2.1 r W hr hW (fun q => hn q.symm))) (by
    rw [ug_i]
    intro y hy
    have e : um m x v y = m y := um_n (fun e => by subst e; omega)
    rcases h.2.2 y hy with a | ⟨W, a⟩
    · exact Or.inl (e.trans a)
    · exact Or.inr ⟨W, Att_m a (h.1 W a.1) (hS W) e rfl⟩)
  rw [ug_i] at hh
  exact hh
/-- the frame that runs, elsewhere in the code, with other registers, the same rights -/
def mv (f : Fm) (j : Int) (c : Cx) : Fm := (fOn f, fSu f, fSx f, fPb f, fCh f, fPa f, fAw f, fLo f, fHi f, j, c, fRs f, fRx f)
theorem Cl_s {m : Int → Int} {W : Int} {l l_q : List Cp} {k x u : Int} (h : ∀ q ∈ l_q, q ∈ l) (a : Cl m W l_q k x u) : Cl m W l k x u := by
  obtain ⟨q, hq, b⟩ := a
  exact ⟨q, h q hq, b⟩
/-- fewer rights -/
theorem Cok_s {m ty : Int → Int} {W b lo hi z : Int} {l l_q : List Cp} (h : ∀ q ∈ l_q, q ∈ l) (hk : ∀ q ∈ l_q, qK q ≠ 8 ∧ qK q ≠ 9 ∧ (qK q = 3 → 1 ≤ qO q)) (c : Cok m ty W b lo hi z l) : Cok m ty W b lo hi z l_q := by
  refine ⟨fun k x u a => c.1 k x u (Cl_s h a), fun q hq => ?_, fun q hq k => ⟨fun s hs => (c.2.2 q (h q hq) k).1 s (h s hs), fun s hs => (c.2.2 q (h q hq) k).2 s (h s hs)⟩⟩
  obtain ⟨c1, c2, c3, c4, c5, c6⟩ := c.2.1 q (h q hq)
  obtain ⟨k1, k2, k3⟩ := hk q hq
  refine ⟨c1, c2, ⟨fun k x x1 x2 x3 x4 => ?_, c3.2.1, fun k => ?_⟩, c4, fun k => by rcases k with k | k; exact absurd k k2; exact absurd (k3 k.1) (by omega), c6⟩
  · have := (c3.1 k x x1 x2 x3 x4).1
    have := k3 k
    omega
  · omega
/-- the frame that runs, a leaf, does a step in its own stretch: what is to be shown -/
theorem MI_leaf {K : Kd} {N : Int} {m ty m_q ty_q : Int → Int} {g : Int → Fm} {r j w : Int} {e : Cx} (h : MI K N m ty g) (hr : fOn (g r) = 1) (hu : fSu (g r) = 0) (hx : fSx (g r) = 0)
    (hc : Chg (fLo (g r)) (fHi (g r)) m ty m_q ty_q) (o1 : Gd K N (fun _ _ => False) j e) (o2 : e.1 = (cEk (fCx (g r)), cPd (fCx (g r)), cZ (fCx (g r)), cD (fCx (g r)), w)) (hw : w = 0 ∨ (cEk (fCx (g r)) = 1 ∧ w = cZ (fCx (g r)) + 3))
    (o3 : Cok m_q ty_q r (fPb (g r)) (fLo (g r)) (fHi (g r)) (cZ (fCx (g r))) (cCp e))
    (o4 : ∀ k x u, Cl m_q r (cCp e) k x u → (∃ v, sbt v u ∧ Cl m r (cCp (fCx (g r))) k x v) ∨ (fLo (g r) ≤ x ∧ x < fHi (g r)))
    (o5 : ∀ x, (r - 3 ≤ x ∧ x ≤ r) ∨ (cEk (fCx (g r)) = 1 ∧ r + cZ (fCx (g r)) ≤ x ∧ x ≤ r + cZ (fCx (g r)) + 3) → ty x = 6 → ty_q x = 6)
    (o6 : cEk (fCx (g r)) = 1 → m_q (r + cZ (fCx (g r)) + 3) = m (r + cZ (fCx (g r)) + 3))
    (o7 : (cMd e = 0 ∨ cMd e = 1) ∧ (cMd e = 1 → (m_q (r - 3) ≠ 0 ∧ (m_q (r - 3) = 2 → fSx (g r) = 4)) ∧ (m_q r = -1 ∨ m_q r ∈ cWs e) ∧ ∀ y ∈ cPe e, (∃ q ∈ cCp e, qK q = 8 ∧ qO q = y.2 ∧ qU q / 8 % 2 = 1) ∧ ∃ q ∈ cCp e, qK q = 6 ∧ qO q = y.1))
    (o8 : Sup (cCp e) (cA e) ∧ Sup (cCp e) (cB e) ∧ Sup (cCp e) (cC e))
    (o9 : ∀ x, ty_q x = 2 → m_q x = -1 ∨ (ty x = 2 ∧ m_q x = m x ∧ (Att m g x r → Att m_q (ug g r (mv (g r) j e)) x r)) ∨ Att m_q (ug g r (mv (g r) j e)) x r) : MI K N m_q ty_q (ug g r (mv (g r) j e)) := by
  have s : Stay g r (mv (g r) j e) := Stay_l h ⟨rfl, rfl, rfl, rfl⟩ (by omega) (by omega) (fun q => absurd q (by omega))
  have hS := fun W (hW : fOn (g W) = 1) (hn : W ≠ r) => Sam_c h hr hW hn hu hc
  have hf0 : fQ (g r) = cCp (fCx (g r)) := if_neg (by omega)
  have hf1 : fQ (mv (g r) j e) = cCp e := if_neg (show ¬ fSu (g r) = 2 by omega)
  refine MI_own h s hS ?_ (fun W hW hn => ?_) ?_
  · obtain ⟨a1, a2, a3, a4, a5, a6⟩ := h.1 r hr
    refine ⟨?_, ?_, ?_, ?_, ?_, ?_⟩
    · unfold Hok at a1 ⊢
      show 16 ≤ fLo (g r) ∧ fLo (g r) + 3 + e.1.2.2.2.1 ≤ r ∧ r + e.1.2.2.1 ≤ fHi (g r) ∧ fHi (g r) ≤ 4016 ∧ 1 ≤ e.1.2.2.1 ∧ 0 ≤ e.1.2.2.2.1 ∧ (e.1.1 = 1 → fHi (g r) = r + e.1.2.2.1 + 4) ∧ (e.1.2.2.2.2 = 0 ∨ (e.1.1 = 1 ∧ e.1.2.2.2.2 = e.1.2.2.1 + 3 ∧ fSu (g r) = 0)) ∧ 0 ≤ fPb (g r) ∧ fPb (g r) ≤ 1 ∧ (fSu (g r) = 2 → (fRx (g r)).1 = e.1) ∧ 0 ≤ fSu (g r) ∧ fSu (g r) ≤ 2
      rw [o2]
      obtain ⟨b1, b2, b3, b4, b5, b6, b7, b8, b9, b10, b11, b12, b13⟩ := a1
      exact ⟨b1, b2, b3, b4, b5, b6, b7, by rcases hw with q | q; exact Or.inl q; exact Or.inr ⟨q.1, q.2, hu⟩, b9, b10, fun q => absurd q (by omega), b12, b13⟩
    · obtain ⟨t1, t2, t3, t4, t5, t6⟩ := a2
      refine ⟨o5 _ (Or.inl (by omega)) t1, o5 _ (Or.inl (by omega)) t2, o5 _ (Or.inl (by omega)) t3, o5 _ (Or.inl (by omega)) t4, ?_, fun q => absurd q (show ¬ fSu (g r) = 2 by omega)⟩
      show e.1.1 = 1 → ty_q (r + e.1.2.2.1) = 6 ∧ ty_q (r + e.1.2.2.1 + 1) = 6 ∧ ty_q (r + e.1.2.2.1 + 2) = 6 ∧ ty_q (r + e.1.2.2.1 + 3) = 6
      rw [o2]
      show cEk (fCx (g r)) = 1 → ty_q (r + cZ (fCx (g r))) = 6 ∧ ty_q (r + cZ (fCx (g r)) + 1) = 6 ∧ ty_q (r + cZ (fCx (g r)) + 2) = 6 ∧ ty_q (r + cZ (fCx (g r)) + 3) = 6
      intro q
      obtain ⟨u1, u2, u3, u4⟩ := t5 q
      exact ⟨o5 _ (Or.inr ⟨q, by omega, by omega⟩) u1, o5 _ (Or.inr ⟨q, by omega, by omega⟩) u2, o5 _ (Or.inr ⟨q, by omega, by omega⟩) u3, o5 _ (Or.inr ⟨q, by omega, by omega⟩) u4⟩
    · rw [hf1]
      show Cok m_q ty_q r (fPb (g r)) (fLo (g r)) (fHi (g r)) e.1.2.2.1 (cCp e)
      rw [o2]
      exact o3
    · have x0 : ¬ (fSx (g r) = 2 ∨ fSx (g r) = 3 ∨ fSx (g r) = 4 ∨ fSx (g r) = 5) := by omega
      refine ⟨o1, fun q => absurd q (show ¬ fSu (g r) = 2 by omega), fun q => absurd q (show ¬ fSu (g r) = 1 by omega), fun _ => show cMd e ≠ 2 by rcases o7.1 with q | q <;> omega, o7.2, show 0 ≤ cMd e ∧ cMd e ≤ 2 by rcases o7.1 with q | q <;> omega, o8.1, o8.2.1, o8.2.2, fun k => absurd k x0, fun k => absurd k (show ¬ (fSx (g r) = 2 ∨ fSx (g r) = 3) by omega), fun k => absurd k (show ¬ (fSx (g r) = 2 ∨ fSx (g r) = 3 ∨ fSx (g r) = 4) by omega), fun k => absurd k (show ¬ fSx (g r) = 4 by omega), fun k => absurd k (show ¬ fSx (g r) = 3 by omega), fun k => absurd k (show ¬ fSx (g r) = 2 by omega), fun k => absurd k (show ¬ fSx (g r) = 3 by omega), fun k => absurd k (show ¬ fSx (g r) = 5 by omega)⟩
    · have := Bck_m (m_q := m_q) s hr o6 a5
      unfold Bck at this ⊢
      show (e.1.1 = 1 → fOn (ug g r _ (r + e.1.2.2.1 + 7)) = 1 ∧ fSu (ug g r _ (r + e.1.2.2.1 + 7)) = 1 ∧ fLo (ug g r _ (r + e.1.2.2.1 + 7)) = fLo (g r) ∧ fPb (ug g r _ (r + e.1.2.2.1 + 7)) = fPb (g r) ∧ m_q (r + e.1.2.2.1 + 3) = kP K (fSt (ug g r _ (r + e.1.2.2.1 + 7)))) ∧ (e.1.1 = 2 → fPa (g r) = r + e.1.2.1 ∧ ∃ V, fOn (ug g r _ V) = 1 ∧ fSu (ug g r _ V) = 2 ∧ fAw (ug g r _ V) = fPa (g r) ∧ fLo (ug g r _ V) ≤ fLo (g r) ∧ fHi (g r) ≤ V - 3) ∧ (e.1.1 ≠ 2 → fPa (g r) = 0)
      rw [o2]
      exact this
    · exact fun q => absurd q (show ¬ fSu (g r) = 2 by omega)
  · refine Prs_o (f0 := g r) rfl rfl hu (Sam_p (hS W hW hn).1 (h.1 W hW).2.2.1) ?_ (h.2.1 r W hr hW (fun q => hn q.symm)) (h.1 W hW).1.2.2.2.1
    rw [hf1, hf0]
    exact o4
  · intro x hx2
    rcases o9 x hx2 with a | ⟨a1, a2, a3⟩ | a
    · exact Or.inl a
    · rcases h.2.2 x a1 with b | ⟨W, b⟩
      · exact Or.inl (a2.trans b)
      · by_cases q : W = r
        · subst q
          exact Or.inr ⟨W, a3 b⟩
        · exact Or.inr ⟨W, Att_m b (h.1 W b.1) (hS W b.1 q).1 a2 (ug_n q)⟩
    · exact Or.inr ⟨r, a⟩
/-- where nothing is waited for, the frame that runs is at no channel -/
theorem Att_0 {m : Int → Int} {g : Int → Fm} {r x : Int} (hx : fSx (g r) = 0) (hm : cMd (fCx (g r)) ≠ 1) : ¬ Att m g x r := fun a => by
  rcases a.2.2.2 with ⟨b, _⟩ | ⟨b, _⟩
  · omega
  · exact hm b
/-- no memory is changed, no right is new -/
theorem MI_reg {K : Kd} {N : Int} {m ty : Int → Int} {g : Int → Fm} {r j : Int} {e : Cx} (h : MI K N m ty g) (hr : fOn (g r) = 1) (hu : fSu (g r) = 0) (hx : fSx (g r) = 0)
    (o1 : Gd K N (fun _ _ => False) j e) (o2 : e.1 = (fCx (g r)).1) (o3 : cCp e = cCp (fCx (g r)) ∨ ((∀ q ∈ cCp e, q ∈ cCp (fCx (g r))) ∧ ∀ q ∈ cCp e, qK q ≠ 8 ∧ qK q ≠ 9 ∧ (qK q = 3 → 1 ≤ qO q)))
    (o7 : e.2.2.2 = (fCx (g r)).2.2.2) (o8 : Sup (cCp e) (cA e) ∧ Sup (cCp e) (cB e) ∧ Sup (cCp e) (cC e)) (o10 : ∀ y ∈ cPe (fCx (g r)), cMd (fCx (g r)) = 1 → (∃ q ∈ cCp e, qK q = 8 ∧ qO q = y.2 ∧ qU q / 8 % 2 = 1) ∧ ∃ q ∈ cCp e, qK q = 6 ∧ qO q = y.1) : MI K N m ty (ug g r (mv (g r) j e)) := by
  obtain ⟨a1, a2, a3, a4, a5, a6⟩ := h.1 r hr
  have hf0 : fQ (g r) = cCp (fCx (g r)) := if_neg (by omega)
  rw [hf0] at a3
  have hsub : ∀ q ∈ cCp e, q ∈ cCp (fCx (g r)) := by
    rcases o3 with o3 | o3
    · rw [o3]
      exact fun q hq => hq
    · exact o3.1
  have hmd : cMd e = cMd (fCx (g r)) := congrArg (fun o : Mo => o.1) o7
  have hpe : cPe e = cPe (fCx (g r)) := congrArg (fun o : Mo => o.2.1) o7
  have hws : cWs e = cWs (fCx (g r)) := congrArg (fun o : Mo => o.2.2) o7
  refine MI_leaf h hr hu hx (fun x _ => ⟨rfl, fun _ => rfl⟩) o1 o2 (by rcases a1.2.2.2.2.2.2.2.1 with q | q; exact Or.inl q; exact Or.inr ⟨q.1, q.2.1⟩) ?_ (fun k x u c => Or.inl ⟨u, sbt_r, Cl_s hsub c⟩) (fun x _ t => t) (fun _ => rfl) ⟨?_, fun q => ?_⟩ o8 (fun x hx2 => Or.inr (Or.inl ⟨hx2, rfl, fun a => ?_⟩))
  · rcases o3 with o3 | o3
    · rw [o3]
      exact a3
    · exact Cok_s o3.1 o3.2 a3
  · have := a4.2.2.2.1 hu
    have := a4.2.2.2.2.2.1
    rw [hmd]
    omega
  · have q_q : cMd (fCx (g r)) = 1 := hmd ▸ q
    obtain ⟨d1, d2, d3⟩ := a4.2.2.2.2.1 q_q
    refine ⟨d1, ?_, fun y hy => o10 y (hpe ▸ hy) q_q⟩
    rw [hws]
    exact d2
  · obtain ⟨b1, b2, b3, b4⟩ := a
    unfold Att
    rw [ug_e]
    refine ⟨b1, b2, ?_, ?_⟩
    · show e.1.2.2.2.2 = 0
      rw [o2]
      exact b3
    · rcases b4 with b4 | b4
      · exact Or.inl b4
      · right
        show e.2.2.2.1 = 1 ∧ ∃ y ∈ e.2.2.2.2.1, m (r + y.2) = x ∧ m (r + y.1) ≠ 0
        rw [o7]
        exact b4
