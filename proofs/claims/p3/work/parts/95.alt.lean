/-! ALT -/
/-- the frame that runs, its own words for going on, words of channels; the mode is new -/
theorem MI_run {K : Kd} {N : Int} {m ty m_q : Int → Int} {g : Int → Fm} {r j sx : Int} {e : Cx} (h : MI K N m ty g) (hr : fOn (g r) = 1) (hu : fSu (g r) = 0) (hx : fSx (g r) = 0) (hs : sx = 0 ∨ (sx = 4 ∧ cMd e = 1 ∧ m_q (r - 1) = kP K j ∧ cDw e = 0))
    (o1 : Gd K N (fun _ _ => False) j e) (o2 : e.1 = (fCx (g r)).1) (o3 : cCp e = cCp (fCx (g r))) (oR : e.2.2.1 = (r0, r0, r0)) (c : Ctl r m ty m_q)
    (o7 : (cMd e = 0 ∨ cMd e = 1) ∧ (cMd e = 1 → (m_q (r - 3) ≠ 0 ∧ (m_q (r - 3) = 2 → sx = 4)) ∧ (m_q r = -1 ∨ m_q r ∈ cWs e) ∧ ∀ y ∈ cPe e, (∃ q ∈ cCp (fCx (g r)), qK q = 8 ∧ qO q = y.2 ∧ qU q / 8 % 2 = 1) ∧ ∃ q ∈ cCp (fCx (g r)), qK q = 6 ∧ qO q = y.1))
    (hC : Chs m_q ty (ug g r (ws (g r) sx (fCh (g r)) j e))) : MI K N m_q ty (ug g r (ws (g r) sx (fCh (g r)) j e)) := by
  have eA : cA e = r0 := congrArg (fun t : Rt × Rt × Rt => t.1) oR
  have eB : cB e = r0 := congrArg (fun t : Rt × Rt × Rt => t.2.1) oR
  have eC : cC e = r0 := congrArg (fun t : Rt × Rt × Rt => t.2.2) oR
  have sup : ∀ q : Rt, q = r0 → Sup (cCp e) q := fun q e => e ▸ Sup_0
  have md := o7.1
  have o7b := o7.2
  rw [← o3] at o7b
  have n23 : ¬ (sx = 2 ∨ sx = 3) ∧ ¬ sx = 2 ∧ ¬ sx = 3 ∧ ¬ sx = 5 := by
    clear o7 o7b
    omega
  have i4 : sx = 4 → cMd e = 1 ∧ m_q (r - 1) = kP K j ∧ cDw e = 0 := fun q => by
    rcases hs with w | w
    · omega
    · exact w.2
  refine MI_sta h hr hu (not_l h (by omega)) o2 o3 c ⟨o1, fun q => absurd q (show ¬ fSu (g r) = 2 by omega), fun q => absurd q (show ¬ fSu (g r) = 1 by omega), fun _ => show cMd e ≠ 2 by rcases md with q | q <;> omega, o7b, show 0 ≤ cMd e ∧ cMd e ≤ 2 by rcases md with q | q <;> omega, sup _ eA, sup _ eB, sup _ eC, fun _ => ⟨hu, oR⟩, fun q => absurd q n23.1, fun q => ?_, fun q => (i4 q).1, fun q => absurd q n23.2.2.1, fun q => absurd q n23.2.1, fun q => absurd q n23.2.2.1, fun q => absurd q n23.2.2.2⟩ hC
  rcases q with q | q | q
  · exact absurd q n23.2.1
  · exact absurd q n23.2.2.1
  · exact ⟨(i4 q).2.2, (i4 q).2.1⟩
/-- it is at the channels of its ALT still -/
theorem Att_r {K : Kd} {N : Int} {m ty m_q : Int → Int} {g : Int → Fm} {r y j sx : Int} {e : Cx} (h : MI K N m ty g) (hr : fOn (g r) = 1) (hx : fSx (g r) = 0) (c : Ctl r m ty m_q) (hu : fSu (g r) = 0) (hd : cMd (fCx (g r)) = 1) (he : cMd e = 1) (hw : cDw e = 0) (hm : m_q y = m y) (hp : ∀ z ∈ cPe (fCx (g r)), m (r + z.2) = y → m (r + z.1) ≠ 0 → z ∈ cPe e) (a : Att m g y r) : Att m_q (ug g r (ws (g r) sx (fCh (g r)) j e)) y r := by
  obtain ⟨b1, b2, b3, b4⟩ := a
  obtain ⟨a1, a2, a3, a4, a5, a6⟩ := h.1 r hr
  have hf0 : fQ (g r) = cCp (fCx (g r)) := if_neg (by omega)
  rw [hf0] at a3
  have hSr := Sam_kr h hr c
  rw [hf0] at hSr
  have d5 := a4.2.2.2.2.1 hd
  refine ⟨by rw [ug_e]; exact b1, by rw [ug_e, hm]; exact b2, by rw [ug_e]; exact hw, Or.inr ?_⟩
  rcases b4 with ⟨q, _⟩ | ⟨_, z, hz, z1, z2⟩
  · omega
  · obtain ⟨⟨q, q1, q2, q3, q4⟩, q_q, q1', q2', q3'⟩ := d5.2.2 z hz
    rw [ug_e]
    refine ⟨he, z, hp z hz z1 z2, ?_, ?_⟩
    · rw [Kpt_m hSr a3 ⟨q, q1, q3, Or.inr (Or.inr (Or.inr q2))⟩]
      exact z1
    · rw [Kpt_m hSr a3 ⟨q_q, q1', q3', Or.inr (Or.inr (Or.inl q2'))⟩]
      exact z2
theorem ctl_2 {K : Kd} {N : Int} {m ty m_q : Int → Int} {g : Int → Fm} {r : Int} (h : MI K N m ty g) (hr : fOn (g r) = 1) (hm : ∀ y, ¬ (r - 3 ≤ y ∧ y ≤ r) → m_q y = m y) {y : Int} (hy : ty y = 2) : m_q y = m y := hm y (fun q => by
  obtain ⟨t1, t2, t3, t4, _⟩ := (h.1 r hr).2.1
  have : y = r - 3 ∨ y = r - 2 ∨ y = r - 1 ∨ y = r := by omega
  rcases this with e | e | e | e <;> subst e <;> omega)
/-- ALT begins -/
theorem MI_alt {K : Kd} {N : Int} {m ty m_q : Int → Int} {g : Int → Fm} {r j : Int} (h : MI K N m ty g) (hr : fOn (g r) = 1) (hu : fSu (g r) = 0) (hx : fSx (g r) = 0) (hd : cMd (fCx (g r)) = 0)
    (o1 : Gd K N (fun _ _ => False) j (sM (a0 (fCx (g r))) (1, [], []))) (hm : ∀ y, ¬ (r - 3 ≤ y ∧ y ≤ r) → m_q y = m y) (m3 : m_q (r - 3) = 1) (m0 : m_q r = -1) : MI K N m_q ty (ug g r (ws (g r) 0 (fCh (g r)) j (sM (a0 (fCx (g r))) (1, [], [])))) := by
  have c : Ctl r m ty m_q := fun y _ q => hm y q
  refine MI_run h hr hu hx (Or.inl rfl) o1 rfl rfl rfl c ⟨Or.inr rfl, fun _ => ⟨⟨by omega, fun q => by omega⟩, Or.inl m0, fun y hy => absurd hy List.not_mem_nil⟩⟩ (Chs_k (x := r) h hr c (fun y hy _ => ctl_2 h hr hm hy) (fun q => absurd q (by have := (h.1 r hr).2.1.2.2.2.1; omega)) (fun y _ _ a => absurd a (Att_0 hx (by omega))))
/-- a step in ALT that writes its own words alone: ENBS, DISS, ENBC of what has come -/
theorem MI_asm {K : Kd} {N : Int} {m ty m_q : Int → Int} {g : Int → Fm} {r j sx : Int} {pe : List (Int × Int)} {wy : List Int} (h : MI K N m ty g) (hr : fOn (g r) = 1) (hu : fSu (g r) = 0) (hx : fSx (g r) = 0) (hd : cMd (fCx (g r)) = 1) (hdw : cDw (fCx (g r)) = 0)
    (hs : sx = 0 ∨ (sx = 4 ∧ m_q (r - 1) = kP K j)) (o1 : Gd K N (fun _ _ => False) j (sM (a0 (fCx (g r))) (1, pe, wy))) (hm : ∀ y, ¬ (r - 3 ≤ y ∧ y ≤ r) → m_q y = m y) (m3 : m_q (r - 3) ≠ 0 ∧ (m_q (r - 3) = 2 → sx = 4)) (m0 : m_q r = -1 ∨ m_q r ∈ wy)
    (hp : ∀ y ∈ pe, (∃ q ∈ cCp (fCx (g r)), qK q = 8 ∧ qO q = y.2 ∧ qU q / 8 % 2 = 1) ∧ ∃ q ∈ cCp (fCx (g r)), qK q = 6 ∧ qO q = y.1) (hq : ∀ z ∈ cPe (fCx (g r)), m (r + z.1) ≠ 0 → m (m (r + z.2)) = 2 * r + fPb (g r) → z ∈ pe) : MI K N m_q ty (ug g r (ws (g r) sx (fCh (g r)) j (sM (a0 (fCx (g r))) (1, pe, wy)))) := by
  have c : Ctl r m ty m_q := fun y _ q => hm y q
  refine MI_run h hr hu hx (by rcases hs with q | q; exact Or.inl q; exact Or.inr ⟨q.1, rfl, q.2, hdw⟩) o1 rfl rfl rfl c ⟨Or.inr rfl, fun _ => ⟨m3, m0, hp⟩⟩ (Chs_k (x := r) h hr c (fun y hy _ => ctl_2 h hr hm hy) (fun q => absurd q (by have := (h.1 r hr).2.1.2.2.2.1; omega)) (fun y hy _ a => Att_r h hr hx c hu hd rfl hdw (ctl_2 h hr hm hy) (fun z hz z1 z2 => hq z hz z2 (by rw [z1]; exact a.2.1)) a))
/-- ENBC: the guard's channel has this process's descriptor now -/
theorem MI_enb {K : Kd} {N : Int} {m ty m_q : Int → Int} {g : Int → Fm} {r j x : Int} {z0 : Int × Int} (h : MI K N m ty g) (hr : fOn (g r) = 1) (hu : fSu (g r) = 0) (hx : fSx (g r) = 0) (hd : cMd (fCx (g r)) = 1) (hdw : cDw (fCx (g r)) = 0)
    (o1 : Gd K N (fun _ _ => False) j (sM (a0 (fCx (g r))) (1, z0 :: cPe (fCx (g r)), cWs (fCx (g r))))) (hz : (∃ q ∈ cCp (fCx (g r)), qK q = 8 ∧ qO q = z0.2 ∧ qU q / 8 % 2 = 1) ∧ ∃ q ∈ cCp (fCx (g r)), qK q = 6 ∧ qO q = z0.1) (hm : ∀ y, y ≠ x → m_q y = m y) (mx : m_q x = 2 * r + fPb (g r)) (ex : m (r + z0.2) = x) (tx : ty x = 2) (eg : m (r + z0.1) ≠ 0) : MI K N m_q ty (ug g r (ws (g r) 0 (fCh (g r)) j (sM (a0 (fCx (g r))) (1, z0 :: cPe (fCx (g r)), cWs (fCx (g r)))))) := by
  have c : Ctl r m ty m_q := fun y y1 _ => hm y (fun e => by subst e; exact y1 tx)
  obtain ⟨a1, a2, a3, a4, a5, a6⟩ := h.1 r hr
  have d5 := a4.2.2.2.2.1 hd
  have e3 : m_q (r - 3) = m (r - 3) := hm _ (fun e => by have := a2.1; rw [e] at this; omega)
  have e0 : m_q r = m r := hm _ (fun e => by have := a2.2.2.2.1; rw [e] at this; omega)
  have hf0 : fQ (g r) = cCp (fCx (g r)) := if_neg (by omega)
  rw [hf0] at a3
  have hSr := Sam_kr h hr c
  rw [hf0] at hSr
  refine MI_run h hr hu hx (Or.inl rfl) o1 rfl rfl rfl c ⟨Or.inr rfl, fun _ => ⟨⟨by rw [e3]; exact d5.1.1, fun q => by rw [e3] at q; have := d5.1.2 q; omega⟩, by rw [e0]; exact d5.2.1, fun y hy => ?_⟩⟩ (Chs_k (x := x) h hr c (fun y _ q => hm y q) (fun _ => Or.inr (Or.inl ?_)) (fun y hy q a => Att_r h hr hx c hu hd rfl hdw (hm y q) (fun z hz _ _ => List.mem_cons_of_mem _ hz) a))
  · rcases List.mem_cons.mp hy with e | hy
    · rw [e]
      exact hz
    · exact d5.2.2 y hy
  · obtain ⟨⟨q, q1, q2, q3, q4⟩, q_q, q1', q2', q3'⟩ := hz
    refine ⟨by rw [ug_e]; exact hr, by rw [ug_e]; exact mx, by rw [ug_e]; exact hdw, Or.inr ?_⟩
    rw [ug_e]
    refine ⟨rfl, z0, List.mem_cons_self, ?_, ?_⟩
    · rw [Kpt_m hSr a3 ⟨q, q1, q3, Or.inr (Or.inr (Or.inr q2))⟩]
      exact ex
    · rw [Kpt_m hSr a3 ⟨q_q, q1', q3', Or.inr (Or.inr (Or.inl q2'))⟩]
      exact eg
/-- DISC: the channel is left; the way may be written -/
theorem MI_dis {K : Kd} {N : Int} {m ty m_q : Int → Int} {g : Int → Fm} {r j x : Int} {pe : List (Int × Int)} {wy : List Int} (h : MI K N m ty g) (hr : fOn (g r) = 1) (hu : fSu (g r) = 0) (hx : fSx (g r) = 0) (hd : cMd (fCx (g r)) = 1) (hdw : cDw (fCx (g r)) = 0)
    (o1 : Gd K N (fun _ _ => False) j (sM (a0 (fCx (g r))) (1, pe, wy))) (hm : ∀ y, y ≠ x → y ≠ r → m_q y = m y) (tx : ty x = 2) (mx : m_q x = -1) (m0 : m_q r = -1 ∨ m_q r ∈ wy) (hp : ∀ y ∈ pe, y ∈ cPe (fCx (g r))) (hq : ∀ z ∈ cPe (fCx (g r)), m (r + z.2) ≠ x → z ∈ pe) : MI K N m_q ty (ug g r (ws (g r) 0 (fCh (g r)) j (sM (a0 (fCx (g r))) (1, pe, wy)))) := by
  have c : Ctl r m ty m_q := fun y y1 y2 => hm y (fun e => by subst e; exact y1 tx) (by omega)
  obtain ⟨a1, a2, a3, a4, a5, a6⟩ := h.1 r hr
  have d5 := a4.2.2.2.2.1 hd
  have e3 : m_q (r - 3) = m (r - 3) := hm _ (fun e => by have := a2.1; rw [e] at this; omega) (by omega)
  have tr : ∀ y, ty y = 2 → y ≠ r := fun y hy e => by
    have := a2.2.2.2.1
    subst e
    omega
  exact MI_run h hr hu hx (Or.inl rfl) o1 rfl rfl rfl c ⟨Or.inr rfl, fun _ => ⟨⟨by rw [e3]; exact d5.1.1, fun q => by rw [e3] at q; have := d5.1.2 q; omega⟩, m0, fun y hy => d5.2.2 y (hp y hy)⟩⟩ (Chs_k (x := x) h hr c (fun y hy q => hm y q (tr y hy)) (fun _ => Or.inl mx) (fun y hy q a => Att_r h hr hx c hu hd rfl hdw (hm y q (tr y hy)) (fun z hz z1 _ => hq z hz (by omega)) a))
/-- ALT ends -/
theorem MI_aen {K : Kd} {N : Int} {m ty m_q : Int → Int} {g : Int → Fm} {r j : Int} (h : MI K N m ty g) (hr : fOn (g r) = 1) (hu : fSu (g r) = 0) (hx : fSx (g r) = 0) (hp : cPe (fCx (g r)) = [])
    (o1 : Gd K N (fun _ _ => False) j (sM (a0 (fCx (g r))) (0, [], []))) (hm : ∀ y, ¬ (r - 3 ≤ y ∧ y ≤ r) → m_q y = m y) : MI K N m_q ty (ug g r (ws (g r) 0 (fCh (g r)) j (sM (a0 (fCx (g r))) (0, [], [])))) := by
  have c : Ctl r m ty m_q := fun y _ q => hm y q
  refine MI_run h hr hu hx (Or.inl rfl) o1 rfl rfl rfl c ⟨Or.inl rfl, fun q => absurd q (show ¬ (0 : Int) = 1 by decide)⟩ (Chs_k (x := r) h hr c (fun y hy _ => ctl_2 h hr hm hy) (fun q => absurd q (by have := (h.1 r hr).2.1.2.2.2.1; omega)) (fun y _ _ a => ?_))
  rcases a.2.2.2 with ⟨b, _⟩ | ⟨_, z, hz, _⟩
  · omega
  · rw [hp] at hz
    exact absurd hz List.not_mem_nil
