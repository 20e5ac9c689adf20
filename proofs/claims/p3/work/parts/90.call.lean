/-! CALL -/
theorem Cal_v {m ty : Int → Int} {W b lo hi z : Int} {c c1 c2 : Cx} (h : Cal c c1 c2) (k : Cok m ty W b lo hi z (cCp c)) (k1 : Cok m ty W b lo hi z (cCp c1)) (hl : 16 ≤ lo) {q : Cp} (hq : q ∈ cCp c2) :
    (qK q = 3 → ty (W - 7 - cZ c2 + qO q) = 3 ∧ ∀ x, m (W - 7 - cZ c2 + qO q) ≤ x → x < m (W - 7 - cZ c2 + qO q) + qN q → Cl m W (cCp c1) 1 x 0) ∧
    (qK q = 4 → ty (W - 7 - cZ c2 + qO q) = 3 ∧ ∃ w, sbt w (qU q) ∧ Cl m W (cCp c1) 2 (m (W - 7 - cZ c2 + qO q)) w) := by
  obtain ⟨c1', c2', c3', d | d⟩ := h.1 q hq
  · obtain ⟨d1, q0, hq0, e1, e2, e3, e4⟩ := d
    have ea : W + qO q0 = W - 7 - cZ c2 + qO q := by omega
    refine ⟨fun _ => ⟨?_, fun x x1 x2 => ?_⟩, fun e => by omega⟩
    · rw [← ea]
      exact (k.1 _ _ _ (Cl_p (m := m) hq0 (Or.inl e1))).1
    · have r := ((k.2.1 q0 hq0).2.2.2.2.1 (Or.inr ⟨e1, by omega⟩)).1
      rw [ea] at r
      exact (Dtr_d e4 k1 r x1 x2).1
  · obtain ⟨d1, q0, hq0, e1, e2, e3⟩ := d
    have ea : W + qO q0 = W - 7 - cZ c2 + qO q := by omega
    refine ⟨fun e => by omega, fun _ => ⟨?_, ?_⟩⟩
    · rw [← ea]
      exact (k.1 _ _ _ (Cl_p (m := m) hq0 (Or.inr (Or.inr (Or.inr e1))))).1
    · have r := ((k.2.1 q0 hq0).2.2.2.2.1 (Or.inl e1)).1
      rw [ea] at r
      exact (Chr_d e3 k1 hl r).1
theorem Cal_s {m ty : Int → Int} {W b lo hi z : Int} {c c1 c2 : Cx} (h : Cal c c1 c2) (k : Cok m ty W b lo hi z (cCp c)) (k1 : Cok m ty W b lo hi z (cCp c1)) (hl : 16 ≤ lo) {q s : Cp} (hq : q ∈ cCp c2) (hs : s ∈ cCp c2) (eq : qK q = 4) (es : qK s = 4) (hn : qO q ≠ qO s) : m (W - 7 - cZ c2 + qO q) ≠ m (W - 7 - cZ c2 + qO s) := by
  obtain ⟨_, _, _, d | d⟩ := h.1 q hq
  · omega
  · obtain ⟨_, _, _, d' | d'⟩ := h.1 s hs
    · omega
    · obtain ⟨d1, q0, hq0, e1, e2, e3⟩ := d
      obtain ⟨d1', s0, hs0, e1', e2', e3'⟩ := d'
      have ea : W + qO q0 = W - 7 - cZ c2 + qO q := by omega
      have eb : W + qO s0 = W - 7 - cZ c2 + qO s := by omega
      have r := ((k.2.1 q0 hq0).2.2.2.2.1 (Or.inl e1)).1
      have r' := ((k.2.1 s0 hs0).2.2.2.2.1 (Or.inl e1')).1
      rw [ea] at r
      rw [eb] at r'
      refine Sep_d (h.2 q0 hq0 s0 hs0 e1 e1' (by omega)) k1 (fun p hp p5 => ?_) (fun p hp p2 => ?_) r r'
      · have : ∀ t u, Chr (cCp c1) t u → t.1 = 5 → t.2.1 ≤ 13 := fun t u ⟨y, hy, _, a⟩ t5 => by
          rcases a with a | a | a
          · have := (k1.2.1 y hy).2.2.2.2.2 a.2.1
            omega
          · omega
          · omega
        rcases hp with hp | hp
        · subst hp
          exact this _ _ e3 p5
        · subst hp
          exact this _ _ e3' p5
      · rcases hp with hp | hp
        · subst hp
          exact Chr_b e3 k1 p2
        · subst hp
          exact Chr_b e3' k1 p2
theorem Wkr_a {m ty : Int → Int} {W b lo hi z : Int} {c c1 : Cx} (w : Wkr c1 (a0 c)) (k : Cok m ty W b lo hi z (cCp c)) : Cok m ty W b lo hi z (cCp c1) ∧ (∀ q ∈ cCp c1, q ∈ cCp c) ∧ c1.1 = c.1 ∧ c1.2.2.1 = (r0, r0, r0) ∧ c1.2.2.2 = c.2.2.2 := by
  obtain ⟨w1, w2, w3, w4, w5, w6, _⟩ := w
  have e2 : cCp (a0 c) = cCp c := rfl
  have hs : ∀ q ∈ cCp c1, q ∈ cCp c := by
    rcases w2 with w2 | w2
    · rw [w2]
      exact fun q hq => hq
    · exact w2.1
  have e3 : cA c1 = r0 := by
    rcases w3 with q | q
    · exact q
    · exact q
  have e4 : cB c1 = r0 := by
    rcases w4 with q | q
    · exact q
    · exact q
  have e5 : cC c1 = r0 := by
    rcases w5 with q | q
    · exact q
    · exact q
  refine ⟨?_, hs, w1, ?_, w6⟩
  · rcases w2 with w2 | w2
    · rw [w2]
      exact k
    · exact Cok_s w2.1 w2.2 k
  · show (cA c1, cB c1, cC c1) = _
    rw [e3, e4, e5]
theorem MI_call {K : Kd} {N : Int} {m ty : Int → Int} {g : Int → Fm} {r j t W2 : Int} {c1 c2 : Cx} (h : MI K N m ty g) (hr : fOn (g r) = 1) (hu : fSu (g r) = 0) (hx : fSx (g r) = 0) (hd : cMd (fCx (g r)) = 0) (hdw : cDw (fCx (g r)) = 0)
    (w : Wkr c1 (a0 (fCx (g r)))) (ab : Abv c1) (ca : Cal (fCx (g r)) c1 c2) (k1 : cEk c2 = 1) (k2 : cDw c2 = cZ c2 + 3) (k3 : 1 ≤ cZ c2) (k4 : 0 ≤ cD c2) (k5 : 7 + cZ c2 + cD c2 ≤ cD (fCx (g r))) (k6 : c2.2.2 = ((r0, r0, r0), (0, [], [])))
    (G1 : Gd K N (fun _ _ => False) (j + 1) c1) (G2 : Gd K N (fun _ _ => False) t c2) (eW : W2 = r - 7 - cZ c2) :
    ∃ ty_q, (∀ x, x < 16 → ty_q x = ty x) ∧ MI K N (um m (r - 4) (kP K (j + 1))) ty_q (gk g r (fOn (g r), 1, 6, fPb (g r), fCh (g r), fPa (g r), fAw (g r), fLo (g r), fHi (g r), j + 1, c1, fRs (g r), fRx (g r)) (fun W => if W = W2 then (1, 0, 0, fPb (g r), 0, 0, 0, fLo (g r), r - 3, t, c2, 0, c2) else fo)) := by
  obtain ⟨a1, a2, a3, a4, a5, a6⟩ := h.1 r hr
  have hf0 : fQ (g r) = cCp (fCx (g r)) := if_neg (by omega)
  rw [hf0] at a3
  obtain ⟨k1c, hsub, e1, e2, e3⟩ := Wkr_a w a3
  have H := a1
  obtain ⟨b1, b2, b3, b4, b5, b6, b7, b8, b9, b10, b11, b12, b13⟩ := a1
  generalize hf1 : ((fOn (g r), 1, 6, fPb (g r), fCh (g r), fPa (g r), fAw (g r), fLo (g r), fHi (g r), j + 1, c1, fRs (g r), fRx (g r)) : Fm) = f1
  generalize hf2 : ((1, 0, 0, fPb (g r), 0, 0, 0, fLo (g r), r - 3, t, c2, 0, c2) : Fm) = f2
  have kd1 : ∀ W, fOn ((fun W => if W = W2 then f2 else fo : Int → Fm) W) = 1 → W = W2 := fun W q => by
    by_cases e : W = W2
    · exact e
    · have : (fun W => if W = W2 then f2 else fo : Int → Fm) W = fo := if_neg e
      rw [this] at q
      exact absurd q (by decide)
  have kd2 : (fun W => if W = W2 then f2 else fo : Int → Fm) W2 = f2 := if_pos rfl
  generalize hkd : (fun W => if W = W2 then f2 else fo : Int → Fm) = kd at kd1 kd2 ⊢
  have vv : um m (r - 4) (kP K (j + 1)) (r - 4) = kP K (j + 1) := um_e
  have hmo : ∀ x, x ≠ r - 4 → um m (r - 4) (kP K (j + 1)) x = m x := fun x q => um_n q
  have hty : ∃ ty_q : Int → Int, (∀ x, W2 - 3 ≤ x → x ≤ W2 → ty_q x = 6) ∧ (∀ x, W2 + cZ c2 ≤ x → x ≤ W2 + cZ c2 + 3 → ty_q x = 6) ∧ ∀ x, ¬ (W2 - 3 ≤ x ∧ x ≤ W2) → ¬ (W2 + cZ c2 ≤ x ∧ x ≤ W2 + cZ c2 + 3) → ty_q x = ty x := ⟨fun x => if (W2 - 3 ≤ x ∧ x ≤ W2) ∨ (W2 + cZ c2 ≤ x ∧ x ≤ W2 + cZ c2 + 3) then 6 else ty x, fun x x1 x2 => if_pos (Or.inl ⟨x1, x2⟩), fun x x1 x2 => if_pos (Or.inr ⟨x1, x2⟩), fun x x1 x2 => if_neg (fun q => by rcases q with q | q; exact x1 q; exact x2 q)⟩
  obtain ⟨ty_q, T1, T2, T3⟩ := hty
  generalize hm' : um m (r - 4) (kP K (j + 1)) = m_q at vv hmo ⊢
  have abn : ∀ {t x u : Int}, Cl m r (cCp c1) t x u → ¬ (fLo (g r) ≤ x ∧ x ≤ r) := fun {t x u} q => Abv_n b1 (by omega) ab k1c q
  have S1 : Sam m ty m_q ty_q r (r - 3) (cCp c1) := ⟨fun x x1 x2 => absurd x1 (by omega), fun k x u q => by
    have := abn q
    have := (k1c.1 k x u q).2
    have no : ¬ (fLo (g r) ≤ x ∧ x ≤ r) := abn q
    exact ⟨T3 x (by omega) (by omega), fun _ _ => hmo x (by omega)⟩, fun x hx => T3 x (by omega) (by omega)⟩
  have P1 := Sam_p S1 k1c
  have q1 : fQ f1 = cCp c1 := by
    rw [← hf1]
    exact if_neg (show ¬ (1 : Int) = 2 by decide)
  have q2 : fQ f2 = cCp c2 := by
    rw [← hf2]
    exact if_neg (show ¬ (0 : Int) = 2 by decide)
  have hgo : ∀ V, fOn (g V) = 1 → fSu (g V) ≠ 0 → gk g r f1 kd V = g V := fun V v1 v2 => by
    have hn : V ≠ r := fun e => v2 (e ▸ hu)
    refine gk_n hn (fun k => ?_)
    have := kd1 V k
    subst this
    obtain ⟨c1', c2', c3', c4', c5', c6', c7'⟩ := (h.1 V v1).1
    rcases h.2.1 r V hr v1 (fun q => hn q.symm) with p | p | p
    · rcases p.1 with p | p <;> omega
    · exact p.2.2.1 hu
    · have := p.2.1
      omega
  have md1 : cMd c1 = 0 := (congrArg (fun q : Mo => q.1) e3).trans hd
  have cw2 : ∀ k x u, Cl m_q W2 (cCp c2) k x u → (k = 3 ∧ W2 + 1 ≤ x ∧ x < W2 + cZ c2 ∧ ty x = 3) ∨ (k = 1 ∧ Cl m r (cCp c1) 1 x 0) ∨ (k = 2 ∧ ∃ w, sbt w u ∧ Cl m r (cCp c1) 2 x w) := fun k x u ⟨q, hq, c⟩ => by
    have v := Cal_v ca a3 k1c b1 hq
    obtain ⟨d1, d2, d3, d4⟩ := ca.1 q hq
    rw [← eW] at v
    have em : m_q (W2 + qO q) = m (W2 + qO q) := hmo _ (by omega)
    unfold Cw at c
    rw [em] at c
    have k34 : qK q = 3 ∨ qK q = 4 := by
      rcases d4 with d | d
      · exact Or.inl d.1
      · exact Or.inr d.1
    rcases c with c | c | c | c | c | c | c | c
    · omega
    · omega
    · left
      rw [c.2.2]
      exact ⟨c.2.1, by omega, by omega, (v.1 c.1).1⟩
    · right; left
      exact ⟨c.2.1, (v.1 c.1).2 x c.2.2.1 c.2.2.2⟩
    · left
      have e4 : qK q = 4 := by omega
      rw [c.2.2]
      exact ⟨c.2.1, by omega, by omega, (v.2 e4).1⟩
    · right; right
      have e4 : qK q = 4 := by omega
      rw [c.2.2.2, c.2.2.1]
      exact ⟨c.2.1, (v.2 e4).2⟩
    · omega
    · omega
  have C2 : Cok m_q ty_q W2 (fPb (g r)) (fLo (g r)) (r - 3) (cZ c2) (cCp c2) := by
    refine ⟨fun k x u c => ?_, fun q hq => ?_, fun q hq e4 => ⟨fun s hs e4' hn => ?_, fun s hs e2' => ?_⟩⟩
    · rcases cw2 k x u c with ⟨rfl, x1, x2, x3⟩ | ⟨rfl, x1⟩ | ⟨rfl, w_q, w1, w2⟩
      · exact ⟨(T3 x (by omega) (by omega)).trans x3, by omega, by omega, Or.inl (by omega)⟩
      · have a := abn x1
        have b := k1c.1 _ _ _ x1
        exact ⟨(T3 x (by omega) (by omega)).trans b.1, b.2.1, b.2.2.1, by rcases b.2.2.2 with y | y; exact Or.inl y; exact absurd y.1 (by decide)⟩
      · have a := abn w2
        have b := k1c.1 _ _ _ w2
        refine ⟨(T3 x (by omega) (by omega)).trans b.1, b.2.1, b.2.2.1, ?_⟩
        rcases b.2.2.2 with y | y
        · exact Or.inl y
        · refine Or.inr ⟨rfl, ?_⟩
          rw [T3 (-1 - x) (by omega) (by omega)]
          exact sbt_t y.2 w1
    · have v := Cal_v ca a3 k1c b1 hq
      obtain ⟨d1, d2, d3, d4⟩ := ca.1 q hq
      rw [← eW] at v
      have em : m_q (W2 + qO q) = m (W2 + qO q) := hmo _ (by omega)
      have k34 : qK q = 3 ∨ qK q = 4 := by
        rcases d4 with d | d
        · exact Or.inl d.1
        · exact Or.inr d.1
      refine ⟨⟨d3, fun e => by omega⟩, Or.inr (Or.inl ⟨d1, ?_⟩), ⟨fun e x x1 x2 x3 x4 => ?_, fun e => ?_, fun e => by omega⟩, fun e => by omega, fun e => by omega, fun e => by omega⟩
      · unfold wN
        rw [if_neg (by omega), if_neg (by omega)]
        omega
      · rw [em] at x1 x2
        have a := abn ((v.1 e).2 x x1 x2)
        omega
      · rw [em]
        obtain ⟨w_q, w1, w2⟩ := (v.2 e).2
        have a := abn w2
        omega
    · obtain ⟨d1, d2, d3, d4⟩ := ca.1 q hq
      obtain ⟨d1', d2', d3', d4'⟩ := ca.1 s hs
      rw [hmo _ (by omega), hmo _ (by omega), eW]
      exact Cal_s ca a3 k1c b1 hq hs e4 e4' hn
    · obtain ⟨d1, d2, d3, d4⟩ := ca.1 s hs
      rcases d4 with d | d <;> omega
  have sup : ∀ (l : List Cp) (q : Rt), q = r0 → Sup l q := fun l q e => e ▸ Sup_0
  refine ⟨ty_q, fun x hx => T3 x (by omega) (by omega), MI_add h hr hu (by omega) (fun x x1 => ⟨T3 x (by omega) (by omega), fun _ => hmo x (by omega)⟩) (by rw [← hf1]; exact ⟨hr, rfl, rfl, rfl⟩) (by rw [← hf1]; exact (show (1 : Int) ≠ 0 by decide)) ?_ (fun W k => ?_) (fun W W_q k k_q hn => absurd ((kd1 W k).trans (kd1 W_q k_q).symm) hn) (fun k x u c => ?_) (fun W k t x u c => ?_) (fun x hx2 => ?_)⟩
  · refine ⟨?_, ?_, ?_, ?_, ?_, ?_⟩
    · rw [← hf1]
      unfold Hok
      show 16 ≤ fLo (g r) ∧ fLo (g r) + 3 + c1.1.2.2.2.1 ≤ r ∧ r + c1.1.2.2.1 ≤ fHi (g r) ∧ fHi (g r) ≤ 4016 ∧ 1 ≤ c1.1.2.2.1 ∧ 0 ≤ c1.1.2.2.2.1 ∧ (c1.1.1 = 1 → fHi (g r) = r + c1.1.2.2.1 + 4) ∧ (c1.1.2.2.2.2 = 0 ∨ (c1.1.1 = 1 ∧ c1.1.2.2.2.2 = c1.1.2.2.1 + 3 ∧ (1 : Int) = 0)) ∧ 0 ≤ fPb (g r) ∧ fPb (g r) ≤ 1 ∧ ((1 : Int) = 2 → _) ∧ (0 : Int) ≤ 1 ∧ (1 : Int) ≤ 2
      rw [e1]
      exact ⟨b1, b2, b3, b4, b5, b6, b7, Or.inl hdw, b9, b10, fun q => absurd q (by decide), by omega, by omega⟩
    · obtain ⟨t1, t2, t3, t4, t5, t6⟩ := a2
      rw [← hf1]
      unfold Tok
      show ty_q (r - 3) = 6 ∧ ty_q (r - 2) = 6 ∧ ty_q (r - 1) = 6 ∧ ty_q r = 6 ∧ (c1.1.1 = 1 → ty_q (r + c1.1.2.2.1) = 6 ∧ ty_q (r + c1.1.2.2.1 + 1) = 6 ∧ ty_q (r + c1.1.2.2.1 + 2) = 6 ∧ ty_q (r + c1.1.2.2.1 + 3) = 6) ∧ ((1 : Int) = 2 → _)
      rw [e1]
      have up : ∀ x, r - 3 ≤ x → ty_q x = ty x := fun x q => T3 x (by omega) (by omega)
      refine ⟨(up _ (by omega)).trans t1, (up _ (by omega)).trans t2, (up _ (by omega)).trans t3, (up _ (by omega)).trans t4, fun q => ?_, fun q => absurd q (by decide)⟩
      obtain ⟨u1, u2, u3, u4⟩ := t5 q
      show ty_q (r + cZ (fCx (g r))) = 6 ∧ ty_q (r + cZ (fCx (g r)) + 1) = 6 ∧ ty_q (r + cZ (fCx (g r)) + 2) = 6 ∧ ty_q (r + cZ (fCx (g r)) + 3) = 6
      exact ⟨(up _ (by omega)).trans u1, (up _ (by omega)).trans u2, (up _ (by omega)).trans u3, (up _ (by omega)).trans u4⟩
    · rw [q1, ← hf1]
      show Cok m_q ty_q r (fPb (g r)) (fLo (g r)) (fHi (g r)) c1.1.2.2.1 (cCp c1)
      rw [e1]
      exact Cok_m S1 k1c
    · rw [← hf1]
      have eA : cA c1 = r0 := congrArg (fun t : Rt × Rt × Rt => t.1) e2
      have eB : cB c1 = r0 := congrArg (fun t : Rt × Rt × Rt => t.2.1) e2
      have eC : cC c1 = r0 := congrArg (fun t : Rt × Rt × Rt => t.2.2) e2
      refine ⟨G1, fun q => absurd q (show ¬ (1 : Int) = 2 by decide), fun _ => ⟨ab, md1, rfl, e2⟩, fun q => absurd q (show ¬ (1 : Int) = 0 by decide), fun q => absurd q (show ¬ cMd c1 = 1 by omega), show 0 ≤ cMd c1 ∧ cMd c1 ≤ 2 by omega, sup _ _ eA, sup _ _ eB, sup _ _ eC, fun k => absurd k (show ¬ ((6 : Int) = 2 ∨ (6 : Int) = 3 ∨ (6 : Int) = 4 ∨ (6 : Int) = 5) by decide), fun k => absurd k (show ¬ ((6 : Int) = 2 ∨ (6 : Int) = 3) by decide), fun k => absurd k (show ¬ ((6 : Int) = 2 ∨ (6 : Int) = 3 ∨ (6 : Int) = 4) by decide), fun k => absurd k (show ¬ (6 : Int) = 4 by decide), fun k => absurd k (show ¬ (6 : Int) = 3 by decide), fun k => absurd k (show ¬ (6 : Int) = 2 by decide), fun k => absurd k (show ¬ (6 : Int) = 3 by decide), fun k => absurd k (show ¬ (6 : Int) = 5 by decide)⟩
    · refine Bck_f (f0 := g r) (by rw [← hf1]; exact e1) (by rw [← hf1]) (by rw [← hf1]) (by rw [← hf1]) (by rw [← hf1]) (Bck_g hgo (fun q => hmo _ (by omega)) a5)
    · rw [← hf1]
      exact fun q => absurd q (show ¬ (1 : Int) = 2 by decide)
  · have := kd1 W k
    subst this
    rw [kd2]
    refine ⟨by rw [← hf2]; exact ⟨Int.le_refl _, Int.le_refl _⟩, ⟨?_, ?_, ?_, ?_, ?_, ?_⟩, Or.inl (by rw [← hf2])⟩
    · rw [← hf2]
      unfold Hok
      show 16 ≤ fLo (g r) ∧ fLo (g r) + 3 + cD c2 ≤ W ∧ W + cZ c2 ≤ r - 3 ∧ r - 3 ≤ 4016 ∧ 1 ≤ cZ c2 ∧ 0 ≤ cD c2 ∧ (cEk c2 = 1 → r - 3 = W + cZ c2 + 4) ∧ (cDw c2 = 0 ∨ (cEk c2 = 1 ∧ cDw c2 = cZ c2 + 3 ∧ (0 : Int) = 0)) ∧ 0 ≤ fPb (g r) ∧ fPb (g r) ≤ 1 ∧ ((0 : Int) = 2 → _) ∧ (0 : Int) ≤ 0 ∧ (0 : Int) ≤ 2
      exact ⟨b1, by omega, by omega, by omega, k3, k4, fun _ => by omega, Or.inr ⟨k1, k2, rfl⟩, b9, b10, fun q => absurd q (by decide), by omega, by omega⟩
    · rw [← hf2]
      unfold Tok
      show ty_q (W - 3) = 6 ∧ ty_q (W - 2) = 6 ∧ ty_q (W - 1) = 6 ∧ ty_q W = 6 ∧ (cEk c2 = 1 → ty_q (W + cZ c2) = 6 ∧ ty_q (W + cZ c2 + 1) = 6 ∧ ty_q (W + cZ c2 + 2) = 6 ∧ ty_q (W + cZ c2 + 3) = 6) ∧ ((0 : Int) = 2 → _)
      exact ⟨T1 _ (by omega) (by omega), T1 _ (by omega) (by omega), T1 _ (by omega) (by omega), T1 _ (by omega) (by omega), fun _ => ⟨T2 _ (by omega) (by omega), T2 _ (by omega) (by omega), T2 _ (by omega) (by omega), T2 _ (by omega) (by omega)⟩, fun q => absurd q (by decide)⟩
    · rw [q2, ← hf2]
      exact C2
    · rw [← hf2]
      have eR : c2.2.2.1 = (r0, r0, r0) := congrArg (fun t : (Rt × Rt × Rt) × Mo => t.1) k6
      have eM : c2.2.2.2 = (0, [], []) := congrArg (fun t : (Rt × Rt × Rt) × Mo => t.2) k6
      have eA : cA c2 = r0 := congrArg (fun t : Rt × Rt × Rt => t.1) eR
      have eB : cB c2 = r0 := congrArg (fun t : Rt × Rt × Rt => t.2.1) eR
      have eC : cC c2 = r0 := congrArg (fun t : Rt × Rt × Rt => t.2.2) eR
      have md2 : cMd c2 = 0 := congrArg (fun q : Mo => q.1) eM
      exact ⟨G2, fun q => absurd q (show ¬ (0 : Int) = 2 by decide), fun q => absurd q (show ¬ (0 : Int) = 1 by decide), fun _ => show cMd c2 ≠ 2 by omega, fun q => absurd q (show ¬ cMd c2 = 1 by omega), show 0 ≤ cMd c2 ∧ cMd c2 ≤ 2 by omega, sup _ _ eA, sup _ _ eB, sup _ _ eC, fun k => absurd k (show ¬ ((0 : Int) = 2 ∨ (0 : Int) = 3 ∨ (0 : Int) = 4 ∨ (0 : Int) = 5) by decide), fun k => absurd k (show ¬ ((0 : Int) = 2 ∨ (0 : Int) = 3) by decide), fun k => absurd k (show ¬ ((0 : Int) = 2 ∨ (0 : Int) = 3 ∨ (0 : Int) = 4) by decide), fun k => absurd k (show ¬ (0 : Int) = 4 by decide), fun k => absurd k (show ¬ (0 : Int) = 3 by decide), fun k => absurd k (show ¬ (0 : Int) = 2 by decide), fun k => absurd k (show ¬ (0 : Int) = 3 by decide), fun k => absurd k (show ¬ (0 : Int) = 5 by decide)⟩
    · rw [← hf2]
      refine ⟨fun _ => ?_, fun q => absurd q (show ¬ cEk c2 = 2 by omega), fun _ => rfl⟩
      show fOn (gk g r f1 kd (W + cZ c2 + 7)) = 1 ∧ fSu (gk g r f1 kd (W + cZ c2 + 7)) = 1 ∧ fLo (gk g r f1 kd (W + cZ c2 + 7)) = fLo (g r) ∧ fPb (gk g r f1 kd (W + cZ c2 + 7)) = fPb (g r) ∧ m_q (W + cZ c2 + 3) = kP K (fSt (gk g r f1 kd (W + cZ c2 + 7)))
      rw [show W + cZ c2 + 7 = r by omega, show W + cZ c2 + 3 = r - 4 by omega, gk_r, vv, ← hf1]
      exact ⟨hr, rfl, rfl, rfl, rfl⟩
    · rw [← hf2]
      exact fun q => absurd q (show ¬ (0 : Int) = 2 by decide)
  · rw [q1] at c
    have c := (Cl_m P1).mp c
    have := abn c
    rw [hf0]
    exact ⟨⟨u, sbt_r, Cl_s hsub c⟩, by omega⟩
  · have := kd1 W k
    subst this
    rw [kd2] at c ⊢
    rw [q2] at c
    rw [q1]
    rcases cw2 t x u c with ⟨rfl, x1, x2, x3⟩ | ⟨rfl, x1⟩ | ⟨rfl, w_q, w1, w2⟩
    · right
      rw [← hf2]
      show fLo (g r) ≤ x ∧ x < r - 3
      omega
    · exact Or.inl ⟨u, sbt_r, (Cl_m P1).mpr (Cl_1 x1)⟩
    · exact Or.inl ⟨w_q, w1, (Cl_m P1).mpr w2⟩
  · have c1' : ¬ (W2 - 3 ≤ x ∧ x ≤ W2) := fun q => by
      have := T1 x q.1 q.2
      omega
    have c2' : ¬ (W2 + cZ c2 ≤ x ∧ x ≤ W2 + cZ c2 + 3) := fun q => by
      have := T2 x q.1 q.2
      omega
    rw [T3 x c1' c2'] at hx2
    have em : m_q x = m x := hmo x (by omega)
    rcases h.2.2 x hx2 with b | ⟨W, b⟩
    · exact Or.inl (em.trans b)
    · have hn : W ≠ r := fun e => by
        subst e
        exact Att_0 hx (by omega) b
      have hc : Chg (fLo (g r)) (fHi (g r)) m ty m_q ty_q := fun x x1 => ⟨T3 x (by omega) (by omega), fun _ => hmo x (by omega)⟩
      refine Or.inr ⟨W, Att_m b (h.1 W b.1) (Sam_c h hr b.1 hn hu hc).1 em (gk_n hn (fun k => ?_))⟩
      have := kd1 W k
      subst this
      obtain ⟨c1', c2', c3', c4', c5', c6', c7'⟩ := (h.1 W b.1).1
      rcases h.2.1 r W hr b.1 (fun q => hn q.symm) with p | p | p
      · rcases p.1 with p | p <;> omega
      · exact p.2.2.1 hu
      · have := p.2.1
        omega
