/-! words that are new -/
theorem Cl_f {m ty : Int → Int} {W b lo hi : Int} {c : Cx} {o n : Int} (h : Fre c o n) (k : Cok m ty W b lo hi (cZ c) (cCp c)) (h1 : lo ≤ W + o) (h2 : W + o + n ≤ hi) (h3 : 16 ≤ lo) {t x u : Int} (a : Cl m W (cCp c) t x u) : ¬ (W + o ≤ x ∧ x < W + o + n) := fun hx => by
  obtain ⟨q, hq, a⟩ := a
  have f := h.2 q hq
  obtain ⟨c1, c2, c3, c4, c5, c6⟩ := k.2.1 q hq
  unfold Ov wN at f
  rcases a with a | a | a | a | a | a | a | a
  · rw [if_pos (Or.inl a.1)] at f
    omega
  · rw [if_pos (Or.inr a.1)] at f
    omega
  · rw [if_neg (by omega), if_neg (by omega)] at f
    omega
  · obtain ⟨_, s, hs, s1, s2, s3⟩ := c3.1 a.1 x a.2.2.1 a.2.2.2 (by omega) (by omega)
    have f_q := h.2 s hs
    unfold Ov wN at f_q
    rw [if_pos (Or.inl s1)] at f_q
    omega
  · rw [if_neg (by omega), if_neg (by omega)] at f
    omega
  · rcases a.1 with e | e
    · have := c3.2.1 e
      omega
    · obtain ⟨s, hs, s1, s2, s3⟩ := c3.2.2 e (by omega) (by omega)
      have f_q := h.2 s hs
      unfold Ov wN at f_q
      rw [if_pos (Or.inr s1)] at f_q
      omega
  · have := c6 a.1
    omega
  · rw [if_neg (by omega), if_neg (by omega)] at f
    omega
/-- one right more -/
theorem Cok_c {m ty : Int → Int} {W b lo hi z : Int} {l : List Cp} {q0 : Cp} (k : Cok m ty W b lo hi z l) (h1 : ∀ k x u, Cw m W q0 k x u → ty x = k ∧ 0 ≤ x ∧ x < 4016 ∧ (16 ≤ x ∨ (k = 2 ∧ sbt (ty (-1 - x)) u))) (h2 : 1 ≤ qN q0) (h3 : Own W lo hi z q0) (h4 : Tgt m W lo hi (q0 :: l) q0) (h7 : qK q0 = 7 → m (W + qO q0) = qU q0) (h9 : (qK q0 = 9 ∨ (qK q0 = 3 ∧ qO q0 < 0)) → Rok m W b (qR q0) (m (W + qO q0)) ∧ Sup l (qR q0)) (h5 : qK q0 = 5 → 0 ≤ qO q0 ∧ qO q0 ≤ 13) (h6 : qK q0 ≠ 4) (h8 : qK q0 = 2 → lo ≤ W + qO q0 ∧ W + qO q0 + qN q0 ≤ hi) (h10 : qK q0 = 2 → 16 ≤ W + qO q0) : Cok m ty W b lo hi z (q0 :: l) := by
  have sup : ∀ r, Sup l r → Sup (q0 :: l) r := fun r s q => by
    obtain ⟨p, hp, p1, p2⟩ := s q
    exact ⟨p, List.mem_cons_of_mem _ hp, p1, p2⟩
  refine ⟨fun t x u a => ?_, fun q hq => ?_, fun q hq hk => ?_⟩
  · obtain ⟨q, hq, a⟩ := a
    rcases List.mem_cons.mp hq with e | hq
    · subst e
      exact h1 t x u a
    · exact k.1 t x u ⟨q, hq, a⟩
  · rcases List.mem_cons.mp hq with e | hq
    · subst e
      exact ⟨⟨h2, h10⟩, h3, h4, h7, fun e => ⟨(h9 e).1, sup _ (h9 e).2⟩, h5⟩
    · obtain ⟨c1, c2, c3, c4, c5, c6⟩ := k.2.1 q hq
      refine ⟨c1, c2, ⟨fun e x x1 x2 x3 x4 => ?_, c3.2.1, fun e x1 x2 => ?_⟩, c4, fun e => ⟨(c5 e).1, sup _ (c5 e).2⟩, c6⟩
      · obtain ⟨d1, s, hs, d2⟩ := c3.1 e x x1 x2 x3 x4
        exact ⟨d1, s, List.mem_cons_of_mem _ hs, d2⟩
      · obtain ⟨s, hs, d2⟩ := c3.2.2 e x1 x2
        exact ⟨s, List.mem_cons_of_mem _ hs, d2⟩
  · rcases List.mem_cons.mp hq with e | hq_q
    · subst e
      exact absurd hk h6
    · obtain ⟨d1, d2⟩ := k.2.2 q hq_q hk
      refine ⟨fun s hs ks => ?_, fun s hs ks => ?_⟩
      · rcases List.mem_cons.mp hs with e | hs
        · subst e
          exact absurd ks h6
        · exact d1 s hs ks
      · rcases List.mem_cons.mp hs with e | hs
        · subst e
          have t := (k.2.1 q hq_q).2.2.1.2.1 hk
          have := h8 ks
          omega
        · exact d2 s hs ks
/-- the words from r + o on are taken as k -/
def ut (ty : Int → Int) (a n k : Int) : Int → Int := fun x => if a ≤ x ∧ x < a + n then k else ty x
theorem ut_i {ty : Int → Int} {a n k x : Int} (h : a ≤ x ∧ x < a + n) : ut ty a n k x = k := if_pos h
theorem ut_o {ty : Int → Int} {a n k x : Int} (h : ¬ (a ≤ x ∧ x < a + n)) : ut ty a n k x = ty x := if_neg h
theorem Fre_r {W : Int} {f : Fm} {o n : Int} (h : Fre (fCx f) o n) (hH : Hok W f) (hn : 1 ≤ n) : fLo f ≤ W + o ∧ W + o + n ≤ fHi f ∧ (W + o + n ≤ W - 3 ∨ W + 1 ≤ W + o) ∧ W + o + n ≤ W + cZ (fCx f) := by
  obtain ⟨a1, a2, a3, a4, a5, a6, a7⟩ := hH
  rcases h.1 with q | q
  · omega
  · omega
theorem MI_new {K : Kd} {N : Int} {m ty m_q : Int → Int} {g : Int → Fm} {r j o n k : Int} {e : Cx} (h : MI K N m ty g) (hr : fOn (g r) = 1) (hu : fSu (g r) = 0) (hx : fSx (g r) = 0) (hd : cMd (fCx (g r)) = 0)
    (hn : 1 ≤ n) (hf : Fre (fCx (g r)) o n) (hm : ∀ x, ¬ (r + o ≤ x ∧ x < r + o + n) → m_q x = m x) (hk : k = 2 → ∀ x, r + o ≤ x → x < r + o + n → m_q x = -1)
    (o1 : Gd K N (fun _ _ => False) j e) (o2 : e.1 = (fCx (g r)).1) (o7 : e.2.2.2 = (fCx (g r)).2.2.2) (o8 : Sup (cCp e) (cA e) ∧ Sup (cCp e) (cB e) ∧ Sup (cCp e) (cC e))
    (o3 : Cok m_q (ut ty (r + o) n k) r (fPb (g r)) (fLo (g r)) (fHi (g r)) (cZ (fCx (g r))) (cCp (fCx (g r))) → Cok m_q (ut ty (r + o) n k) r (fPb (g r)) (fLo (g r)) (fHi (g r)) (cZ (fCx (g r))) (cCp e))
    (o4 : Pnt m m_q r (cCp (fCx (g r))) → ∀ k x u, Cl m_q r (cCp e) k x u → (∃ v, sbt v u ∧ Cl m r (cCp (fCx (g r))) k x v) ∨ (fLo (g r) ≤ x ∧ x < fHi (g r))) : MI K N m_q (ut ty (r + o) n k) (ug g r (mv (g r) j e)) := by
  obtain ⟨a1, a2, a3, a4, a5, a6⟩ := h.1 r hr
  have hf0 : fQ (g r) = cCp (fCx (g r)) := if_neg (by omega)
  rw [hf0] at a3
  obtain ⟨f1, f2, f3, f4⟩ := Fre_r hf a1 hn
  have hS : Sam m ty m_q (ut ty (r + o) n k) r (r - 3) (cCp (fCx (g r))) := ⟨fun x x1 x2 => absurd x1 (by omega), fun t x u c => by
    have := Cl_f hf a3 f1 f2 a1.1 c
    exact ⟨ut_o this, fun _ _ => hm x this⟩, fun x hx => ut_o (by have := a1.1; omega)⟩
  have hmd : cMd e = 0 := (congrArg (fun q : Mo => q.1) o7).trans hd
  refine MI_leaf h hr hu hx (fun x hx => ?_) o1 o2 (by rcases a1.2.2.2.2.2.2.2.1 with q | q; exact Or.inl q; exact Or.inr ⟨q.1, q.2.1⟩) (o3 (Cok_m hS a3)) (o4 (Sam_p hS a3)) (fun x hx t => ?_) (fun q => ?_) ⟨Or.inl hmd, fun q => absurd q (by omega)⟩ o8 (fun x hx2 => ?_)
  · have : ¬ (r + o ≤ x ∧ x < r + o + n) := by omega
    exact ⟨ut_o this, fun _ => hm x this⟩
  · rw [ut_o (by omega)]
    exact t
  · exact hm _ (by omega)
  · by_cases q : r + o ≤ x ∧ x < r + o + n
    · rw [ut_i q] at hx2
      exact Or.inl (hk hx2 x q.1 q.2)
    · rw [ut_o q] at hx2
      exact Or.inr (Or.inl ⟨hx2, hm x q, fun a => absurd a (Att_0 hx (by omega))⟩)
