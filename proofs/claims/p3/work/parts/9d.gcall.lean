/-! CALL keeps the rules -/
/-- where the words of names lie -/
def Eg (T : Nat → Nat → Int) (F : Int → Int) (nw : Int) (V : Nat → Prop) (U : Us) (z f : Int) : Prop :=
  (∀ s s_q : Nat, V s → V s_q → s ≠ s_q → (T 7 s = 3 ∨ T 7 s = 4 ∨ T 7 s = 8) → (T 7 s_q = 3 ∨ T 7 s_q = 4 ∨ T 7 s_q = 8) → ¬ Ov (wd T F nw (s : Int)) (T 8 s) (wd T F nw (s_q : Int)) (T 8 s_q)) ∧
  (∀ s : Nat, V s → T 7 s ≤ 8 → 1 ≤ wd T F nw (s : Int) ∧ 1 ≤ T 8 s ∧ (T 7 s = 3 ∨ T 7 s = 8 → T 8 s = 1) ∧ (T 7 s = 3 ∨ T 7 s = 4 ∨ T 7 s = 8 → wd T F nw (s : Int) + T 8 s ≤ f ∨ z ≤ wd T F nw (s : Int))) ∧
  (∀ s s_q : Nat, V s → V s_q → s ≠ s_q → (∃ al e b, U (s : Int) al e b) → (∃ al e b, U (s_q : Int) al e b) → 11 ≤ T 7 s → T 7 s ≤ 13 → 11 ≤ T 7 s_q → T 7 s_q ≤ 13 → adv T F nw (s : Int) ≠ adv T F nw (s_q : Int)) ∧
  ((∀ s : Nat, V s → T 7 s ≠ 8) ∨ ∀ (s : Nat) (al e b : Int), V s → U (s : Int) al e b → T 7 s < 11 ∨ 13 < T 7 s)
/-- two channels that a CALL gives are not the same -/
theorem Sep_e {T : Nat → Nat → Int} {F S : Int → Int} {nw : Int} {V : Nat → Prop} {U : Us} {c : Cx} {f sb_q x y lo hi lo_q hi_q b b_q : Int} {t t_q : Rt} (hg : Eg T F nw V U (cZ c) f) (wx : wR T V sb_q 20 1 x lo hi) (wy : wR T V sb_q 20 1 y lo_q hi_q) (ux : uC T S U x b) (uy : uC T S U y b_q) (hx : CrT T F S nw x t) (hy : CrT T F S nw y t_q) (cx : Chr (cCp c) t b) (cy : Chr (cCp c) t_q b_q) (hm : NMt T (Rf S) x y) (ab : Abv c) : Sep (cCp c) t t_q := by
  obtain ⟨g1, g2, g3, g4⟩ := hg
  have z0 : ∀ {r : Rt} {u : Int}, Chr (cCp c) r u → Chr (cCp c) r 0 := fun {r u} ⟨q, hq, _, h⟩ => ⟨q, hq, ⟨fun w => absurd w (by decide), fun w => absurd w (by decide)⟩, h⟩
  have k4 : ∀ {r : Rt} {u : Int}, Chr (cCp c) r u → r.1 = 3 → (∀ q ∈ cCp c, qK q ≠ 8) → ∃ q ∈ cCp c, qK q = 4 ∧ qO q = r.2.1 := fun {r u} ⟨q, hq, _, h⟩ r3 n8 => by
    rcases h with h | h | h
    · omega
    · omega
    · rcases h.2.2.1 with k | k
      · exact ⟨q, hq, k, h.2.2.2⟩
      · exact absurd k (n8 q hq)
  -- what a reference is: its name, its kind, its stretch
  have ref : ∀ {x lo hi b : Int} {t : Rt}, wR T V sb_q 20 1 x lo hi → uC T S U x b → CrT T F S nw x t → ∃ s : Nat, (s : Int) = T 17 x.toNat ∧ V s ∧ (∃ al e, U (s : Int) al e b) ∧ ((((T 7 s = 3 ∧ T 15 x.toNat ≠ 3) ∨ (T 7 s = 4 ∧ T 15 x.toNat = 3)) ∧ t.1 = 2 ∧ wd T F nw (s : Int) ≤ t.2.1 ∧ t.2.1 + t.2.2 ≤ wd T F nw (s : Int) + T 8 s) ∨ (T 7 s = 8 ∧ T 15 x.toNat ≠ 3 ∧ t = (3, wd T F nw (s : Int), 1)) ∨ (11 ≤ T 7 s ∧ T 7 s ≤ 13 ∧ T 15 x.toNat ≠ 3 ∧ t = (5, adv T F nw (s : Int), 0))) := fun {x lo hi b t} w u h => by
    obtain ⟨_, _, w3⟩ := w
    have ad := adf_c (T := T) (s := T 17 x.toNat)
    rcases w3 with ⟨k2, sy, kr⟩ | ⟨k3, sy, kr, _⟩
    · have es : ((T 17 x.toNat).toNat : Int) = T 17 x.toNat := by
        have := sy.1
        omega
      have kc : kCh (T 7 (T 17 x.toNat).toNat) := by
        rcases kr with kr | kr
        · omega
        · exact kr.2
      have n3 : T 15 x.toNat ≠ 3 := by omega
      refine ⟨(T 17 x.toNat).toNat, es, sy.2.2, ⟨0, 0, by rw [es]; exact u.2 n3⟩, ?_⟩
      rw [es]
      have h : (adf T (T 17 x.toNat) = 1 ∧ t = (2, adv T F nw (T 17 x.toNat), 1)) ∨ (adf T (T 17 x.toNat) = 7 ∧ t = (3, adv T F nw (T 17 x.toNat), 1)) ∨ (adf T (T 17 x.toNat) = 4 ∧ t = (5, adv T F nw (T 17 x.toNat), 0)) := by
        rcases h with h | h | h
        · exact absurd h.1 n3
        · exact absurd h.1 n3
        · exact h.2
      rcases kc with k | k | k | k | k
      · have ea := adv_v (T := T) (F := F) (nw := nw) (s := T 17 x.toNat) (by omega)
        have t8 := (g2 _ sy.2.2 (by omega)).2.2.1 (Or.inl k)
        have a1 := ad.1 k
        rcases h with h | h | h
        · refine Or.inl ⟨Or.inl ⟨k, n3⟩, by rw [h.2], ?_, ?_⟩
          · rw [h.2]
            show wd T F nw (T 17 x.toNat) ≤ adv T F nw (T 17 x.toNat)
            omega
          · rw [h.2]
            show adv T F nw (T 17 x.toNat) + 1 ≤ _
            omega
        · omega
        · omega
      · have ea := adv_v (T := T) (F := F) (nw := nw) (s := T 17 x.toNat) (by omega)
        have a1 := ad.2.1 k
        rcases h with h | h | h
        · omega
        · exact Or.inr (Or.inl ⟨k, n3, by rw [h.2, ea]⟩)
        · omega
      all_goals (
        have a1 := ad.2.2.1 (by omega) (by omega)
        rcases h with h | h | h
        · omega
        · omega
        · exact Or.inr (Or.inr ⟨by omega, by omega, n3, h.2⟩))
    · have es : ((T 17 x.toNat).toNat : Int) = T 17 x.toNat := by
        have := sy.1
        omega
      have k4 : T 7 (T 17 x.toNat).toNat = 4 := by
        rcases kr with kr | kr
        · omega
        · exact kr.2
      refine ⟨(T 17 x.toNat).toNat, es, sy.2.2, ?_, ?_⟩
      · by_cases ic : iC T (T 18 x.toNat)
        · exact ⟨0, _, by rw [es]; exact (u.1 k3).1 ic⟩
        · exact ⟨1, 0, by rw [es]; exact (u.1 k3).2 ic⟩
      · rw [es]
        refine Or.inl ⟨Or.inr ⟨k4, k3⟩, ?_⟩
        rcases h with h | h | h
        · rw [h.2.2.2.2]
          exact ⟨rfl, by show wd T F nw (T 17 x.toNat) ≤ wd T F nw (T 17 x.toNat) + _; omega, by show wd T F nw (T 17 x.toNat) + cv T (Rf S) (T 18 x.toNat) + 1 ≤ _; omega⟩
        · rw [h.2.2]
          exact ⟨rfl, Int.le_refl _, Int.le_refl _⟩
        · exact absurd k3 h.1
  obtain ⟨s, es, vs, ⟨al, e, hu⟩, rs⟩ := ref wx ux hx
  obtain ⟨s_q, es', vs', ⟨al', e_q, hu'⟩, rs'⟩ := ref wy uy hy
  have g1' := g1 s s_q vs vs'
  have g3' := g3 s s_q vs vs'
  by_cases same : s = s_q
  · subst same
    have hm2 : T 15 x.toNat = 3 ∧ T 15 y.toNat = 3 ∧ iC T (T 18 x.toNat) ∧ iC T (T 18 y.toNat) ∧ cv T (Rf S) (T 18 x.toNat) ≠ cv T (Rf S) (T 18 y.toNat) := by
      rcases hm with q | q
      · exact absurd (es.symm.trans es') q
      · exact q
    obtain ⟨x3, y3, ix, iy, ne⟩ := hm2
    refine Or.inr (Or.inl ?_)
    rcases hx with hx | hx | hx
    · rcases hy with hy | hy | hy
      · rw [hx.2.2.2.2, hy.2.2.2.2]
        refine ⟨rfl, rfl, fun w => ?_⟩
        unfold Ov at w
        have e1 : T 17 x.toNat = T 17 y.toNat := es.symm.trans es'
        have : wd T F nw (T 17 x.toNat) + cv T (Rf S) (T 18 x.toNat) < wd T F nw (T 17 y.toNat) + cv T (Rf S) (T 18 y.toNat) + 1 ∧ wd T F nw (T 17 y.toNat) + cv T (Rf S) (T 18 y.toNat) < wd T F nw (T 17 x.toNat) + cv T (Rf S) (T 18 x.toNat) + 1 := w
        rw [e1] at this
        omega
      · exact absurd iy hy.2.1
      · exact absurd y3 hy.1
    · exact absurd ix hx.2.1
    · exact absurd x3 hx.1
  · have nov : ∀ {a n b k : Int}, wd T F nw (s : Int) ≤ a → a + n ≤ wd T F nw (s : Int) + T 8 s → wd T F nw (s_q : Int) ≤ b → b + k ≤ wd T F nw (s_q : Int) + T 8 s_q → (T 7 s = 3 ∨ T 7 s = 4) → (T 7 s_q = 3 ∨ T 7 s_q = 4) → ¬ Ov a n b k := fun {a n b k} p1 p2 p3 p4 p5 p6 w => by
      have := g1' same (by omega) (by omega)
      unfold Ov at w this
      omega
    have no8 : (T 7 s = 8 ∧ 11 ≤ T 7 s_q ∧ T 7 s_q ≤ 13) ∨ (T 7 s_q = 8 ∧ 11 ≤ T 7 s ∧ T 7 s ≤ 13) → False := fun q => by
      rcases g4 with g4 | g4
      · rcases q with q | q
        · exact g4 s vs q.1
        · exact g4 s_q vs' q.1
      · have a1 := g4 s al e b vs hu
        have a2 := g4 s_q al' e_q b_q vs' hu'
        omega
    rcases rs with ⟨k, t2, l1, l2⟩ | ⟨k, n3, tt⟩ | ⟨k1, k2, n3, tt⟩ <;> rcases rs' with ⟨k_q, t2', l1', l2'⟩ | ⟨k_q, n3', tt'⟩ | ⟨k1', k2', n3', tt'⟩
    · exact Or.inr (Or.inl ⟨t2, t2', nov l1 l2 l1' l2' (by omega) (by omega)⟩)
    · refine Or.inr (Or.inr (Or.inr (Or.inr (Or.inr (Or.inr ⟨t2, by rw [tt'], by rw [tt'], z0 cx, k4 cy (by rw [tt']) (fun q hq => (ab q hq).1)⟩)))))
    · exact Or.inr (Or.inr (Or.inr (Or.inl ⟨t2, by rw [tt'], z0 cx⟩)))
    · refine Or.inr (Or.inr (Or.inr (Or.inr (Or.inr (Or.inl ⟨by rw [tt], t2', by rw [tt], z0 cy, k4 cx (by rw [tt]) (fun q hq => (ab q hq).1)⟩)))))
    · have := g1' same (by omega) (by omega)
      have t8 := (g2 s vs (by omega)).2.2.1 (Or.inr k)
      have t8' := (g2 s_q vs' (by omega)).2.2.1 (Or.inr k_q)
      refine Or.inr (Or.inr (Or.inr (Or.inr (Or.inl ⟨by rw [tt], by rw [tt'], by rw [tt], by rw [tt'], ?_, ?_, ?_⟩))))
      · rw [tt, tt']
        show wd T F nw (s : Int) ≠ wd T F nw (s_q : Int)
        intro w
        unfold Ov at this
        omega
      · exact k4 cx (by rw [tt]) (fun q hq => (ab q hq).1)
      · exact k4 cy (by rw [tt']) (fun q hq => (ab q hq).1)
    · exact (no8 (Or.inl ⟨k, k1', k2'⟩)).elim
    · exact Or.inr (Or.inr (Or.inl ⟨by rw [tt], t2', z0 cy⟩))
    · exact (no8 (Or.inr ⟨k_q, k1, k2⟩)).elim
    · refine Or.inl ⟨by rw [tt], by rw [tt'], ?_⟩
      rw [tt, tt']
      exact g3' same ⟨al, e, b, hu⟩ ⟨al', e_q, b_q, hu'⟩ k1 k2 k1' k2'
/-- more rights with words elsewhere -/
theorem En_add {T : Nat → Nat → Int} {F : Int → Int} {nw : Int} {V : Nat → Prop} {U : Us} {c : Cx} {f : Int} {l : List Cp} (h : En T F nw V U c f) (sub : ∀ q ∈ cCp c, q ∈ l) (hb : ∀ q ∈ l, q ∈ cCp c ∨ qO q + wN q ≤ f) : En T F nw V U (sC c l) f := by
  obtain ⟨e1, e2, e3, e4, e5, e6, e7, e8⟩ := h
  have up : ∀ {R : Cp → Prop}, (∃ q ∈ cCp c, R q) → ∃ q ∈ cCp (sC c l), R q := fun {R} ⟨q, hq_q, r⟩ => ⟨q, sub q hq_q, r⟩
  refine ⟨fun s hs => ⟨fun k => up ((e1 s hs).1 k), fun k => up ((e1 s hs).2 k)⟩, fun s al e b hs hu => ?_, fun q hq => ?_, e4, e5, e6, e7, e8⟩
  · obtain ⟨y1, y2, y3, y4, y5⟩ := e2 s al e b hs hu
    exact ⟨fun kx => up (y1 kx), fun kx z => up (y2 kx z), fun kx z z1 z2 => up (y3 kx z z1 z2), fun kx => up (y4 kx), fun kx z => up (y5 kx z)⟩
  · rcases hb q hq with w | w
    · exact e3 q w
    · exact Or.inr (Or.inl w)
theorem Chr_u {T : Nat → Nat → Int} {F S : Int → Int} {nw : Int} {c : Cx} {x b : Int} {t : Rt} (h : ChU T F S nw c x b) (r : CrT T F S nw x t) : Chr (cCp c) t b := by
  rcases r with r | r | r
  · obtain ⟨_, _, _, _, u5, _⟩ := h.1 r.1
    obtain ⟨q, hq, q1, q2, q3, q4⟩ := u5 r.2.1 r.2.2.1 r.2.2.2.1
    rw [r.2.2.2.2]
    exact ⟨q, hq, q1, Or.inr (Or.inl ⟨rfl, q2, q3, q4⟩)⟩
  · obtain ⟨_, _, _, _, _, u6⟩ := h.1 r.1
    obtain ⟨q, hq, q1, q2, q3, q4⟩ := u6 r.2.1
    rw [r.2.2]
    exact ⟨q, hq, q1, Or.inr (Or.inl ⟨rfl, q2, q3, q4⟩)⟩
  · obtain ⟨q, hq, q1, a⟩ := h.2 r.1
    rcases r.2 with r | r | r
    · rw [r.2]
      rcases a with a | a | a
      · exact ⟨q, hq, q1, Or.inr (Or.inl ⟨rfl, a.2.1, a.2.2.1, a.2.2.2⟩)⟩
      · omega
      · omega
    · rw [r.2]
      rcases a with a | a | a
      · omega
      · exact ⟨q, hq, q1, Or.inr (Or.inr ⟨rfl, rfl, Or.inl a.2.1, a.2.2⟩)⟩
      · omega
    · rw [r.2]
      rcases a with a | a | a
      · omega
      · omega
      · exact ⟨q, hq, q1, Or.inl ⟨rfl, a.2.1, a.2.2⟩⟩
