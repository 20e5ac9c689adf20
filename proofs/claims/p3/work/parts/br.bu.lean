/-! what counts of a PROC's parameters: only of PROCs that can be called -/
def Bag (T : Nat → Nat → Int) (Bu Bu' : Int → Int) (pb : Int) : Prop := ∀ q j : Int, 0 ≤ q → q < pb → 0 ≤ j → j < T 30 q.toNat → Bu' (T 29 q.toNat + j) = Bu (T 29 q.toNat + j)
theorem Bag_s {T : Nat → Nat → Int} {Bu Bu' : Int → Int} {pb : Int} (h : Bag T Bu Bu' pb) : Bag T Bu' Bu pb := fun q j a b c d => (h q j a b c d).symm
theorem wAs_18 {T : Nat → Nat → Int} {V : Nat → Prop} {sb : Int} : ∀ {l : List Int} {pa lo hi a : Int}, wAs T V sb pa l lo hi → a ∈ l → ∃ j : Nat, j < l.length ∧ T 18 a.toNat = pa + (j : Int)
  | [], _, _, _, _, _, ha => absurd ha List.not_mem_nil
  | e :: l, pa, lo, hi, a, h, ha => by
    obtain ⟨m, _, _, h2, h3⟩ := h
    rcases List.mem_cons.mp ha with rfl | ha
    · have z := h2.2.2.2.1
      exact ⟨0, by simp, by omega⟩
    · obtain ⟨j, j1, j2⟩ := wAs_18 h3 ha
      exact ⟨j + 1, by simpa using j1, by omega⟩
theorem Bag_a {T : Nat → Nat → Int} {Bu Bu' : Int → Int} {V : Nat → Prop} {sb pb q lo hi a : Int} {l : List Int} (h : Bag T Bu Bu' pb) (q0 : 0 ≤ q) (q1 : q < pb) (hl : (l.length : Int) = T 30 q.toNat) (w : wAs T V sb (T 29 q.toNat) l lo hi) (ha : a ∈ l) : Bu' (T 18 a.toNat) = Bu (T 18 a.toNat) := by
  obtain ⟨j, j1, j2⟩ := wAs_18 w ha
  rw [j2]
  exact h q (j : Int) q0 q1 (by omega) (by omega)
theorem vP_bu {T : Nat → Nat → Int} {Bu Bu' : Int → Int} {sb pb : Int} {Q : Us} (h : Bag T Bu Bu' pb) : ∀ {n : Nat} {V : Nat → Prop} {S : Int → Int} {p lo hi s0 s1 : Int}, wP T sb pb n V p lo hi s0 s1 → vP T Bu n S Q p → vP T Bu' n S Q p
  | 0, _, _, _, _, _, _, _, w, _ => w.elim
  | n + 1, V, S, p, lo, hi, s0, s1, w, ⟨h1, h2, h3, h4, h5, h6, h7, h8, h9⟩ => by
    unfold wP at w
    have w8 := w.2.2.2.2.2.2.2
    refine ⟨h1, h2, h3, fun k l hl a ha => ?_, fun k l hl c hc => ?_, fun k => ⟨(h6 k).1, ?_⟩, fun k i hi_q => ?_, fun k => ⟨(h8 k).1, ?_⟩, fun k l hl c hc => ?_⟩
    · obtain ⟨g1, g2, g3, l0, ch0, g4, g5⟩ := wS_i25 w8 k
      have e := CH_u hl ch0
      subst e
      have z := h4 k l hl a ha
      unfold aU at z ⊢
      rw [Bag_a h g2 g3 g4 g5 ha]
      exact z
    · obtain ⟨l0, c0, ws⟩ : ∃ l0, CH T (T 21 p.toNat) l0 ∧ wCs (wP T sb pb n (Vd V s0 (s0 + T 24 p.toNat))) l0 (p + 1) hi (s0 + T 24 p.toNat) s1 := by
        rcases k with k | k
        · exact wS_i26 w8 k
        · obtain ⟨_, _, _, l, a, _, b⟩ := wS_i28 w8 k
          exact ⟨l, a, b⟩
      have e := CH_u hl c0
      subst e
      obtain ⟨_, _, _, _, _, _, _, _, g⟩ := wCs_mem ws hc
      exact vP_bu h g (h5 k l hl c hc)
    · obtain ⟨g1, g2, g3, a7, b7, g4, g5, g6, g7, g8, g9⟩ := wS_i27 w8 k
      exact vP_bu h g9 (h6 k).2
    · obtain ⟨g1, g2, g3, g4, g5, g6, g7, g8⟩ := wS_i29 w8 k
      exact vP_bu h g8 (h7 k i hi_q)
    · obtain ⟨a7, g1, g2, g3, g4⟩ := wS_i31 w8 k
      exact vP_bu h g4 (h8 k).2
    · have z := h9 k l hl c hc
      obtain ⟨m, t0, t1, g⟩ : ∃ m t0 t1, wP T sb pb n (Vd V s0 (s0 + T 24 p.toNat)) (T 21 c.toNat) m t1 t0 (t0 + 0) ∨ ∃ u v x y, wP T sb pb n (Vd V s0 (s0 + T 24 p.toNat)) (T 21 c.toNat) u v x y := by
        refine ⟨0, 0, 0, Or.inr ?_⟩
        rcases k with k | k
        · obtain ⟨l0, _, c0, ws⟩ := wS_i30 w8 k
          have e := CH_u hl c0
          subst e
          obtain ⟨_, _, _, _, _, _, _, _, g⟩ := wCs_mem ws hc
          obtain ⟨_, _, m, _, _, _, g⟩ := g
          exact ⟨_, _, _, _, g⟩
        · obtain ⟨_, _, l0, c0, _, ws⟩ := wS_i32 w8 k
          have e := CH_u hl c0
          subst e
          obtain ⟨_, _, _, _, _, _, _, _, g⟩ := wCs_mem ws hc
          obtain ⟨_, _, m, _, _, g, _⟩ := g
          exact ⟨_, _, _, _, g⟩
      refine ⟨z.1, z.2.1, ?_⟩
      rcases g with g | ⟨_, _, _, _, g⟩
      · exact vP_bu h g z.2.2
      · exact vP_bu h g z.2.2
theorem PKO_bu {T : Nat → Nat → Int} {Bu Bu' S : Int → Int} {sb pb : Int} {k : Nat} {V : Nat → Prop} {n mk hi s0 s1 : Int} (h : Bag T Bu Bu' pb) (w : KW T sb pb k V n hi s0 s1) (g : PKO T Bu S k n mk) : PKO T Bu' S k n mk := by
  obtain ⟨L, g1, g2⟩ := g
  refine ⟨L, fun i hi_q => ?_, g2⟩
  obtain ⟨z1, z2, z3, z4⟩ := g1 i hi_q
  obtain ⟨_, _, _, _, _, _, _, _, _, _, t⟩ := w.2.2.2 i hi_q
  exact ⟨z1, vP_bu h t z2, fun Q c z => z3 Q c (vP_bu (Bag_s h) t z), z4⟩
theorem ckP_bu {T : Nat → Nat → Int} {Bu Bu' : Int → Int} {sb pb w : Int} (h : Bag T Bu Bu' pb) : ∀ {n : Nat} {V : Nat → Prop} {S : Int → Int} {p lo hi s0 s1 : Int}, 0 ≤ lo → wP T sb pb n V p lo hi s0 s1 → ckP T Bu w n S p → ckP T Bu' w n S p
  | 0, _, _, _, _, _, _, _, _, t, _ => t.elim
  | n + 1, V, S, p, lo, hi, s0, s1, l0', t, ⟨h1, h2, h3, h4, h5, h6, h7⟩ => by
    unfold wP at t
    have w8 := t.2.2.2.2.2.2.2
    have lp := t.1
    refine ⟨h1, h2, fun k l hl => ⟨fun a ha => ?_, (h3 k l hl).2⟩, fun k l hl c hc => ?_, fun k => ?_, fun k => ?_, fun k i hi_q => ?_⟩
    · obtain ⟨g1, g2, g3, l0, ch0, g4, g5⟩ := wS_i25 w8 k
      have e := CH_u hl ch0
      subst e
      have z := (h3 k l hl).1 a ha
      unfold Aok at z ⊢
      rw [Bag_a h g2 g3 g4 g5 ha]
      exact z
    · have z := h4 k l hl c hc
      have q : ∃ l, CH T (T 21 p.toNat) l ∧ wCs (rT T sb pb n (Vd V s0 (s0 + T 24 p.toNat))) l (p + 1) hi (s0 + T 24 p.toNat) s1 := by
        have f : ∀ {l}, CH T (T 21 p.toNat) l → (wCs (wP T sb pb n (Vd V s0 (s0 + T 24 p.toNat))) l (p + 1) hi (s0 + T 24 p.toNat) s1 ∨ wCs (wI T (Vd V s0 (s0 + T 24 p.toNat)) sb (wP T sb pb n (Vd V s0 (s0 + T 24 p.toNat)))) l (p + 1) hi (s0 + T 24 p.toNat) s1 ∨ wCs (wG T (Vd V s0 (s0 + T 24 p.toNat)) sb (wP T sb pb n (Vd V s0 (s0 + T 24 p.toNat)))) l (p + 1) hi (s0 + T 24 p.toNat) s1) → ∃ l, CH T (T 21 p.toNat) l ∧ wCs (rT T sb pb n (Vd V s0 (s0 + T 24 p.toNat))) l (p + 1) hi (s0 + T 24 p.toNat) s1 := fun {l} c0 ws => by
          refine ⟨l, c0, ?_⟩
          rcases ws with ws | ws | ws
          · exact wCs_id (fun e a b u v z => Or.inl ⟨by have := wP_kd z; omega, by have := wP_kd z; omega, z⟩) ws
          · exact wCs_id (fun e a b u v z => Or.inr ⟨Or.inr z.2.1, Or.inl z⟩) ws
          · exact wCs_id (fun e a b u v z => Or.inr ⟨Or.inl z.2.1, Or.inr z⟩) ws
        rcases k with k | k | k | k
        · obtain ⟨l, a, b⟩ := wS_i26 w8 k
          exact f a (Or.inl b)
        · obtain ⟨_, _, _, l, a, _, b⟩ := wS_i28 w8 k
          exact f a (Or.inl b)
        · obtain ⟨l, _, a, b⟩ := wS_i30 w8 k
          exact f a (Or.inr (Or.inl b))
        · obtain ⟨_, _, l, a, _, b⟩ := wS_i32 w8 k
          exact f a (Or.inr (Or.inr b))
      obtain ⟨l1, c1, ws⟩ := q
      have e := CH_u hl c1
      subst e
      obtain ⟨a, b, u, v, a1, _, _, _, g⟩ := wCs_mem ws hc
      rcases g with ⟨q1, q2, g⟩ | ⟨q1, g⟩
      · exact ⟨fun a_q b_q => ckP_bu h (by omega) g (z.1 a_q b_q), fun q => by rcases q with q | q; exact absurd q q1; exact absurd q q2, z.2.2⟩
      · obtain ⟨r1, r2, m, r3, r4, g_q⟩ := ch_k g
        exact ⟨fun a_q b_q => by rcases q1 with q | q; exact absurd q a_q; exact absurd q b_q, fun q => ckP_bu h (by omega) g_q (z.2.1 q), z.2.2⟩
    · rcases k with k | k
      · obtain ⟨g1, g2, g3, a7, b7, g4, g5, g6, g7, g8, g9⟩ := wS_i27 w8 k
        exact ckP_bu h (by omega) g9 (h5 (Or.inl k))
      · obtain ⟨a7, g1, g2, g3, g4⟩ := wS_i31 w8 k
        exact ckP_bu h (by omega) g4 (h5 (Or.inr k))
    · rcases k with k | k
      · exact PKO_bu h (KW_28 k w8) (h6 (Or.inl k))
      · exact PKO_bu h (KW_29 k (by omega) w8) (h6 (Or.inr k))
    · obtain ⟨g1, g2, g3, g4, g5, g6, g7, g8⟩ := wS_i29 w8 k
      exact ckP_bu h (by omega) g8 (h7 k i hi_q)
