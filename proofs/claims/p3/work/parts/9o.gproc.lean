/-! PROCs keep the rules -/
def pU (T : Nat → Nat → Int) (Bu : Int → Int) (q : Nat) : Us := fun s _ _ b => T 29 q ≤ s ∧ s < T 29 q + T 30 q ∧ Bu s ≠ 0 ∧ sbt (Bu s) b
/-- a PROC's frame, once it is entered -/
def pc0 (T : Nat → Nat → Int) (Bu : Int → Int) (q : Nat) : Cx := ((1, 0, T 32 q, T 33 q, 0), pcp T Bu (T 29 q) (T 30 q).toNat, (r0, r0, r0), (0, [], []))
theorem pc0_e {T : Nat → Nat → Int} {Bu : Int → Int} {q : Nat} {V : Nat → Prop} {Sq : Int} (hv : QV T q V Sq) (hq2 : 2 ≤ Sq) (h6 : 0 ≤ T 30 q ∧ T 30 q ≤ 6) (h29 : T 29 q = Sq + 1) (hm : wM T (Sq + 1) (T 30 q)) (h9 : ∀ k : Nat, (k : Int) < T 30 q → T 9 (T 29 q + (k : Int)).toNat = 1 + (k : Int) ∧ T 10 (T 29 q + (k : Int)).toNat = 0) :
    En T (fun _ => 0) 0 V (pU T Bu q) (pc0 T Bu q) (1 + T 30 q) ∧ Eg T (fun _ => 0) 0 V (pU T Bu q) (T 32 q) (1 + T 30 q) ∧ Abv (pc0 T Bu q) ∧ (∀ x ∈ cCp (pc0 T Bu q), 1 ≤ qN x) ∧ (∀ s : Nat, V s → T 7 s ≤ 9 → T 10 s ≤ 0) := by
  -- names with words: the parameters
  have par : ∀ s : Nat, V s → T 7 s ≤ 9 → ∃ i : Nat, (i : Int) < T 30 q ∧ (s : Int) = T 29 q + (i : Int) ∧ wd T (fun _ => 0) 0 (s : Int) = 1 + (i : Int) ∧ T 10 s = 0 ∧ MP T (s : Int) := fun s hs k => by
    obtain ⟨j, h1, h2⟩ := (QV_k hv hm (by omega) hs).2 k
    have n9 := h9 j h1
    have es : (T 29 q + (j : Int)).toNat = s := by omega
    rw [es] at n9
    refine ⟨j, h1, by omega, ?_, n9.2, hm (s : Int) (by omega) (by omega)⟩
    unfold wd
    rw [show ((s : Int)).toNat = s by omega, n9.1]
    show 1 + (j : Int) + 0 - 0 = _
    omega
  have eN : ((T 30 q).toNat : Int) = T 30 q := by omega
  have mp8 : ∀ s : Nat, MP T (s : Int) → 5 ≤ T 7 s ∧ T 7 s ≤ 8 ∧ 1 ≤ T 8 s ∧ T 8 s ≤ 64 ∧ (T 7 s ≠ 7 → T 8 s = 1) := fun s h => by
    have h_q := h
    unfold MP at h_q
    rw [show ((s : Int)).toNat = s by omega] at h_q
    exact h_q
  have cap : ∀ x ∈ pcp T Bu (T 29 q) (T 30 q).toNat, (qK x = 3 ∨ qK x = 4) ∧ 1 ≤ qO x ∧ qO x + 1 ≤ 1 + T 30 q ∧ 1 ≤ qN x := fun x hx => by
    obtain ⟨i, hi, r | r⟩ := pcp_m hx
    · have es : (T 29 q + (i : Int)) = (((T 29 q + (i : Int)).toNat : Nat) : Int) := by omega
      have m := hm (T 29 q + (i : Int)) (by omega) (by omega)
      have m8 := m.2.2.1
      rw [r.2]
      exact ⟨Or.inl rfl, by show 1 ≤ 1 + (i : Int); omega, by show 1 + (i : Int) + 1 ≤ _; omega, m8⟩
    · rw [r.2.2]
      exact ⟨Or.inr rfl, by show 1 ≤ 1 + (i : Int); omega, by show 1 + (i : Int) + 1 ≤ _; omega, by show (1 : Int) ≤ 1; omega⟩
  have wn1 : ∀ x : Cp, qK x = 3 ∨ qK x = 4 → wN x = 1 := fun x k => by
    unfold wN
    rw [if_neg (by omega), if_neg (by omega)]
  refine ⟨⟨fun s hs => ⟨fun k => ?_, fun k => ?_⟩, fun s al e b hs hu => ?_, fun x hx => ?_, by omega, rfl, rfl, ⟨by omega, fun s hs k => ?_⟩, fun s hs k => ?_⟩, ⟨fun s s_q hs hs_q ne k k_q => ?_, fun s hs k => ?_, fun s s_q hs hs_q ne us us' k1 k2 k3 k4 => ?_, Or.inr (fun s al e b hs hu => ?_)⟩, fun x hx => ?_, fun x hx => (cap x hx).2.2.2, fun s hs k => ?_⟩
  · obtain ⟨i, i1, i2, i3, i4, i5⟩ := par s hs (by omega)
    have := mp8 s i5
    omega
  · obtain ⟨i, i1, i2, i3, i4, i5⟩ := par s hs (by omega)
    have es : (T 29 q + (i : Int)).toNat = s := by omega
    have pi := (pcp_i (T := T) (Bu := Bu) (pa := T 29 q) (n := (T 30 q).toNat) (i := i) (by omega)).1
    rw [es] at pi
    exact ⟨_, pi k, rfl, i3.symm, Int.le_refl _⟩
  · have far : 9 < T 7 s → False := fun k => by
      have h1 := hu.1
      have h2 := hu.2.1
      have m := mp8 s (hm (s : Int) (by omega) (by omega))
      omega
    refine ⟨fun k => ?_, fun k => ?_, fun k => ?_, fun k => ?_, fun k _ => (far (by omega)).elim⟩
    · obtain ⟨i, i1, i2, i3, i4, i5⟩ := par s hs (by omega)
      have := mp8 s i5
      omega
    · obtain ⟨i, i1, i2, i3, i4, i5⟩ := par s hs (by omega)
      have := mp8 s i5
      omega
    · obtain ⟨i, i1, i2, i3, i4, i5⟩ := par s hs (by omega)
      have := mp8 s i5
      omega
    · obtain ⟨i, i1, i2, i3, i4, i5⟩ := par s hs (by omega)
      have es : (T 29 q + (i : Int)).toNat = s := by omega
      have pi := (pcp_i (T := T) (Bu := Bu) (pa := T 29 q) (n := (T 30 q).toNat) (i := i) (by omega)).2
      rw [es, ← i2] at pi
      exact ⟨_, pi k hu.2.2.1, hu.2.2.2, rfl, i3.symm⟩
  · have c := cap x hx
    have := wn1 x c.1
    exact Or.inr (Or.inl (by omega))
  · obtain ⟨i, i1, i2, i3, i4, i5⟩ := par s hs k
    omega
  · obtain ⟨i, i1, i2, i3, i4, i5⟩ := par s hs (by omega)
    have := mp8 s i5
    omega
  · obtain ⟨i, i1, i2, i3, i4, i5⟩ := par s hs (by omega)
    obtain ⟨i_q, i1', i2', i3', i4', i5'⟩ := par s_q hs_q (by omega)
    have := mp8 s i5
    have := mp8 s_q i5'
    intro v
    unfold Ov at v
    omega
  · obtain ⟨i, i1, i2, i3, i4, i5⟩ := par s hs (by omega)
    have := mp8 s i5
    exact ⟨by omega, by omega, fun q => by omega, fun q => Or.inl (by omega)⟩
  · obtain ⟨_, _, _, hu⟩ := us
    have h1 := hu.1
    have h2 := hu.2.1
    have m := mp8 s (hm (s : Int) (by omega) (by omega))
    omega
  · have h1 := hu.1
    have h2 := hu.2.1
    have m := mp8 s (hm (s : Int) (by omega) (by omega))
    exact Or.inl (by omega)
  · have c := cap x hx
    exact ⟨by omega, by omega, fun _ => c.2.1⟩
  · obtain ⟨i, i1, i2, i3, i4, i5⟩ := par s hs k
    omega
/-- a PROC: from its label on -/
theorem gPr_g {T C : Nat → Nat → Int} {Bu : Int → Int} {N pc : Int} {L Sx : Nat → Int} (hM : ∀ i j : Int, 0 ≤ i → i ≤ j → j ≤ N → C 49 i.toNat ≤ C 49 j.toNat) (hcw : CW T L Sx pc) (hlq : ∀ q : Nat, (q : Int) < pc → lQ1 T T q ∧ T 32 q + T 33 q + 3 ≤ 4000) (hu : ∀ q : Nat, (q : Int) < pc → uP T Bu 18 (fun _ => 0) (pU T Bu q) (T 31 q)) : ∀ {Q : Nat} {k k_q l1 : Int}, gPR T C pc Q k k_q l1 → (Q : Int) ≤ pc → k_q ≤ N → ∀ q : Nat, q < Q → ∀ P, Gd (Kc C) N P (C 50 (q + 1)) (pcx T Bu (q : Int))
  | 0, k, k_q, l1, _, _, _, q, hq => by omega
  | Q + 1, k, k_q, l1, h, hQ, hk, q, hq => by
    obtain ⟨a, b, d, m, _, _, h1, h2, h3, h4, x, h5, y, h6, h7⟩ := h
    have h7 : k_q = y := h7
    subst h7
    obtain ⟨i1, i2, i3, i4⟩ := ST_k h3
    obtain ⟨j1, j2, j3, j4⟩ := ST_k h5
    obtain ⟨n1, n2, n3, n4⟩ := ST_k h6
    have le4 := gP_le h4
    have ih := gPr_g hM hcw hlq hu h1 (by omega) (by omega)
    by_cases e : q = Q
    · subst e
      rw [h2]
      intro P
      obtain ⟨V, hv, qa⟩ := hcw.2 q (by omega)
      obtain ⟨a1, a2, a3, a4, a5, a6, a7, a8, a9⟩ := qa
      obtain ⟨⟨b1, b2, b3, b4, b5, b6⟩, b7⟩ := hlq q (by omega)
      obtain ⟨e1, e2, e3, e4, e5⟩ := pc0_e (Bu := Bu) hv a3 ⟨a4, a5⟩ a7 a8 b6
      have eq : ((q : Int)).toNat = q := by omega
      have body : Gd (Kc C) N P b (pc0 T Bu q) := by
        refine gP_g (Bu := Bu) (sb := Sx (q + 1)) (pb := (q : Int)) hM (fun r r0 r1 => ?_) h4 a9 b1 (hu q (by omega)) e1 e2 e3 e4 (by show T 32 q ≤ 4000; omega) (by show T 33 q ≤ 4000; omega) (fun s hs => ?_) e5 (by omega) (by omega) (by omega) (Gs_d ?_)
        · obtain ⟨V_q, hv', qa'⟩ := hcw.2 r.toNat (by omega)
          obtain ⟨c1, c2, c3, c4, c5, c6, c7, c8, c9⟩ := qa'
          obtain ⟨⟨d1, d2, d3, d4, d5, d6⟩, d7⟩ := hlq r.toNat (by omega)
          refine ⟨⟨by unfold Qf; rw [if_pos (by omega)]; omega, fun P => ?_⟩, d2, d4, by rw [c7]; exact c8, fun j j0 j1' => ?_⟩
          · have := ih r.toNat (by omega) P
            have eL : Qf pc r = r + 1 := if_pos (by omega)
            rw [eL, show (r + 1).toNat = r.toNat + 1 by omega, show r = ((r.toNat : Nat) : Int) by omega]
            exact this
          · have := (d6 j.toNat (by omega)).1
            rw [show ((j.toNat : Nat) : Int) = j by omega] at this
            exact this
        · have := QV_vb hv a3 a4 s hs
          omega
        · refine Gs_1 j2 j1 (by omega) (Wf_m s0 s0 s0 (by show ¬ (0 : Int) = 1; decide)) (Or.inr (Or.inr (Or.inr (Or.inr (Or.inr (Or.inr (Or.inr (Or.inr (Or.inr (Or.inr (Or.inr (Or.inl (⟨j3, rfl, rfl, Or.inr ⟨rfl, j4, rfl⟩⟩))))))))))))) (Gs_d (Gs_ret n2 (by omega) (Wf_m s0 s0 s0 (by show ¬ (0 : Int) = 1; decide)) n3 n4 rfl rfl rfl))
      refine Gs_d (Gs_1 i2 i1 (by omega) (Wf_m s0 s0 s0 (by show ¬ (0 : Int) = 1; decide)) (Or.inr (Or.inr (Or.inr (Or.inr (Or.inr (Or.inr (Or.inr (Or.inr (Or.inr (Or.inr (Or.inr (Or.inl (⟨i3, rfl, rfl, Or.inl ⟨by show T 32 ((q : Int)).toNat + 3 = T 32 ((q : Int)).toNat + 3; rfl, by rw [i4]; show -(T 32 q) - 3 = -(T 32 ((q : Int)).toNat + 3); rw [eq]; omega, by unfold pcx pc0 sW; rw [eq]⟩⟩))))))))))))) body)
    · exact ih q (by omega)
