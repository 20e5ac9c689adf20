/-! PAR keeps the rules: the code -/
/-- a place of the code comes to A -/
theorem PL_g {C : Nat → Nat → Int} {N : Int} {P : Int → Cx → Prop} {X : Cx} {k k_q l l0 l1 : Int} (h : PL C k k_q l l0 l1) (hl : 0 < l) (hk : k_q ≤ N) (w : ∀ a b d : Rt, Sup (cCp X) a → Sup (cCp X) b → Sup (cCp X) d → Wf (sR X a b d)) (sA : Sup (cCp X) (cA X)) (sB : Sup (cCp X) (cB X)) (sD : Sup (cCp X) (cC X)) (g : Gd (Kc C) N P k_q (sR X (5, kP (Kc C) (C 50 l.toNat), 0) (cA X) (cB X))) : Gs (Kc C) N P k X := by
  obtain ⟨a, b, h1, h2, h3, h4, h5, h6⟩ := h
  obtain ⟨y1, y2, y3, y4, y5⟩ := h1
  obtain ⟨i1, i2, i3, i4⟩ := ST_k h2
  have n5 : ∀ (l : List Cp) (z w : Int), Sup l (5, z, w) := fun l z w q => absurd q (by show ¬ (5 : Int) = 3; decide)
  have kv : kV (Kc C) k = C 49 (C 50 l.toNat).toNat - C 49 k_q.toNat := by
    have e : kV (Kc C) k = wy C k := vl_w (by omega)
    rw [e]
    unfold wy
    rw [if_neg (by omega), y4, y5, h6]
  refine Gs_psh (t := (5, kV (Kc C) k, 0)) y2 y1 (by omega) (w _ _ _ sA sB sD) (Or.inl ⟨y3, Or.inl rfl⟩) (Gs_d (Gs_ldp i2 i1 hk (w _ _ _ (n5 _ _ _) sA sB) i3 i4 rfl ⟨C 50 l.toNat, ?_⟩ ?_))
  · show kP (Kc C) (C 50 l.toNat) = kP (Kc C) (a + 1) + kV (Kc C) k
    rw [kv, ← i1]
    show C 49 (C 50 l.toNat).toNat = C 49 k_q.toNat + (C 49 (C 50 l.toNat).toNat - C 49 k_q.toNat)
    omega
  have e2 : kP (Kc C) (a + 1) + kV (Kc C) k = kP (Kc C) (C 50 l.toNat) := by
    rw [kv, ← i1]
    show C 49 k_q.toNat + (C 49 (C 50 l.toNat).toNat - C 49 k_q.toNat) = C 49 (C 50 l.toNat).toNat
    omega
  show Gd (Kc C) N P k_q (sR X (5, kP (Kc C) (a + 1) + kV (Kc C) k, 0) (cA X) (cB X))
  rw [e2]
  exact g
/-- while the branches are started -/
def phx (c : Cx) (l : List (Int × Int)) (w : Int) : Cx := (c.1, [], (r0, r0, r0), (2, l, [w]))
theorem phx_w {c : Cx} {l : List (Int × Int)} {w : Int} (a b d : Rt) (s1 : Sup [] a) (s2 : Sup [] b) (s3 : Sup [] d) : Wf (sR (phx c l w) a b d) := ⟨s1, s2, s3, fun _ _ q => absurd q (by show ¬ (2 : Int) = 1; decide)⟩
theorem gB1_g {T C : Nat → Nat → Int} {La : Int → Int} {N : Int} {P : Int → Cx → Prop} {c : Cx} {p w : Int} {m : Nat} (dw : cDw c = 0) (h29 : T 15 p.toNat ≠ 29 → 2 ≤ (m : Int)) (hLa : ∀ j : Nat, j < m → 0 < La (j : Int)) : ∀ {i : Nat} {k k_q l0 l1 : Int}, gB1 T C La p i k k_q l0 l1 → i ≤ m → k_q ≤ N → Gd (Kc C) N P k_q (phx c (((List.range m).map (fun j => (dpt T p j + T 26 (kid T p j).toNat, C 50 (La (j : Int)).toNat))).drop i) w) → Gd (Kc C) N P k (phx c ((List.range m).map (fun j => (dpt T p j + T 26 (kid T p j).toNat, C 50 (La (j : Int)).toNat))) w)
  | 0, k, k_q, l0, l1, h, _, _, g => by
    have h : k_q = k := h.1
    subst h
    exact g
  | i + 1, k, k_q, l0, l1, h, hi, hk, g => by
    obtain ⟨a, b, m2, _, _, _, h1, h2, x, h3, y, h4, h5⟩ := h
    have h5 : k_q = y := h5
    subst h5
    obtain ⟨i1, i2, i3, i4⟩ := ST_k h3
    obtain ⟨j1, j2, j3, j4⟩ := ST_k h4
    have l2 := PL_le h2
    refine gB1_g dw h29 hLa h1 (by omega) (by omega) ?_
    have ed : ((List.range m).map (fun j => (dpt T p j + T 26 (kid T p j).toNat, C 50 (La (j : Int)).toNat))).drop i = (dpt T p i + T 26 (kid T p i).toNat, C 50 (La (i : Int)).toNat) :: ((List.range m).map (fun j => (dpt T p j + T 26 (kid T p j).toNat, C 50 (La (j : Int)).toNat))).drop (i + 1) := by
      have hl : i < ((List.range m).map (fun j => (dpt T p j + T 26 (kid T p j).toNat, C 50 (La (j : Int)).toNat))).length := by
        rw [List.length_map, List.length_range]
        omega
      rw [List.drop_eq_getElem_cons hl]
      congr 1
      rw [List.getElem_map, List.getElem_range]
    rw [ed]
    have n5 : ∀ (l : List Cp) (z w : Int), Sup l (5, z, w) := fun l z w q => absurd q (by show ¬ (5 : Int) = 3; decide)
    have n2' : ∀ (l : List Cp) (z w : Int), Sup l (2, z, w) := fun l z w q => absurd q (by show ¬ (2 : Int) = 3; decide)
    refine Gs_d (PL_g h2 (hLa i (by omega)) (by omega) phx_w s0 s0 s0 (Gs_d (Gs_psh (t := (2, -(dpt T p i + T 26 (kid T p i).toNat), 1)) i2 i1 (by omega) (phx_w _ _ _ (n5 _ _ _) s0 s0) (Or.inr (Or.inl ⟨i3, dw, by rw [i4, show -dpt T p i - T 26 (kid T p i).toNat = -(dpt T p i + T 26 (kid T p i).toNat) by omega]⟩)) (Gs_d (Gs_1 j2 j1 hk (phx_w _ _ _ (n2' _ _ _) (n5 _ _ _) s0) (Or.inr (Or.inr (Or.inr (Or.inr (Or.inr (Or.inr (Or.inr (Or.inr (Or.inr (Or.inr (Or.inr (Or.inr (Or.inr (Or.inr (Or.inr (Or.inr (Or.inr (Or.inl (⟨j3, ?_, rfl, _, _, _, rfl, ?_, rfl, rfl, rfl, rfl⟩))))))))))))))))))) g)))))
    · rw [j4]
      unfold pri
      split
      · exact Or.inr rfl
      · exact Or.inl rfl
    · intro q e
      rw [j4] at q
      have hp : (i : Int) = 0 ∧ T 15 p.toNat ≠ 29 := by
        unfold pri at q
        by_cases w : (i : Int) = 0 ∧ T 15 p.toNat ≠ 29 ∧ T 17 p.toNat = 1
        · exact ⟨w.1, w.2.1⟩
        · rw [if_neg w] at q
          exact absurd q (by decide)
      have l1 := congrArg List.length e
      rw [List.length_drop, List.length_map, List.length_range, List.length_nil] at l1
      have := h29 hp.2
      omega
/-- the branches themselves -/
theorem gB2_g {T C : Nat → Nat → Int} {La F S : Int → Int} {nw N : Int} {P : Int → Cx → Prop} {R : (Int → Int) → (Int → Int) → Int → Int → Int → Int → Int → Int → Prop} {p : Int} {m : Nat} {ci : Nat → Cx} (hle : ∀ F S nw c a b u v, R F S nw c a b u v → a ≤ b) (hci : ∀ j : Nat, j < m → cEk (ci j) = 2 ∧ cPd (ci j) = T 25 p.toNat + (dpt T p j + T 26 (kid T p j).toNat) ∧ cDw (ci j) = 0 ∧ (ci j).2.2 = ((r0, r0, r0), (0, [], []))) (hR : ∀ j : Nat, j < m → ∀ a b u v, R (fB T F nw p j) (sB T S p j) (nw + 1) (kid T p j) a b u v → b ≤ N → Gd (Kc C) N P b (ci j) → Gd (Kc C) N P a (ci j)) : ∀ {i : Nat} {k k_q l0 l1 : Int}, gB2 T C R La F S nw p i k k_q l0 l1 → i ≤ m → k_q ≤ N → ∀ j : Nat, j < i → Gd (Kc C) N P (C 50 (La (j : Int)).toNat) (ci j)
  | 0, k, k_q, l0, l1, h, _, _, j, hj => by omega
  | i + 1, k, k_q, l0, l1, h, hi, hk, j, hj => by
    obtain ⟨a, b, m2, _, _, h1, h2, h3, x, h4, y, h5, h6⟩ := h
    have h6 : k_q = y := h6
    subst h6
    obtain ⟨i1, i2, i3, i4⟩ := ST_k h4
    obtain ⟨j1, j2, j3, j4⟩ := ST_k h5
    have l3 := hle _ _ _ _ _ _ _ _ h3
    by_cases e : j = i
    · subst e
      rw [h2]
      obtain ⟨c1, c2, c3, c4⟩ := hci j (by omega)
      have eR : (ci j).2.2.1 = (r0, r0, r0) := congrArg (fun t : (Rt × Rt × Rt) × Mo => t.1) c4
      have eM : (ci j).2.2.2 = (0, [], []) := congrArg (fun t : (Rt × Rt × Rt) × Mo => t.2) c4
      have eA : cA (ci j) = r0 := congrArg (fun t : Rt × Rt × Rt => t.1) eR
      have eB : cB (ci j) = r0 := congrArg (fun t : Rt × Rt × Rt => t.2.1) eR
      have eC : cC (ci j) = r0 := congrArg (fun t : Rt × Rt × Rt => t.2.2) eR
      have md : cMd (ci j) = 0 := congrArg (fun q : Mo => q.1) eM
      have nm : cMd (ci j) ≠ 1 := by omega
      refine hR j (by omega) _ _ _ _ h3 (by omega) (Gs_d (Gs_psh (t := (2, cPd (ci j), 1)) i2 i1 (by omega) (Wf_m (by rw [eA]; exact s0) (by rw [eB]; exact s0) (by rw [eC]; exact s0) nm) (Or.inr (Or.inl ⟨i3, c3, by rw [i4, c2, show T 25 p.toNat + (dpt T p j + T 26 (kid T p j).toNat) = T 25 p.toNat + dpt T p j + T 26 (kid T p j).toNat by omega]⟩)) (Gs_d (Gs_edp j2 (by omega) (Wf_m (fun q => absurd q (by show ¬ (2 : Int) = 3; decide)) (by show Sup (cCp (ci j)) (cA (ci j)); rw [eA]; exact s0) (by show Sup (cCp (ci j)) (cB (ci j)); rw [eB]; exact s0) nm) j3 j4 c1 md rfl))))
    · exact gB2_g hle hci hR h1 (by omega) (by omega) j (by omega)
theorem dpt_le {T : Nat → Nat → Int} {p : Int} : ∀ {j i : Nat}, (∀ k : Nat, k < j → 0 ≤ T 26 (kid T p k).toNat ∧ 0 ≤ T 27 (kid T p k).toNat) → i < j → dpt T p i + T 26 (kid T p i).toNat + T 27 (kid T p i).toNat + 3 ≤ dpt T p j
  | 0, i, _, hi => by omega
  | j + 1, i, h, hi => by
    show _ ≤ dpt T p j + T 26 (kid T p j).toNat + T 27 (kid T p j).toNat + 3
    by_cases e : i = j
    · subst e
      exact Int.le_refl _
    · have := dpt_le (T := T) (p := p) (j := j) (i := i) (fun k hk => h k (by omega)) (by omega)
      have := h j (by omega)
      omega
