/-! EACH RULE AS A STEP: registers -/
theorem Sup_n {l : List Cp} {t : Rt} (h : t.1 ≠ 3) : Sup l t := fun q => absurd q h
theorem Gd_1 {K : Kd} {N : Int} {P : Int → Cx → Prop} {S : Sc} {j : Int} {c : Cx} (hs : ∀ q ∈ S, Gd K N P q.1 q.2) (e : S = [(j, c)]) : Gd K N P j c := hs (j, c) (by rw [e]; exact List.mem_singleton.mpr rfl)
section
variable {K : Kd} {N : Int} {ty : Int → Int} {g : Int → Fm} {A A_q : Nat → Nat → Int} {p r : Int}
theorem SF_sup (h : SF K N ty g A p r) : Sup (cCp (fCx (g r))) (cA (fCx (g r))) ∧ Sup (cCp (fCx (g r))) (cB (fCx (g r))) ∧ Sup (cCp (fCx (g r))) (cC (fCx (g r))) := by
  have s := (h.1.1.1 r h.2.2.1.1).2.2.2.1.2.2.2.2.2.2
  exact ⟨s.1, s.2.1, s.2.2.1⟩
/-- a value comes -/
theorem st_psh {t : Rt} {v : Int} (s : Sby K N) (h : SF K N ty g A p r) (o1 : Gd K N (fun _ _ => False) (fSt (g r) + 1) (sR (fCx (g r)) t (cA (fCx (g r))) (cB (fCx (g r))))) (ht : Sup (cCp (fCx (g r))) t) (hv : Rok (ldM A p) r (fPb (g r)) t v) (e : A_q = comeM A p v) : Nxs K N ty g (ldM A p) A_q p := by
  obtain ⟨c1, c2, c3, c4⟩ := come_c (A := A) (p := p) (v := v)
  rw [← e] at c1 c2 c3 c4
  have R := h.2.2.1.2.2.2.2.2.2.1
  have S := SF_sup h
  refine Nxs_reg s h (fun k a b c _ _ => c4 k a b c) (by rw [c4 63 (by decide) (by decide) (by decide)]; exact h.2.2.1.2.2.2.2.1) o1 rfl rfl rfl ⟨ht, S.1, S.2.1⟩ ⟨?_, ?_, ?_⟩
  · rw [c1]
    exact hv
  · rw [c2]
    exact R.1
  · rw [c3]
    exact R.2.1
/-- A gets another value -/
theorem st_any {v : Int} (s : Sby K N) (h : SF K N ty g A p r) (o1 : Gd K N (fun _ _ => False) (fSt (g r) + 1) (sR (fCx (g r)) r0 (cB (fCx (g r))) (cC (fCx (g r))))) (e : A_q = uA A 60 p.toNat v) : Nxs K N ty g (ldM A p) A_q p := by
  have R := h.2.2.1.2.2.2.2.2.2.1
  have S := SF_sup h
  have o : ∀ k, k ≠ 60 → A_q k = A k := fun k a => by
    rw [e]
    exact uA_ne a
  refine Nxs_reg s h (fun k a _ _ _ _ => o k a) (by rw [o 63 (by decide)]; exact h.2.2.1.2.2.2.2.1) o1 rfl rfl rfl ⟨s0, S.2.1, S.2.2⟩ ⟨Rok_0, ?_, ?_⟩
  · rw [o 61 (by decide)]
    exact R.2.1
  · rw [o 62 (by decide)]
    exact R.2.2
/-- A and B are taken, a value comes -/
theorem st_two {t : Rt} {v : Int} (s : Sby K N) (h : SF K N ty g A p r) (o1 : Gd K N (fun _ _ => False) (fSt (g r) + 1) (sR (fCx (g r)) t (cC (fCx (g r))) (cC (fCx (g r))))) (ht : Sup (cCp (fCx (g r))) t) (hv : Rok (ldM A p) r (fPb (g r)) t v) (e : A_q = twoM A p v) : Nxs K N ty g (ldM A p) A_q p := by
  obtain ⟨c1, c2, c3, c4⟩ := two_c (A := A) (p := p) (v := v)
  rw [← e] at c1 c2 c3 c4
  have R := h.2.2.1.2.2.2.2.2.2.1
  have S := SF_sup h
  refine Nxs_reg s h (fun k a b c _ _ => c4 k a b c) (by rw [c4 63 (by decide) (by decide) (by decide)]; exact h.2.2.1.2.2.2.2.1) o1 rfl rfl rfl ⟨ht, S.2.2, S.2.2⟩ ⟨?_, ?_, ?_⟩
  · rw [c1]
    exact hv
  · rw [c2]
    exact R.2.2
  · rw [c3]
    exact R.2.2
/-- A is taken (t: what B is known as) -/
theorem st_take {t : Rt} (s : Sby K N) (h : SF K N ty g A p r) (o1 : Gd K N (fun _ _ => False) (fSt (g r) + 1) (sR (fCx (g r)) t (cC (fCx (g r))) (cC (fCx (g r))))) (ht : Sup (cCp (fCx (g r))) t) (hv : Rok (ldM A p) r (fPb (g r)) t (A 61 p.toNat)) (e : A_q = takeM A p) : Nxs K N ty g (ldM A p) A_q p := by
  obtain ⟨c1, c2, c4⟩ := take_c (A := A) (p := p)
  rw [← e] at c1 c2 c4
  have R := h.2.2.1.2.2.2.2.2.2.1
  have S := SF_sup h
  refine Nxs_reg s h (fun k a b _ _ _ => c4 k a b) (by rw [c4 63 (by decide) (by decide)]; exact h.2.2.1.2.2.2.2.1) o1 rfl rfl rfl ⟨ht, S.2.2, S.2.2⟩ ⟨?_, ?_, ?_⟩
  · rw [c1]
    exact hv
  · rw [c2]
    exact R.2.2
  · rw [c4 62 (by decide) (by decide)]
    exact R.2.2
/-- A and B change places -/
theorem st_rev {ra rb : Int} {A1 : Nat → Nat → Int} (s : Sby K N) (h : SF K N ty g A p r) (o1 : Gd K N (fun _ _ => False) (fSt (g r) + 1) (sR (fCx (g r)) (cB (fCx (g r))) (cA (fCx (g r))) (cC (fCx (g r))))) (ha : A 60 p.toNat = ra) (hb : A 61 p.toNat = rb) (e1 : A1 = uA A 60 p.toNat rb) (e : A_q = uA A1 61 p.toNat ra) : Nxs K N ty g (ldM A p) A_q p := by
  have R := h.2.2.1.2.2.2.2.2.2.1
  have S := SF_sup h
  have o : ∀ k, k ≠ 60 → k ≠ 61 → A_q k = A k := fun k a b => by
    rw [e, e1, uA_ne b, uA_ne a]
  refine Nxs_reg s h (fun k a b _ _ _ => o k a b) (by rw [o 63 (by decide) (by decide)]; exact h.2.2.1.2.2.2.2.1) o1 rfl rfl rfl ⟨S.2.1, S.1, S.2.2⟩ ⟨?_, ?_, ?_⟩
  · rw [e, uA_ne (by decide), e1, uA_eq, ← hb]
    exact R.2.1
  · rw [e, uA_eq, ← ha]
    exact R.1
  · rw [o 62 (by decide) (by decide)]
    exact R.2.2
/-- it goes on elsewhere (a: what it still knows) -/
theorem st_jmp {t v : Int} {c_q : Cx} (s : Sby K N) (h : SF K N ty g A p r) (o1 : Gd K N (fun _ _ => False) t c_q) (hc : c_q = fCx (g r) ∨ c_q = a0 (fCx (g r))) (hv : v = kP K t) (e : A_q = uA A 63 p.toNat v) : Nxs K N ty g (ldM A p) A_q p := by
  have R := h.2.2.1.2.2.2.2.2.2.1
  have S := SF_sup h
  have o : ∀ k, k ≠ 63 → A_q k = A k := fun k a => by
    rw [e]
    exact uA_ne a
  have e63 : A_q 63 p.toNat = kP K t := by
    rw [e, uA_eq]
    exact hv
  rcases hc with hc | hc
  · subst hc
    refine Nxs_reg s h (fun k _ _ _ a _ => o k a) e63 o1 rfl rfl rfl S ⟨?_, ?_, ?_⟩
    · rw [o 60 (by decide)]
      exact R.1
    · rw [o 61 (by decide)]
      exact R.2.1
    · rw [o 62 (by decide)]
      exact R.2.2
  · subst hc
    exact Nxs_reg s h (fun k _ _ _ a _ => o k a) e63 o1 rfl rfl rfl ⟨s0, s0, s0⟩ ⟨Rok_0, Rok_0, Rok_0⟩
/-- a place of the code -/
theorem st_ldp {ra ri v : Int} (s : Sby K N) (h : SF K N ty g A p r) (kb : ∀ t, -2147483648 ≤ kP K t ∧ kP K t ≤ 2147483647) (ca : (cA (fCx (g r))).1 = 5) (ht : ∃ t, kP K t = kP K (fSt (g r) + 1) + (cA (fCx (g r))).2.1) (o1 : Gd K N (fun _ _ => False) (fSt (g r) + 1) (sR (fCx (g r)) (5, kP K (fSt (g r) + 1) + (cA (fCx (g r))).2.1, 0) (cB (fCx (g r))) (cC (fCx (g r)))))
    (ha : A 60 p.toNat = ra) (hi : A 63 p.toNat = ri) (hv : v = (i32 (ri + ra)).toInt) (e : A_q = uA A 60 p.toNat v) : Nxs K N ty g (ldM A p) A_q p := by
  have R := h.2.2.1.2.2.2.2.2.2.1
  have S := SF_sup h
  have s5 := h.2.2.1.2.2.2.2.1
  have o : ∀ k, k ≠ 60 → A_q k = A k := fun k a => by
    rw [e]
    exact uA_ne a
  have q := R.1.2.2.2.1 ca
  obtain ⟨t, ht⟩ := ht
  have b := kb t
  refine Nxs_reg s h (fun k a _ _ _ _ => o k a) (by rw [o 63 (by decide)]; exact s5) o1 rfl rfl rfl ⟨Sup_n (by show (5 : Int) ≠ 3; decide), S.2.1, S.2.2⟩ ⟨?_, ?_, ?_⟩
  · rw [e, uA_eq, hv, i32_to (by omega) (by omega)]
    refine ⟨fun w => absurd w (show ¬ (5 : Int) = 1 by decide), fun w => absurd w (show ¬ (5 : Int) = 2 by decide), fun w => absurd w (show ¬ (5 : Int) = 3 by decide), fun _ => ?_, fun w => absurd w (show ¬ (5 : Int) = 6 by decide)⟩
    show ri + ra = kP K (fSt (g r) + 1) + (cA (fCx (g r))).2.1
    omega
  · rw [o 61 (by decide)]
    exact R.2.1
  · rw [o 62 (by decide)]
    exact R.2.2
end
theorem Rok_5 {m : Int → Int} {W b v z : Int} (h : v = z) : Rok m W b (5, z, 0) v := ⟨fun w => absurd w (show ¬ (5 : Int) = 1 by decide), fun w => absurd w (show ¬ (5 : Int) = 2 by decide), fun w => absurd w (show ¬ (5 : Int) = 3 by decide), fun _ => h, fun w => absurd w (show ¬ (5 : Int) = 6 by decide)⟩
theorem Rok_1 {m : Int → Int} {W b v z y : Int} (h : 0 ≤ v ∧ v < z) : Rok m W b (1, z, y) v := ⟨fun _ => h, fun w => absurd w (show ¬ (1 : Int) = 2 by decide), fun w => absurd w (show ¬ (1 : Int) = 3 by decide), fun w => absurd w (show ¬ (1 : Int) = 5 by decide), fun w => absurd w (show ¬ (1 : Int) = 6 by decide)⟩
theorem Rok_2 {m : Int → Int} {W b v z y : Int} (h : -2000000 ≤ W + z → W + z + y ≤ 2000000 → W + z ≤ v ∧ v < W + z + y) : Rok m W b (2, z, y) v := ⟨fun w => absurd w (show ¬ (2 : Int) = 1 by decide), fun _ => h, fun w => absurd w (show ¬ (2 : Int) = 3 by decide), fun w => absurd w (show ¬ (2 : Int) = 5 by decide), fun w => absurd w (show ¬ (2 : Int) = 6 by decide)⟩
theorem Rok_3 {m : Int → Int} {W b v z y : Int} (h : (y = 1 ∨ (-2000000 ≤ m (W + z) ∧ m (W + z) + y ≤ 2000000)) → m (W + z) ≤ v ∧ v < m (W + z) + y) : Rok m W b (3, z, y) v := ⟨fun w => absurd w (show ¬ (3 : Int) = 1 by decide), fun w => absurd w (show ¬ (3 : Int) = 2 by decide), fun _ => h, fun w => absurd w (show ¬ (3 : Int) = 5 by decide), fun w => absurd w (show ¬ (3 : Int) = 6 by decide)⟩
theorem Rok_6 {m : Int → Int} {W b v : Int} (h : v = 2 * W + b) : Rok m W b (6, 0, 0) v := ⟨fun w => absurd w (show ¬ (6 : Int) = 1 by decide), fun w => absurd w (show ¬ (6 : Int) = 2 by decide), fun w => absurd w (show ¬ (6 : Int) = 3 by decide), fun w => absurd w (show ¬ (6 : Int) = 5 by decide), fun _ => h⟩
