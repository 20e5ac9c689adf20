/-! EACH RULE AS A STEP: signs, checks, the end of a process -/
theorem fault_c {A : Nat → Nat → Int} {p : Int} : faultM A p 66 p.toNat = -1 ∧ ∀ k, k ≠ 66 → k ≠ 67 → faultM A p k = A k := by
  unfold faultM goneM
  exact ⟨uA_eq, fun k a b => by rw [uA_ne a, uA_ne b]⟩
theorem gone_c {A : Nat → Nat → Int} {p : Int} : goneM A p 66 p.toNat = -1 ∧ ∀ k, k ≠ 66 → goneM A p k = A k := by
  unfold goneM
  exact ⟨uA_eq, fun k a => uA_ne a⟩
section
variable {K : Kd} {N : Int} {ty : Int → Int} {g : Int → Fm} {A A_q : Nat → Nat → Int} {p r : Int}
theorem SF_lf (h : SF K N ty g A p r) (hd : cMd (fCx (g r)) ≠ 2) : fSu (g r) = 0 := by
  obtain ⟨a1, a2, a3, a4, a5, a6⟩ := h.1.1.1 r h.2.2.1.1
  have z2 := h.2.2.1.2.1
  by_cases u1 : fSu (g r) = 1
  · have := (a4.2.2.1 u1).2.2.1
    omega
  · by_cases u2 : fSu (g r) = 2
    · exact absurd (a4.2.1 u2).2.2.2.2.2.1 hd
    · have b0 := a1.2.2.2.2.2.2.2.2.2.2.2.1
      have b2 := a1.2.2.2.2.2.2.2.2.2.2.2.2
      omega
theorem SF_b (h : SF K N ty g A p r) : 19 ≤ r ∧ r < 4016 := by
  obtain ⟨a1, a2, a3, a4, a5, a6, a7⟩ := (h.1.1.1 r h.2.2.1.1).1
  omega
/-- it ends, or is stopped -/
theorem st_off (h : SF K N ty g A p r) (hd : cMd (fCx (g r)) = 0) (o : ∀ k, k ≠ 60 → k ≠ 61 → k ≠ 66 → k ≠ 67 → k ≠ 68 → A_q k = A k) (e66 : A_q 66 p.toNat = -1) : Nxs K N ty g (ldM A p) A_q p := by
  have hu := SF_lf h (by omega)
  have z1 := h.2.2.1.1
  have z2 := h.2.2.1.2.1
  have em := ldM_f (p := p) (o 59 (by decide) (by decide) (by decide) (by decide) (by decide))
  refine Nxs_gone (ty_q := ty) (f := fo) h ?_ (Oky_e em) (o 71 (by decide) (by decide) (by decide) (by decide) (by decide)) (o 72 (by decide) (by decide) (by decide) (by decide) (by decide)) (o 73 (by decide) (by decide) (by decide) (by decide) (by decide)) (o 74 (by decide) (by decide) (by decide) (by decide) (by decide)) (o 75 (by decide) (by decide) (by decide) (by decide) (by decide)) (o 76 (by decide) (by decide) (by decide) (by decide) (by decide)) (o 77 (by decide) (by decide) (by decide) (by decide) (by decide)) (fun q => absurd q (show ¬ (0 : Int) = 1 by decide)) (fun q _ => absurd q (show ¬ (0 : Int) = 2 by decide)) e66 (fun _ _ => rfl) (fun l _ _ _ _ => by rw [em])
  rw [em]
  exact MI_off h.1.1 z1 hu (by omega) rfl (fun x => Att_0 z2 (by omega)) (fun _ _ => rfl) (fun _ _ _ => Or.inl rfl)
theorem ru_two {t : Rt} {it im om : Int} (s : Sby K N) (hI : Ib A) (h : SF K N ty g A p r) (v1 : 1 ≤ kV K (fSt (g r))) (v2 : kV K (fSt (g r)) ≤ 11) (hd : cMd (fCx (g r)) = 0)
    (ht : t = r0 ∨ (kV K (fSt (g r)) = 11 ∧ Sum2 (fCx (g r)) t) ∨ (kV K (fSt (g r)) = 1 ∧ (cA (fCx (g r))).1 = 5 ∧ (cB (fCx (g r))).1 = 5 ∧ t = (5, (i32 ((cB (fCx (g r))).2.1 + (cA (fCx (g r))).2.1)).toInt, 0)) ∨ (kV K (fSt (g r)) = 2 ∧ (cA (fCx (g r))).1 = 5 ∧ (cB (fCx (g r))).1 = 5 ∧ t = (5, (i32 ((cB (fCx (g r))).2.1 - (cA (fCx (g r))).2.1)).toInt, 0)))
    (o1 : Gd K N (fun _ _ => False) (fSt (g r) + 1) (sR (fCx (g r)) t (cC (fCx (g r))) (cC (fCx (g r))))) (ha : opR A A_q it im om p (kV K (fSt (g r)))) : Nxs K N ty g (ldM A p) A_q p := by
  obtain ⟨R1, R2, R3⟩ := h.2.2.1.2.2.2.2.2.2.1
  have S := SF_sup h
  have rb := SF_b h
  have iA := hI 60 p.toNat (by decide) (by decide)
  have iB := hI 61 p.toNat (by decide) (by decide)
  by_cases k1 : kV K (fSt (g r)) = 1 ∨ kV K (fSt (g r)) = 11
  · obtain ⟨a, b, _, hA, hB, e⟩ := opR_f1 ha k1
    rcases ht with ht | ⟨_, ht⟩ | ⟨_, c1, c2, ht⟩ | ⟨q, _⟩
    · subst ht
      exact st_two s h o1 s0 Rok_0 e
    · rcases ht with ht | ⟨c1, c2, c3, c4, c5, c6, c7, ht⟩ | ⟨c1, c2, c3, ht⟩ | ⟨c1, c2, c3, ht⟩
      · subst ht
        exact st_two s h o1 s0 Rok_0 e
      · subst ht
        have qa := R1.2.1 c1 (by omega) (by omega)
        have qb := R2.2.2.2.1 c3
        refine st_two s h o1 (Sup_n (by show (2 : Int) ≠ 3; decide)) (Rok_2 (fun _ _ => ?_)) e
        rw [i32_to (by omega) (by omega)]
        omega
      · subst ht
        have qb := R2.1 c3
        refine st_two s h o1 (Sup_n (by show (2 : Int) ≠ 3; decide)) (Rok_2 (fun w1 w2 => ?_)) e
        have qa := R1.2.1 c1 (by omega) (by omega)
        rw [i32_to (by omega) (by omega)]
        omega
      · subst ht
        have qb := R2.1 c3
        have qa := R1.2.2.1 c1 (Or.inl c2)
        refine st_two s h o1 (fun _ => S.1 c1) (Rok_3 (fun w => ?_)) e
        have hr : -2147483648 ≤ a + b ∧ a + b ≤ 2147483647 := by
          rcases w with w | w
          · omega
          · omega
        rw [i32_to hr.1 hr.2]
        omega
    · subst ht
      have qa := R1.2.2.2.1 c1
      have qb := R2.2.2.2.1 c2
      refine st_two s h o1 (Sup_n (by show (5 : Int) ≠ 3; decide)) (Rok_5 ?_) e
      rw [← qa, ← qb, hA, hB, Int.add_comm]
    · omega
  · by_cases k2 : kV K (fSt (g r)) = 2
    · obtain ⟨a, b, _, hA, hB, e⟩ := opR_f2 ha k2
      rcases ht with ht | ⟨q, _⟩ | ⟨q, _⟩ | ⟨_, c1, c2, ht⟩
      · subst ht
        exact st_two s h o1 s0 Rok_0 e
      · omega
      · omega
      · subst ht
        have qa := R1.2.2.2.1 c1
        have qb := R2.2.2.2.1 c2
        refine st_two s h o1 (Sup_n (by show (5 : Int) ≠ 3; decide)) (Rok_5 ?_) e
        rw [← qa, ← qb, hA, hB]
    · rcases opR_f3 ha (by omega) with ⟨v, _, e⟩ | ⟨_, e⟩
      · rcases ht with ht | ⟨q, _⟩ | ⟨q, _⟩ | ⟨q, _⟩
        · subst ht
          exact st_two s h o1 s0 Rok_0 e
        · omega
        · omega
        · omega
      · obtain ⟨c1, c2⟩ := fault_c (A := A) (p := p)
        rw [← e] at c1 c2
        exact st_off h hd (fun k _ _ a b _ => c2 k a b) c1
theorem ru_rev {it im om : Int} (s : Sby K N) (h : SF K N ty g A p r) (v : kV K (fSt (g r)) = 0) (o1 : Gd K N (fun _ _ => False) (fSt (g r) + 1) (sR (fCx (g r)) (cB (fCx (g r))) (cA (fCx (g r))) (cC (fCx (g r))))) (ha : opR A A_q it im om p (kV K (fSt (g r)))) : Nxs K N ty g (ldM A p) A_q p := by
  obtain ⟨a, b, A1, _, hA, hB, e1, e⟩ := opR_f0 ha v
  exact st_rev s h o1 hA hB e1 e
theorem ru_chk {it im om : Int} {S : Sc} (s : Sby K N) (h : SF K N ty g A p r) (v : kV K (fSt (g r)) = 12) (hd : cMd (fCx (g r)) = 0)
    (ht : ∃ t, ((t = r0 ∨ ((cA (fCx (g r))).1 = 5 ∧ t = (1, (cA (fCx (g r))).2.1, 0))) ∧ S = [(fSt (g r) + 1, sR (fCx (g r)) t (cC (fCx (g r))) (cC (fCx (g r))))]) ∨ ((cA (fCx (g r))).1 = 5 ∧ (cB (fCx (g r))).1 = 5 ∧ ((0 ≤ (cB (fCx (g r))).2.1 ∧ (cB (fCx (g r))).2.1 < (cA (fCx (g r))).2.1 ∧ t = (5, (cB (fCx (g r))).2.1, 0) ∧ S = [(fSt (g r) + 1, sR (fCx (g r)) t (cC (fCx (g r))) (cC (fCx (g r))))]) ∨ (¬ (0 ≤ (cB (fCx (g r))).2.1 ∧ (cB (fCx (g r))).2.1 < (cA (fCx (g r))).2.1) ∧ S = []))))
    (hs : ∀ q ∈ S, Gd K N (fun _ _ => False) q.1 q.2) (ha : opR A A_q it im om p (kV K (fSt (g r)))) : Nxs K N ty g (ldM A p) A_q p := by
  obtain ⟨R1, R2, R3⟩ := h.2.2.1.2.2.2.2.2.2.1
  rcases opR_f12 ha v with ⟨a, b, _, hA, hB, hc, e⟩ | ⟨a, b, A1, _, hA, hB, hc, t1, e⟩
  · obtain ⟨t, ⟨ht, hS⟩ | ⟨c1, c2, ⟨c3, c4, ht, hS⟩ | ⟨c3, _⟩⟩⟩ := ht
    · have o1 := Gd_1 hs hS
      rcases ht with ht | ⟨c1, ht⟩
      · subst ht
        exact st_take s h o1 s0 Rok_0 e
      · subst ht
        have qa := R1.2.2.2.1 c1
        exact st_take s h o1 (Sup_n (by show (1 : Int) ≠ 3; decide)) (Rok_1 (by omega)) e
    · have o1 := Gd_1 hs hS
      subst ht
      have qb := R2.2.2.2.1 c2
      exact st_take s h o1 (Sup_n (by show (5 : Int) ≠ 3; decide)) (Rok_5 qb) e
    · have qa := R1.2.2.2.1 c1
      have qb := R2.2.2.2.1 c2
      exact absurd ⟨by omega, by omega⟩ c3
  · obtain ⟨c1, c2⟩ := fault_c (A := A1) (p := p)
    rw [← e] at c1 c2
    refine st_off h hd (fun k z0 z1 a b _ => ?_) c1
    rw [c2 k a b, t1]
    exact take_c.2.2 k z0 z1
theorem ru_ldp {it im om : Int} (s : Sby K N) (kb : Kb K) (h : SF K N ty g A p r) (v : kV K (fSt (g r)) = 13) (ca : (cA (fCx (g r))).1 = 5) (ht : ∃ t, kP K t = kP K (fSt (g r) + 1) + (cA (fCx (g r))).2.1) (o1 : Gd K N (fun _ _ => False) (fSt (g r) + 1) (sR (fCx (g r)) (5, kP K (fSt (g r) + 1) + (cA (fCx (g r))).2.1, 0) (cB (fCx (g r))) (cC (fCx (g r))))) (ha : opR A A_q it im om p (kV K (fSt (g r)))) : Nxs K N ty g (ldM A p) A_q p := by
  obtain ⟨a, i, _, hA, hi, e⟩ := opR_f13 ha v
  exact st_ldp s h kb ca ht o1 hA hi rfl e
theorem ru_stop {it im om : Int} (h : SF K N ty g A p r) (v : kV K (fSt (g r)) = 18 ∨ kV K (fSt (g r)) = 29) (hd : cMd (fCx (g r)) = 0) (ha : opR A A_q it im om p (kV K (fSt (g r)))) : Nxs K N ty g (ldM A p) A_q p := by
  rcases v with v | v
  · obtain ⟨_, e⟩ := opR_f18 ha v
    obtain ⟨c1, c2⟩ := gone_c (A := A) (p := p)
    rw [← e] at c1 c2
    exact st_off h hd (fun k _ _ a _ _ => c2 k a) c1
  · obtain ⟨_, e⟩ := opR_f29 ha v
    obtain ⟨c1, c2⟩ := fault_c (A := A) (p := p)
    rw [← e] at c1 c2
    exact st_off h hd (fun k _ _ a b _ => c2 k a b) c1
theorem ru_done {it im om : Int} (h : SF K N ty g A p r) (v : kV K (fSt (g r)) = 31) (hd : cMd (fCx (g r)) = 0) (ha : opR A A_q it im om p (kV K (fSt (g r)))) : Nxs K N ty g (ldM A p) A_q p := by
  obtain ⟨A1, _, e1, e⟩ := opR_f31 ha v
  obtain ⟨c1, c2⟩ := gone_c (A := A1) (p := p)
  rw [← e] at c1 c2
  refine st_off h hd (fun k _ _ a _ b => ?_) c1
  rw [c2 k a, e1, uA_ne b]
end
