/-! DISPATCH KEEPS THE STATE -/
theorem SI_d1 {K : Kd} {N : Int} {ty : Int → Int} {g : Int → Fm} {A A_q : Nat → Nat → Int} {p q b i : Int} (s : Sby K N) (h : SK K N ty g A p) (hn : ∀ W, fOn (g W) = 1 → fSx (g W) ≠ 0) (hp : 0 ≤ p) (hb : b = 0 ∨ b = 1) (hq : q = 2 * p + b)
    (hr : Rdy g b (A 72 q.toNat) (rw0 A q)) (hro : Rdy g (1 - b) (A 72 (2 * p + 1 - b).toNat) (rw0 A (2 * p + 1 - b))) (h0 : 0 < A 72 q.toNat) (hi : i = A 72 q.toNat - 1)
    (hd : (¬ (q = 2 * p + 1 ∧ A 73 p.toNat ≠ 0) ∧ A_q = gtM (shM (tkM A p q) q i) p) ∨ (q = 2 * p + 1 ∧ A 73 p.toNat ≠ 0 ∧ A_q = kpM (gtM (shM (tkM A p q) q i) p) p)) :
    ∃ r, fOn (g r) = 1 ∧ fSx (g r) = 1 ∧ (fPb (g r) = 1 → rw0 A (2 * p + 1) 0 = 2 * fR g r + 1) ∧ SI K N ty (ug g r (ws (g r) 0 (fCh (g r)) (fSt (g r)) (fCx (g r)))) A_q p := by
  obtain ⟨V, v1, v2, v3, v4⟩ := hr.2.1 0 (by omega) h0
  have vb := fR_in h.1 v2
  have lo := Rdy_le h.1 (by omega) (by omega) hr
  have z0 : A 71 (1100 * q).toNat = rw0 A q 0 := by
    show _ = A 71 (1100 * q + 0).toNat
    rw [Int.add_zero]
  obtain ⟨D, hD⟩ : ∃ D, D = gtM (shM (tkM A p q) q i) p := ⟨_, rfl⟩
  rw [← hD] at hd
  have d59 : D 59 = A 59 := by
    rw [hD]
    exact (gt_o ⟨by decide, by decide⟩).trans (tk_o ⟨by decide, by decide, by decide, by decide, by decide, by decide, by decide, by decide⟩)
  have d74 : D 74 = A 74 := by
    rw [hD]
    exact (gt_o ⟨by decide, by decide⟩).trans (tk_o ⟨by decide, by decide, by decide, by decide, by decide, by decide, by decide, by decide⟩)
  have d75 : D 75 = A 75 := by
    rw [hD]
    exact (gt_o ⟨by decide, by decide⟩).trans (tk_o ⟨by decide, by decide, by decide, by decide, by decide, by decide, by decide, by decide⟩)
  have d76 : D 76 = A 76 := by
    rw [hD]
    exact (gt_o ⟨by decide, by decide⟩).trans (tk_o ⟨by decide, by decide, by decide, by decide, by decide, by decide, by decide, by decide⟩)
  have d77 : D 77 = A 77 := by
    rw [hD]
    exact (gt_o ⟨by decide, by decide⟩).trans (tk_o ⟨by decide, by decide, by decide, by decide, by decide, by decide, by decide, by decide⟩)
  have d73 : D 73 = A 73 := by
    rw [hD]
    exact (gt_o ⟨by decide, by decide⟩).trans tk_73
  have d72 : D 72 q.toNat = A 72 q.toNat - 1 := by
    rw [hD]
    exact (congrFun (gt_o ⟨by decide, by decide⟩) _).trans tk_72
  have d72o : D 72 (2 * p + 1 - b).toNat = A 72 (2 * p + 1 - b).toNat := by
    rw [hD]
    exact (congrFun (gt_o ⟨by decide, by decide⟩) _).trans (tk_72o (by omega))
  have d71 : ∀ k, 0 ≤ k → k < A 72 q.toNat - 1 → rw0 D q k = rw0 A q (k + 1) := fun k a c => by
    rw [hD]
    exact (congrFun (gt_o ⟨by decide, by decide⟩) _).trans (tk_71 (by omega) a (by omega))
  have d71o : ∀ k, 0 ≤ k → k < 1100 → rw0 D (2 * p + 1 - b) k = rw0 A (2 * p + 1 - b) k := fun k a c => by
    rw [hD]
    exact (congrFun (gt_o ⟨by decide, by decide⟩) _).trans (tk_71o (by omega))
  have d66 : D 66 p.toNat = rw0 A q 0 := by
    rw [hD, ← z0]
    exact (congrFun (gt_o ⟨by decide, by decide⟩) _).trans tk_66
  have sh : (i32 (shM (tkM A p q) q i 66 p.toNat) >>> (i32 1 &&& 31)).toInt = rw0 A q 0 / 2 := by
    rw [tk_66, z0]
    exact shr_1 (by omega) (by omega)
  have d64 : D 64 p.toNat = rw0 A q 0 / 2 := by
    rw [hD, gt_64]
    exact sh
  have d63 : D 63 p.toNat = ldM A p (rw0 A q 0 / 2 - 1) := by
    rw [hD, gt_63, sh]
    exact ldM_k (tk_o ⟨by decide, by decide, by decide, by decide, by decide, by decide, by decide, by decide⟩)
  have d65 : D 65 p.toNat = 0 := by
    rw [hD]
    exact (congrFun (gt_o ⟨by decide, by decide⟩) _).trans tk_60.2.2.2
  rcases hd with ⟨k1, k2⟩ | ⟨k1, k2, k3⟩
  · subst k2
    exact SI_tk s h hn hb hq hr hro h0 d59 d72 d72o d71 d71o d66 d64 d63 ⟨d74, d75, d76, d77⟩ (Or.inl ⟨fun w => k1 ⟨by omega, w.2⟩, congrFun d73 _, d65⟩)
  · have o : ∀ k, k ≠ 60 ∧ k ≠ 61 ∧ k ≠ 62 ∧ k ≠ 65 ∧ k ≠ 73 → A_q k = D k := fun k w => by
      rw [k3]
      exact kp_o w
    have o59 := o 59 ⟨by decide, by decide, by decide, by decide, by decide⟩
    have o63 := o 63 ⟨by decide, by decide, by decide, by decide, by decide⟩
    have o64 := o 64 ⟨by decide, by decide, by decide, by decide, by decide⟩
    have o66 := o 66 ⟨by decide, by decide, by decide, by decide, by decide⟩
    have o71 := o 71 ⟨by decide, by decide, by decide, by decide, by decide⟩
    have o72 := o 72 ⟨by decide, by decide, by decide, by decide, by decide⟩
    have o74 := o 74 ⟨by decide, by decide, by decide, by decide, by decide⟩
    have o75 := o 75 ⟨by decide, by decide, by decide, by decide, by decide⟩
    have o76 := o 76 ⟨by decide, by decide, by decide, by decide, by decide⟩
    have o77 := o 77 ⟨by decide, by decide, by decide, by decide, by decide⟩
    obtain ⟨k60, k61, k62, k65, k73⟩ := kp_60 (D := D) (p := p)
    rw [← k3] at k60 k61 k62 k65 k73
    rw [d74] at k60
    rw [d75] at k61
    rw [d76] at k62
    rw [d77] at k65
    exact SI_tk s h hn hb hq hr hro h0 (o59.trans d59) ((congrFun o72 _).trans d72) ((congrFun o72 _).trans d72o) (fun k a c => (congrFun o71 _).trans (d71 k a c)) (fun k a c => (congrFun o71 _).trans (d71o k a c)) ((congrFun o66 _).trans d66) ((congrFun o64 _).trans d64) ((congrFun o63 _).trans d63) ⟨o74.trans d74, o75.trans d75, o76.trans d76, o77.trans d77⟩ (Or.inr ⟨by omega, k2, k73, k60, k61, k62, k65⟩)
/-- dispatch, when none runs -/
theorem SI_dsp {K : Kd} {N : Int} {ty : Int → Int} {g : Int → Fm} {A A_q : Nat → Nat → Int} {p : Int} (s : Sby K N) (h : SK K N ty g A p) (hn : ∀ W, fOn (g W) = 1 → fSx (g W) ≠ 0) (hp : 0 ≤ p) (hd : dispR A A_q p) :
    SI K N ty g A_q p ∨ ∃ r, fOn (g r) = 1 ∧ fSx (g r) = 1 ∧ (fPb (g r) = 1 → rw0 A (2 * p + 1) 0 = 2 * fR g r + 1) ∧ SI K N ty (ug g r (ws (g r) 0 (fCh (g r)) (fSt (g r)) (fCx (g r)))) A_q p := by
  obtain ⟨hM, hR0, hR1, hS⟩ := id h
  rcases hd with ⟨_, _, d⟩ | ⟨q, i, ⟨r1, r2⟩ | ⟨r1, r2, r3⟩, hi, d⟩
  · rw [d]
    exact Or.inl (SI_no h hn)
  · refine Or.inr (SI_d1 (b := 0) s h hn hp (Or.inl rfl) (by omega) (by rw [r2]; exact hR0) ?_ (by rw [r2]; exact r1) hi d)
    rw [show (1 : Int) - 0 = 1 by decide, show 2 * p + 1 - 0 = 2 * p + 1 by omega]
    exact hR1
  · have := hR1.1
    refine Or.inr (SI_d1 (b := 1) s h hn hp (Or.inr rfl) (by omega) (by rw [r3]; exact hR1) ?_ (by rw [r3]; omega) hi d)
    rw [show (1 : Int) - 1 = 0 by decide, show 2 * p + 1 - 1 = 2 * p by omega]
    exact hR0
