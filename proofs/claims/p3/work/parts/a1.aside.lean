/-! A LOW ONE IS PUT ASIDE: first in its row, its registers kept -/
theorem SK_asd {K : Kd} {N : Int} {ty : Int → Int} {g : Int → Fm} {A A_q : Nat → Nat → Int} {p r : Int} (h : SK K N ty g A p) (hr : fOn (g r) = 1) (hx : fSx (g r) = 0) (hpb : fPb (g r) = 1) (hk0 : A 73 p.toNat = 0) (hk1 : A_q 73 p.toNat ≠ 0) (h1 : ∀ W, fOn (g W) = 1 → fSx (g W) = 0 → W = r)
    (e59 : A_q 59 = A 59) (e72 : A_q 72 (2 * p + 1).toNat = A 72 (2 * p + 1).toNat + 1) (e72o : A_q 72 (2 * p).toNat = A 72 (2 * p).toNat) (e71 : ∀ i, 0 ≤ i → i < A 72 (2 * p + 1).toNat → rw0 A_q (2 * p + 1) (i + 1) = rw0 A (2 * p + 1) i) (f71 : rw0 A_q (2 * p + 1) 0 = 2 * fR g r + 1) (e71o : ∀ i, 0 ≤ i → i < 1100 → rw0 A_q (2 * p) i = rw0 A (2 * p) i)
    (hP : Psx K (g r) (ldM A p (fR g r - 1)) (A_q 77 p.toNat)) (hG : Rgs (ldM A p) g r (A_q 74 p.toNat) (A_q 75 p.toNat) (A_q 76 p.toNat)) :
    SK K N ty (ug g r (ws (g r) 1 (fCh (g r)) (fSt (g r)) (fCx (g r)))) A_q p ∧ ∀ W, fOn (ug g r (ws (g r) 1 (fCh (g r)) (fSt (g r)) (fCx (g r))) W) = 1 → fSx (ug g r (ws (g r) 1 (fCh (g r)) (fSt (g r)) (fCx (g r))) W) ≠ 0 := by
  obtain ⟨hM, hR0, hR1, hS1, hS2, hS3⟩ := h
  have fr : ∀ W, fR (ug g r (ws (g r) 1 (fCh (g r)) (fSt (g r)) (fCx (g r)))) W = fR g W := fun W => fR_w
  have hn : fSx (g r) ≠ 1 := by omega
  have em : ldM A_q p = ldM A p := funext (fun a => ldM_k e59)
  have hM' := MI_trn hM hr (Or.inl hx) (Or.inr rfl : (1 : Int) = 0 ∨ (1 : Int) = 1)
  have l0 := Rdy_le hM (by omega) (by omega) hR0
  have z1 := hR1.1
  refine ⟨⟨by rw [em]; exact hM', Rdy_x (Rdy_o hR0 (Or.inl hn)) e72o (fun i a c => e71o i a (by omega)), ?_, fun W w1 w2 w3 => ?_, fun _ => by omega, fun W w1 w2 w3 => ?_⟩, fun W w1 w2 => ?_⟩
  · rw [e72]
    exact Rdy_fst hM' hR1 hn hr rfl hpb e71 f71
  · rw [em]
    unfold Rst
    rw [fr]
    by_cases n : W = r
    · subst n
      refine absurd ⟨hk1, ?_, ?_⟩ w3
      · rw [ug_e]
        exact hpb
      · rw [fr]
        exact f71
    · rw [ug_n n] at w1 w2 ⊢
      exact hS1 W w1 w2 (fun a => a.1 hk0)
  · by_cases n : W = r
    · subst n
      rw [em, fr, ug_e]
      unfold Rgs Psx at *
      rw [ug_e]
      exact ⟨hP, hG⟩
    · exfalso
      have k3 := w3.2.2
      rw [fr, f71] at k3
      rw [ug_n n] at w1
      have := W_far hM w1 hr n
      omega
  · by_cases n : W = r
    · subst n
      rw [ug_e] at w2
      exact absurd w2 (show ¬ (1 : Int) = 0 by decide)
    · rw [ug_n n] at w1 w2
      exact n (h1 W w1 w2)
