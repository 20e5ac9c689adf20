/-! A TIME SLICE ENDS: the one that runs goes to the end of its row -/
theorem SK_slc {K : Kd} {N : Int} {ty : Int → Int} {g : Int → Fm} {A : Nat → Nat → Int} {p b r d : Int} (hp : 0 ≤ p) (hb : b = 0 ∨ b = 1) (h : SK K N ty g A p) (hr : fOn (g r) = 1) (hx : fSx (g r) = 0) (hpb : fPb (g r) = b) (hu : fSu (g r) = 0) (hR : (fCx (g r)).2.2.1 = (r0, r0, r0)) (hI : ldM A p (fR g r - 1) = kP K (fSt (g r))) (hd : d = 2 * fR g r + b) (h1 : ∀ W, fOn (g W) = 1 → fSx (g W) = 0 → W = r) :
    SK K N ty (ug g r (ws (g r) 1 (fCh (g r)) (fSt (g r)) (fCx (g r)))) (adM A (2 * p + b) d) p ∧ ∀ W, fOn (ug g r (ws (g r) 1 (fCh (g r)) (fSt (g r)) (fCx (g r))) W) = 1 → fSx (ug g r (ws (g r) 1 (fCh (g r)) (fSt (g r)) (fCx (g r))) W) ≠ 0 := by
  obtain ⟨hM, hR0, hR1, hS1, hS2, hS3⟩ := h
  have fr : ∀ W, fR (ug g r (ws (g r) 1 (fCh (g r)) (fSt (g r)) (fCx (g r)))) W = fR g W := fun W => fR_w
  have hn : fSx (g r) ≠ 1 := by omega
  refine ⟨SK_ad hp hb (MI_trn hM hr (Or.inl hx) (Or.inr rfl)) hR0 hR1 hn hr rfl hpb hd (fun W w1 w2 w3 => ?_) hS2 (fun W w1 w2 w3 => ?_), fun W w1 w2 => ?_⟩
  · unfold Rst
    rw [fr]
    by_cases n : W = r
    · subst n
      rw [ug_e]
      exact ⟨hI, hR, hu⟩
    · unfold Asd at w3
      rw [fr] at w3
      rw [ug_n n] at w1 w2 w3 ⊢
      exact hS1 W w1 w2 w3
  · by_cases n : W = r
    · subst n
      exfalso
      obtain ⟨k1, _, k3⟩ := w3
      rw [fr] at k3
      obtain ⟨V, v1, v2, v3, v4⟩ := hR1.2.1 0 (by omega) (hS2 k1)
      have := W_far hM v2 hr (fun e => by subst e; omega)
      omega
    · unfold Asd at w3
      unfold Rgs
      rw [fr] at w3 ⊢
      rw [ug_n n] at w1 w2 w3 ⊢
      exact hS3 W w1 w2 w3
  · by_cases n : W = r
    · subst n
      rw [ug_e] at w2
      exact absurd w2 (show ¬ (1 : Int) = 0 by decide)
    · rw [ug_n n] at w1 w2
      exact n (h1 W w1 w2)
