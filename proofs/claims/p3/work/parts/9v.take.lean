/-! DISPATCH TAKES THE FIRST OF A ROW -/
theorem SI_tk {K : Kd} {N : Int} {ty : Int → Int} {g : Int → Fm} {A A_q : Nat → Nat → Int} {p q b : Int} (s : Sby K N) (h : SK K N ty g A p) (hn : ∀ W, fOn (g W) = 1 → fSx (g W) ≠ 0) (hb : b = 0 ∨ b = 1) (hq : q = 2 * p + b)
    (hr : Rdy g b (A 72 q.toNat) (rw0 A q)) (hro : Rdy g (1 - b) (A 72 (2 * p + 1 - b).toNat) (rw0 A (2 * p + 1 - b))) (h0 : 0 < A 72 q.toNat)
    (e59 : A_q 59 = A 59) (e72 : A_q 72 q.toNat = A 72 q.toNat - 1) (e72o : A_q 72 (2 * p + 1 - b).toNat = A 72 (2 * p + 1 - b).toNat) (e71 : ∀ k, 0 ≤ k → k < A 72 q.toNat - 1 → rw0 A_q q k = rw0 A q (k + 1)) (e71o : ∀ k, 0 ≤ k → k < 1100 → rw0 A_q (2 * p + 1 - b) k = rw0 A (2 * p + 1 - b) k)
    (e66 : A_q 66 p.toNat = rw0 A q 0) (e64 : A_q 64 p.toNat = rw0 A q 0 / 2) (e63 : A_q 63 p.toNat = ldM A p (rw0 A q 0 / 2 - 1)) (e7 : A_q 74 = A 74 ∧ A_q 75 = A 75 ∧ A_q 76 = A 76 ∧ A_q 77 = A 77)
    (hk : (¬ (b = 1 ∧ A 73 p.toNat ≠ 0) ∧ A_q 73 p.toNat = A 73 p.toNat ∧ A_q 65 p.toNat = 0) ∨ (b = 1 ∧ A 73 p.toNat ≠ 0 ∧ A_q 73 p.toNat = 0 ∧ A_q 60 p.toNat = A 74 p.toNat ∧ A_q 61 p.toNat = A 75 p.toNat ∧ A_q 62 p.toNat = A 76 p.toNat ∧ A_q 65 p.toNat = A 77 p.toNat)) :
    ∃ r, fOn (g r) = 1 ∧ fSx (g r) = 1 ∧ (fPb (g r) = 1 → rw0 A (2 * p + 1) 0 = 2 * fR g r + 1) ∧ SI K N ty (ug g r (ws (g r) 0 (fCh (g r)) (fSt (g r)) (fCx (g r)))) A_q p := by
  obtain ⟨hM, hR0, hR1, hS1, hS2, hS3⟩ := h
  obtain ⟨V, v1, v2, v3, v4⟩ := hr.2.1 0 (by omega) h0
  refine ⟨V, v2, v3, fun e1 => ?_, ?_⟩
  · have hb1 : b = 1 := by omega
    subst hb1
    rw [← hq]
    exact v1
  obtain ⟨G, hG⟩ : ∃ G, G = ug g V (ws (g V) 0 (fCh (g V)) (fSt (g V)) (fCx (g V))) := ⟨_, rfl⟩
  rw [← hG]
  have gn : ∀ W, W ≠ V → G W = g W := fun W n => by
    rw [hG]
    exact ug_n n
  have gV : G V = ws (g V) 0 (fCh (g V)) (fSt (g V)) (fCx (g V)) := by
    rw [hG]
    exact ug_e
  have fr : ∀ W, fR G W = fR g W := fun W => by
    rw [hG]
    exact fR_w
  have em : ldM A_q p = ldM A p := funext (fun a => ldM_k e59)
  have hM' : MI K N (ldM A_q p) ty G := by
    rw [em, hG]
    exact MI_trn hM v2 (Or.inr v3) (Or.inl rfl)
  have hRb : Rdy G b (A_q 72 q.toNat) (rw0 A_q q) := by
    rw [e72, hG]
    exact Rdy_tk hr h0 v1 e71
  have lo := Rdy_le hM (by omega) (by omega) hro
  have hRo : Rdy G (1 - b) (A_q 72 (2 * p + 1 - b).toNat) (rw0 A_q (2 * p + 1 - b)) := by
    rw [hG]
    exact Rdy_x (Rdy_o hro (Or.inr (Or.inl (by omega)))) e72o (fun i a c => e71o i a (by omega))
  have hR0' : Rdy G 0 (A_q 72 (2 * p).toNat) (rw0 A_q (2 * p)) := by
    rcases hb with e | e
    · rw [e] at hRb
      rw [show q = 2 * p by omega] at hRb
      exact hRb
    · rw [show (1 : Int) - b = 0 by omega, show 2 * p + 1 - b = 2 * p by omega] at hRo
      exact hRo
  have hR1' : Rdy G 1 (A_q 72 (2 * p + 1).toNat) (rw0 A_q (2 * p + 1)) := by
    rcases hb with e | e
    · rw [show (1 : Int) - b = 1 by omega, show 2 * p + 1 - b = 2 * p + 1 by omega] at hRo
      exact hRo
    · rw [e] at hRb
      rw [show q = 2 * p + 1 by omega] at hRb
      exact hRb
  have nV : ∀ W, fSx (G W) = 1 → W ≠ V := fun W w n => by
    subst n
    rw [gV] at w
    exact absurd w (show ¬ (0 : Int) = 1 by decide)
  have b0 : A_q 73 p.toNat ≠ 0 → b = 0 ∧ A_q 73 p.toNat = A 73 p.toNat := fun k => by
    rcases hk with ⟨k1, k2, _⟩ | ⟨_, _, k2, _⟩
    · refine ⟨?_, k2⟩
      rcases hb with e | e
      · exact e
      · exact absurd ⟨e, by rw [← k2]; exact k⟩ k1
    · exact absurd k2 k
  have f0 : b = 0 → rw0 A_q (2 * p + 1) 0 = rw0 A (2 * p + 1) 0 := fun e => by
    have := e71o 0 (by omega) (by omega)
    rw [show 2 * p + 1 - b = 2 * p + 1 by omega] at this
    exact this
  refine ⟨⟨hM', hR0', hR1', fun W w1 w2 w3 => ?_, fun k => ?_, fun W w1 w2 w3 => ?_⟩, Or.inr ⟨V, ⟨?_, ?_, ?_, ?_, ?_⟩, fun W w1 w2 => ?_⟩⟩
  · have n := nV W w2
    rw [gn W n] at w1 w2
    have := hS1 W w1 w2 (fun a => by
      obtain ⟨a1, a2, a3⟩ := a
      rcases hb with e | e
      · rcases hk with ⟨k1, k2, _⟩ | ⟨k1, _⟩
        · refine w3 ⟨by rw [k2]; exact a1, by rw [gn W n]; exact a2, ?_⟩
          rw [f0 e, fr]
          exact a3
        · omega
      · rw [hq, e] at v1
        have := W_far hM w1 v2 n
        omega)
    unfold Rst
    rw [em, fr, gn W n]
    exact this
  · obtain ⟨e, k2⟩ := b0 k
    rw [k2] at k
    have := hS2 k
    rw [show 2 * p + 1 - b = 2 * p + 1 by omega] at e72o
    omega
  · have n := nV W w2
    rw [gn W n] at w1 w2
    obtain ⟨a1, a2, a3⟩ := w3
    obtain ⟨e, k2⟩ := b0 a1
    rw [gn W n] at a2
    rw [f0 e, fr] at a3
    have := hS3 W w1 w2 ⟨by rw [← k2]; exact a1, a2, a3⟩
    unfold Rgs at this ⊢
    rw [em, fr, gn W n, e7.1, e7.2.1, e7.2.2.1, e7.2.2.2]
    exact this
  · rw [gV]
    exact v2
  · rw [gV]
    rfl
  · rw [fr, e66, gV]
    show _ = 2 * fR g V + fPb (g V)
    rw [v4]
    exact v1
  · rw [fr, e64]
    omega
  · have e2 : rw0 A q 0 / 2 = fR g V := by omega
    rw [e2] at e63
    have key : Psx K (g V) (A_q 63 p.toNat) (A_q 65 p.toNat) ∧ Rgs (ldM A p) g V (A_q 60 p.toNat) (A_q 61 p.toNat) (A_q 62 p.toNat) := by
      rcases hk with ⟨k1, k2, k3⟩ | ⟨k1, k2, _, k4, k5, k6, k7⟩
      · have r := hS1 V v2 v3 (fun a => k1 ⟨v4.symm.trans a.2.1, a.1⟩)
        rw [e63, k3, r.1]
        exact ⟨Or.inl (Pos_0 s (hM.1 V v2).2.2.2.1.1), Rst_g r⟩
      · rw [hq, k1] at v1
        rw [e63, k4, k5, k6, k7]
        exact hS3 V v2 v3 ⟨k2, v4.trans k1, v1⟩
    unfold Rgs Psx at key ⊢
    rw [em, gV]
    exact ⟨key.1, key.2, fun w => v4.trans (b0 w).1⟩
  · by_cases n : W = V
    · exact n
    · rw [gn W n] at w1 w2
      exact absurd w2 (hn W w1)
