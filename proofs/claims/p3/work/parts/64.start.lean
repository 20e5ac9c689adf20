/-! what genAll asks for, from what the reader and measureAll gave -/
theorem MQa_c {A A1 : Nat → Nat → Int} {p ft : Int} (e29 : A1 29 = A 29) (e30 : A1 30 = A 30) (e31 : A1 31 = A 31) (h : MQa A A1 p ft) : MQa A1 A1 p ft := fun q hq => by
  have := h q hq
  unfold lQ1 at this ⊢
  rw [e29, e30, e31]
  exact this
theorem MBs_c {A A1 : Nat → Nat → Int} {p ft : Int} (e36 : A1 36 = A 36) (h : MBs A A1 p ft) : MBs A1 A1 p ft := fun r h1 h2 h3 => by
  rw [e36] at h3 ⊢
  exact h r h1 h2 h3
theorem wK_k {A : Nat → Nat → Int} {s0 lk : Int} {s : Nat} (h : wK A s0 lk) (h0 : 0 ≤ s0) (h1 : s0 ≤ (s : Int)) (h2 : (s : Int) < s0 + lk) : A 7 s = 11 := by
  have := (h ((s : Int) - s0).toNat (by omega)).1
  rw [show (s0 + ((((s : Int) - s0).toNat : Nat) : Int)).toNat = s by omega] at this
  exact this
theorem TT_ga {T : Nat → Nat → Int} {pc nd sy lk p : Int} (h : TT T pc nd sy lk) (h2 : MBs T T 6 1) (hpc : 0 ≤ pc) (hnd : nd ≤ 6999) (hsy : sy ≤ 202) (hp0 : 0 ≤ p) (hp5 : p ≤ 5) (hb : 0 < T 36 p.toNat) : ∃ (Lx Sx : Nat → Int) (V : Nat → Prop) (ba bb bu bv : Int), CW T Lx Sx pc ∧ Sx pc.toNat ≤ 202 ∧ Lx pc.toNat ≤ ba ∧ ba ≤ bb ∧ bb ≤ 6999 ∧ bv ≤ 202 ∧ 0 ≤ bu ∧ VW T V 0 ∧ (∀ s, V s → T 7 s ≠ 10) ∧ VB V bu ∧ wP T bv pc 18 V (T 36 p.toNat) ba bb bu bv ∧ lP T 18 (T 36 p.toNat) 1 0 (T 37 p.toNat) (T 38 p.toNat) ∧ 1 ≤ T 37 p.toNat ∧ 0 ≤ T 38 p.toNat ∧ T 37 p.toNat + T 38 p.toNat + 3 ≤ 4000 := by
  obtain ⟨V, lo, s0, t0, e1, e2, e3, e4, e5, e6, e7, e8⟩ := h
  obtain ⟨Lx, Sx, g1, g2, g3⟩ := wQ_cw e6
  rw [show ((pc.toNat : Nat) : Int) = pc by omega] at g3
  obtain ⟨a, b, u, v, b1, _⟩ := wB_ba e8
  obtain ⟨w1, w2, w3, w4, w5, w6, w7⟩ := b1 p hp0 hp5 hb
  obtain ⟨m1, m2, m3, m4⟩ := h2 p hp0 (by omega) hb
  have m4 := m4 rfl
  have kk : ∀ s, V s → 11 ≤ T 7 s := fun s hs => by
    rcases e5 s hs with g | g | g
    · have := g.1.2
      omega
    · omega
    · have := wK_k e7 (by omega) g.1 (by omega)
      omega
  exact ⟨Lx, Sx, V, a p, b p, u p, v p, g3, by omega, by omega, w3, by omega, by omega, by omega, fun s hs hk => by
    have := kk s hs
    omega, fun s hs => by
    have := kk s hs
    omega, VB_mo e4 (by omega), w1, m1, m2, m3, m4⟩
