/-! what a tree is, by the kind of its node -/
theorem wS_i22 {A : Nat → Nat → Int} {sb pb : Int} {R : (Nat → Prop) → Int → Int → Int → Int → Int → Prop} {V : Nat → Prop} {p lo hi t0 s1 : Int} (h : wSt A sb pb R V p lo hi t0 s1) (k : A 15 p.toNat = 22) : t0 = s1 ∧ wR A V sb 20 0 (A 17 p.toNat) lo p ∧ wE A V sb 20 (A 18 p.toNat) (p + 1) hi := by
  unfold wSt at h
  rcases h with h | h | h | h | h | h | h | h | h | h | h | h
  · exact absurd h.1 (by omega)
  · exact h.2
  · exact absurd h.1 (by omega)
  · exact absurd h.1 (by omega)
  · exact absurd h.1 (by omega)
  · exact absurd h.1 (by omega)
  · exact absurd h.1 (by omega)
  · exact absurd h.1 (by omega)
  · exact absurd h.1 (by omega)
  · exact absurd h.1 (by omega)
  · exact absurd h.1 (by omega)
  · exact absurd h.1 (by omega)
theorem wS_i23 {A : Nat → Nat → Int} {sb pb : Int} {R : (Nat → Prop) → Int → Int → Int → Int → Int → Prop} {V : Nat → Prop} {p lo hi t0 s1 : Int} (h : wSt A sb pb R V p lo hi t0 s1) (k : A 15 p.toNat = 23) : t0 = s1 ∧ wR A V sb 20 1 (A 17 p.toNat) lo p ∧ wE A V sb 20 (A 18 p.toNat) (p + 1) hi := by
  unfold wSt at h
  rcases h with h | h | h | h | h | h | h | h | h | h | h | h
  · exact absurd h.1 (by omega)
  · exact absurd h.1 (by omega)
  · exact h.2
  · exact absurd h.1 (by omega)
  · exact absurd h.1 (by omega)
  · exact absurd h.1 (by omega)
  · exact absurd h.1 (by omega)
  · exact absurd h.1 (by omega)
  · exact absurd h.1 (by omega)
  · exact absurd h.1 (by omega)
  · exact absurd h.1 (by omega)
  · exact absurd h.1 (by omega)
theorem wS_i24 {A : Nat → Nat → Int} {sb pb : Int} {R : (Nat → Prop) → Int → Int → Int → Int → Int → Prop} {V : Nat → Prop} {p lo hi t0 s1 : Int} (h : wSt A sb pb R V p lo hi t0 s1) (k : A 15 p.toNat = 24) : t0 = s1 ∧ wR A V sb 20 1 (A 17 p.toNat) lo p ∧ wR A V sb 20 0 (A 18 p.toNat) (p + 1) hi := by
  unfold wSt at h
  rcases h with h | h | h | h | h | h | h | h | h | h | h | h
  · exact absurd h.1 (by omega)
  · exact absurd h.1 (by omega)
  · exact absurd h.1 (by omega)
  · exact h.2
  · exact absurd h.1 (by omega)
  · exact absurd h.1 (by omega)
  · exact absurd h.1 (by omega)
  · exact absurd h.1 (by omega)
  · exact absurd h.1 (by omega)
  · exact absurd h.1 (by omega)
  · exact absurd h.1 (by omega)
  · exact absurd h.1 (by omega)
theorem wS_i25 {A : Nat → Nat → Int} {sb pb : Int} {R : (Nat → Prop) → Int → Int → Int → Int → Int → Prop} {V : Nat → Prop} {p lo hi t0 s1 : Int} (h : wSt A sb pb R V p lo hi t0 s1) (k : A 15 p.toNat = 25) : t0 = s1 ∧ 0 ≤ A 17 p.toNat ∧ A 17 p.toNat < pb ∧ ∃ l, CH A (A 21 p.toNat) l ∧ (l.length : Int) = A 30 (A 17 p.toNat).toNat ∧ wAs A V sb (A 29 (A 17 p.toNat).toNat) l (p + 1) hi := by
  unfold wSt at h
  rcases h with h | h | h | h | h | h | h | h | h | h | h | h
  · exact absurd h.1 (by omega)
  · exact absurd h.1 (by omega)
  · exact absurd h.1 (by omega)
  · exact absurd h.1 (by omega)
  · exact h.2
  · exact absurd h.1 (by omega)
  · exact absurd h.1 (by omega)
  · exact absurd h.1 (by omega)
  · exact absurd h.1 (by omega)
  · exact absurd h.1 (by omega)
  · exact absurd h.1 (by omega)
  · exact absurd h.1 (by omega)
theorem wS_i26 {A : Nat → Nat → Int} {sb pb : Int} {R : (Nat → Prop) → Int → Int → Int → Int → Int → Prop} {V : Nat → Prop} {p lo hi t0 s1 : Int} (h : wSt A sb pb R V p lo hi t0 s1) (k : A 15 p.toNat = 26) : ∃ l, CH A (A 21 p.toNat) l ∧ wCs (R V) l (p + 1) hi t0 s1 := by
  unfold wSt at h
  rcases h with h | h | h | h | h | h | h | h | h | h | h | h
  · exact absurd h.1 (by omega)
  · exact absurd h.1 (by omega)
  · exact absurd h.1 (by omega)
  · exact absurd h.1 (by omega)
  · exact absurd h.1 (by omega)
  · exact h.2
  · exact absurd h.1 (by omega)
  · exact absurd h.1 (by omega)
  · exact absurd h.1 (by omega)
  · exact absurd h.1 (by omega)
  · exact absurd h.1 (by omega)
  · exact absurd h.1 (by omega)
theorem wS_i27 {A : Nat → Nat → Int} {sb pb : Int} {R : (Nat → Prop) → Int → Int → Int → Int → Int → Prop} {V : Nat → Prop} {p lo hi t0 s1 : Int} (h : wSt A sb pb R V p lo hi t0 s1) (k : A 15 p.toNat = 27) : A 17 p.toNat = t0 ∧ t0 < s1 ∧ A 7 t0.toNat = 9 ∧ ∃ a b, p + 1 ≤ a ∧ a ≤ b ∧ b ≤ hi ∧ wE A V sb 20 (A 19 p.toNat) (p + 1) a ∧ wE A V sb 20 (A 20 p.toNat) a b ∧ R (Vu V t0) (A 21 p.toNat) b hi (t0 + 1) s1 := by
  unfold wSt at h
  rcases h with h | h | h | h | h | h | h | h | h | h | h | h
  · exact absurd h.1 (by omega)
  · exact absurd h.1 (by omega)
  · exact absurd h.1 (by omega)
  · exact absurd h.1 (by omega)
  · exact absurd h.1 (by omega)
  · exact absurd h.1 (by omega)
  · exact h.2
  · exact absurd h.1 (by omega)
  · exact absurd h.1 (by omega)
  · exact absurd h.1 (by omega)
  · exact absurd h.1 (by omega)
  · exact absurd h.1 (by omega)
theorem wS_i28 {A : Nat → Nat → Int} {sb pb : Int} {R : (Nat → Prop) → Int → Int → Int → Int → Int → Prop} {V : Nat → Prop} {p lo hi t0 s1 : Int} (h : wSt A sb pb R V p lo hi t0 s1) (k : A 15 p.toNat = 28) : 2 ≤ A 18 p.toNat ∧ A 18 p.toNat ≤ 8 ∧ (A 17 p.toNat = 0 ∨ (A 17 p.toNat = 1 ∧ A 18 p.toNat = 2)) ∧ ∃ l, CH A (A 21 p.toNat) l ∧ (l.length : Int) = A 18 p.toNat ∧ wCs (R V) l (p + 1) hi t0 s1 := by
  unfold wSt at h
  rcases h with h | h | h | h | h | h | h | h | h | h | h | h
  · exact absurd h.1 (by omega)
  · exact absurd h.1 (by omega)
  · exact absurd h.1 (by omega)
  · exact absurd h.1 (by omega)
  · exact absurd h.1 (by omega)
  · exact absurd h.1 (by omega)
  · exact absurd h.1 (by omega)
  · exact h.2
  · exact absurd h.1 (by omega)
  · exact absurd h.1 (by omega)
  · exact absurd h.1 (by omega)
  · exact absurd h.1 (by omega)
theorem wS_i29 {A : Nat → Nat → Int} {sb pb : Int} {R : (Nat → Prop) → Int → Int → Int → Int → Int → Prop} {V : Nat → Prop} {p lo hi t0 s1 : Int} (h : wSt A sb pb R V p lo hi t0 s1) (k : A 15 p.toNat = 29) : A 17 p.toNat = t0 ∧ t0 < s1 ∧ A 7 t0.toNat = 10 ∧ 0 ≤ A 19 p.toNat ∧ 1 ≤ A 20 p.toNat ∧ A 20 p.toNat ≤ 8 ∧ p + 1 ≤ hi ∧ R (Vu V t0) (A 21 p.toNat) (p + 1) hi (t0 + 1) s1 := by
  unfold wSt at h
  rcases h with h | h | h | h | h | h | h | h | h | h | h | h
  · exact absurd h.1 (by omega)
  · exact absurd h.1 (by omega)
  · exact absurd h.1 (by omega)
  · exact absurd h.1 (by omega)
  · exact absurd h.1 (by omega)
  · exact absurd h.1 (by omega)
  · exact absurd h.1 (by omega)
  · exact absurd h.1 (by omega)
  · exact h.2
  · exact absurd h.1 (by omega)
  · exact absurd h.1 (by omega)
  · exact absurd h.1 (by omega)
theorem wS_i30 {A : Nat → Nat → Int} {sb pb : Int} {R : (Nat → Prop) → Int → Int → Int → Int → Int → Prop} {V : Nat → Prop} {p lo hi t0 s1 : Int} (h : wSt A sb pb R V p lo hi t0 s1) (k : A 15 p.toNat = 30) : ∃ l, l ≠ [] ∧ CH A (A 21 p.toNat) l ∧ wCs (wI A V sb (R V)) l (p + 1) hi t0 s1 := by
  unfold wSt at h
  rcases h with h | h | h | h | h | h | h | h | h | h | h | h
  · exact absurd h.1 (by omega)
  · exact absurd h.1 (by omega)
  · exact absurd h.1 (by omega)
  · exact absurd h.1 (by omega)
  · exact absurd h.1 (by omega)
  · exact absurd h.1 (by omega)
  · exact absurd h.1 (by omega)
  · exact absurd h.1 (by omega)
  · exact absurd h.1 (by omega)
  · exact h.2
  · exact absurd h.1 (by omega)
  · exact absurd h.1 (by omega)
theorem wS_i31 {A : Nat → Nat → Int} {sb pb : Int} {R : (Nat → Prop) → Int → Int → Int → Int → Int → Prop} {V : Nat → Prop} {p lo hi t0 s1 : Int} (h : wSt A sb pb R V p lo hi t0 s1) (k : A 15 p.toNat = 31) : ∃ a, p + 1 ≤ a ∧ a ≤ hi ∧ wE A V sb 20 (A 17 p.toNat) (p + 1) a ∧ R V (A 21 p.toNat) a hi t0 s1 := by
  unfold wSt at h
  rcases h with h | h | h | h | h | h | h | h | h | h | h | h
  · exact absurd h.1 (by omega)
  · exact absurd h.1 (by omega)
  · exact absurd h.1 (by omega)
  · exact absurd h.1 (by omega)
  · exact absurd h.1 (by omega)
  · exact absurd h.1 (by omega)
  · exact absurd h.1 (by omega)
  · exact absurd h.1 (by omega)
  · exact absurd h.1 (by omega)
  · exact absurd h.1 (by omega)
  · exact h.2
  · exact absurd h.1 (by omega)
theorem wS_i32 {A : Nat → Nat → Int} {sb pb : Int} {R : (Nat → Prop) → Int → Int → Int → Int → Int → Prop} {V : Nat → Prop} {p lo hi t0 s1 : Int} (h : wSt A sb pb R V p lo hi t0 s1) (k : A 15 p.toNat = 32) : 1 ≤ A 18 p.toNat ∧ A 18 p.toNat ≤ 8 ∧ ∃ l, CH A (A 21 p.toNat) l ∧ (l.length : Int) = A 18 p.toNat ∧ wCs (wG A V sb (R V)) l (p + 1) hi t0 s1 := by
  unfold wSt at h
  rcases h with h | h | h | h | h | h | h | h | h | h | h | h
  · exact absurd h.1 (by omega)
  · exact absurd h.1 (by omega)
  · exact absurd h.1 (by omega)
  · exact absurd h.1 (by omega)
  · exact absurd h.1 (by omega)
  · exact absurd h.1 (by omega)
  · exact absurd h.1 (by omega)
  · exact absurd h.1 (by omega)
  · exact absurd h.1 (by omega)
  · exact absurd h.1 (by omega)
  · exact absurd h.1 (by omega)
  · exact h.2
theorem wS_kd {A : Nat → Nat → Int} {sb pb : Int} {R : (Nat → Prop) → Int → Int → Int → Int → Int → Prop} {V : Nat → Prop} {p lo hi t0 s1 : Int} (h : wSt A sb pb R V p lo hi t0 s1) : 20 ≤ A 15 p.toNat ∧ A 15 p.toNat ≤ 32 := by
  unfold wSt at h
  rcases h with h | h | h | h | h | h | h | h | h | h | h | h
  · have := h.1
    omega
  · have := h.1
    omega
  · have := h.1
    omega
  · have := h.1
    omega
  · have := h.1
    omega
  · have := h.1
    omega
  · have := h.1
    omega
  · have := h.1
    omega
  · have := h.1
    omega
  · have := h.1
    omega
  · have := h.1
    omega
  · have := h.1
    omega
theorem wE_i2 {A : Nat → Nat → Int} {V : Nat → Prop} {sb e lo hi : Int} {n : Nat} (h : wE A V sb (n + 1) e lo hi) (k : A 15 e.toNat = 2) : SY V sb (A 17 e.toNat) ∧ kVal (A 7 (A 17 e.toNat).toNat) := by
  unfold wE at h
  obtain ⟨_, _, h⟩ := h
  rcases h with h | h | h | h | h
  · exact absurd h (by omega)
  · exact h.2
  · exact absurd h.1 (by omega)
  · exact absurd h.1 (by omega)
  · exact absurd h.1 (by omega)
theorem wE_i3 {A : Nat → Nat → Int} {V : Nat → Prop} {sb e lo hi : Int} {n : Nat} (h : wE A V sb (n + 1) e lo hi) (k : A 15 e.toNat = 3) : SY V sb (A 17 e.toNat) ∧ kArr (A 7 (A 17 e.toNat).toNat) ∧ wE A V sb n (A 18 e.toNat) lo e := by
  unfold wE at h
  obtain ⟨_, _, h⟩ := h
  rcases h with h | h | h | h | h
  · exact absurd h (by omega)
  · exact absurd h.1 (by omega)
  · exact h.2
  · exact absurd h.1 (by omega)
  · exact absurd h.1 (by omega)
theorem wE_i4 {A : Nat → Nat → Int} {V : Nat → Prop} {sb e lo hi : Int} {n : Nat} (h : wE A V sb (n + 1) e lo hi) (k : A 15 e.toNat = 4) : ∃ m, lo ≤ m ∧ m ≤ e ∧ wE A V sb n (A 18 e.toNat) lo m ∧ wE A V sb n (A 19 e.toNat) m e := by
  unfold wE at h
  obtain ⟨_, _, h⟩ := h
  rcases h with h | h | h | h | h
  · exact absurd h (by omega)
  · exact absurd h.1 (by omega)
  · exact absurd h.1 (by omega)
  · exact h.2
  · exact absurd h.1 (by omega)
theorem wE_i5 {A : Nat → Nat → Int} {V : Nat → Prop} {sb e lo hi : Int} {n : Nat} (h : wE A V sb (n + 1) e lo hi) (k : A 15 e.toNat = 5 ∨ A 15 e.toNat = 6 ∨ A 15 e.toNat = 7) : wE A V sb n (A 17 e.toNat) lo e := by
  unfold wE at h
  obtain ⟨_, _, h⟩ := h
  rcases h with h | h | h | h | h
  · exact absurd h (by omega)
  · exact absurd h.1 (by omega)
  · exact absurd h.1 (by omega)
  · exact absurd h.1 (by omega)
  · exact h.2
theorem wE_kd {A : Nat → Nat → Int} {V : Nat → Prop} {sb e lo hi : Int} {n : Nat} (h : wE A V sb (n + 1) e lo hi) : lo ≤ e ∧ e < hi ∧ 1 ≤ A 15 e.toNat ∧ A 15 e.toNat ≤ 7 := by
  unfold wE at h
  obtain ⟨h1, h2, h⟩ := h
  refine ⟨h1, h2, ?_⟩
  rcases h with h | h | h | h | h
  · omega
  · have := h.1
    omega
  · have := h.1
    omega
  · have := h.1
    omega
  · have := h.1
    omega
