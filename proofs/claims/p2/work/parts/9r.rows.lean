/-! READY ROWS: what stands in them is ready, once; so they are short -/
/-- two frames' W are at least four words apart -/
theorem W_far {K : Kd} {N : Int} {m ty : Int → Int} {g : Int → Fm} {W V : Int} (h : MI K N m ty g) (hW : fOn (g W) = 1) (hV : fOn (g V) = 1) (n : W ≠ V) : W + 4 ≤ V ∨ V + 4 ≤ W := by
  obtain ⟨⟨a1, a2, a3, a4, a5, a6, _⟩, _⟩ := h.1 W hW
  obtain ⟨⟨b1, b2, b3, b4, b5, b6, _⟩, _⟩ := h.1 V hV
  rcases h.2.1 W V hW hV n with p | p | p
  · have := p.1
    omega
  · have := p.2.1
    omega
  · have := p.2.1
    omega
/-- row b has n entries -/
def Rdy (g : Int → Fm) (b n : Int) (rd : Int → Int) : Prop := 0 ≤ n ∧ (∀ i, 0 ≤ i → i < n → ∃ W, rd i = 2 * W + b ∧ fOn (g W) = 1 ∧ fSx (g W) = 1 ∧ fPb (g W) = b) ∧ ∀ i j, 0 ≤ i → i < j → j < n → rd i ≠ rd j
theorem Rdy_le {K : Kd} {N : Int} {m ty : Int → Int} {g : Int → Fm} {b n : Int} {rd : Int → Int} (h : MI K N m ty g) (hb : 0 ≤ b) (hb' : b ≤ 1) (r : Rdy g b n rd) : n ≤ 1004 := by
  obtain ⟨r0, r1, r2⟩ := r
  have key := pigeon n.toNat 1004 (fun i => (rd (i : Int) / 8).toNat) (fun i hi => by
    obtain ⟨W, e, o, _, _⟩ := r1 (i : Int) (by omega) (by omega)
    obtain ⟨⟨a1, a2, a3, a4, a5, a6, _⟩, _⟩ := h.1 W o
    show (rd (i : Int) / 8).toNat < 1004
    omega) (fun i j hij hj => by
    obtain ⟨W, e, o, _, _⟩ := r1 (i : Int) (by omega) (by omega)
    obtain ⟨V, e', o', _, _⟩ := r1 (j : Int) (by omega) (by omega)
    have d := r2 (i : Int) (j : Int) (by omega) (by omega) (by omega)
    have f := W_far h o o' (by omega)
    obtain ⟨⟨a1, a2, a3, a4, a5, a6, _⟩, _⟩ := h.1 W o
    obtain ⟨⟨b1, b2, b3, b4, b5, b6, _⟩, _⟩ := h.1 V o'
    show (rd (i : Int) / 8).toNat ≠ (rd (j : Int) / 8).toNat
    omega)
  omega
/-- one that wasn't ready comes last -/
theorem Rdy_add {g : Int → Fm} {b n V : Int} {rd rd' : Int → Int} {f : Fm} (r : Rdy g b n rd) (hV : fSx (g V) ≠ 1) (f1 : fOn f = 1) (f2 : fSx f = 1) (f3 : fPb f = b) (h1 : ∀ i, 0 ≤ i → i < n → rd' i = rd i) (h2 : rd' n = 2 * V + b) : Rdy (ug g V f) b (n + 1) rd' := by
  obtain ⟨r0, r1, r2⟩ := r
  refine ⟨by omega, fun i a c => ?_, fun i j a c d => ?_⟩
  · by_cases e : i = n
    · subst e
      exact ⟨V, h2, by rw [ug_e]; exact f1, by rw [ug_e]; exact f2, by rw [ug_e]; exact f3⟩
    · obtain ⟨W, e1, e2, e3, e4⟩ := r1 i a (by omega)
      have q : W ≠ V := fun q => by
        subst q
        exact hV e3
      exact ⟨W, by rw [h1 i a (by omega)]; exact e1, by rw [ug_n q]; exact e2, by rw [ug_n q]; exact e3, by rw [ug_n q]; exact e4⟩
  · rw [h1 i a (by omega)]
    by_cases e : j = n
    · subst e
      rw [h2]
      obtain ⟨W, e1, e2, e3, e4⟩ := r1 i a (by omega)
      have q : W ≠ V := fun q => by
        subst q
        exact hV e3
      omega
    · rw [h1 j (by omega) (by omega)]
      exact r2 i j a c (by omega)
/-- the first is taken -/
theorem Rdy_tk {g : Int → Fm} {b n V : Int} {rd rd' : Int → Int} {f : Fm} (r : Rdy g b n rd) (hn : 0 < n) (hV : rd 0 = 2 * V + b) (h1 : ∀ i, 0 ≤ i → i < n - 1 → rd' i = rd (i + 1)) : Rdy (ug g V f) b (n - 1) rd' := by
  obtain ⟨r0, r1, r2⟩ := r
  refine ⟨by omega, fun i a c => ?_, fun i j a c d => ?_⟩
  · obtain ⟨W, e1, e2, e3, e4⟩ := r1 (i + 1) (by omega) (by omega)
    have d := r2 0 (i + 1) (by omega) (by omega) (by omega)
    have q : W ≠ V := by omega
    exact ⟨W, by rw [h1 i a c]; exact e1, by rw [ug_n q]; exact e2, by rw [ug_n q]; exact e3, by rw [ug_n q]; exact e4⟩
  · rw [h1 i a (by omega), h1 j (by omega) d]
    exact r2 (i + 1) (j + 1) (by omega) (by omega) (by omega)
/-- one comes first (it was running) -/
theorem Rdy_fst {g : Int → Fm} {b n V : Int} {rd rd' : Int → Int} {f : Fm} (r : Rdy g b n rd) (hV : fSx (g V) ≠ 1) (f1 : fOn f = 1) (f2 : fSx f = 1) (f3 : fPb f = b) (h1 : ∀ i, 0 ≤ i → i < n → rd' (i + 1) = rd i) (h2 : rd' 0 = 2 * V + b) : Rdy (ug g V f) b (n + 1) rd' := by
  obtain ⟨r0, r1, r2⟩ := r
  refine ⟨by omega, fun i a c => ?_, fun i j a c d => ?_⟩
  · by_cases e : i = 0
    · subst e
      exact ⟨V, h2, by rw [ug_e]; exact f1, by rw [ug_e]; exact f2, by rw [ug_e]; exact f3⟩
    · obtain ⟨W, e1, e2, e3, e4⟩ := r1 (i - 1) (by omega) (by omega)
      have q : W ≠ V := fun q => by
        subst q
        exact hV e3
      have s := h1 (i - 1) (by omega) (by omega)
      rw [show i - 1 + 1 = i by omega] at s
      exact ⟨W, by rw [s]; exact e1, by rw [ug_n q]; exact e2, by rw [ug_n q]; exact e3, by rw [ug_n q]; exact e4⟩
  · have s := h1 (j - 1) (by omega) (by omega)
    rw [show j - 1 + 1 = j by omega] at s
    rw [s]
    by_cases e : i = 0
    · subst e
      rw [h2]
      obtain ⟨W, e1, e2, e3, e4⟩ := r1 (j - 1) (by omega) (by omega)
      have q : W ≠ V := fun q => by
        subst q
        exact hV e3
      omega
    · have s' := h1 (i - 1) (by omega) (by omega)
      rw [show i - 1 + 1 = i by omega] at s'
      rw [s']
      exact r2 (i - 1) (j - 1) (by omega) (by omega) (by omega)
/-- another frame does something: it wasn't ready, or is of the other row, or is still as it was -/
theorem Rdy_o {g : Int → Fm} {b n V : Int} {rd : Int → Int} {f : Fm} (r : Rdy g b n rd) (h : fSx (g V) ≠ 1 ∨ fPb (g V) ≠ b ∨ (fOn f = fOn (g V) ∧ fSx f = fSx (g V) ∧ fPb f = fPb (g V))) : Rdy (ug g V f) b n rd := by
  obtain ⟨r0, r1, r2⟩ := r
  refine ⟨r0, fun i a c => ?_, r2⟩
  obtain ⟨W, e1, e2, e3, e4⟩ := r1 i a c
  refine ⟨W, e1, ?_⟩
  by_cases q : W = V
  · subst q
    rw [ug_e]
    rcases h with h | h | ⟨k1, k2, k3⟩
    · exact absurd e3 h
    · exact absurd e4 h
    · exact ⟨k1.trans e2, k2.trans e3, k3.trans e4⟩
  · rw [ug_n q]
    exact ⟨e2, e3, e4⟩
