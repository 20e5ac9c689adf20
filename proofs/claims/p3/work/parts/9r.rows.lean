/-! READY ROWS: what stands in them is ready, once; so they are short -/
/-- what the register W holds for a frame -/
abbrev fR (g : Int → Fm) (W : Int) : Int := W + cDw (fCx (g W))
theorem fR_in {K : Kd} {N : Int} {m ty : Int → Int} {g : Int → Fm} {W : Int} (h : MI K N m ty g) (hW : fOn (g W) = 1) : W ≤ fR g W ∧ fLo (g W) + 3 ≤ fR g W ∧ fR g W < fHi (g W) ∧ fHi (g W) ≤ 4016 ∧ 16 ≤ fLo (g W) := by
  obtain ⟨⟨a1, a2, a3, a4, a5, a6, a7, a8, _⟩, _⟩ := h.1 W hW
  show W ≤ W + cDw (fCx (g W)) ∧ fLo (g W) + 3 ≤ W + cDw (fCx (g W)) ∧ W + cDw (fCx (g W)) < fHi (g W) ∧ fHi (g W) ≤ 4016 ∧ 16 ≤ fLo (g W)
  rcases a8 with q | ⟨q1, q2, _⟩
  · omega
  · have := a7 q1
    omega
/-- of two frames they are at least four words apart -/
theorem W_far {K : Kd} {N : Int} {m ty : Int → Int} {g : Int → Fm} {W V : Int} (h : MI K N m ty g) (hW : fOn (g W) = 1) (hV : fOn (g V) = 1) (n : W ≠ V) : fR g W + 4 ≤ fR g V ∨ fR g V + 4 ≤ fR g W := by
  have a := fR_in h hW
  have b := fR_in h hV
  rcases h.2.1 W V hW hV n with p | p | p
  · have := p.1
    omega
  · have := p.2.1
    omega
  · have := p.2.1
    omega
/-- row b has n entries -/
def Rdy (g : Int → Fm) (b n : Int) (rd : Int → Int) : Prop := 0 ≤ n ∧ (∀ i, 0 ≤ i → i < n → ∃ W, rd i = 2 * fR g W + b ∧ fOn (g W) = 1 ∧ fSx (g W) = 1 ∧ fPb (g W) = b) ∧ ∀ i j, 0 ≤ i → i < j → j < n → rd i ≠ rd j
theorem Rdy_le {K : Kd} {N : Int} {m ty : Int → Int} {g : Int → Fm} {b n : Int} {rd : Int → Int} (h : MI K N m ty g) (hb : 0 ≤ b) (hb' : b ≤ 1) (r : Rdy g b n rd) : n ≤ 1004 := by
  obtain ⟨r0, r1, r2⟩ := r
  have key := pigeon n.toNat 1004 (fun i => (rd (i : Int) / 8).toNat) (fun i hi => by
    obtain ⟨W, e, o, _, _⟩ := r1 (i : Int) (by omega) (by omega)
    have a := fR_in h o
    show (rd (i : Int) / 8).toNat < 1004
    omega) (fun i j hij hj => by
    obtain ⟨W, e, o, _, _⟩ := r1 (i : Int) (by omega) (by omega)
    obtain ⟨V, e_q, o', _, _⟩ := r1 (j : Int) (by omega) (by omega)
    have d := r2 (i : Int) (j : Int) (by omega) (by omega) (by omega)
    have f := W_far h o o' (fun q => by subst q; omega)
    have a := fR_in h o
    have a_q := fR_in h o'
    show (rd (i : Int) / 8).toNat ≠ (rd (j : Int) / 8).toNat
    omega)
  omega
/-- the others in a row are other frames, and stay what they are -/
theorem Rdy_e {g : Int → Fm} {b n V : Int} {rd : Int → Int} {f : Fm} (r : Rdy g b n rd) (hV : fSx (g V) ≠ 1) {i : Int} (a : 0 ≤ i) (c : i < n) : ∃ W, W ≠ V ∧ rd i = 2 * fR (ug g V f) W + b ∧ fOn (ug g V f W) = 1 ∧ fSx (ug g V f W) = 1 ∧ fPb (ug g V f W) = b := by
  obtain ⟨W, e1, e2, e3, e4⟩ := r.2.1 i a c
  have q : W ≠ V := fun q => by
    subst q
    exact hV e3
  refine ⟨W, q, ?_⟩
  show _ = 2 * (W + cDw (fCx (ug g V f W))) + b ∧ _
  rw [ug_n q]
  exact ⟨e1, e2, e3, e4⟩
theorem Rdy_d {K : Kd} {N : Int} {m ty : Int → Int} {g : Int → Fm} {b n V v : Int} {rd : Int → Int} {f : Fm} (h : MI K N m ty (ug g V f)) (r : Rdy g b n rd) (hV : fSx (g V) ≠ 1) (f1 : fOn f = 1) (hv : v = 2 * (V + cDw (fCx f)) + b) {i : Int} (a : 0 ≤ i) (c : i < n) : rd i ≠ v := by
  obtain ⟨W, q, e1, e2, _⟩ := Rdy_e (f := f) r hV a c
  have o : fOn (ug g V f V) = 1 := by
    rw [ug_e]
    exact f1
  have k := W_far h e2 o q
  have e : fR (ug g V f) V = V + cDw (fCx f) := by
    show V + cDw (fCx (ug g V f V)) = _
    rw [ug_e]
  omega
theorem Rdy_n {g : Int → Fm} {b V v : Int} {f : Fm} (f1 : fOn f = 1) (f2 : fSx f = 1) (f3 : fPb f = b) (hv : v = 2 * (V + cDw (fCx f)) + b) : ∃ W, v = 2 * fR (ug g V f) W + b ∧ fOn (ug g V f W) = 1 ∧ fSx (ug g V f W) = 1 ∧ fPb (ug g V f W) = b := by
  refine ⟨V, ?_⟩
  show _ = 2 * (V + cDw (fCx (ug g V f V))) + b ∧ _
  rw [ug_e]
  exact ⟨hv, f1, f2, f3⟩
/-- one that wasn't ready comes last -/
theorem Rdy_add {K : Kd} {N : Int} {m ty : Int → Int} {g : Int → Fm} {b n V : Int} {rd rd' : Int → Int} {f : Fm} (h : MI K N m ty (ug g V f)) (r : Rdy g b n rd) (hV : fSx (g V) ≠ 1) (f1 : fOn f = 1) (f2 : fSx f = 1) (f3 : fPb f = b) (h1 : ∀ i, 0 ≤ i → i < n → rd' i = rd i) (h2 : rd' n = 2 * (V + cDw (fCx f)) + b) : Rdy (ug g V f) b (n + 1) rd' := by
  have r0 := r.1
  have r2 := r.2.2
  refine ⟨by omega, fun i a c => ?_, fun i j a c d => ?_⟩
  · by_cases e : i = n
    · subst e
      exact Rdy_n f1 f2 f3 h2
    · obtain ⟨W, _, e⟩ := Rdy_e (f := f) r hV (i := i) a (by omega)
      rw [h1 i a (by omega)]
      exact ⟨W, e⟩
  · rw [h1 i a (by omega)]
    by_cases e : j = n
    · subst e
      exact Rdy_d h r hV f1 h2 a (by omega)
    · rw [h1 j (by omega) (by omega)]
      exact r2 i j a c (by omega)
/-- the first is taken -/
theorem Rdy_tk {g : Int → Fm} {b n V : Int} {rd rd' : Int → Int} {f : Fm} (r : Rdy g b n rd) (hn : 0 < n) (hV : rd 0 = 2 * fR g V + b) (h1 : ∀ i, 0 ≤ i → i < n - 1 → rd' i = rd (i + 1)) : Rdy (ug g V f) b (n - 1) rd' := by
  obtain ⟨r0, r1, r2⟩ := r
  refine ⟨by omega, fun i a c => ?_, fun i j a c d => ?_⟩
  · obtain ⟨W, e1, e2, e3, e4⟩ := r1 (i + 1) (by omega) (by omega)
    have d := r2 0 (i + 1) (by omega) (by omega) (by omega)
    have q : W ≠ V := fun q => by
      subst q
      omega
    refine ⟨W, ?_⟩
    show _ = 2 * (W + cDw (fCx (ug g V f W))) + b ∧ _
    rw [ug_n q, h1 i a c]
    exact ⟨e1, e2, e3, e4⟩
  · rw [h1 i a (by omega), h1 j (by omega) d]
    exact r2 (i + 1) (j + 1) (by omega) (by omega) (by omega)
/-- one comes first (it was running) -/
theorem Rdy_fst {K : Kd} {N : Int} {m ty : Int → Int} {g : Int → Fm} {b n V : Int} {rd rd' : Int → Int} {f : Fm} (h : MI K N m ty (ug g V f)) (r : Rdy g b n rd) (hV : fSx (g V) ≠ 1) (f1 : fOn f = 1) (f2 : fSx f = 1) (f3 : fPb f = b) (h1 : ∀ i, 0 ≤ i → i < n → rd' (i + 1) = rd i) (h2 : rd' 0 = 2 * (V + cDw (fCx f)) + b) : Rdy (ug g V f) b (n + 1) rd' := by
  have r0 := r.1
  have r2 := r.2.2
  have s : ∀ j, 1 ≤ j → j < n + 1 → rd' j = rd (j - 1) := fun j a c => by
    have := h1 (j - 1) (by omega) (by omega)
    rw [show j - 1 + 1 = j by omega] at this
    exact this
  refine ⟨by omega, fun i a c => ?_, fun i j a c d => ?_⟩
  · by_cases e : i = 0
    · subst e
      exact Rdy_n f1 f2 f3 h2
    · obtain ⟨W, _, k⟩ := Rdy_e (f := f) r hV (i := i - 1) (by omega) (by omega)
      rw [s i (by omega) c]
      exact ⟨W, k⟩
  · rw [s j (by omega) d]
    by_cases e : i = 0
    · subst e
      exact Ne.symm (Rdy_d h r hV f1 h2 (by omega) (by omega))
    · rw [s i (by omega) (by omega)]
      exact r2 (i - 1) (j - 1) (by omega) (by omega) (by omega)
/-- another frame does something: it wasn't ready, or is of the other row, or is still as it was -/
theorem Rdy_o {g : Int → Fm} {b n V : Int} {rd : Int → Int} {f : Fm} (r : Rdy g b n rd) (h : fSx (g V) ≠ 1 ∨ fPb (g V) ≠ b ∨ (fOn f = fOn (g V) ∧ fSx f = fSx (g V) ∧ fPb f = fPb (g V) ∧ cDw (fCx f) = cDw (fCx (g V)))) : Rdy (ug g V f) b n rd := by
  obtain ⟨r0, r1, r2⟩ := r
  refine ⟨r0, fun i a c => ?_, r2⟩
  obtain ⟨W, e1, e2, e3, e4⟩ := r1 i a c
  refine ⟨W, ?_⟩
  show _ = 2 * (W + cDw (fCx (ug g V f W))) + b ∧ _
  by_cases q : W = V
  · subst q
    rw [ug_e]
    rcases h with h | h | ⟨k1, k2, k3, k4⟩
    · exact absurd e3 h
    · exact absurd e4 h
    · rw [k4]
      exact ⟨e1, k1.trans e2, k2.trans e3, k3.trans e4⟩
  · rw [ug_n q]
    exact ⟨e1, e2, e3, e4⟩
