/-! A CORE'S STATE, and dispatch -/
/-- where it goes on: within a step; or behind an ALTEND that found no way: at that step's last byte, which acts as CHECK -/
def Psx (K : Kd) (f : Fm) (I O : Int) : Prop := Pos K (fSt f) I O ∨ (I = kP K (fSt f) - 1 ∧ O = 0 ∧ cMd (fCx f) = 0 ∧ (fCx f).2.2.1 = (r0, r0, r0) ∧ cDw (fCx f) = 0 ∧ fSu f = 0 ∧ kF K (fSt f - 1) = 15 ∧ kV K (fSt f - 1) = 28 ∧ 0 ≤ fSt f - 1)
abbrev rw0 (A : Nat → Nat → Int) (q i : Int) : Int := A 71 (1100 * q + i).toNat
/-- W is the one that was put aside -/
def Asd (g : Int → Fm) (A : Nat → Nat → Int) (p W : Int) : Prop := A 73 p.toNat ≠ 0 ∧ fPb (g W) = 1 ∧ rw0 A (2 * p + 1) 0 = 2 * fR g W + 1
/-- memory, rows, what is ready -/
def SK (K : Kd) (N : Int) (ty : Int → Int) (g : Int → Fm) (A : Nat → Nat → Int) (p : Int) : Prop :=
  MI K N (ldM A p) ty g ∧ Rdy g 0 (A 72 (2 * p).toNat) (rw0 A (2 * p)) ∧ Rdy g 1 (A 72 (2 * p + 1).toNat) (rw0 A (2 * p + 1)) ∧
  (∀ W, fOn (g W) = 1 → fSx (g W) = 1 → ¬ Asd g A p W → Rst K (ldM A p) g W) ∧
  (A 73 p.toNat ≠ 0 → 0 < A 72 (2 * p + 1).toNat) ∧
  (∀ W, fOn (g W) = 1 → fSx (g W) = 1 → Asd g A p W → Psx K (g W) (ldM A p (fR g W - 1)) (A 77 p.toNat) ∧ Rgs (ldM A p) g W (A 74 p.toNat) (A 75 p.toNat) (A 76 p.toNat))
/-- r runs -/
def RN (K : Kd) (g : Int → Fm) (A : Nat → Nat → Int) (p r : Int) : Prop := fOn (g r) = 1 ∧ fSx (g r) = 0 ∧ A 66 p.toNat = 2 * fR g r + fPb (g r) ∧ A 64 p.toNat = fR g r ∧ Psx K (g r) (A 63 p.toNat) (A 65 p.toNat) ∧ Rgs (ldM A p) g r (A 60 p.toNat) (A 61 p.toNat) (A 62 p.toNat) ∧ (A 73 p.toNat ≠ 0 → fPb (g r) = 0)
def SI (K : Kd) (N : Int) (ty : Int → Int) (g : Int → Fm) (A : Nat → Nat → Int) (p : Int) : Prop := SK K N ty g A p ∧ ((A 66 p.toNat = -1 ∧ ∀ W, fOn (g W) = 1 → fSx (g W) ≠ 0) ∨ ∃ r, RN K g A p r ∧ ∀ W, fOn (g W) = 1 → fSx (g W) = 0 → W = r)
/-- steps have bytes -/
def Sby (K : Kd) (N : Int) : Prop := ∀ j, 0 ≤ j → j < N → 1 ≤ kP K (j + 1) - kP K j ∧ NB (kV K j) (kP K (j + 1) - kP K j)
theorem Pos_0 {K : Kd} {N j : Int} {c : Cx} (s : Sby K N) (h : Gd K N (fun _ _ => False) j c) : Pos K j (kP K j) 0 := by
  rcases Gd_o h with ⟨e, _, q⟩ | ⟨a, b, _⟩
  · exact q.elim
  · obtain ⟨h1, h2⟩ := s j a b
    exact ⟨0, Int.le_refl _, by omega, by omega, (prt_0 h2 h1).symm⟩
theorem Rdy_x {g : Int → Fm} {b n n_q : Int} {rd rd' : Int → Int} (r : Rdy g b n rd) (hn : n_q = n) (h : ∀ i, 0 ≤ i → i < n → rd' i = rd i) : Rdy g b n_q rd' := by
  subst hn
  obtain ⟨r0, r1, r2⟩ := r
  refine ⟨r0, fun i a c => ?_, fun i j a c d => ?_⟩
  · rw [h i a c]
    exact r1 i a c
  · rw [h i a (by omega), h j (by omega) d]
    exact r2 i j a c d
theorem fR_w {g : Int → Fm} {r sx ch : Int} {W : Int} : fR (ug g r (ws (g r) sx ch (fSt (g r)) (fCx (g r)))) W = fR g W := by
  show W + cDw (fCx (ug g r _ W)) = W + cDw (fCx (g W))
  by_cases q : W = r
  · subst q
    rw [ug_e]
    rfl
  · rw [ug_n q]
/-- none is there: none runs -/
theorem SI_no {K : Kd} {N : Int} {ty : Int → Int} {g : Int → Fm} {A : Nat → Nat → Int} {p : Int} (h : SK K N ty g A p) (hn : ∀ W, fOn (g W) = 1 → fSx (g W) ≠ 0) : SI K N ty g (noM A p) p := by
  have e59 : noM A p 59 = A 59 := no_o ⟨by decide, by decide, by decide, by decide, by decide, by decide, by decide, by decide⟩
  have e71 : noM A p 71 = A 71 := no_o ⟨by decide, by decide, by decide, by decide, by decide, by decide, by decide, by decide⟩
  have e72 : noM A p 72 = A 72 := no_o ⟨by decide, by decide, by decide, by decide, by decide, by decide, by decide, by decide⟩
  have e73 : noM A p 73 = A 73 := no_o ⟨by decide, by decide, by decide, by decide, by decide, by decide, by decide, by decide⟩
  have e74 : noM A p 74 = A 74 := no_o ⟨by decide, by decide, by decide, by decide, by decide, by decide, by decide, by decide⟩
  have e75 : noM A p 75 = A 75 := no_o ⟨by decide, by decide, by decide, by decide, by decide, by decide, by decide, by decide⟩
  have e76 : noM A p 76 = A 76 := no_o ⟨by decide, by decide, by decide, by decide, by decide, by decide, by decide, by decide⟩
  have e77 : noM A p 77 = A 77 := no_o ⟨by decide, by decide, by decide, by decide, by decide, by decide, by decide, by decide⟩
  have em : ldM (noM A p) p = ldM A p := funext (fun a => ldM_k e59)
  refine ⟨?_, Or.inl ⟨no_66, hn⟩⟩
  unfold SK Asd rw0 at h ⊢
  rw [em, e71, e72, e73, e74, e75, e76, e77]
  exact h
