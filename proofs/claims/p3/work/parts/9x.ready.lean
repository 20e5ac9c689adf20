/-! MAKEREADY KEEPS THE STATE -/
theorem ad_o {A : Nat → Nat → Int} {q d : Int} {k : Nat} (h : k ≠ 71 ∧ k ≠ 72) : adM A q d k = A k := by
  unfold adM
  rw [uA_ne h.2, uA_ne h.1]
theorem ad_72 {A : Nat → Nat → Int} {q d : Int} : adM A q d 72 q.toNat = A 72 q.toNat + 1 := uA_eq
theorem ad_72o {A : Nat → Nat → Int} {q d : Int} {n : Nat} (h : n ≠ q.toNat) : adM A q d 72 n = A 72 n := by
  unfold adM
  rw [uA_ni h, uA_ne (by decide)]
theorem ad_71 {A : Nat → Nat → Int} {q d : Int} : adM A q d 71 (1100 * q + A 72 q.toNat).toNat = d := by
  unfold adM
  rw [uA_ne (by decide), uA_eq]
theorem ad_71o {A : Nat → Nat → Int} {q d : Int} {n : Nat} (h : n ≠ (1100 * q + A 72 q.toNat).toNat) : adM A q d 71 n = A 71 n := by
  unfold adM
  rw [uA_ne (by decide), uA_ni h]
/-- V, which was not ready, stands in its row -/
theorem SK_ad {K : Kd} {N : Int} {ty : Int → Int} {g : Int → Fm} {A : Nat → Nat → Int} {p b V d : Int} {f : Fm} (hp : 0 ≤ p) (hb : b = 0 ∨ b = 1) (hM : MI K N (ldM A p) ty (ug g V f)) (hR0 : Rdy g 0 (A 72 (2 * p).toNat) (rw0 A (2 * p))) (hR1 : Rdy g 1 (A 72 (2 * p + 1).toNat) (rw0 A (2 * p + 1))) (hV : fSx (g V) ≠ 1) (f1 : fOn f = 1) (f2 : fSx f = 1) (f3 : fPb f = b) (hd : d = 2 * (V + cDw (fCx f)) + b)
    (hS1 : ∀ W, fOn (ug g V f W) = 1 → fSx (ug g V f W) = 1 → ¬ Asd (ug g V f) A p W → Rst K (ldM A p) (ug g V f) W) (hS2 : A 73 p.toNat ≠ 0 → 0 < A 72 (2 * p + 1).toNat)
    (hS3 : ∀ W, fOn (ug g V f W) = 1 → fSx (ug g V f W) = 1 → Asd (ug g V f) A p W → Psx K (ug g V f W) (ldM A p (fR (ug g V f) W - 1)) (A 77 p.toNat) ∧ Rgs (ldM A p) (ug g V f) W (A 74 p.toNat) (A 75 p.toNat) (A 76 p.toNat)) : SK K N ty (ug g V f) (adM A (2 * p + b) d) p := by
  have l0 := Rdy_le hM (by omega) (by omega) (Rdy_o (f := f) hR0 (Or.inl hV))
  have l1 := Rdy_le hM (by omega) (by omega) (Rdy_o (f := f) hR1 (Or.inl hV))
  have z0 := hR0.1
  have z1 := hR1.1
  have e59 : adM A (2 * p + b) d 59 = A 59 := ad_o ⟨by decide, by decide⟩
  have e73 : adM A (2 * p + b) d 73 = A 73 := ad_o ⟨by decide, by decide⟩
  have e74 : adM A (2 * p + b) d 74 = A 74 := ad_o ⟨by decide, by decide⟩
  have e75 : adM A (2 * p + b) d 75 = A 75 := ad_o ⟨by decide, by decide⟩
  have e76 : adM A (2 * p + b) d 76 = A 76 := ad_o ⟨by decide, by decide⟩
  have e77 : adM A (2 * p + b) d 77 = A 77 := ad_o ⟨by decide, by decide⟩
  have em : ldM (adM A (2 * p + b) d) p = ldM A p := funext (fun a => ldM_k e59)
  have as : ∀ W, Asd (ug g V f) (adM A (2 * p + b) d) p W ↔ Asd (ug g V f) A p W := fun W => by
    unfold Asd
    rw [e73]
    have k : A 73 p.toNat ≠ 0 → rw0 (adM A (2 * p + b) d) (2 * p + 1) 0 = rw0 A (2 * p + 1) 0 := fun w => by
      have := hS2 w
      refine ad_71o ?_
      rcases hb with e | e
      · subst e
        rw [show 2 * p + (0 : Int) = 2 * p from Int.add_zero _]
        omega
      · subst e
        omega
    constructor
    · intro a
      exact ⟨a.1, a.2.1, (k a.1).symm.trans a.2.2⟩
    · intro a
      exact ⟨a.1, a.2.1, (k a.1).trans a.2.2⟩
  refine ⟨by rw [em]; exact hM, ?_, ?_, fun W w1 w2 w3 => ?_, fun w => ?_, fun W w1 w2 w3 => ?_⟩
  · rcases hb with e | e
    · subst e
      rw [Int.add_zero]
      have := Rdy_add (rd' := rw0 (adM A (2 * p) d) (2 * p)) hM hR0 hV f1 f2 f3 (fun i a c => ad_71o (by omega)) (ad_71.trans hd)
      rw [ad_72]
      exact this
    · subst e
      exact Rdy_x (Rdy_o hR0 (Or.inl hV)) (ad_72o (by omega)) (fun i a c => ad_71o (by omega))
  · rcases hb with e | e
    · subst e
      rw [Int.add_zero]
      exact Rdy_x (Rdy_o hR1 (Or.inl hV)) (ad_72o (by omega)) (fun i a c => ad_71o (by omega))
    · subst e
      have := Rdy_add (rd' := rw0 (adM A (2 * p + 1) d) (2 * p + 1)) hM hR1 hV f1 f2 f3 (fun i a c => ad_71o (by omega)) (ad_71.trans hd)
      rw [ad_72]
      exact this
  · rw [em]
    exact hS1 W w1 w2 (fun a => w3 ((as W).mpr a))
  · rw [e73] at w
    have := hS2 w
    rcases hb with e | e
    · subst e
      rw [ad_72o (by omega)]
      exact this
    · subst e
      rw [ad_72]
      omega
  · rw [em, e74, e75, e76, e77]
    exact hS3 W w1 w2 ((as W).mp w3)
