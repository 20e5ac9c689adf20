/-! WHAT DISPATCH LEAVES, cell by cell -/
theorem tk_o {A : Nat → Nat → Int} {p q i : Int} {k : Nat} (h : k ≠ 60 ∧ k ≠ 61 ∧ k ≠ 62 ∧ k ≠ 65 ∧ k ≠ 66 ∧ k ≠ 70 ∧ k ≠ 71 ∧ k ≠ 72) : shM (tkM A p q) q i k = A k := (shM_k rfl h.2.2.2.2.2.2.1).trans (by
  unfold tkM clM
  rw [uA_ne h.2.2.2.2.2.2.2, uA_ne h.2.2.2.2.1, uA_ne h.2.2.2.2.2.1, uA_ne h.2.2.2.1, uA_ne h.2.2.1, uA_ne h.2.1, uA_ne h.1])
theorem tk_66 {A : Nat → Nat → Int} {p q i : Int} : shM (tkM A p q) q i 66 p.toNat = A 71 (1100 * q).toNat := (congrFun (shM_k rfl (by decide)) _).trans (by
  unfold tkM
  rw [uA_ne (by decide), uA_eq])
theorem tk_60 {A : Nat → Nat → Int} {p q i : Int} : shM (tkM A p q) q i 60 p.toNat = 0 ∧ shM (tkM A p q) q i 61 p.toNat = 0 ∧ shM (tkM A p q) q i 62 p.toNat = 0 ∧ shM (tkM A p q) q i 65 p.toNat = 0 := by
  refine ⟨(congrFun (shM_k rfl (by decide)) _).trans ?_, (congrFun (shM_k rfl (by decide)) _).trans ?_, (congrFun (shM_k rfl (by decide)) _).trans ?_, (congrFun (shM_k rfl (by decide)) _).trans ?_⟩ <;> unfold tkM clM
  · rw [uA_ne (by decide), uA_ne (by decide), uA_ne (by decide), uA_ne (by decide), uA_ne (by decide), uA_ne (by decide), uA_eq]
  · rw [uA_ne (by decide), uA_ne (by decide), uA_ne (by decide), uA_ne (by decide), uA_ne (by decide), uA_eq]
  · rw [uA_ne (by decide), uA_ne (by decide), uA_ne (by decide), uA_ne (by decide), uA_eq]
  · rw [uA_ne (by decide), uA_ne (by decide), uA_ne (by decide), uA_eq]
theorem tk_72o {A : Nat → Nat → Int} {p q i : Int} {n : Nat} (h : n ≠ q.toNat) : shM (tkM A p q) q i 72 n = A 72 n := (congrFun (shM_k rfl (by decide)) _).trans (by
  unfold tkM clM
  rw [uA_ni h, uA_ne (by decide), uA_ne (by decide), uA_ne (by decide), uA_ne (by decide), uA_ne (by decide), uA_ne (by decide)])
theorem tk_71' {A : Nat → Nat → Int} {p q : Int} : tkM A p q 71 = A 71 := by
  unfold tkM clM
  rw [uA_ne (by decide), uA_ne (by decide), uA_ne (by decide), uA_ne (by decide), uA_ne (by decide), uA_ne (by decide), uA_ne (by decide)]
theorem tk_71 {A : Nat → Nat → Int} {p q i k : Int} (hq : 0 ≤ q) (h0 : 0 ≤ k) (h1 : k < i) : shM (tkM A p q) q i 71 (1100 * q + k).toNat = A 71 (1100 * q + (k + 1)).toNat := by
  unfold shM
  rw [if_pos ⟨rfl, by omega, by omega⟩, tk_71', show (1100 * q + (k + 1)).toNat = (1100 * q + k).toNat + 1 by omega]
theorem tk_71o {A : Nat → Nat → Int} {p q i : Int} {n : Nat} (h : ¬ (1100 * q ≤ (n : Int) ∧ (n : Int) < 1100 * q + i)) : shM (tkM A p q) q i 71 n = A 71 n := by
  unfold shM
  rw [if_neg (fun w => h w.2), tk_71']
theorem gt_o {C : Nat → Nat → Int} {p : Int} {k : Nat} (h : k ≠ 63 ∧ k ≠ 64) : gtM C p k = C k := by
  unfold gtM
  rw [uA_ne h.1, uA_ne h.2]
theorem gt_64 {C : Nat → Nat → Int} {p : Int} : gtM C p 64 p.toNat = (i32 (C 66 p.toNat) >>> (i32 1 &&& 31)).toInt := by
  unfold gtM
  rw [uA_ne (by decide), uA_eq]
theorem ldM_k {A B : Nat → Nat → Int} {p a : Int} (h : A 59 = B 59) : ldM A p a = ldM B p a := by
  unfold ldM
  rw [h]
theorem gt_63 {C : Nat → Nat → Int} {p : Int} : gtM C p 63 p.toNat = ldM C p ((i32 (C 66 p.toNat) >>> (i32 1 &&& 31)).toInt - 1) := by
  unfold gtM
  rw [uA_eq]
  exact ldM_k (uA_ne (by decide))
theorem kp_o {D : Nat → Nat → Int} {p : Int} {k : Nat} (h : k ≠ 60 ∧ k ≠ 61 ∧ k ≠ 62 ∧ k ≠ 65 ∧ k ≠ 73) : kpM D p k = D k := by
  unfold kpM
  rw [uA_ne h.2.2.2.1, uA_ne h.2.2.1, uA_ne h.2.1, uA_ne h.1, uA_ne h.2.2.2.2]
theorem kp_60 {D : Nat → Nat → Int} {p : Int} : kpM D p 60 p.toNat = D 74 p.toNat ∧ kpM D p 61 p.toNat = D 75 p.toNat ∧ kpM D p 62 p.toNat = D 76 p.toNat ∧ kpM D p 65 p.toNat = D 77 p.toNat ∧ kpM D p 73 p.toNat = 0 := by
  refine ⟨?_, ?_, ?_, ?_, ?_⟩ <;> unfold kpM
  · rw [uA_ne (by decide), uA_ne (by decide), uA_ne (by decide), uA_eq]
  · rw [uA_ne (by decide), uA_ne (by decide), uA_eq]
  · rw [uA_ne (by decide), uA_eq]
  · rw [uA_eq]
  · rw [uA_ne (by decide), uA_ne (by decide), uA_ne (by decide), uA_ne (by decide), uA_eq]
theorem no_o {A : Nat → Nat → Int} {p : Int} {k : Nat} (h : k ≠ 60 ∧ k ≠ 61 ∧ k ≠ 62 ∧ k ≠ 63 ∧ k ≠ 64 ∧ k ≠ 65 ∧ k ≠ 66 ∧ k ≠ 70) : noM A p k = A k := by
  unfold noM clM
  rw [uA_ne h.2.2.2.2.1, uA_ne h.2.2.2.1, uA_ne h.2.2.2.2.2.2.1, uA_ne h.2.2.2.2.2.2.2, uA_ne h.2.2.2.2.2.1, uA_ne h.2.2.1, uA_ne h.2.1, uA_ne h.1]
theorem no_66 {A : Nat → Nat → Int} {p : Int} : noM A p 66 p.toNat = -1 := by
  unfold noM
  rw [uA_ne (by decide), uA_ne (by decide), uA_eq]
