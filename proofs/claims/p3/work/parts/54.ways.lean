theorem AT_c {A : Nat → Nat → Int} {n z : Int} (h : AT A n) (hl : LN A n) (h0 : 0 ≤ z) (hz : z ≤ n) : 0 ≤ A 49 z.toNat ∧ A 49 z.toNat ≤ 8 * z := by
  have := AT_b (A := A) (A1 := A) (m := z.toNat) rfl hl ⟨h.1, fun j hj => h.2 j (by omega)⟩ (by omega)
  omega
/-- the way of step k -/
def wy (A : Nat → Nat → Int) (k : Int) : Int := A 49 (A 50 (A 46 k.toNat).toNat).toNat - (if A 47 k.toNat = 0 then A 49 (k + 1).toNat else A 49 (A 50 (A 47 k.toNat).toNat).toNat)
theorem wy_0 {A : Nat → Nat → Int} {k : Int} (h : A 47 k.toNat = 0) : wy A k = A 49 (A 50 (A 46 k.toNat).toNat).toNat - A 49 (k + 1).toNat := by
  unfold wy
  rw [if_pos h]
theorem wy_1 {A : Nat → Nat → Int} {k : Int} (h : A 47 k.toNat ≠ 0) : wy A k = A 49 (A 50 (A 46 k.toNat).toNat).toNat - A 49 (A 50 (A 47 k.toNat).toNat).toNat := by
  unfold wy
  rw [if_neg h]

