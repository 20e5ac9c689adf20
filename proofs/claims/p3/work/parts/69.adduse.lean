/-- the signs of b stand in a -/
def hb (a b : Int) : Prop := (b % 2 = 1 → a % 2 = 1) ∧ (b / 2 % 2 = 1 → a / 2 % 2 = 1) ∧ (b / 4 % 2 = 1 → a / 4 % 2 = 1) ∧ (b / 8 % 2 = 1 → a / 8 % 2 = 1)
theorem hb_rf {a : Int} : hb a a := ⟨id, id, id, id⟩
theorem or_b {a b : Int} (h0 : 0 ≤ a) (h1 : a ≤ 15) (h2 : 0 ≤ b) (h3 : b ≤ 15) : 0 ≤ (i32 a ||| i32 b).toInt ∧ (i32 a ||| i32 b).toInt ≤ 15 ∧ hb (i32 a ||| i32 b).toInt a ∧ hb (i32 a ||| i32 b).toInt b := by
  have q : ∀ x y : Fin 16, 0 ≤ (i32 (x.val : Int) ||| i32 (y.val : Int)).toInt ∧ (i32 (x.val : Int) ||| i32 (y.val : Int)).toInt ≤ 15 ∧ (((x.val : Int) % 2 = 1 → (i32 (x.val : Int) ||| i32 (y.val : Int)).toInt % 2 = 1) ∧ ((x.val : Int) / 2 % 2 = 1 → (i32 (x.val : Int) ||| i32 (y.val : Int)).toInt / 2 % 2 = 1) ∧ ((x.val : Int) / 4 % 2 = 1 → (i32 (x.val : Int) ||| i32 (y.val : Int)).toInt / 4 % 2 = 1) ∧ ((x.val : Int) / 8 % 2 = 1 → (i32 (x.val : Int) ||| i32 (y.val : Int)).toInt / 8 % 2 = 1)) ∧ (((y.val : Int) % 2 = 1 → (i32 (x.val : Int) ||| i32 (y.val : Int)).toInt % 2 = 1) ∧ ((y.val : Int) / 2 % 2 = 1 → (i32 (x.val : Int) ||| i32 (y.val : Int)).toInt / 2 % 2 = 1) ∧ ((y.val : Int) / 4 % 2 = 1 → (i32 (x.val : Int) ||| i32 (y.val : Int)).toInt / 4 % 2 = 1) ∧ ((y.val : Int) / 8 % 2 = 1 → (i32 (x.val : Int) ||| i32 (y.val : Int)).toInt / 8 % 2 = 1)) := by decide
  have := q ⟨a.toNat, by omega⟩ ⟨b.toNat, by omega⟩
  simp only at this
  rw [show ((a.toNat : Nat) : Int) = a by omega, show ((b.toNat : Nat) : Int) = b by omega] at this
  exact this
/-- one use for the same thing: s, al whether all of it, el which of it -/
def eqk (A : Nat → Nat → Int) (j s al el : Int) : Prop := A 39 j.toNat = s ∧ A 41 j.toNat = al ∧ (al = 1 ∨ A 40 j.toNat = el)
/-- no two uses from f on are of the same thing -/
def Ds (A : Nat → Nat → Int) (f t : Int) : Prop := ∀ i j : Int, f ≤ i → i < j → j < t → ¬ eqk A i (A 39 j.toNat) (A 41 j.toNat) (A 40 j.toNat)
def NF (A : Nat → Nat → Int) (f t s al el : Int) : Prop := ∀ j : Int, f ≤ j → j < t → ¬ eqk A j s al el
theorem NF_0 {A : Nat → Nat → Int} {f t s al el : Int} (h : t ≤ f) : NF A f t s al el := fun j h1 h2 => by omega
theorem NF_nx {A : Nat → Nat → Int} {f t t_q s al el : Int} (h : NF A f t s al el) (ht : t_q = t + 1) (hn : ¬ eqk A t s al el) : NF A f t_q s al el := fun j h1 h2 => by
  by_cases e : j = t
  · subst e
    exact hn
  · exact h j h1 (by omega)
theorem NF_e {A : Nat → Nat → Int} {f t t_q s al el : Int} (h : NF A f t s al el) (e : t_q ≤ t) : NF A f t_q s al el := fun j h1 h2 => h j h1 (by omega)

