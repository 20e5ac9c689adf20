/-! WHICH CASES A NUMBER LEAVES -/
theorem acR_f0 {A A_q : Nat → Nat → Int} {p fn op1 : Int} (h : acR A A_q p fn op1) (e : fn = 0) : (∃ ri : Int, (fn = 0) ∧ (A 63 p.toNat = ri) ∧ (A_q = uA A 63 p.toNat (i32 (ri + op1)).toInt)) ∨ (∃ ri rw rn v : Int, ∃ A1 A2 A3 : Nat → Nat → Int, (fn = 0) ∧ (A 63 p.toNat = ri) ∧ (A 64 p.toNat = rw) ∧ (A 66 p.toNat = rn) ∧ (rn % 2 = 1) ∧ (v = (i32 (ri + op1)).toInt) ∧ (A1 = uA A 63 p.toNat v) ∧ (A2 = stM A1 p (rw - 1) v) ∧ (mkR A2 A3 p rn) ∧ (dispR A3 A_q p)) := by
  rcases h with h | h | h | h | h | h | h | h | h | h | h | h | h | h
  · exact Or.inl h
  · exact Or.inr h
  · obtain ⟨_, q, _⟩ := h
    exact absurd q (by omega)
  · obtain ⟨_, q, _⟩ := h
    exact absurd q (by omega)
  · obtain ⟨q, _⟩ := h
    exact absurd q (by omega)
  · obtain ⟨_, q, _⟩ := h
    exact absurd q (by omega)
  · obtain ⟨_, _, _, q, _⟩ := h
    exact absurd q (by omega)
  · obtain ⟨_, _, _, _, _, _, _, q, _⟩ := h
    exact absurd q (by omega)
  · obtain ⟨_, q, _⟩ := h
    exact absurd q (by omega)
  · obtain ⟨q, _⟩ := h
    exact absurd q (by omega)
  · obtain ⟨_, _, _, _, _, q, _⟩ := h
    exact absurd q (by omega)
  · obtain ⟨_, q, _⟩ := h
    exact absurd q (by omega)
  · obtain ⟨_, _, _, _, q, _⟩ := h
    exact absurd q (by omega)
  · obtain ⟨_, _, _, _, _, q, _⟩ := h
    exact absurd q (by omega)
theorem acR_f1 {A A_q : Nat → Nat → Int} {p fn op1 : Int} (h : acR A A_q p fn op1) (e : fn = 1) : (∃ rw : Int, (fn = 1) ∧ (A 64 p.toNat = rw) ∧ (A_q = comeM A p (i32 (rw + op1)).toInt)) := by
  rcases h with h | h | h | h | h | h | h | h | h | h | h | h | h | h
  · obtain ⟨_, q, _⟩ := h
    exact absurd q (by omega)
  · obtain ⟨_, _, _, _, _, _, _, q, _⟩ := h
    exact absurd q (by omega)
  · exact h
  · obtain ⟨_, q, _⟩ := h
    exact absurd q (by omega)
  · obtain ⟨q, _⟩ := h
    exact absurd q (by omega)
  · obtain ⟨_, q, _⟩ := h
    exact absurd q (by omega)
  · obtain ⟨_, _, _, q, _⟩ := h
    exact absurd q (by omega)
  · obtain ⟨_, _, _, _, _, _, _, q, _⟩ := h
    exact absurd q (by omega)
  · obtain ⟨_, q, _⟩ := h
    exact absurd q (by omega)
  · obtain ⟨q, _⟩ := h
    exact absurd q (by omega)
  · obtain ⟨_, _, _, _, _, q, _⟩ := h
    exact absurd q (by omega)
  · obtain ⟨_, q, _⟩ := h
    exact absurd q (by omega)
  · obtain ⟨_, _, _, _, q, _⟩ := h
    exact absurd q (by omega)
  · obtain ⟨_, _, _, _, _, q, _⟩ := h
    exact absurd q (by omega)
theorem acR_f3 {A A_q : Nat → Nat → Int} {p fn op1 : Int} (h : acR A A_q p fn op1) (e : fn = 3) : (∃ v : Int, (fn = 3) ∧ (A_q = uA A 60 p.toNat v)) := by
  rcases h with h | h | h | h | h | h | h | h | h | h | h | h | h | h
  · obtain ⟨_, q, _⟩ := h
    exact absurd q (by omega)
  · obtain ⟨_, _, _, _, _, _, _, q, _⟩ := h
    exact absurd q (by omega)
  · obtain ⟨_, q, _⟩ := h
    exact absurd q (by omega)
  · exact h
  · obtain ⟨q, _⟩ := h
    exact absurd q (by omega)
  · obtain ⟨_, q, _⟩ := h
    exact absurd q (by omega)
  · obtain ⟨_, _, _, q, _⟩ := h
    exact absurd q (by omega)
  · obtain ⟨_, _, _, _, _, _, _, q, _⟩ := h
    exact absurd q (by omega)
  · obtain ⟨_, q, _⟩ := h
    exact absurd q (by omega)
  · obtain ⟨q, _⟩ := h
    exact absurd q (by omega)
  · obtain ⟨_, _, _, _, _, q, _⟩ := h
    exact absurd q (by omega)
  · obtain ⟨_, q, _⟩ := h
    exact absurd q (by omega)
  · obtain ⟨_, _, _, _, q, _⟩ := h
    exact absurd q (by omega)
  · obtain ⟨_, _, _, _, _, q, _⟩ := h
    exact absurd q (by omega)
theorem acR_f4 {A A_q : Nat → Nat → Int} {p fn op1 : Int} (h : acR A A_q p fn op1) (e : fn = 4) : ((fn = 4) ∧ (A_q = comeM A p op1)) := by
  rcases h with h | h | h | h | h | h | h | h | h | h | h | h | h | h
  · obtain ⟨_, q, _⟩ := h
    exact absurd q (by omega)
  · obtain ⟨_, _, _, _, _, _, _, q, _⟩ := h
    exact absurd q (by omega)
  · obtain ⟨_, q, _⟩ := h
    exact absurd q (by omega)
  · obtain ⟨_, q, _⟩ := h
    exact absurd q (by omega)
  · exact h
  · obtain ⟨_, q, _⟩ := h
    exact absurd q (by omega)
  · obtain ⟨_, _, _, q, _⟩ := h
    exact absurd q (by omega)
  · obtain ⟨_, _, _, _, _, _, _, q, _⟩ := h
    exact absurd q (by omega)
  · obtain ⟨_, q, _⟩ := h
    exact absurd q (by omega)
  · obtain ⟨q, _⟩ := h
    exact absurd q (by omega)
  · obtain ⟨_, _, _, _, _, q, _⟩ := h
    exact absurd q (by omega)
  · obtain ⟨_, q, _⟩ := h
    exact absurd q (by omega)
  · obtain ⟨_, _, _, _, q, _⟩ := h
    exact absurd q (by omega)
  · obtain ⟨_, _, _, _, _, q, _⟩ := h
    exact absurd q (by omega)
theorem acR_f5 {A A_q : Nat → Nat → Int} {p fn op1 : Int} (h : acR A A_q p fn op1) (e : fn = 5 ∨ fn = 8) : (∃ v : Int, (fn = 5 ∨ fn = 8) ∧ (A_q = uA A 60 p.toNat v)) := by
  rcases h with h | h | h | h | h | h | h | h | h | h | h | h | h | h
  · obtain ⟨_, q, _⟩ := h
    exact absurd q (by omega)
  · obtain ⟨_, _, _, _, _, _, _, q, _⟩ := h
    exact absurd q (by omega)
  · obtain ⟨_, q, _⟩ := h
    exact absurd q (by omega)
  · obtain ⟨_, q, _⟩ := h
    exact absurd q (by omega)
  · obtain ⟨q, _⟩ := h
    exact absurd q (by omega)
  · exact h
  · obtain ⟨_, _, _, q, _⟩ := h
    exact absurd q (by omega)
  · obtain ⟨_, _, _, _, _, _, _, q, _⟩ := h
    exact absurd q (by omega)
  · obtain ⟨_, q, _⟩ := h
    exact absurd q (by omega)
  · obtain ⟨q, _⟩ := h
    exact absurd q (by omega)
  · obtain ⟨_, _, _, _, _, q, _⟩ := h
    exact absurd q (by omega)
  · obtain ⟨_, q, _⟩ := h
    exact absurd q (by omega)
  · obtain ⟨_, _, _, _, q, _⟩ := h
    exact absurd q (by omega)
  · obtain ⟨_, _, _, _, _, q, _⟩ := h
    exact absurd q (by omega)
theorem acR_f7 {A A_q : Nat → Nat → Int} {p fn op1 : Int} (h : acR A A_q p fn op1) (e : fn = 7) : (∃ rw v r : Int, (fn = 7) ∧ (A 64 p.toNat = rw) ∧ (v = (i32 (rw + op1)).toInt) ∧ (r = ldM A p v) ∧ (A_q = comeM A p r)) := by
  rcases h with h | h | h | h | h | h | h | h | h | h | h | h | h | h
  · obtain ⟨_, q, _⟩ := h
    exact absurd q (by omega)
  · obtain ⟨_, _, _, _, _, _, _, q, _⟩ := h
    exact absurd q (by omega)
  · obtain ⟨_, q, _⟩ := h
    exact absurd q (by omega)
  · obtain ⟨_, q, _⟩ := h
    exact absurd q (by omega)
  · obtain ⟨q, _⟩ := h
    exact absurd q (by omega)
  · obtain ⟨_, q, _⟩ := h
    exact absurd q (by omega)
  · exact h
  · obtain ⟨_, _, _, _, _, _, _, q, _⟩ := h
    exact absurd q (by omega)
  · obtain ⟨_, q, _⟩ := h
    exact absurd q (by omega)
  · obtain ⟨q, _⟩ := h
    exact absurd q (by omega)
  · obtain ⟨_, _, _, _, _, q, _⟩ := h
    exact absurd q (by omega)
  · obtain ⟨_, q, _⟩ := h
    exact absurd q (by omega)
  · obtain ⟨_, _, _, _, q, _⟩ := h
    exact absurd q (by omega)
  · obtain ⟨_, _, _, _, _, q, _⟩ := h
    exact absurd q (by omega)
theorem acR_f9 {A A_q : Nat → Nat → Int} {p fn op1 : Int} (h : acR A A_q p fn op1) (e : fn = 9) : (∃ rw ri rn b : Int, ∃ A1 A2 A3 : Nat → Nat → Int, (fn = 9) ∧ (A 64 p.toNat = rw) ∧ (A 63 p.toNat = ri) ∧ (A 66 p.toNat = rn) ∧ (b = rn % 2) ∧ (A1 = uA A 64 p.toNat (rw - 4)) ∧ (A2 = stM A1 p (rw - 4) ri) ∧ (A3 = uA A2 63 p.toNat (i32 (ri + op1)).toInt) ∧ (A_q = uA A3 66 p.toNat (2 * (rw - 4) + b))) := by
  rcases h with h | h | h | h | h | h | h | h | h | h | h | h | h | h
  · obtain ⟨_, q, _⟩ := h
    exact absurd q (by omega)
  · obtain ⟨_, _, _, _, _, _, _, q, _⟩ := h
    exact absurd q (by omega)
  · obtain ⟨_, q, _⟩ := h
    exact absurd q (by omega)
  · obtain ⟨_, q, _⟩ := h
    exact absurd q (by omega)
  · obtain ⟨q, _⟩ := h
    exact absurd q (by omega)
  · obtain ⟨_, q, _⟩ := h
    exact absurd q (by omega)
  · obtain ⟨_, _, _, q, _⟩ := h
    exact absurd q (by omega)
  · exact h
  · obtain ⟨_, q, _⟩ := h
    exact absurd q (by omega)
  · obtain ⟨q, _⟩ := h
    exact absurd q (by omega)
  · obtain ⟨_, _, _, _, _, q, _⟩ := h
    exact absurd q (by omega)
  · obtain ⟨_, q, _⟩ := h
    exact absurd q (by omega)
  · obtain ⟨_, _, _, _, q, _⟩ := h
    exact absurd q (by omega)
  · obtain ⟨_, _, _, _, _, q, _⟩ := h
    exact absurd q (by omega)
theorem acR_f10 {A A_q : Nat → Nat → Int} {p fn op1 : Int} (h : acR A A_q p fn op1) (e : fn = 10) : (∃ ri : Int, (fn = 10) ∧ (A 60 p.toNat = 0) ∧ (A 63 p.toNat = ri) ∧ (A_q = uA A 63 p.toNat (i32 (ri + op1)).toInt)) ∨ ((fn = 10) ∧ (A 60 p.toNat ≠ 0) ∧ (A_q = takeM A p)) := by
  rcases h with h | h | h | h | h | h | h | h | h | h | h | h | h | h
  · obtain ⟨_, q, _⟩ := h
    exact absurd q (by omega)
  · obtain ⟨_, _, _, _, _, _, _, q, _⟩ := h
    exact absurd q (by omega)
  · obtain ⟨_, q, _⟩ := h
    exact absurd q (by omega)
  · obtain ⟨_, q, _⟩ := h
    exact absurd q (by omega)
  · obtain ⟨q, _⟩ := h
    exact absurd q (by omega)
  · obtain ⟨_, q, _⟩ := h
    exact absurd q (by omega)
  · obtain ⟨_, _, _, q, _⟩ := h
    exact absurd q (by omega)
  · obtain ⟨_, _, _, _, _, _, _, q, _⟩ := h
    exact absurd q (by omega)
  · exact Or.inl h
  · exact Or.inr h
  · obtain ⟨_, _, _, _, _, q, _⟩ := h
    exact absurd q (by omega)
  · obtain ⟨_, q, _⟩ := h
    exact absurd q (by omega)
  · obtain ⟨_, _, _, _, q, _⟩ := h
    exact absurd q (by omega)
  · obtain ⟨_, _, _, _, _, q, _⟩ := h
    exact absurd q (by omega)
theorem acR_f11 {A A_q : Nat → Nat → Int} {p fn op1 : Int} (h : acR A A_q p fn op1) (e : fn = 11) : (∃ rw rn v b : Int, ∃ A1 : Nat → Nat → Int, (fn = 11) ∧ (A 64 p.toNat = rw) ∧ (A 66 p.toNat = rn) ∧ (v = (i32 (rw + op1)).toInt) ∧ (b = rn % 2) ∧ (A1 = uA A 64 p.toNat v) ∧ (A_q = uA A1 66 p.toNat (i32 (2 * v + b)).toInt)) := by
  rcases h with h | h | h | h | h | h | h | h | h | h | h | h | h | h
  · obtain ⟨_, q, _⟩ := h
    exact absurd q (by omega)
  · obtain ⟨_, _, _, _, _, _, _, q, _⟩ := h
    exact absurd q (by omega)
  · obtain ⟨_, q, _⟩ := h
    exact absurd q (by omega)
  · obtain ⟨_, q, _⟩ := h
    exact absurd q (by omega)
  · obtain ⟨q, _⟩ := h
    exact absurd q (by omega)
  · obtain ⟨_, q, _⟩ := h
    exact absurd q (by omega)
  · obtain ⟨_, _, _, q, _⟩ := h
    exact absurd q (by omega)
  · obtain ⟨_, _, _, _, _, _, _, q, _⟩ := h
    exact absurd q (by omega)
  · obtain ⟨_, q, _⟩ := h
    exact absurd q (by omega)
  · obtain ⟨q, _⟩ := h
    exact absurd q (by omega)
  · exact h
  · obtain ⟨_, q, _⟩ := h
    exact absurd q (by omega)
  · obtain ⟨_, _, _, _, q, _⟩ := h
    exact absurd q (by omega)
  · obtain ⟨_, _, _, _, _, q, _⟩ := h
    exact absurd q (by omega)
theorem acR_f12 {A A_q : Nat → Nat → Int} {p fn op1 : Int} (h : acR A A_q p fn op1) (e : fn = 12) : (∃ v : Int, (fn = 12) ∧ (A_q = uA A 60 p.toNat v)) := by
  rcases h with h | h | h | h | h | h | h | h | h | h | h | h | h | h
  · obtain ⟨_, q, _⟩ := h
    exact absurd q (by omega)
  · obtain ⟨_, _, _, _, _, _, _, q, _⟩ := h
    exact absurd q (by omega)
  · obtain ⟨_, q, _⟩ := h
    exact absurd q (by omega)
  · obtain ⟨_, q, _⟩ := h
    exact absurd q (by omega)
  · obtain ⟨q, _⟩ := h
    exact absurd q (by omega)
  · obtain ⟨_, q, _⟩ := h
    exact absurd q (by omega)
  · obtain ⟨_, _, _, q, _⟩ := h
    exact absurd q (by omega)
  · obtain ⟨_, _, _, _, _, _, _, q, _⟩ := h
    exact absurd q (by omega)
  · obtain ⟨_, q, _⟩ := h
    exact absurd q (by omega)
  · obtain ⟨q, _⟩ := h
    exact absurd q (by omega)
  · obtain ⟨_, _, _, _, _, q, _⟩ := h
    exact absurd q (by omega)
  · exact h
  · obtain ⟨_, _, _, _, q, _⟩ := h
    exact absurd q (by omega)
  · obtain ⟨_, _, _, _, _, q, _⟩ := h
    exact absurd q (by omega)
theorem acR_f13 {A A_q : Nat → Nat → Int} {p fn op1 : Int} (h : acR A A_q p fn op1) (e : fn = 13) : (∃ rw v ra : Int, ∃ A1 : Nat → Nat → Int, (fn = 13) ∧ (A 64 p.toNat = rw) ∧ (A 60 p.toNat = ra) ∧ (v = (i32 (rw + op1)).toInt) ∧ (A1 = stM A p v ra) ∧ (A_q = takeM A1 p)) := by
  rcases h with h | h | h | h | h | h | h | h | h | h | h | h | h | h
  · obtain ⟨_, q, _⟩ := h
    exact absurd q (by omega)
  · obtain ⟨_, _, _, _, _, _, _, q, _⟩ := h
    exact absurd q (by omega)
  · obtain ⟨_, q, _⟩ := h
    exact absurd q (by omega)
  · obtain ⟨_, q, _⟩ := h
    exact absurd q (by omega)
  · obtain ⟨q, _⟩ := h
    exact absurd q (by omega)
  · obtain ⟨_, q, _⟩ := h
    exact absurd q (by omega)
  · obtain ⟨_, _, _, q, _⟩ := h
    exact absurd q (by omega)
  · obtain ⟨_, _, _, _, _, _, _, q, _⟩ := h
    exact absurd q (by omega)
  · obtain ⟨_, q, _⟩ := h
    exact absurd q (by omega)
  · obtain ⟨q, _⟩ := h
    exact absurd q (by omega)
  · obtain ⟨_, _, _, _, _, q, _⟩ := h
    exact absurd q (by omega)
  · obtain ⟨_, q, _⟩ := h
    exact absurd q (by omega)
  · exact h
  · obtain ⟨_, _, _, _, _, q, _⟩ := h
    exact absurd q (by omega)
theorem acR_f14 {A A_q : Nat → Nat → Int} {p fn op1 : Int} (h : acR A A_q p fn op1) (e : fn = 14) : (∃ ra rb v : Int, ∃ A1 A2 : Nat → Nat → Int, (fn = 2 ∨ fn = 6 ∨ fn < 0 ∨ 14 ≤ fn) ∧ (A 60 p.toNat = ra) ∧ (A 61 p.toNat = rb) ∧ (v = (i32 (ra + op1)).toInt) ∧ (A1 = stM A p v rb) ∧ (A2 = takeM A1 p) ∧ (A_q = takeM A2 p)) := by
  rcases h with h | h | h | h | h | h | h | h | h | h | h | h | h | h
  · obtain ⟨_, q, _⟩ := h
    exact absurd q (by omega)
  · obtain ⟨_, _, _, _, _, _, _, q, _⟩ := h
    exact absurd q (by omega)
  · obtain ⟨_, q, _⟩ := h
    exact absurd q (by omega)
  · obtain ⟨_, q, _⟩ := h
    exact absurd q (by omega)
  · obtain ⟨q, _⟩ := h
    exact absurd q (by omega)
  · obtain ⟨_, q, _⟩ := h
    exact absurd q (by omega)
  · obtain ⟨_, _, _, q, _⟩ := h
    exact absurd q (by omega)
  · obtain ⟨_, _, _, _, _, _, _, q, _⟩ := h
    exact absurd q (by omega)
  · obtain ⟨_, q, _⟩ := h
    exact absurd q (by omega)
  · obtain ⟨q, _⟩ := h
    exact absurd q (by omega)
  · obtain ⟨_, _, _, _, _, q, _⟩ := h
    exact absurd q (by omega)
  · obtain ⟨_, q, _⟩ := h
    exact absurd q (by omega)
  · obtain ⟨_, _, _, _, q, _⟩ := h
    exact absurd q (by omega)
  · exact h
theorem opR_f0 {A A_q : Nat → Nat → Int} {it im om p op1 : Int} (h : opR A A_q it im om p op1) (e : op1 = 0) : (∃ ra rb : Int, ∃ A1 : Nat → Nat → Int, (op1 = 0) ∧ (A 60 p.toNat = ra) ∧ (A 61 p.toNat = rb) ∧ (A1 = uA A 60 p.toNat rb) ∧ (A_q = uA A1 61 p.toNat ra)) := by
  rcases h with h | h | h | h | h | h | h | h | h | h | h | h | h | h | h | h | h
  · exact h
  · obtain ⟨_, _, q, _⟩ := h
    exact absurd q (by omega)
  · obtain ⟨_, _, q, _⟩ := h
    exact absurd q (by omega)
  · obtain ⟨_, q, _⟩ := h
    exact absurd q (by omega)
  · obtain ⟨q, _⟩ := h
    exact absurd q (by omega)
  · obtain ⟨_, _, q, _⟩ := h
    exact absurd q (by omega)
  · obtain ⟨_, _, _, q, _⟩ := h
    exact absurd q (by omega)
  · obtain ⟨_, _, q, _⟩ := h
    exact absurd q (by omega)
  · obtain ⟨_, _, _, _, _, _, q, _⟩ := h
    exact absurd q (by omega)
  · obtain ⟨_, _, _, _, _, _, _, _, _, _, _, q, _⟩ := h
    exact absurd q (by omega)
  · obtain ⟨_, q, _⟩ := h
    exact absurd q (by omega)
  · obtain ⟨q, _⟩ := h
    exact absurd q (by omega)
  · obtain ⟨_, _, _, _, _, _, q, _⟩ := h
    exact absurd q (by omega)
  · obtain ⟨q, _⟩ := h
    exact absurd q (by omega)
  · obtain ⟨_, q, _⟩ := h
    exact absurd q (by omega)
  · obtain ⟨_, q, _⟩ := h
    exact absurd q (by omega)
  · obtain ⟨_, _, q, _⟩ := h
    exact absurd q (by omega)
theorem opR_f1 {A A_q : Nat → Nat → Int} {it im om p op1 : Int} (h : opR A A_q it im om p op1) (e : op1 = 1 ∨ op1 = 11) : (∃ ra rb : Int, (op1 = 1 ∨ op1 = 11) ∧ (A 60 p.toNat = ra) ∧ (A 61 p.toNat = rb) ∧ (A_q = twoM A p (i32 (ra + rb)).toInt)) := by
  rcases h with h | h | h | h | h | h | h | h | h | h | h | h | h | h | h | h | h
  · obtain ⟨_, _, _, q, _⟩ := h
    exact absurd q (by omega)
  · exact h
  · obtain ⟨_, _, q, _⟩ := h
    exact absurd q (by omega)
  · obtain ⟨_, q, _⟩ := h
    exact absurd q (by omega)
  · obtain ⟨q, _⟩ := h
    exact absurd q (by omega)
  · obtain ⟨_, _, q, _⟩ := h
    exact absurd q (by omega)
  · obtain ⟨_, _, _, q, _⟩ := h
    exact absurd q (by omega)
  · obtain ⟨_, _, q, _⟩ := h
    exact absurd q (by omega)
  · obtain ⟨_, _, _, _, _, _, q, _⟩ := h
    exact absurd q (by omega)
  · obtain ⟨_, _, _, _, _, _, _, _, _, _, _, q, _⟩ := h
    exact absurd q (by omega)
  · obtain ⟨_, q, _⟩ := h
    exact absurd q (by omega)
  · obtain ⟨q, _⟩ := h
    exact absurd q (by omega)
  · obtain ⟨_, _, _, _, _, _, q, _⟩ := h
    exact absurd q (by omega)
  · obtain ⟨q, _⟩ := h
    exact absurd q (by omega)
  · obtain ⟨_, q, _⟩ := h
    exact absurd q (by omega)
  · obtain ⟨_, q, _⟩ := h
    exact absurd q (by omega)
  · obtain ⟨_, _, q, _⟩ := h
    exact absurd q (by omega)
theorem opR_f2 {A A_q : Nat → Nat → Int} {it im om p op1 : Int} (h : opR A A_q it im om p op1) (e : op1 = 2) : (∃ ra rb : Int, (op1 = 2) ∧ (A 60 p.toNat = ra) ∧ (A 61 p.toNat = rb) ∧ (A_q = twoM A p (i32 (rb - ra)).toInt)) := by
  rcases h with h | h | h | h | h | h | h | h | h | h | h | h | h | h | h | h | h
  · obtain ⟨_, _, _, q, _⟩ := h
    exact absurd q (by omega)
  · obtain ⟨_, _, q, _⟩ := h
    exact absurd q (by omega)
  · exact h
  · obtain ⟨_, q, _⟩ := h
    exact absurd q (by omega)
  · obtain ⟨q, _⟩ := h
    exact absurd q (by omega)
  · obtain ⟨_, _, q, _⟩ := h
    exact absurd q (by omega)
  · obtain ⟨_, _, _, q, _⟩ := h
    exact absurd q (by omega)
  · obtain ⟨_, _, q, _⟩ := h
    exact absurd q (by omega)
  · obtain ⟨_, _, _, _, _, _, q, _⟩ := h
    exact absurd q (by omega)
  · obtain ⟨_, _, _, _, _, _, _, _, _, _, _, q, _⟩ := h
    exact absurd q (by omega)
  · obtain ⟨_, q, _⟩ := h
    exact absurd q (by omega)
  · obtain ⟨q, _⟩ := h
    exact absurd q (by omega)
  · obtain ⟨_, _, _, _, _, _, q, _⟩ := h
    exact absurd q (by omega)
  · obtain ⟨q, _⟩ := h
    exact absurd q (by omega)
  · obtain ⟨_, q, _⟩ := h
    exact absurd q (by omega)
  · obtain ⟨_, q, _⟩ := h
    exact absurd q (by omega)
  · obtain ⟨_, _, q, _⟩ := h
    exact absurd q (by omega)
theorem opR_f3 {A A_q : Nat → Nat → Int} {it im om p op1 : Int} (h : opR A A_q it im om p op1) (e : 3 ≤ op1 ∧ op1 ≤ 10) : (∃ v : Int, (3 ≤ op1 ∧ op1 ≤ 10) ∧ (A_q = twoM A p v)) ∨ ((4 ≤ op1 ∧ op1 ≤ 5) ∧ (A_q = faultM A p)) := by
  rcases h with h | h | h | h | h | h | h | h | h | h | h | h | h | h | h | h | h
  · obtain ⟨_, _, _, q, _⟩ := h
    exact absurd q (by omega)
  · obtain ⟨_, _, q, _⟩ := h
    exact absurd q (by omega)
  · obtain ⟨_, _, q, _⟩ := h
    exact absurd q (by omega)
  · exact Or.inl h
  · exact Or.inr h
  · obtain ⟨_, _, q, _⟩ := h
    exact absurd q (by omega)
  · obtain ⟨_, _, _, q, _⟩ := h
    exact absurd q (by omega)
  · obtain ⟨_, _, q, _⟩ := h
    exact absurd q (by omega)
  · obtain ⟨_, _, _, _, _, _, q, _⟩ := h
    exact absurd q (by omega)
  · obtain ⟨_, _, _, _, _, _, _, _, _, _, _, q, _⟩ := h
    exact absurd q (by omega)
  · obtain ⟨_, q, _⟩ := h
    exact absurd q (by omega)
  · obtain ⟨q, _⟩ := h
    exact absurd q (by omega)
  · obtain ⟨_, _, _, _, _, _, q, _⟩ := h
    exact absurd q (by omega)
  · obtain ⟨q, _⟩ := h
    exact absurd q (by omega)
  · obtain ⟨_, q, _⟩ := h
    exact absurd q (by omega)
  · obtain ⟨_, q, _⟩ := h
    exact absurd q (by omega)
  · obtain ⟨_, _, q, _⟩ := h
    exact absurd q (by omega)
theorem opR_f12 {A A_q : Nat → Nat → Int} {it im om p op1 : Int} (h : opR A A_q it im om p op1) (e : op1 = 12) : (∃ ra rb : Int, (op1 = 12) ∧ (A 60 p.toNat = ra) ∧ (A 61 p.toNat = rb) ∧ (0 ≤ rb ∧ rb < ra) ∧ (A_q = takeM A p)) ∨ (∃ ra rb : Int, ∃ A1 : Nat → Nat → Int, (op1 = 12) ∧ (A 60 p.toNat = ra) ∧ (A 61 p.toNat = rb) ∧ (rb < 0 ∨ ra ≤ rb) ∧ (A1 = takeM A p) ∧ (A_q = faultM A1 p)) := by
  rcases h with h | h | h | h | h | h | h | h | h | h | h | h | h | h | h | h | h
  · obtain ⟨_, _, _, q, _⟩ := h
    exact absurd q (by omega)
  · obtain ⟨_, _, q, _⟩ := h
    exact absurd q (by omega)
  · obtain ⟨_, _, q, _⟩ := h
    exact absurd q (by omega)
  · obtain ⟨_, q, _⟩ := h
    exact absurd q (by omega)
  · obtain ⟨q, _⟩ := h
    exact absurd q (by omega)
  · exact Or.inl h
  · exact Or.inr h
  · obtain ⟨_, _, q, _⟩ := h
    exact absurd q (by omega)
  · obtain ⟨_, _, _, _, _, _, q, _⟩ := h
    exact absurd q (by omega)
  · obtain ⟨_, _, _, _, _, _, _, _, _, _, _, q, _⟩ := h
    exact absurd q (by omega)
  · obtain ⟨_, q, _⟩ := h
    exact absurd q (by omega)
  · obtain ⟨q, _⟩ := h
    exact absurd q (by omega)
  · obtain ⟨_, _, _, _, _, _, q, _⟩ := h
    exact absurd q (by omega)
  · obtain ⟨q, _⟩ := h
    exact absurd q (by omega)
  · obtain ⟨_, q, _⟩ := h
    exact absurd q (by omega)
  · obtain ⟨_, q, _⟩ := h
    exact absurd q (by omega)
  · obtain ⟨_, _, q, _⟩ := h
    exact absurd q (by omega)
theorem opR_f13 {A A_q : Nat → Nat → Int} {it im om p op1 : Int} (h : opR A A_q it im om p op1) (e : op1 = 13) : (∃ ra ri : Int, (op1 = 13) ∧ (A 60 p.toNat = ra) ∧ (A 63 p.toNat = ri) ∧ (A_q = uA A 60 p.toNat (i32 (ri + ra)).toInt)) := by
  rcases h with h | h | h | h | h | h | h | h | h | h | h | h | h | h | h | h | h
  · obtain ⟨_, _, _, q, _⟩ := h
    exact absurd q (by omega)
  · obtain ⟨_, _, q, _⟩ := h
    exact absurd q (by omega)
  · obtain ⟨_, _, q, _⟩ := h
    exact absurd q (by omega)
  · obtain ⟨_, q, _⟩ := h
    exact absurd q (by omega)
  · obtain ⟨q, _⟩ := h
    exact absurd q (by omega)
  · obtain ⟨_, _, q, _⟩ := h
    exact absurd q (by omega)
  · obtain ⟨_, _, _, q, _⟩ := h
    exact absurd q (by omega)
  · exact h
  · obtain ⟨_, _, _, _, _, _, q, _⟩ := h
    exact absurd q (by omega)
  · obtain ⟨_, _, _, _, _, _, _, _, _, _, _, q, _⟩ := h
    exact absurd q (by omega)
  · obtain ⟨_, q, _⟩ := h
    exact absurd q (by omega)
  · obtain ⟨q, _⟩ := h
    exact absurd q (by omega)
  · obtain ⟨_, _, _, _, _, _, q, _⟩ := h
    exact absurd q (by omega)
  · obtain ⟨q, _⟩ := h
    exact absurd q (by omega)
  · obtain ⟨_, q, _⟩ := h
    exact absurd q (by omega)
  · obtain ⟨_, q, _⟩ := h
    exact absurd q (by omega)
  · obtain ⟨_, _, q, _⟩ := h
    exact absurd q (by omega)
theorem opR_f14 {A A_q : Nat → Nat → Int} {it im om p op1 : Int} (h : opR A A_q it im om p op1) (e : op1 = 14) : (∃ ra rb rc : Int, ∃ A1 A2 A3 : Nat → Nat → Int, (op1 = 14) ∧ (A 60 p.toNat = ra) ∧ (A 61 p.toNat = rb) ∧ (A 62 p.toNat = rc) ∧ (A1 = fiM A p ra rc rb.toNat) ∧ (A2 = uA A1 60 p.toNat 0) ∧ (A3 = uA A2 61 p.toNat 0) ∧ (A_q = uA A3 62 p.toNat 0)) := by
  rcases h with h | h | h | h | h | h | h | h | h | h | h | h | h | h | h | h | h
  · obtain ⟨_, _, _, q, _⟩ := h
    exact absurd q (by omega)
  · obtain ⟨_, _, q, _⟩ := h
    exact absurd q (by omega)
  · obtain ⟨_, _, q, _⟩ := h
    exact absurd q (by omega)
  · obtain ⟨_, q, _⟩ := h
    exact absurd q (by omega)
  · obtain ⟨q, _⟩ := h
    exact absurd q (by omega)
  · obtain ⟨_, _, q, _⟩ := h
    exact absurd q (by omega)
  · obtain ⟨_, _, _, q, _⟩ := h
    exact absurd q (by omega)
  · obtain ⟨_, _, q, _⟩ := h
    exact absurd q (by omega)
  · exact h
  · obtain ⟨_, _, _, _, _, _, _, _, _, _, _, q, _⟩ := h
    exact absurd q (by omega)
  · obtain ⟨_, q, _⟩ := h
    exact absurd q (by omega)
  · obtain ⟨q, _⟩ := h
    exact absurd q (by omega)
  · obtain ⟨_, _, _, _, _, _, q, _⟩ := h
    exact absurd q (by omega)
  · obtain ⟨q, _⟩ := h
    exact absurd q (by omega)
  · obtain ⟨_, q, _⟩ := h
    exact absurd q (by omega)
  · obtain ⟨_, q, _⟩ := h
    exact absurd q (by omega)
  · obtain ⟨_, _, q, _⟩ := h
    exact absurd q (by omega)
theorem opR_f15 {A A_q : Nat → Nat → Int} {it im om p op1 : Int} (h : opR A A_q it im om p op1) (e : op1 = 15 ∨ op1 = 16) : (∃ ra rb rn b d v1 v2 : Int, ∃ A1 A2 A3 A4 : Nat → Nat → Int, (op1 = 15 ∨ op1 = 16) ∧ (A 60 p.toNat = ra) ∧ (A 61 p.toNat = rb) ∧ (A 66 p.toNat = rn) ∧ (v1 = (i32 (ra - 1)).toInt) ∧ (v2 = (i32 (ra - 3)).toInt) ∧ (A1 = stM A p v1 rb) ∧ (A2 = stM A1 p v2 0) ∧ (A3 = takeM A2 p) ∧ (A4 = takeM A3 p) ∧ ((op1 = 16 ∧ b = 0) ∨ (op1 = 15 ∧ b = rn % 2)) ∧ (d = (i32 (2 * ra + b)).toInt) ∧ (mkR A4 A_q p d)) := by
  rcases h with h | h | h | h | h | h | h | h | h | h | h | h | h | h | h | h | h
  · obtain ⟨_, _, _, q, _⟩ := h
    exact absurd q (by omega)
  · obtain ⟨_, _, q, _⟩ := h
    exact absurd q (by omega)
  · obtain ⟨_, _, q, _⟩ := h
    exact absurd q (by omega)
  · obtain ⟨_, q, _⟩ := h
    exact absurd q (by omega)
  · obtain ⟨q, _⟩ := h
    exact absurd q (by omega)
  · obtain ⟨_, _, q, _⟩ := h
    exact absurd q (by omega)
  · obtain ⟨_, _, _, q, _⟩ := h
    exact absurd q (by omega)
  · obtain ⟨_, _, q, _⟩ := h
    exact absurd q (by omega)
  · obtain ⟨_, _, _, _, _, _, q, _⟩ := h
    exact absurd q (by omega)
  · exact h
  · obtain ⟨_, q, _⟩ := h
    exact absurd q (by omega)
  · obtain ⟨q, _⟩ := h
    exact absurd q (by omega)
  · obtain ⟨_, _, _, _, _, _, q, _⟩ := h
    exact absurd q (by omega)
  · obtain ⟨q, _⟩ := h
    exact absurd q (by omega)
  · obtain ⟨_, q, _⟩ := h
    exact absurd q (by omega)
  · obtain ⟨_, q, _⟩ := h
    exact absurd q (by omega)
  · obtain ⟨_, _, q, _⟩ := h
    exact absurd q (by omega)
theorem opR_f17 {A A_q : Nat → Nat → Int} {it im om p op1 : Int} (h : opR A A_q it im om p op1) (e : op1 = 17) : (∃ ra : Int, (op1 = 17) ∧ (A 60 p.toNat = ra) ∧ (ebR A A_q p ra)) := by
  rcases h with h | h | h | h | h | h | h | h | h | h | h | h | h | h | h | h | h
  · obtain ⟨_, _, _, q, _⟩ := h
    exact absurd q (by omega)
  · obtain ⟨_, _, q, _⟩ := h
    exact absurd q (by omega)
  · obtain ⟨_, _, q, _⟩ := h
    exact absurd q (by omega)
  · obtain ⟨_, q, _⟩ := h
    exact absurd q (by omega)
  · obtain ⟨q, _⟩ := h
    exact absurd q (by omega)
  · obtain ⟨_, _, q, _⟩ := h
    exact absurd q (by omega)
  · obtain ⟨_, _, _, q, _⟩ := h
    exact absurd q (by omega)
  · obtain ⟨_, _, q, _⟩ := h
    exact absurd q (by omega)
  · obtain ⟨_, _, _, _, _, _, q, _⟩ := h
    exact absurd q (by omega)
  · obtain ⟨_, _, _, _, _, _, _, _, _, _, _, q, _⟩ := h
    exact absurd q (by omega)
  · exact h
  · obtain ⟨q, _⟩ := h
    exact absurd q (by omega)
  · obtain ⟨_, _, _, _, _, _, q, _⟩ := h
    exact absurd q (by omega)
  · obtain ⟨q, _⟩ := h
    exact absurd q (by omega)
  · obtain ⟨_, q, _⟩ := h
    exact absurd q (by omega)
  · obtain ⟨_, q, _⟩ := h
    exact absurd q (by omega)
  · obtain ⟨_, _, q, _⟩ := h
    exact absurd q (by omega)
theorem opR_f18 {A A_q : Nat → Nat → Int} {it im om p op1 : Int} (h : opR A A_q it im om p op1) (e : op1 = 18) : ((op1 = 18) ∧ (A_q = goneM A p)) := by
  rcases h with h | h | h | h | h | h | h | h | h | h | h | h | h | h | h | h | h
  · obtain ⟨_, _, _, q, _⟩ := h
    exact absurd q (by omega)
  · obtain ⟨_, _, q, _⟩ := h
    exact absurd q (by omega)
  · obtain ⟨_, _, q, _⟩ := h
    exact absurd q (by omega)
  · obtain ⟨_, q, _⟩ := h
    exact absurd q (by omega)
  · obtain ⟨q, _⟩ := h
    exact absurd q (by omega)
  · obtain ⟨_, _, q, _⟩ := h
    exact absurd q (by omega)
  · obtain ⟨_, _, _, q, _⟩ := h
    exact absurd q (by omega)
  · obtain ⟨_, _, q, _⟩ := h
    exact absurd q (by omega)
  · obtain ⟨_, _, _, _, _, _, q, _⟩ := h
    exact absurd q (by omega)
  · obtain ⟨_, _, _, _, _, _, _, _, _, _, _, q, _⟩ := h
    exact absurd q (by omega)
  · obtain ⟨_, q, _⟩ := h
    exact absurd q (by omega)
  · exact h
  · obtain ⟨_, _, _, _, _, _, q, _⟩ := h
    exact absurd q (by omega)
  · obtain ⟨q, _⟩ := h
    exact absurd q (by omega)
  · obtain ⟨_, q, _⟩ := h
    exact absurd q (by omega)
  · obtain ⟨_, q, _⟩ := h
    exact absurd q (by omega)
  · obtain ⟨_, _, q, _⟩ := h
    exact absurd q (by omega)
theorem opR_f19 {A A_q : Nat → Nat → Int} {it im om p op1 : Int} (h : opR A A_q it im om p op1) (e : op1 = 19) : (∃ rw rn r b : Int, ∃ A1 A2 : Nat → Nat → Int, (op1 = 19) ∧ (A 64 p.toNat = rw) ∧ (A 66 p.toNat = rn) ∧ (r = ldM A p rw) ∧ (b = rn % 2) ∧ (A1 = uA A 63 p.toNat r) ∧ (A2 = uA A1 64 p.toNat (rw + 4)) ∧ (A_q = uA A2 66 p.toNat (2 * (rw + 4) + b))) := by
  rcases h with h | h | h | h | h | h | h | h | h | h | h | h | h | h | h | h | h
  · obtain ⟨_, _, _, q, _⟩ := h
    exact absurd q (by omega)
  · obtain ⟨_, _, q, _⟩ := h
    exact absurd q (by omega)
  · obtain ⟨_, _, q, _⟩ := h
    exact absurd q (by omega)
  · obtain ⟨_, q, _⟩ := h
    exact absurd q (by omega)
  · obtain ⟨q, _⟩ := h
    exact absurd q (by omega)
  · obtain ⟨_, _, q, _⟩ := h
    exact absurd q (by omega)
  · obtain ⟨_, _, _, q, _⟩ := h
    exact absurd q (by omega)
  · obtain ⟨_, _, q, _⟩ := h
    exact absurd q (by omega)
  · obtain ⟨_, _, _, _, _, _, q, _⟩ := h
    exact absurd q (by omega)
  · obtain ⟨_, _, _, _, _, _, _, _, _, _, _, q, _⟩ := h
    exact absurd q (by omega)
  · obtain ⟨_, q, _⟩ := h
    exact absurd q (by omega)
  · obtain ⟨q, _⟩ := h
    exact absurd q (by omega)
  · exact h
  · obtain ⟨q, _⟩ := h
    exact absurd q (by omega)
  · obtain ⟨_, q, _⟩ := h
    exact absurd q (by omega)
  · obtain ⟨_, q, _⟩ := h
    exact absurd q (by omega)
  · obtain ⟨_, _, q, _⟩ := h
    exact absurd q (by omega)
theorem opR_f29 {A A_q : Nat → Nat → Int} {it im om p op1 : Int} (h : opR A A_q it im om p op1) (e : op1 = 29) : ((op1 = 29) ∧ (A_q = faultM A p)) := by
  rcases h with h | h | h | h | h | h | h | h | h | h | h | h | h | h | h | h | h
  · obtain ⟨_, _, _, q, _⟩ := h
    exact absurd q (by omega)
  · obtain ⟨_, _, q, _⟩ := h
    exact absurd q (by omega)
  · obtain ⟨_, _, q, _⟩ := h
    exact absurd q (by omega)
  · obtain ⟨_, q, _⟩ := h
    exact absurd q (by omega)
  · obtain ⟨q, _⟩ := h
    exact absurd q (by omega)
  · obtain ⟨_, _, q, _⟩ := h
    exact absurd q (by omega)
  · obtain ⟨_, _, _, q, _⟩ := h
    exact absurd q (by omega)
  · obtain ⟨_, _, q, _⟩ := h
    exact absurd q (by omega)
  · obtain ⟨_, _, _, _, _, _, q, _⟩ := h
    exact absurd q (by omega)
  · obtain ⟨_, _, _, _, _, _, _, _, _, _, _, q, _⟩ := h
    exact absurd q (by omega)
  · obtain ⟨_, q, _⟩ := h
    exact absurd q (by omega)
  · obtain ⟨q, _⟩ := h
    exact absurd q (by omega)
  · obtain ⟨_, _, _, _, _, _, q, _⟩ := h
    exact absurd q (by omega)
  · exact h
  · obtain ⟨_, q, _⟩ := h
    exact absurd q (by omega)
  · obtain ⟨_, q, _⟩ := h
    exact absurd q (by omega)
  · obtain ⟨_, _, q, _⟩ := h
    exact absurd q (by omega)
theorem opR_f30 {A A_q : Nat → Nat → Int} {it im om p op1 : Int} (h : opR A A_q it im om p op1) (e : op1 = 30) : (∃ rn : Int, (op1 = 30) ∧ (A 66 p.toNat = rn) ∧ (A_q = comeM A p rn)) := by
  rcases h with h | h | h | h | h | h | h | h | h | h | h | h | h | h | h | h | h
  · obtain ⟨_, _, _, q, _⟩ := h
    exact absurd q (by omega)
  · obtain ⟨_, _, q, _⟩ := h
    exact absurd q (by omega)
  · obtain ⟨_, _, q, _⟩ := h
    exact absurd q (by omega)
  · obtain ⟨_, q, _⟩ := h
    exact absurd q (by omega)
  · obtain ⟨q, _⟩ := h
    exact absurd q (by omega)
  · obtain ⟨_, _, q, _⟩ := h
    exact absurd q (by omega)
  · obtain ⟨_, _, _, q, _⟩ := h
    exact absurd q (by omega)
  · obtain ⟨_, _, q, _⟩ := h
    exact absurd q (by omega)
  · obtain ⟨_, _, _, _, _, _, q, _⟩ := h
    exact absurd q (by omega)
  · obtain ⟨_, _, _, _, _, _, _, _, _, _, _, q, _⟩ := h
    exact absurd q (by omega)
  · obtain ⟨_, q, _⟩ := h
    exact absurd q (by omega)
  · obtain ⟨q, _⟩ := h
    exact absurd q (by omega)
  · obtain ⟨_, _, _, _, _, _, q, _⟩ := h
    exact absurd q (by omega)
  · obtain ⟨q, _⟩ := h
    exact absurd q (by omega)
  · exact h
  · obtain ⟨_, q, _⟩ := h
    exact absurd q (by omega)
  · obtain ⟨_, _, q, _⟩ := h
    exact absurd q (by omega)
theorem opR_f31 {A A_q : Nat → Nat → Int} {it im om p op1 : Int} (h : opR A A_q it im om p op1) (e : op1 = 31) : (∃ A1 : Nat → Nat → Int, (op1 = 31) ∧ (A1 = uA A 68 p.toNat 1) ∧ (A_q = goneM A1 p)) := by
  rcases h with h | h | h | h | h | h | h | h | h | h | h | h | h | h | h | h | h
  · obtain ⟨_, _, _, q, _⟩ := h
    exact absurd q (by omega)
  · obtain ⟨_, _, q, _⟩ := h
    exact absurd q (by omega)
  · obtain ⟨_, _, q, _⟩ := h
    exact absurd q (by omega)
  · obtain ⟨_, q, _⟩ := h
    exact absurd q (by omega)
  · obtain ⟨q, _⟩ := h
    exact absurd q (by omega)
  · obtain ⟨_, _, q, _⟩ := h
    exact absurd q (by omega)
  · obtain ⟨_, _, _, q, _⟩ := h
    exact absurd q (by omega)
  · obtain ⟨_, _, q, _⟩ := h
    exact absurd q (by omega)
  · obtain ⟨_, _, _, _, _, _, q, _⟩ := h
    exact absurd q (by omega)
  · obtain ⟨_, _, _, _, _, _, _, _, _, _, _, q, _⟩ := h
    exact absurd q (by omega)
  · obtain ⟨_, q, _⟩ := h
    exact absurd q (by omega)
  · obtain ⟨q, _⟩ := h
    exact absurd q (by omega)
  · obtain ⟨_, _, _, _, _, _, q, _⟩ := h
    exact absurd q (by omega)
  · obtain ⟨q, _⟩ := h
    exact absurd q (by omega)
  · obtain ⟨_, q, _⟩ := h
    exact absurd q (by omega)
  · exact h
  · obtain ⟨_, _, q, _⟩ := h
    exact absurd q (by omega)
theorem opR_f20 {A A_q : Nat → Nat → Int} {it im om p op1 : Int} (h : opR A A_q it im om p op1) (e : 20 ≤ op1 ∧ op1 ≤ 28) : (∃ ra rb : Int, ((20 ≤ op1 ∧ op1 ≤ 28) ∨ op1 < 0 ∨ 32 ≤ op1) ∧ (A 60 p.toNat = ra) ∧ (A 61 p.toNat = rb) ∧ (spR A A_q it im om p op1 ra rb)) := by
  rcases h with h | h | h | h | h | h | h | h | h | h | h | h | h | h | h | h | h
  · obtain ⟨_, _, _, q, _⟩ := h
    exact absurd q (by omega)
  · obtain ⟨_, _, q, _⟩ := h
    exact absurd q (by omega)
  · obtain ⟨_, _, q, _⟩ := h
    exact absurd q (by omega)
  · obtain ⟨_, q, _⟩ := h
    exact absurd q (by omega)
  · obtain ⟨q, _⟩ := h
    exact absurd q (by omega)
  · obtain ⟨_, _, q, _⟩ := h
    exact absurd q (by omega)
  · obtain ⟨_, _, _, q, _⟩ := h
    exact absurd q (by omega)
  · obtain ⟨_, _, q, _⟩ := h
    exact absurd q (by omega)
  · obtain ⟨_, _, _, _, _, _, q, _⟩ := h
    exact absurd q (by omega)
  · obtain ⟨_, _, _, _, _, _, _, _, _, _, _, q, _⟩ := h
    exact absurd q (by omega)
  · obtain ⟨_, q, _⟩ := h
    exact absurd q (by omega)
  · obtain ⟨q, _⟩ := h
    exact absurd q (by omega)
  · obtain ⟨_, _, _, _, _, _, q, _⟩ := h
    exact absurd q (by omega)
  · obtain ⟨q, _⟩ := h
    exact absurd q (by omega)
  · obtain ⟨_, q, _⟩ := h
    exact absurd q (by omega)
  · obtain ⟨_, q, _⟩ := h
    exact absurd q (by omega)
  · exact h
theorem spR_f20 {A A_q : Nat → Nat → Int} {it im om p o a b : Int} (h : spR A A_q it im om p o a b) (e : o = 20) : (∃ A1 A2 : Nat → Nat → Int, (o = 20) ∧ (A1 = takeM A p) ∧ (A2 = takeM A1 p) ∧ (inR A2 A_q it im p a b)) := by
  rcases h with h | h | h | h | h | h | h | h | h | h | h | h | h | h
  · obtain ⟨_, _, q, _⟩ := h
    exact absurd q (by omega)
  · exact h
  · obtain ⟨_, _, q, _⟩ := h
    exact absurd q (by omega)
  · obtain ⟨q, _⟩ := h
    exact absurd q (by omega)
  · obtain ⟨_, q, _⟩ := h
    exact absurd q (by omega)
  · obtain ⟨q, _⟩ := h
    exact absurd q (by omega)
  · obtain ⟨_, q, _⟩ := h
    exact absurd q (by omega)
  · obtain ⟨_, _, q, _⟩ := h
    exact absurd q (by omega)
  · obtain ⟨_, _, _, q, _⟩ := h
    exact absurd q (by omega)
  · obtain ⟨_, _, q, _⟩ := h
    exact absurd q (by omega)
  · obtain ⟨_, _, _, _, q, _⟩ := h
    exact absurd q (by omega)
  · obtain ⟨_, q, _⟩ := h
    exact absurd q (by omega)
  · obtain ⟨_, _, _, _, q, _⟩ := h
    exact absurd q (by omega)
  · obtain ⟨_, _, _, _, q, _⟩ := h
    exact absurd q (by omega)
theorem spR_f21 {A A_q : Nat → Nat → Int} {it im om p o a b : Int} (h : spR A A_q it im om p o a b) (e : o = 21) : (∃ A1 A2 : Nat → Nat → Int, (o = 21) ∧ (A1 = takeM A p) ∧ (A2 = takeM A1 p) ∧ (ouR A2 A_q om p a b)) := by
  rcases h with h | h | h | h | h | h | h | h | h | h | h | h | h | h
  · exact h
  · obtain ⟨_, _, q, _⟩ := h
    exact absurd q (by omega)
  · obtain ⟨_, _, q, _⟩ := h
    exact absurd q (by omega)
  · obtain ⟨q, _⟩ := h
    exact absurd q (by omega)
  · obtain ⟨_, q, _⟩ := h
    exact absurd q (by omega)
  · obtain ⟨q, _⟩ := h
    exact absurd q (by omega)
  · obtain ⟨_, q, _⟩ := h
    exact absurd q (by omega)
  · obtain ⟨_, _, q, _⟩ := h
    exact absurd q (by omega)
  · obtain ⟨_, _, _, q, _⟩ := h
    exact absurd q (by omega)
  · obtain ⟨_, _, q, _⟩ := h
    exact absurd q (by omega)
  · obtain ⟨_, _, _, _, q, _⟩ := h
    exact absurd q (by omega)
  · obtain ⟨_, q, _⟩ := h
    exact absurd q (by omega)
  · obtain ⟨_, _, _, _, q, _⟩ := h
    exact absurd q (by omega)
  · obtain ⟨_, _, _, _, q, _⟩ := h
    exact absurd q (by omega)
theorem spR_f22 {A A_q : Nat → Nat → Int} {it im om p o a b : Int} (h : spR A A_q it im om p o a b) (e : o = 22) : (∃ rw : Int, ∃ A1 : Nat → Nat → Int, (o = 22) ∧ (A 64 p.toNat = rw) ∧ (A1 = stM A p (rw - 3) 1) ∧ (A_q = stM A1 p rw (-1))) := by
  rcases h with h | h | h | h | h | h | h | h | h | h | h | h | h | h
  · obtain ⟨_, _, q, _⟩ := h
    exact absurd q (by omega)
  · obtain ⟨_, _, q, _⟩ := h
    exact absurd q (by omega)
  · exact h
  · obtain ⟨q, _⟩ := h
    exact absurd q (by omega)
  · obtain ⟨_, q, _⟩ := h
    exact absurd q (by omega)
  · obtain ⟨q, _⟩ := h
    exact absurd q (by omega)
  · obtain ⟨_, q, _⟩ := h
    exact absurd q (by omega)
  · obtain ⟨_, _, q, _⟩ := h
    exact absurd q (by omega)
  · obtain ⟨_, _, _, q, _⟩ := h
    exact absurd q (by omega)
  · obtain ⟨_, _, q, _⟩ := h
    exact absurd q (by omega)
  · obtain ⟨_, _, _, _, q, _⟩ := h
    exact absurd q (by omega)
  · obtain ⟨_, q, _⟩ := h
    exact absurd q (by omega)
  · obtain ⟨_, _, _, _, q, _⟩ := h
    exact absurd q (by omega)
  · obtain ⟨_, _, _, _, q, _⟩ := h
    exact absurd q (by omega)
theorem spR_f23 {A A_q : Nat → Nat → Int} {it im om p o a b : Int} (h : spR A A_q it im om p o a b) (e : o = 23) : ((o = 23) ∧ (b = 0) ∧ (A_q = takeM A p)) ∨ (∃ A1 : Nat → Nat → Int, (o = 23) ∧ (b ≠ 0) ∧ (A1 = takeM A p) ∧ (enR A1 A_q it im p a)) := by
  rcases h with h | h | h | h | h | h | h | h | h | h | h | h | h | h
  · obtain ⟨_, _, q, _⟩ := h
    exact absurd q (by omega)
  · obtain ⟨_, _, q, _⟩ := h
    exact absurd q (by omega)
  · obtain ⟨_, _, q, _⟩ := h
    exact absurd q (by omega)
  · exact Or.inl h
  · exact Or.inr h
  · obtain ⟨q, _⟩ := h
    exact absurd q (by omega)
  · obtain ⟨_, q, _⟩ := h
    exact absurd q (by omega)
  · obtain ⟨_, _, q, _⟩ := h
    exact absurd q (by omega)
  · obtain ⟨_, _, _, q, _⟩ := h
    exact absurd q (by omega)
  · obtain ⟨_, _, q, _⟩ := h
    exact absurd q (by omega)
  · obtain ⟨_, _, _, _, q, _⟩ := h
    exact absurd q (by omega)
  · obtain ⟨_, q, _⟩ := h
    exact absurd q (by omega)
  · obtain ⟨_, _, _, _, q, _⟩ := h
    exact absurd q (by omega)
  · obtain ⟨_, _, _, _, q, _⟩ := h
    exact absurd q (by omega)
theorem spR_f24 {A A_q : Nat → Nat → Int} {it im om p o a b : Int} (h : spR A A_q it im om p o a b) (e : o = 24) : ((o = 24) ∧ (a = 0) ∧ (A_q = A)) ∨ (∃ rw : Int, (o = 24) ∧ (A 64 p.toNat = rw) ∧ (a ≠ 0) ∧ (A_q = stM A p (rw - 3) 3)) := by
  rcases h with h | h | h | h | h | h | h | h | h | h | h | h | h | h
  · obtain ⟨_, _, q, _⟩ := h
    exact absurd q (by omega)
  · obtain ⟨_, _, q, _⟩ := h
    exact absurd q (by omega)
  · obtain ⟨_, _, q, _⟩ := h
    exact absurd q (by omega)
  · obtain ⟨q, _⟩ := h
    exact absurd q (by omega)
  · obtain ⟨_, q, _⟩ := h
    exact absurd q (by omega)
  · exact Or.inl h
  · exact Or.inr h
  · obtain ⟨_, _, q, _⟩ := h
    exact absurd q (by omega)
  · obtain ⟨_, _, _, q, _⟩ := h
    exact absurd q (by omega)
  · obtain ⟨_, _, q, _⟩ := h
    exact absurd q (by omega)
  · obtain ⟨_, _, _, _, q, _⟩ := h
    exact absurd q (by omega)
  · obtain ⟨_, q, _⟩ := h
    exact absurd q (by omega)
  · obtain ⟨_, _, _, _, q, _⟩ := h
    exact absurd q (by omega)
  · obtain ⟨_, _, _, _, q, _⟩ := h
    exact absurd q (by omega)
theorem spR_f25 {A A_q : Nat → Nat → Int} {it im om p o a b : Int} (h : spR A A_q it im om p o a b) (e : o = 25) : (∃ rw r : Int, (o = 25) ∧ (A 64 p.toNat = rw) ∧ (r = ldM A p (rw - 3)) ∧ (r = 3) ∧ (A_q = A)) ∨ (∃ rw r : Int, ∃ A1 : Nat → Nat → Int, (o = 25) ∧ (A 64 p.toNat = rw) ∧ (r = ldM A p (rw - 3)) ∧ (r ≠ 3) ∧ (A1 = stM A p (rw - 3) 2) ∧ (A_q = waitM A1 p)) := by
  rcases h with h | h | h | h | h | h | h | h | h | h | h | h | h | h
  · obtain ⟨_, _, q, _⟩ := h
    exact absurd q (by omega)
  · obtain ⟨_, _, q, _⟩ := h
    exact absurd q (by omega)
  · obtain ⟨_, _, q, _⟩ := h
    exact absurd q (by omega)
  · obtain ⟨q, _⟩ := h
    exact absurd q (by omega)
  · obtain ⟨_, q, _⟩ := h
    exact absurd q (by omega)
  · obtain ⟨q, _⟩ := h
    exact absurd q (by omega)
  · obtain ⟨_, q, _⟩ := h
    exact absurd q (by omega)
  · exact Or.inl h
  · exact Or.inr h
  · obtain ⟨_, _, q, _⟩ := h
    exact absurd q (by omega)
  · obtain ⟨_, _, _, _, q, _⟩ := h
    exact absurd q (by omega)
  · obtain ⟨_, q, _⟩ := h
    exact absurd q (by omega)
  · obtain ⟨_, _, _, _, q, _⟩ := h
    exact absurd q (by omega)
  · obtain ⟨_, _, _, _, q, _⟩ := h
    exact absurd q (by omega)
theorem spR_f26 {A A_q : Nat → Nat → Int} {it im om p o a b : Int} (h : spR A A_q it im om p o a b) (e : o = 26) : (∃ A1 A2 : Nat → Nat → Int, (o = 26) ∧ (b = 0) ∧ (A1 = takeM A p) ∧ (A2 = takeM A1 p) ∧ (A_q = takeM A2 p)) ∨ (∃ rc : Int, ∃ A1 A2 A3 : Nat → Nat → Int, (o = 26) ∧ (b ≠ 0) ∧ (A 62 p.toNat = rc) ∧ (A1 = takeM A p) ∧ (A2 = takeM A1 p) ∧ (A3 = takeM A2 p) ∧ (dsR A3 A_q it im p a rc)) := by
  rcases h with h | h | h | h | h | h | h | h | h | h | h | h | h | h
  · obtain ⟨_, _, q, _⟩ := h
    exact absurd q (by omega)
  · obtain ⟨_, _, q, _⟩ := h
    exact absurd q (by omega)
  · obtain ⟨_, _, q, _⟩ := h
    exact absurd q (by omega)
  · obtain ⟨q, _⟩ := h
    exact absurd q (by omega)
  · obtain ⟨_, q, _⟩ := h
    exact absurd q (by omega)
  · obtain ⟨q, _⟩ := h
    exact absurd q (by omega)
  · obtain ⟨_, q, _⟩ := h
    exact absurd q (by omega)
  · obtain ⟨_, _, q, _⟩ := h
    exact absurd q (by omega)
  · obtain ⟨_, _, _, q, _⟩ := h
    exact absurd q (by omega)
  · exact Or.inl h
  · exact Or.inr h
  · obtain ⟨_, q, _⟩ := h
    exact absurd q (by omega)
  · obtain ⟨_, _, _, _, q, _⟩ := h
    exact absurd q (by omega)
  · obtain ⟨_, _, _, _, q, _⟩ := h
    exact absurd q (by omega)
theorem spR_f27 {A A_q : Nat → Nat → Int} {it im om p o a b : Int} (h : spR A A_q it im om p o a b) (e : o = 27) : (∃ A1 : Nat → Nat → Int, (o = 27) ∧ (A1 = takeM A p) ∧ (A_q = takeM A1 p)) ∨ (∃ rw r : Int, ∃ A1 A2 : Nat → Nat → Int, (o = 27) ∧ (A 64 p.toNat = rw) ∧ (A1 = takeM A p) ∧ (A2 = takeM A1 p) ∧ (r = ldM A2 p rw) ∧ (r = -1) ∧ (A_q = stM A2 p rw b)) := by
  rcases h with h | h | h | h | h | h | h | h | h | h | h | h | h | h
  · obtain ⟨_, _, q, _⟩ := h
    exact absurd q (by omega)
  · obtain ⟨_, _, q, _⟩ := h
    exact absurd q (by omega)
  · obtain ⟨_, _, q, _⟩ := h
    exact absurd q (by omega)
  · obtain ⟨q, _⟩ := h
    exact absurd q (by omega)
  · obtain ⟨_, q, _⟩ := h
    exact absurd q (by omega)
  · obtain ⟨q, _⟩ := h
    exact absurd q (by omega)
  · obtain ⟨_, q, _⟩ := h
    exact absurd q (by omega)
  · obtain ⟨_, _, q, _⟩ := h
    exact absurd q (by omega)
  · obtain ⟨_, _, _, q, _⟩ := h
    exact absurd q (by omega)
  · obtain ⟨_, _, q, _⟩ := h
    exact absurd q (by omega)
  · obtain ⟨_, _, _, _, q, _⟩ := h
    exact absurd q (by omega)
  · exact Or.inl h
  · exact Or.inr h
  · obtain ⟨_, _, _, _, q, _⟩ := h
    exact absurd q (by omega)
theorem spR_f28 {A A_q : Nat → Nat → Int} {it im om p o a b : Int} (h : spR A A_q it im om p o a b) (e : o = 28) : (∃ rw ri r : Int, ∃ A1 : Nat → Nat → Int, (o < 20 ∨ 28 ≤ o) ∧ (A 64 p.toNat = rw) ∧ (A 63 p.toNat = ri) ∧ (A1 = stM A p (rw - 3) 0) ∧ (r = ldM A1 p rw) ∧ (A_q = uA A1 63 p.toNat (i32 (ri + r)).toInt)) := by
  rcases h with h | h | h | h | h | h | h | h | h | h | h | h | h | h
  · obtain ⟨_, _, q, _⟩ := h
    exact absurd q (by omega)
  · obtain ⟨_, _, q, _⟩ := h
    exact absurd q (by omega)
  · obtain ⟨_, _, q, _⟩ := h
    exact absurd q (by omega)
  · obtain ⟨q, _⟩ := h
    exact absurd q (by omega)
  · obtain ⟨_, q, _⟩ := h
    exact absurd q (by omega)
  · obtain ⟨q, _⟩ := h
    exact absurd q (by omega)
  · obtain ⟨_, q, _⟩ := h
    exact absurd q (by omega)
  · obtain ⟨_, _, q, _⟩ := h
    exact absurd q (by omega)
  · obtain ⟨_, _, _, q, _⟩ := h
    exact absurd q (by omega)
  · obtain ⟨_, _, q, _⟩ := h
    exact absurd q (by omega)
  · obtain ⟨_, _, _, _, q, _⟩ := h
    exact absurd q (by omega)
  · obtain ⟨_, q, _⟩ := h
    exact absurd q (by omega)
  · obtain ⟨_, _, _, _, q, _⟩ := h
    exact absurd q (by omega)
  · exact h
