/-! THE CLASS'S SIDE: trees of nodes. Places that no content hangs on: 100 a node's rank, 101 the parameter that it is an argument for, 103 it is whole -/
def SN (m : Nat) (tg : Int → Int) (F : Int → Int → Int) (a : Int) (k : Nat) : Prop := a = 0 ∨ (own m a ∧ tg a = 8 ∧ F a 103 = 1 ∧ 1 ≤ F a 100 ∧ F a 100 ≤ (k : Int))
def NT1 (m : Nat) (tg : Int → Int) (F : Int → Int → Int) (a : Int) : Prop := (∀ q, q = 4 ∨ q = 5 ∨ q = 6 ∨ q = 7 → F a q ≠ 0 → F (F a q) 103 = 1 ∧ 1 ≤ F (F a q) 100 ∧ F (F a q) 100 < F a 100) ∧ (F a 8 ≠ 0 → F (F a 8) 103 = 1 ∧ a < F a 8 ∧ F (F a 8) 100 = F a 100) ∧ (F a 0 = 5 → F a 3 ≠ 0 → F a 4 ≠ 0 → F (F a 4) 101 = F (F a 3) 13 ∧ F (F a 3) 13 ≠ 0) ∧ (F a 101 ≠ 0 → own m (F a 101) ∧ tg (F a 101) = 7 ∧ (F (F a 101) 0 ≠ 1 → F a 3 ≠ 0) ∧ (F a 8 ≠ 0 → F (F a 8) 101 = F (F a 101) 14 ∧ F (F a 101) 14 ≠ 0))
def NT (m : Nat) (tg : Int → Int) (F : Int → Int → Int) : Prop := (∀ a, own m a → tg a = 8 → F a 103 = 1 → NT1 m tg F a) ∧ (∀ a, own m a → tg a = 7 → (F a 14 ≠ 0 → a < F a 14) ∧ (F a 15 ≠ 0 → F a 15 < a))
section
variable {m : Nat} {tg ln : Int → Int} {F F_q : Int → Int → Int} {a q : Int} {k k_q : Nat} {L : List (Int × Int)}
theorem HC_nd (hC : HC 0 m tg ln F) (ho : own m a) (ht : tg a = 8) (hq : q = 4 ∨ q = 5 ∨ q = 6 ∨ q = 7 ∨ q = 8) : F a q = 0 ∨ (own m (F a q) ∧ tg (F a q) = 8) := by
  rcases hq with rfl | rfl | rfl | rfl | rfl
  · exact HC_r (c := 7) (q := 4) hC ho ht (by decide) rfl
  · exact HC_r (c := 7) (q := 5) hC ho ht (by decide) rfl
  · exact HC_r (c := 7) (q := 6) hC ho ht (by decide) rfl
  · exact HC_r (c := 7) (q := 7) hC ho ht (by decide) rfl
  · exact HC_r (c := 7) (q := 8) hC ho ht (by decide) rfl
theorem SN_w (h : SN m tg F a k) (hk : k ≤ k_q) : SN m tg F a k_q := h.imp id (fun z => ⟨z.1, z.2.1, z.2.2.1, z.2.2.2.1, by have := z.2.2.2.2; omega⟩)
theorem SN_p (h : SN m tg F a k) (ha : a ≠ 0) : 1 ≤ k := by
  have z := h.resolve_left ha
  omega
theorem SN_c (hC : HC 0 m tg ln F) (hN : NT m tg F) (h : SN m tg F a k) (ha : a ≠ 0) (hq : q = 4 ∨ q = 5 ∨ q = 6 ∨ q = 7) : SN m tg F (F a q) (k - 1) := by
  obtain ⟨o, t, s, r1, r2⟩ := h.resolve_left ha
  rcases HC_nd hC o t (show q = 4 ∨ q = 5 ∨ q = 6 ∨ q = 7 ∨ q = 8 by omega) with z | z
  · exact Or.inl z
  · have w := (hN.1 a o t s).1 q hq (own_z z.1)
    exact Or.inr ⟨z.1, z.2, w.1, w.2.1, by omega⟩
theorem SN_n (hC : HC 0 m tg ln F) (hN : NT m tg F) (h : SN m tg F a k) (ha : a ≠ 0) : SN m tg F (F a 8) k := by
  obtain ⟨o, t, s, r1, r2⟩ := h.resolve_left ha
  rcases HC_nd (q := 8) hC o t (by omega) with z | z
  · exact Or.inl z
  · have w := (hN.1 a o t s).2.1 (own_z z.1)
    exact Or.inr ⟨z.1, z.2, w.1, by omega, by omega⟩
theorem SN_q (h : SN m tg F a k) (g : Fq 0 L m tg F F_q) (h1 : inL L 8 103 = false) (h2 : inL L 8 100 = false) : SN m tg F_q a k := by
  rcases h with h | ⟨o, t, s, r1, r2⟩
  · exact Or.inl h
  · have e1 := g a 103 o (own_z o) (by rw [t]; exact h1)
    have e2 := g a 100 o (own_z o) (by rw [t]; exact h2)
    exact Or.inr ⟨o, t, by rw [e1]; exact s, by rw [e2]; exact r1, by rw [e2]; exact r2⟩
def NTd (L : List (Int × Int)) : Bool := !inL L 8 0 && !inL L 8 3 && !inL L 8 4 && !inL L 8 5 && !inL L 8 6 && !inL L 8 7 && !inL L 8 8 && !inL L 8 100 && !inL L 8 101 && !inL L 8 103 && !inL L 7 0 && !inL L 7 13 && !inL L 7 14 && !inL L 7 15
theorem NT_q (hC : HC 0 m tg ln F) (h : NT m tg F) (g : Fq 0 L m tg F F_q) (hd : NTd L = true) : NT m tg F_q := by
  unfold NTd at hd
  simp only [Bool.and_eq_true, Bool.not_eq_true'] at hd
  obtain ⟨⟨⟨⟨⟨⟨⟨⟨⟨⟨⟨⟨⟨d0, d3⟩, d4⟩, d5⟩, d6⟩, d7⟩, d8⟩, d100⟩, d101⟩, d103⟩, n0⟩, n13⟩, n14⟩, n15⟩ := hd
  have e8 : ∀ {x : Int} (q : Int), own m x → tg x = 8 → inL L 8 q = false → F_q x q = F x q := fun q o t i => g _ q o (own_z o) (by rw [t]; exact i)
  have e7 : ∀ {x : Int} (q : Int), own m x → tg x = 7 → inL L 7 q = false → F_q x q = F x q := fun q o t i => g _ q o (own_z o) (by rw [t]; exact i)
  refine ⟨fun a o t s => ?_, fun a o t => ?_⟩
  · rw [e8 103 o t d103] at s
    obtain ⟨w1, w2, w3, w4⟩ := h.1 a o t s
    refine ⟨fun q hq hn => ?_, fun hn => ?_, fun hk h3 h4 => ?_, fun h1 => ?_⟩
    · have eq : F_q a q = F a q := by
        rcases hq with rfl | rfl | rfl | rfl
        · exact e8 4 o t d4
        · exact e8 5 o t d5
        · exact e8 6 o t d6
        · exact e8 7 o t d7
      rw [eq] at hn ⊢
      have z := (HC_nd hC o t (show q = 4 ∨ q = 5 ∨ q = 6 ∨ q = 7 ∨ q = 8 by omega)).resolve_left hn
      rw [e8 103 z.1 z.2 d103, e8 100 z.1 z.2 d100, e8 100 o t d100]
      exact w1 q hq hn
    · rw [e8 8 o t d8] at hn ⊢
      have z := (HC_nd (q := 8) hC o t (by omega)).resolve_left hn
      rw [e8 103 z.1 z.2 d103, e8 100 z.1 z.2 d100, e8 100 o t d100]
      exact w2 hn
    · rw [e8 0 o t d0] at hk
      rw [e8 3 o t d3] at h3 ⊢
      rw [e8 4 o t d4] at h4 ⊢
      have z := (HC_nd (q := 4) hC o t (by omega)).resolve_left h4
      have y : own m (F a 3) ∧ tg (F a 3) = 7 := (HC_r (c := 7) (q := 3) hC o t (by decide) rfl).resolve_left h3
      rw [e8 101 z.1 z.2 d101, e7 13 y.1 y.2 n13]
      exact w3 hk h3 h4
    · rw [e8 101 o t d101] at h1 ⊢
      obtain ⟨v1, v2, v3, v4⟩ := w4 h1
      refine ⟨v1, v2, fun hk => ?_, fun hn => ?_⟩
      · rw [e7 0 v1 v2 n0] at hk
        rw [e8 3 o t d3]
        exact v3 hk
      · rw [e8 8 o t d8] at hn ⊢
        have z := (HC_nd (q := 8) hC o t (by omega)).resolve_left hn
        rw [e8 101 z.1 z.2 d101, e7 14 v1 v2 n14]
        exact v4 hn
  · rw [e7 14 o t n14, e7 15 o t n15]
    exact h.2 a o t
/-- how far a chain of rising addresses can go on -/
def mz (m : Nat) (a : Int) : Int := if a = 0 then 0 else 64 + (m : Int) - a
theorem mz_b (h : a = 0 ∨ (own m a ∧ tg a = q)) : 0 ≤ mz m a := by
  unfold mz
  split
  · exact Int.le_refl _
  · have := (h.resolve_left (by assumption)).1.2.1
    omega
theorem mz_a (hC : HC 0 m tg ln F) (hN : NT m tg F) (o : own m a) (t : tg a = 7) : mz m (F a 14) < mz m a ∧ 0 ≤ mz m (F a 14) := by
  have z : F a 14 = 0 ∨ (own m (F a 14) ∧ tg (F a 14) = 7) := HC_r (c := 6) (q := 14) hC o t (by decide) rfl
  have o2 := o.2.1
  refine ⟨?_, mz_b z⟩
  unfold mz
  rw [if_neg (own_z o)]
  split
  · omega
  · have w := (hN.2 a o t).1 (by assumption)
    omega
theorem mz_n (hC : HC 0 m tg ln F) (hN : NT m tg F) (h : SN m tg F a k) (ha : a ≠ 0) : mz m (F a 8) < mz m a ∧ 0 ≤ mz m (F a 8) := by
  obtain ⟨o, t, s, r1, r2⟩ := h.resolve_left ha
  have o2 := o.2.1
  refine ⟨?_, mz_b (HC_nd (q := 8) hC o t (by omega))⟩
  unfold mz
  rw [if_neg ha]
  split
  · omega
  · have w := (hN.1 a o t s).2.1 (by assumption)
    omega
/-- the processors' and PROCs' trees are whole -/
def PG (m : Nat) (tg : Int → Int) (F : Int → Int → Int) : Prop := (∀ a, own m a → tg a = 24 → F a (-1) = 0 → ∀ j, 0 ≤ j → SN m tg F (F a j) 60) ∧ (∀ a, own m a → tg a = 7 → SN m tg F (F a 12) 60)
def PGd (L : List (Int × Int)) : Bool := !inL L 8 103 && !inL L 8 100 && !inL L 7 12 && L.all (fun p => !(p.1 == 24))
theorem PGd_r (h : L.all (fun p => !(p.1 == 24)) = true) (q : Int) : inL L 24 q = false := by
  cases w : inL L 24 q with
  | false => rfl
  | true =>
    exfalso
    unfold inL at w
    obtain ⟨p, h1, h2⟩ := List.any_eq_true.mp w
    have h3 := List.all_eq_true.mp h p h1
    have h4 := (Bool.and_eq_true_iff.mp h2).1
    rw [h4] at h3
    cases h3
end
