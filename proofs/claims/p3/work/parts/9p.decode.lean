/-! bytes with prefixes: what O holds on the way -/
def prt (v L i : Int) : Int := if i = L - 1 then (v / 16) * 16 else (uu v / p16 (L - i).toNat) * 16
theorem p16_s {n : Nat} : p16 (n + 1) = 16 * p16 n := rfl
theorem p16_p : ∀ n : Nat, 1 ≤ p16 n
  | 0 => Int.le_refl _
  | n + 1 => by
    have := p16_p n
    rw [p16_s]
    omega
theorem div_16 {a : Int} {n : Nat} : a / p16 (n + 1) = (a / p16 n) / 16 := by
  rw [p16_s, Int.mul_comm, Int.ediv_ediv_of_nonneg (by have := p16_p n; omega)]
/-- at the first byte O is 0 -/
theorem prt_0 {v L : Int} (h : NB v L) (hL : 1 ≤ L) : prt v L 0 = 0 := by
  obtain ⟨h1, h2, h3⟩ := h
  unfold prt
  by_cases e : (0 : Int) = L - 1
  · rw [if_pos e]
    have eL : L = 1 := by omega
    subst eL
    have e1 : p16 (1 : Int).toNat = 16 := rfl
    rw [e1] at h2 h3
    have : 0 ≤ v := by
      by_cases q : v < 0
      · have := h1 q
        omega
      · omega
    omega
  · rw [if_neg e, show L - 0 = L by omega]
    have : uu v / p16 L.toNat = 0 := by
      refine Int.ediv_eq_zero_of_lt ?_ ?_
      · unfold uu
        split <;> omega
      · unfold uu
        split <;> omega
    rw [this]
    rfl
/-- one byte more ahead -/
theorem prt_n {v L i : Int} (h0 : 0 ≤ i) (h1 : i < L - 1) (d : Int) (hd : d = (uu v / p16 (L - 1 - i).toNat) % 16) : (¬ (v < 0 ∧ i = L - 2) → (prt v L i + d) * 16 = prt v L (i + 1)) ∧ (v < 0 ∧ i = L - 2 → (-(prt v L i + d) - 1) * 16 = prt v L (i + 1)) := by
  have ei : prt v L i = (uu v / p16 (L - i).toNat) * 16 := if_neg (by omega)
  have eL : (L - i).toNat = (L - 1 - i).toNat + 1 := by omega
  have es : prt v L i + d = uu v / p16 (L - 1 - i).toNat := by
    rw [ei, eL, div_16, hd]
    omega
  rw [es]
  refine ⟨fun k => ?_, fun k => ?_⟩
  · unfold prt
    by_cases e : i + 1 = L - 1
    · rw [if_pos e]
      have hv : 0 ≤ v := by omega
      have eu : uu v = v := if_neg (by omega)
      have e1 : (L - 1 - i).toNat = 1 := by omega
      rw [eu, e1]
      rfl
    · rw [if_neg e, show L - (i + 1) = L - 1 - i by omega]
  · unfold prt
    rw [if_pos (by omega)]
    have eu : uu v = -v - 1 := if_pos k.1
    have e1 : (L - 1 - i).toNat = 1 := by omega
    have e2 : p16 1 = 16 := rfl
    rw [eu, e1, e2]
    omega
/-- the last byte -/
theorem prt_l {v L : Int} : prt v L (L - 1) + v % 16 = v := by
  unfold prt
  rw [if_pos rfl]
  omega
/-- a byte's two halves -/
theorem byt_h {fn v L j : Int} (h0 : 0 ≤ fn) (h1 : fn ≤ 15) : (j = L - 1 → byt fn v L j / 16 = fn ∧ byt fn v L j % 16 = v % 16) ∧ (j ≠ L - 1 → byt fn v L j / 16 = (if v < 0 ∧ j = L - 2 then 6 else 2) ∧ byt fn v L j % 16 = (uu v / p16 (L - 1 - j).toNat) % 16) := by
  unfold byt
  refine ⟨fun e => ?_, fun e => ?_⟩
  · rw [if_pos e]
    omega
  · rw [if_neg e]
    by_cases q : v < 0 ∧ j = L - 2
    · rw [if_pos q, if_pos q]
      omega
    · rw [if_neg q, if_neg q]
      omega
