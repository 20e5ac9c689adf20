/-! how many uses there can be -/
theorem pigeon : ∀ (n M : Nat) (g : Nat → Nat), (∀ i, i < n → g i < M) → (∀ i j, i < j → j < n → g i ≠ g j) → n ≤ M
  | 0, _, _, _, _ => Nat.zero_le _
  | n + 1, M, g, h, d => by
    have hn := h n (by omega)
    obtain ⟨m, rfl⟩ : ∃ m, M = m + 1 := ⟨M - 1, by omega⟩
    have := pigeon n m (fun i => if g i = m then g n else g i) (fun i hi => by
      have hi_q := h i (by omega)
      have hd := d i n hi (by omega)
      show (if g i = m then g n else g i) < m
      split <;> omega) (fun i j hij hj => by
      have h1 := d i j hij (by omega)
      have h2 := d i n (by omega) (by omega)
      have h3 := d j n hj (by omega)
      show (if g i = m then g n else g i) ≠ (if g j = m then g n else g j)
      split <;> split <;> omega)
    omega
/-- uses that are pairwise of different things, each with a number below M that tells what it is of -/
theorem Ds_le {A : Nat → Nat → Int} {f t : Int} {M : Nat} (c : Int → Nat) (h : Ds A f t) (hc : ∀ j : Int, f ≤ j → j < t → c j < M) (hk : ∀ i j : Int, f ≤ i → i < j → j < t → c i = c j → eqk A i (A 39 j.toNat) (A 41 j.toNat) (A 40 j.toNat)) : t - f ≤ (M : Int) := by
  have := pigeon (t - f).toNat M (fun i => c (f + (i : Int))) (fun i hi => hc _ (by omega) (by omega)) (fun i j hij hj q => h (f + (i : Int)) (f + (j : Int)) (by omega) (by omega) (by omega) (hk _ _ (by omega) (by omega) (by omega) q))
  omega
/-- what a use may be of: all of a name, a name, an element at a constant place (nd: how many nodes, u v: at most eight values) -/
def Uf (A : Nat → Nat → Int) (E : Nat) (node : Nat → Int) (val : Nat → Nat → Int) (sym : Nat → Int) (j : Int) : Prop := 0 ≤ A 39 j.toNat ∧ A 39 j.toNat < 202 ∧ (A 41 j.toNat = 1 ∨ (A 41 j.toNat = 0 ∧ A 40 j.toNat = 0) ∨ (A 41 j.toNat = 0 ∧ ∃ e i : Nat, e < E ∧ i < 8 ∧ A 39 j.toNat = sym e ∧ A 40 j.toNat = val e i))
theorem Uf_le {A : Nat → Nat → Int} {E : Nat} {node : Nat → Int} {val : Nat → Nat → Int} {sym : Nat → Int} {f t : Int} (h : Ds A f t) (hu : ∀ j : Int, f ≤ j → j < t → Uf A E node val sym j) : t - f ≤ 404 + 8 * (E : Int) := by
  have ex : ∀ j : Int, ∃ c : Nat, f ≤ j → j < t → c < 404 + 8 * E ∧ ((c < 202 ∧ A 41 j.toNat = 1 ∧ A 39 j.toNat = (c : Int)) ∨ (202 ≤ c ∧ c < 404 ∧ A 41 j.toNat = 0 ∧ A 40 j.toNat = 0 ∧ A 39 j.toNat = (c : Int) - 202) ∨ (404 ≤ c ∧ A 41 j.toNat = 0 ∧ A 39 j.toNat = sym ((c - 404) / 8) ∧ A 40 j.toNat = val ((c - 404) / 8) ((c - 404) % 8))) := fun j => by
    by_cases q : f ≤ j ∧ j < t
    · obtain ⟨h1, h2, h3⟩ := hu j q.1 q.2
      rcases h3 with g | g | ⟨g, e, i, g1, g2, g3, g4⟩
      · exact ⟨(A 39 j.toNat).toNat, fun _ _ => ⟨by omega, .inl ⟨by omega, g, by omega⟩⟩⟩
      · exact ⟨(A 39 j.toNat).toNat + 202, fun _ _ => ⟨by omega, .inr (.inl ⟨by omega, by omega, g.1, g.2, by omega⟩)⟩⟩
      · refine ⟨404 + (8 * e + i), fun _ _ => ⟨by omega, .inr (.inr ⟨by omega, g, ?_, ?_⟩)⟩⟩
        · rw [show (404 + (8 * e + i) - 404) / 8 = e by omega]
          exact g3
        · rw [show (404 + (8 * e + i) - 404) / 8 = e by omega, show (404 + (8 * e + i) - 404) % 8 = i by omega]
          exact g4
    · exact ⟨0, fun h1 h2 => absurd ⟨h1, h2⟩ q⟩
  obtain ⟨c, hc⟩ := Classical.axiomOfChoice ex
  have := Ds_le (M := 404 + 8 * E) c h (fun j h1 h2 => (hc j h1 h2).1) (fun i j h1 h2 h3 e => by
    have a := (hc i h1 (by omega)).2
    have b := (hc j (by omega) h3).2
    rw [← e] at b
    unfold eqk
    rcases a with a | a | a
    · rcases b with b | b | b
      · exact ⟨by omega, by omega, .inl b.2.1⟩
      · omega
      · omega
    · rcases b with b | b | b
      · omega
      · exact ⟨by omega, by omega, .inr (by omega)⟩
      · omega
    · rcases b with b | b | b
      · omega
      · omega
      · exact ⟨by rw [a.2.2.1, b.2.2.1], by omega, .inr (by rw [a.2.2.2, b.2.2.2])⟩)
  omega
