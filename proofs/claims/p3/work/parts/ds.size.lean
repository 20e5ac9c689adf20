/-! THE LAW: the room that it takes -/
theorem cV_s {R : Nat → jC} {m : Nat} {tg ln : Int → Int} {F : Int → Int → Int} : cV R (m + 1) tg ln F = cV R m tg ln F ++ [if 2 ≤ m ∧ m < 89 then R m else cCe tg ln F ((64 + m : Nat) : Int)] := by
  unfold cV
  rw [List.range_succ, List.map_append]
  rfl
theorem jSl_ap (V : jH) (c : jC) : jSl (V ++ [c]) = jSl V + jSl1 c := by
  unfold jSl
  rw [List.map_append, List.sum_append]
  simp
theorem jN_25 {c : Nat} (h : c < 13) (h2 : c ≠ 12) : jN c ≤ 25 := by
  have k : ∀ c : Fin 13, c.1 ≠ 12 → jN c.1 ≤ 25 := by decide
  exact k ⟨c, h⟩ h2
theorem jS1_b {m : Nat} {tg ln : Int → Int} {F : Int → Int → Int} {a : Int} (hC : HC 0 m tg ln F) (h3 : T3 m tg) (o : own m a) : ((jSl1 (cCe tg ln F a) : Nat) : Int) ≤ csz (tg a) (ln a) := by
  by_cases h : tg a < 20
  · rw [csz_o h]
    unfold cCe
    rw [if_pos h]
    have n13 := h3 a o
    show (((if (tg a - 1).toNat < 13 then jN (tg a - 1).toNat else 6 : Nat) : Nat) : Int) ≤ 25
    split
    · next w =>
      have := jN_25 w (by omega)
      omega
    · decide
  · rw [csz_r (by omega)]
    have l := (hC.2.2.1 a o (by omega)).1
    have e : jSl1 (cCe tg ln F a) = (ln a).toNat := by
      unfold cCe
      rw [if_neg h]
      split
      · rfl
      · split
        · rfl
        · rfl
    rw [e]
    omega
/-- the reference's part: its object and its rows -/
def rSz : Nat → Nat
  | 0 => 0
  | i + 1 => rSz i + (if i = 2 then 122 else if 3 ≤ i ∧ i < 89 then (rAk.getD (i - 3) (1, 0)).2 else 0)
theorem rCe_sz (A : Nat → Nat → Int) (k : Nat) : jSl1 (rCe A k) = (rAk.getD k (1, 0)).2 := by
  unfold rCe
  split
  all_goals (next h => rw [h]; rfl)
theorem rR_sz {G : Nat → Int} {A : Nat → Nat → Int} {i : Nat} (h : 2 ≤ i ∧ i < 89) : jSl1 (rR G A i) = if i = 2 then 122 else if 3 ≤ i ∧ i < 89 then (rAk.getD (i - 3) (1, 0)).2 else 0 := by
  unfold rR
  by_cases e : i = 2
  · rw [if_pos e, if_pos e]
    rfl
  · rw [if_neg e, if_neg e, if_pos (by omega), rCe_sz]
theorem jSl_le {G : Nat → Int} {A : Nat → Nat → Int} {m : Nat} {tg ln : Int → Int} {F : Int → Int → Int} (hC : HC 0 m tg ln F) (h3 : T3 m tg) : ∀ k : Nat, k ≤ m → ((jSl (cV (rR G A) k tg ln F) : Nat) : Int) ≤ (rSz k : Int) + szD k tg ln := by
  intro k
  induction k with
  | zero => intro _; exact Int.le_refl _
  | succ k ih =>
    intro hk
    have w := ih (by omega)
    rw [cV_s, jSl_ap]
    show _ ≤ ((rSz k + (if k = 2 then 122 else if 3 ≤ k ∧ k < 89 then (rAk.getD (k - 3) (1, 0)).2 else 0) : Nat) : Int) + (szD k tg ln + (if 2 ≤ k ∧ k < 89 then 0 else csz (tg (64 + (k : Int))) (ln (64 + (k : Int)))))
    by_cases h : 2 ≤ k ∧ k < 89
    · rw [if_pos h, if_pos h, rR_sz h]
      omega
    · rw [if_neg h, if_neg h, if_neg (by omega), if_neg (by omega)]
      have o : own m (64 + (k : Int)) := ⟨by omega, by omega, by omega⟩
      have z := jS1_b hC h3 o
      rw [show ((64 + k : Nat) : Int) = 64 + (k : Int) by omega]
      omega
theorem rSz_c : ∀ k : Nat, rSz (89 + k) = rSz 89
  | 0 => rfl
  | k + 1 => by
    show rSz (89 + k) + (if 89 + k = 2 then 122 else if 3 ≤ 89 + k ∧ 89 + k < 89 then (rAk.getD (89 + k - 3) (1, 0)).2 else 0) = rSz 89
    rw [if_neg (show ¬ (89 + k = 2) by omega), if_neg (show ¬ (3 ≤ 89 + k ∧ 89 + k < 89) by omega), rSz_c k, Nat.add_zero]
theorem rSz_89 : rSz 89 = 496359 := by decide +kernel
theorem law_end {G : Nat → Int} {A : Nat → Nat → Int} {m : Nat} {tg ln : Int → Int} {F : Int → Int → Int} {n : Int} (hC : HC 0 m tg ln F) (h3 : T3 m tg) (hb1 : szD m tg ln + 2794 * F 64 (1 : Int) + 42033 * (1 - tz (F 64 (5 : Int))) ≤ 50000 + 12925 * n) (hb2 : (m : Int) + F 64 (1 : Int) ≤ 91 + 105 * n) (h0 : n ≤ 512) (h1 : 0 ≤ F 64 (1 : Int)) (h2 : tz (F 64 (5 : Int)) ≤ 1) : (fun (o : jO) (V : jH) => o = .inl (some (.int (i32 1))) ∧ V.length ≤ 601024 ∧ jSl V ≤ 7293034) (.inl (some (.int (i32 1)))) (cV (rR G A) m tg ln F) := by
  have hm := hC.1
  have w := jSl_le (G := G) (A := A) hC h3 m (Nat.le_refl _)
  have e : rSz m = 496359 := by
    rw [show m = 89 + (m - 89) by omega, rSz_c, rSz_89]
  rw [e] at w
  refine ⟨rfl, ?_, ?_⟩
  · rw [cV_len]
    omega
  · omega
