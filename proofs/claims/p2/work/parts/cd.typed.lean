/-! THE CLASS'S SIDE: every cell is typed; u: the one that is being made (0: none) -/
/-- what the fields of the classes hold: (0, lo, hi) an int from lo to hi, (1, ..) a long, (2, t, n) nothing or a ref to a cell of tag t (n not 0: a row of length n), (3, t, n) the same, but never nothing once it is made -/
def cBd : List (List (Int × Int × Int)) := [[(3, 20, 3000), (0, 0, 3000), (0, -2147483648, 2147483647), (0, -2147483648, 2147483647), (0, -2147483648, 2147483647), (2, 2, 0), (2, 6, 0)], [(3, 20, 6000), (3, 21, 6000), (3, 21, 6000), (3, 21, 6000), (3, 20, 6000), (3, 21, 6001), (3, 21, 6000), (0, 0, 6000), (0, 0, 6000), (0, -2147483648, 2147483647), (0, -2147483648, 2147483647), (0, 0, 1)], [(3, 6, 0), (3, 20, 0), (0, -2147483648, 2147483647), (0, -2147483648, 2147483647), (3, 21, 0), (0, -2147483648, 2147483647), (0, -2147483648, 2147483647), (0, -2147483648, 2147483647), (0, -2147483648, 2147483647), (0, -2147483648, 2147483647), (0, -2147483648, 2147483647), (0, 0, 1), (0, -2147483648, 2147483647), (0, -2147483648, 2147483647), (0, -2147483648, 2147483647), (3, 21, 0), (0, -2147483648, 2147483647), (0, -2147483648, 2147483647), (0, -2147483648, 2147483647), (0, -2147483648, 2147483647), (0, 0, 1), (3, 21, 0)], [(0, -2147483648, 2147483647)], [(0, -2147483648, 2147483647), (0, -2147483648, 2147483647), (0, -2147483648, 2147483647), (0, 0, 1), (0, -2147483648, 2147483647), (0, 0, 1), (0, 0, 1), (0, 0, 1)], [(3, 10, 0), (3, 27, 6), (3, 21, 0), (0, -2147483648, 2147483647), (0, -2147483648, 2147483647), (3, 21, 0), (0, -2147483648, 2147483647), (0, -2147483648, 2147483647), (0, -2147483648, 2147483647)], [(0, -2147483648, 2147483647), (1, 0, 0), (0, -2147483648, 2147483647), (0, -2147483648, 2147483647), (0, -2147483648, 2147483647), (0, -2147483648, 2147483647), (0, -2147483648, 2147483647), (0, -2147483648, 2147483647), (0, -2147483648, 2147483647), (0, -2147483648, 2147483647), (0, -2147483648, 2147483647), (0, -2147483648, 2147483647), (2, 8, 0), (2, 7, 0), (2, 7, 0), (2, 7, 0)], [(0, -2147483648, 2147483647), (0, -2147483648, 2147483647), (0, -2147483648, 2147483647), (2, 7, 0), (2, 8, 0), (2, 8, 0), (2, 8, 0), (2, 8, 0), (2, 8, 0), (2, 7, 0), (0, -2147483648, 2147483647), (0, -2147483648, 2147483647), (0, -2147483648, 2147483647), (0, -2147483648, 2147483647), (0, -2147483648, 2147483647), (0, -2147483648, 2147483647), (0, 0, 1), (2, 7, 0), (0, -2147483648, 2147483647)], [(3, 10, 0), (3, 11, 0), (2, 7, 0), (0, -2147483648, 2147483647)], [(0, -2147483648, 2147483647), (0, -2147483648, 2147483647), (0, -2147483648, 2147483647), (3, 24, 6), (3, 25, 24), (0, 0, 24), (3, 26, 12), (0, 0, 12), (0, 0, 200), (0, -2147483648, 2147483647)], [(3, 20, 3000), (0, 0, 3000), (3, 20, 0), (3, 21, 0), (3, 22, 0), (3, 21, 0), (3, 20, 0), (0, 0, 3001), (0, -2147483648, 2147483647), (0, -2147483648, 2147483647), (0, -2147483648, 2147483647), (0, -2147483648, 2147483647), (0, 0, 1), (0, -2147483648, 2147483647), (0, -2147483648, 2147483647), (0, -2147483648, 2147483647), (0, -2147483648, 2147483647), (0, -2147483648, 2147483647), (1, 0, 0)], [(3, 10, 0), (3, 24, 0), (0, -2147483648, 2147483647), (0, -2147483648, 2147483647), (0, -2147483648, 2147483647)]]
/-- what the elements of a row of refs are: by its tag -/
def eTg (t : Int) : Int := if t = 24 then 8 else if t = 25 then 7 else if t = 26 then 5 else 3
def cOk (u a : Int) (m : Nat) (tg ln : Int → Int) (b : Int × Int × Int) (z : Int) : Prop := (b.1 = 0 → b.2.1 ≤ z ∧ z ≤ b.2.2) ∧ (b.1 = 2 ∨ b.1 = 3 → z = 0 ∨ (own m z ∧ tg z = b.2.1 ∧ (b.2.2 ≠ 0 → ln z = b.2.2))) ∧ (b.1 = 3 → a ≠ u → z ≠ 0)
/-- the rows of a Scanner are of one length -/
def SCX (u : Int) (m : Nat) (tg ln : Int → Int) (F : Int → Int → Int) : Prop := ∀ a, own m a → a ≠ u → tg a = 11 → ln (F a 3) = ln (F a 2) ∧ ln (F a 4) = ln (F a 2) ∧ ln (F a 5) = ln (F a 2) ∧ ln (F a 6) = ln (F a 2)
def HC (u : Int) (m : Nat) (tg ln : Int → Int) (F : Int → Int → Int) : Prop := 89 ≤ m ∧ (∀ a, own m a → ∀ c q : Nat, tg a = (c : Int) + 1 → q < (cBd.getD c []).length → cOk u a m tg ln ((cBd.getD c []).getD q (1, 0, 0)) (F a (q : Int))) ∧ (∀ a, own m a → 20 ≤ tg a → 0 ≤ ln a ∧ ln a ≤ 1000000) ∧ (∀ a, own m a → tg a = 20 ∨ tg a = 21 ∨ tg a = 23 → ∀ j, -2147483648 ≤ F a j ∧ F a j ≤ 2147483647) ∧ (∀ a, own m a → 24 ≤ tg a → ∀ j, F a j = 0 ∨ (own m (F a j) ∧ tg (F a j) = eTg (tg a))) ∧ SCX u m tg ln F
/-- more cells; those that were there are what they were -/
def Ex (m : Nat) (tg ln : Int → Int) (m' : Nat) (tg' ln' : Int → Int) : Prop := m ≤ m' ∧ ∀ a, own m a → tg' a = tg a ∧ ln' a = ln a
theorem Ex_r {m : Nat} {tg ln : Int → Int} : Ex m tg ln m tg ln := ⟨Nat.le_refl _, fun _ _ => ⟨rfl, rfl⟩⟩
theorem own_m {m m' : Nat} {a : Int} (h : own m a) (hm : m ≤ m') : own m' a := ⟨h.1, by have := h.2.1; omega, h.2.2⟩
theorem Ex_t {m m1 m2 : Nat} {tg ln tg1 ln1 tg2 ln2 : Int → Int} (h : Ex m tg ln m1 tg1 ln1) (g : Ex m1 tg1 ln1 m2 tg2 ln2) : Ex m tg ln m2 tg2 ln2 := ⟨Nat.le_trans h.1 g.1, fun a ha => ⟨(g.2 a (own_m ha h.1)).1.trans (h.2 a ha).1, (g.2 a (own_m ha h.1)).2.trans (h.2 a ha).2⟩⟩
theorem HC_i {u : Int} {m : Nat} {tg ln : Int → Int} {F : Int → Int → Int} {a lo hi : Int} {c q : Nat} (h : HC u m tg ln F) (ho : own m a) (hg : tg a = (c : Int) + 1) (hq : q < (cBd.getD c []).length) (hb : (cBd.getD c []).getD q (1, 0, 0) = (0, lo, hi)) : lo ≤ F a (q : Int) ∧ F a (q : Int) ≤ hi := by
  have z := h.2.1 a ho c q hg hq
  rw [hb] at z
  exact z.1 rfl
theorem HC_r {u : Int} {m : Nat} {tg ln : Int → Int} {F : Int → Int → Int} {a t x : Int} {c q : Nat} (h : HC u m tg ln F) (ho : own m a) (hg : tg a = (c : Int) + 1) (hq : q < (cBd.getD c []).length) (hb : (cBd.getD c []).getD q (1, 0, 0) = (2, t, x)) : F a (q : Int) = 0 ∨ (own m (F a (q : Int)) ∧ tg (F a (q : Int)) = t) := by
  have z := h.2.1 a ho c q hg hq
  rw [hb] at z
  rcases z.2.1 (Or.inl rfl) with w | w
  · exact Or.inl w
  · exact Or.inr ⟨w.1, w.2.1⟩
theorem HC_n {u : Int} {m : Nat} {tg ln : Int → Int} {F : Int → Int → Int} {a t x : Int} {c q : Nat} (h : HC u m tg ln F) (ho : own m a) (hg : tg a = (c : Int) + 1) (hu : a ≠ u) (hq : q < (cBd.getD c []).length) (hb : (cBd.getD c []).getD q (1, 0, 0) = (3, t, x)) : own m (F a (q : Int)) ∧ tg (F a (q : Int)) = t ∧ (x ≠ 0 → ln (F a (q : Int)) = x) := by
  have z := h.2.1 a ho c q hg hq
  rw [hb] at z
  rcases z.2.1 (Or.inr rfl) with w | w
  · exact absurd w (z.2.2 rfl hu)
  · exact w
theorem cBd_len {c q : Nat} (h : q < (cBd.getD c []).length) : c < 12 := by
  rcases Nat.lt_or_ge c 12 with w | w
  · exact w
  · have : cBd.getD c [] = [] := List.getD_eq_default _ _ (show cBd.length ≤ c from w)
    rw [this] at h
    exact absurd h (Nat.not_lt_zero _)
/-- a field is written -/
theorem HC_pf {u : Int} {m : Nat} {tg ln : Int → Int} {F : Int → Int → Int} {a z : Int} {c q : Nat} (h : HC u m tg ln F) (hg : tg a = (c : Int) + 1) (hc : c < 12) (hz : cOk u a m tg ln ((cBd.getD c []).getD q (1, 0, 0)) z) (hs : c = 10 → 2 ≤ q → q ≤ 6 → a = u) : HC u m tg ln (uF F a (q : Int) z) := by
  obtain ⟨h0, h1, h2, h3, h4, h5⟩ := h
  refine ⟨h0, fun b ho c' q' hg' hq' => ?_, h2, fun b ho ht j => ?_, fun b ho ht j => ?_, fun b ho hu ht => ?_⟩
  · by_cases e : b = a ∧ (q' : Int) = (q : Int)
    · obtain ⟨rfl, e2⟩ := e
      have e3 : c' = c := by omega
      have e4 : q' = q := by omega
      subst e3 e4
      rw [uF_e]
      exact hz
    · have w : uF F a (q : Int) z b (q' : Int) = F b (q' : Int) := if_neg e
      rw [w]
      exact h1 b ho c' q' hg' hq'
  · rw [uF_a (fun e => by rw [e] at ht; omega)]
    exact h3 b ho ht j
  · rw [uF_a (fun e => by rw [e] at ht; omega)]
    exact h4 b ho ht j
  · have n : ∀ i : Int, 2 ≤ i → i ≤ 6 → uF F a (q : Int) z b i = F b i := fun i i0 i1 => if_neg (fun w => by
      have e1 := w.1
      have e2 := w.2
      rw [e1] at ht
      exact hu (e1.trans (hs (by omega) (by omega) (by omega))))
    rw [n 2 (by decide) (by decide), n 3 (by decide) (by decide), n 4 (by decide) (by decide), n 5 (by decide) (by decide), n 6 (by decide) (by decide)]
    exact h5 b ho hu ht
/-- a row changes -/
theorem HC_pr {u : Int} {m : Nat} {tg ln : Int → Int} {F F' : Int → Int → Int} {a : Int} (h : HC u m tg ln F) (hg : 20 ≤ tg a) (e : ∀ b i, b ≠ a → F' b i = F b i) (hi : tg a = 20 ∨ tg a = 21 ∨ tg a = 23 → ∀ j, -2147483648 ≤ F' a j ∧ F' a j ≤ 2147483647) (hr : 24 ≤ tg a → ∀ j, F' a j = 0 ∨ (own m (F' a j) ∧ tg (F' a j) = eTg (tg a))) : HC u m tg ln F' := by
  obtain ⟨h0, h1, h2, h3, h4, h5⟩ := h
  refine ⟨h0, fun b ho c' q' hg' hq' => ?_, h2, fun b ho ht j => ?_, fun b ho ht j => ?_, fun b ho hu ht => ?_⟩
  · have := cBd_len hq'
    rw [e b _ (fun w => by rw [w] at hg'; omega)]
    exact h1 b ho c' q' hg' hq'
  · by_cases w : b = a
    · rw [w] at ht ⊢
      exact hi ht j
    · rw [e b j w]
      exact h3 b ho ht j
  · by_cases w : b = a
    · rw [w] at ht ⊢
      exact hr ht j
    · rw [e b j w]
      exact h4 b ho ht j
  · have w : b ≠ a := fun w => by rw [w] at ht; omega
    rw [e b 2 w, e b 3 w, e b 4 w, e b 5 w, e b 6 w]
    exact h5 b ho hu ht
theorem HC_pi {u : Int} {m : Nat} {tg ln : Int → Int} {F : Int → Int → Int} {a j z : Int} (h : HC u m tg ln F) (ho : own m a) (hg : tg a = 20 ∨ tg a = 21 ∨ tg a = 23) (hz : -2147483648 ≤ z ∧ z ≤ 2147483647) : HC u m tg ln (uF F a j z) := HC_pr h (by omega) (fun b i w => uF_a w) (fun _ i => by
    by_cases e : i = j
    · rw [e, uF_e]
      exact hz
    · rw [uF_j e]
      exact h.2.2.2.1 a ho hg i) (fun w => by omega)
theorem HC_pl {u : Int} {m : Nat} {tg ln : Int → Int} {F : Int → Int → Int} {a j z : Int} (h : HC u m tg ln F) (hg : tg a = 22) : HC u m tg ln (uF F a j z) := HC_pr h (by omega) (fun b i w => uF_a w) (fun w => by omega) (fun w => by omega)
theorem HC_pa {u : Int} {m : Nat} {tg ln : Int → Int} {F : Int → Int → Int} {a j z : Int} (h : HC u m tg ln F) (ho : own m a) (hg : 24 ≤ tg a) (hz : z = 0 ∨ (own m z ∧ tg z = eTg (tg a))) : HC u m tg ln (uF F a j z) := HC_pr h (by omega) (fun b i w => uF_a w) (fun w => by omega) (fun w i => by
    by_cases e : i = j
    · rw [e, uF_e]
      exact hz
    · rw [uF_j e]
      exact h.2.2.2.2.1 a ho hg i)
/-- one more cell -/
theorem own_s {m : Nat} {a : Int} (hm : 89 ≤ m) : own (m + 1) a ↔ own m a ∨ a = 64 + (m : Int) := by
  unfold own
  constructor
  · intro h
    by_cases e : a = 64 + (m : Int)
    · exact Or.inr e
    · exact Or.inl ⟨h.1, by omega, h.2.2⟩
  · intro h
    rcases h with h | h
    · exact ⟨h.1, by omega, h.2.2⟩
    · exact ⟨by omega, by omega, by omega⟩
theorem Ex_s {m : Nat} {tg ln : Int → Int} {t n : Int} : Ex m tg ln (m + 1) (up1 tg (64 + (m : Int)) t) (up1 ln (64 + (m : Int)) n) := ⟨Nat.le_succ _, fun a ha => ⟨up1_n (by have := ha.2.1; omega), up1_n (by have := ha.2.1; omega)⟩⟩
theorem HC_nw {u u' : Int} {m : Nat} {tg ln : Int → Int} {F : Int → Int → Int} {t n : Int} (h : HC u m tg ln F) (hu : u' = u ∨ (u = 0 ∧ u' = 64 + (m : Int))) (hz : ∀ c q : Nat, t = (c : Int) + 1 → q < (cBd.getD c []).length → (((cBd.getD c []).getD q (1, 0, 0)).1 = 0 → ((cBd.getD c []).getD q (1, 0, 0)).2.1 ≤ 0 ∧ 0 ≤ ((cBd.getD c []).getD q (1, 0, 0)).2.2) ∧ (((cBd.getD c []).getD q (1, 0, 0)).1 = 3 → u' = 64 + (m : Int))) (h11 : t = 11 → u' = 64 + (m : Int)) (hn : 0 ≤ n ∧ n ≤ 1000000) : HC u' (m + 1) (up1 tg (64 + (m : Int)) t) (up1 ln (64 + (m : Int)) n) (zF F (64 + (m : Int))) := by
  obtain ⟨h0, h1, h2, h3, h4, h5⟩ := h
  have nw : ∀ {z : Int}, own m z → z ≠ 64 + (m : Int) := fun hz => by have := hz.2.1; omega
  have nu : ∀ {z : Int}, own m z → z ≠ u' → z ≠ u := fun oz w e => by
    rcases hu with hu | hu
    · exact w (e.trans hu.symm)
    · have := oz.1
      omega
  refine ⟨by omega, fun b ho c q hg hq => ?_, fun b ho ht => ?_, fun b ho ht j => ?_, fun b ho ht j => ?_, fun b ho hb ht => ?_⟩
  · rcases (own_s h0).mp ho with ob | rfl
    · rw [up1_n (nw ob)] at hg
      rw [zF_n (nw ob)]
      have z := h1 b ob c q hg hq
      refine ⟨z.1, fun k => ?_, fun k w => z.2.2 k (nu ob w)⟩
      rcases z.2.1 k with w | w
      · exact Or.inl w
      · exact Or.inr ⟨(own_s h0).mpr (Or.inl w.1), by rw [up1_n (nw w.1)]; exact w.2.1, by rw [up1_n (nw w.1)]; exact w.2.2⟩
    · rw [up1_e] at hg
      rw [zF_e]
      have z := hz c q hg hq
      exact ⟨z.1, fun _ => Or.inl rfl, fun k w => absurd (z.2 k).symm w⟩
  · rcases (own_s h0).mp ho with ob | rfl
    · rw [up1_n (nw ob)] at ht ⊢
      exact h2 b ob ht
    · rw [up1_e]
      exact hn
  · rcases (own_s h0).mp ho with ob | rfl
    · rw [up1_n (nw ob)] at ht
      rw [zF_n (nw ob)]
      exact h3 b ob ht j
    · rw [zF_e]
      omega
  · rcases (own_s h0).mp ho with ob | rfl
    · rw [up1_n (nw ob)] at ht ⊢
      rw [zF_n (nw ob)]
      rcases h4 b ob ht j with w | w
      · exact Or.inl w
      · exact Or.inr ⟨(own_s h0).mpr (Or.inl w.1), by rw [up1_n (nw w.1)]; exact w.2⟩
    · rw [zF_e]
      exact Or.inl rfl
  · rcases (own_s h0).mp ho with ob | rfl
    · rw [up1_n (nw ob)] at ht
      have z := h5 b ob (nu ob hb) ht
      have f : ∀ q : Nat, ((cBd.getD 10 []).getD q (1, 0, 0)).1 = 3 → q < (cBd.getD 10 []).length → F b (q : Int) ≠ 64 + (m : Int) := fun q k hl e => by
        rcases (h1 b ob 10 q (by rw [ht]; rfl) hl).2.1 (Or.inr k) with w | w
        · omega
        · exact nw w.1 e
      have f2 : F b 2 ≠ 64 + (m : Int) := f 2 rfl (by decide)
      have f3 : F b 3 ≠ 64 + (m : Int) := f 3 rfl (by decide)
      have f4 : F b 4 ≠ 64 + (m : Int) := f 4 rfl (by decide)
      have f5 : F b 5 ≠ 64 + (m : Int) := f 5 rfl (by decide)
      have f6 : F b 6 ≠ 64 + (m : Int) := f 6 rfl (by decide)
      simp only [zF_n (nw ob)]
      rw [up1_n f2, up1_n f3, up1_n f4, up1_n f5, up1_n f6]
      exact z
    · rw [up1_e] at ht
      exact absurd (h11 ht).symm hb
