/-! THE CLASS'S SIDE: every cell is typed; u: the one that is being made (0: none) -/
/-- what the fields of the classes hold: (0, lo, hi, 0) an int from lo to hi, (1, ..) a long, (2, t, n, g) nothing or a ref to a cell of tag t (n not 0: a row of length n; g not 0: a row of sort g), (3, t, n, g) the same, but never nothing once it is made -/
def cBd : List (List (Int × Int × Int × Int)) := [[(3, 20, 3000, 4), (0, 0, 3000, 0), (0, -2147483648, 2147483647, 0), (0, -2147483648, 2147483647, 0), (0, -2147483648, 2147483647, 0), (2, 2, 0, 0), (2, 6, 0, 0)], [(3, 20, 6000, 0), (3, 21, 6000, 0), (3, 21, 6000, 0), (3, 21, 6000, 0), (3, 20, 6000, 3), (3, 21, 6001, 2), (3, 21, 6000, 0), (0, 0, 6000, 0), (0, 0, 6000, 0), (0, -2147483648, 2147483647, 0), (0, -2147483648, 2147483647, 0), (0, 0, 1, 0)], [(3, 6, 0, 0), (3, 20, 0, 0), (0, -2147483648, 2147483647, 0), (0, -2147483648, 2147483647, 0), (3, 21, 0, 0), (0, -2147483648, 2147483647, 0), (0, -2147483648, 2147483647, 0), (0, -2147483648, 2147483647, 0), (0, -2147483648, 2147483647, 0), (0, -2147483648, 2147483647, 0), (0, -2147483648, 2147483647, 0), (0, 0, 1, 0), (0, -2147483648, 2147483647, 0), (0, -2147483648, 2147483647, 0), (0, -2147483648, 2147483647, 0), (3, 21, 0, 0), (0, -2147483648, 2147483647, 0), (0, -2147483648, 2147483647, 0), (0, -2147483648, 2147483647, 0), (0, -2147483648, 2147483647, 0), (0, 0, 1, 0), (3, 21, 4, 0)], [(0, -2147483648, 2147483647, 0)], [(0, -2147483648, 2147483647, 0), (0, -2147483648, 2147483647, 0), (0, -2147483648, 2147483647, 0), (0, 0, 1, 0), (0, -2147483648, 2147483647, 0), (0, 0, 1, 0), (0, 0, 1, 0), (0, 0, 1, 0)], [(3, 10, 0, 0), (3, 27, 6, 0), (3, 21, 200, 0), (0, 0, 200, 0), (0, -2147483648, 2147483647, 0), (3, 21, 1000, 0), (0, 0, 2147483647, 0), (0, -2147483648, 2147483647, 0), (0, -2147483648, 2147483647, 0)], [(0, -2147483648, 2147483647, 0), (1, 0, 0, 0), (0, -2147483648, 2147483647, 0), (0, -2147483648, 2147483647, 0), (0, -2147483648, 2147483647, 0), (0, -2147483648, 2147483647, 0), (0, -2147483648, 2147483647, 0), (0, -2147483648, 2147483647, 0), (0, -2147483648, 2147483647, 0), (0, -2147483648, 2147483647, 0), (0, -2147483648, 2147483647, 0), (0, -2147483648, 2147483647, 0), (2, 8, 0, 0), (2, 7, 0, 0), (2, 7, 0, 0), (2, 7, 0, 0)], [(0, -2147483648, 2147483647, 0), (0, -2147483648, 2147483647, 0), (0, -2147483648, 2147483647, 0), (2, 7, 0, 0), (2, 8, 0, 0), (2, 8, 0, 0), (2, 8, 0, 0), (2, 8, 0, 0), (2, 8, 0, 0), (2, 7, 0, 0), (0, -2147483648, 2147483647, 0), (0, -2147483648, 2147483647, 0), (0, -2147483648, 2147483647, 0), (0, 0, 1000000, 0), (0, 0, 1000000, 0), (0, -2147483648, 2147483647, 0), (0, 0, 1, 0), (2, 7, 0, 0), (0, -2147483648, 2147483647, 0)], [(3, 10, 0, 0), (3, 11, 0, 0), (2, 7, 0, 0), (0, 0, 8, 0)], [(0, -2147483648, 2147483647, 0), (0, -2147483648, 2147483647, 0), (0, -2147483648, 2147483647, 0), (3, 24, 6, 0), (3, 25, 24, 0), (0, 0, 24, 0), (3, 26, 12, 0), (0, 0, 12, 0), (0, 0, 200, 0), (0, -2147483648, 2147483647, 0)], [(3, 20, 3000, 4), (0, 0, 3000, 0), (3, 20, 0, 0), (3, 21, 0, 0), (3, 22, 0, 0), (3, 21, 0, 0), (3, 20, 0, 1), (0, 0, 1000000, 0), (0, -1, 1000002, 0), (0, 0, 3000, 0), (0, 0, 3000, 0), (0, 0, 3002, 0), (0, 0, 1, 0), (0, -2147483648, 2147483647, 0), (0, -2, 15, 0), (0, -2147483648, 2147483647, 0), (0, -2147483648, 2147483647, 0), (0, -2147483648, 2147483647, 0), (1, 0, 0, 0)], [(3, 10, 0, 0), (3, 24, 0, 5), (0, 0, 1000000, 0), (0, -2147483648, 2147483647, 0), (0, -2147483648, 2147483647, 0)]]
/-- what the elements of a row of refs are: by its tag -/
def eTg (t : Int) : Int := if t = 24 then 8 else if t = 25 then 7 else if t = 26 then 5 else 3
/-- what the elements of a row of a sort (F a (-1)) may be -/
def rLo (g : Int) : Int := if g = 1 then -2 else if g = 2 then 0 else if g = 3 then 0 else if g = 4 then 0 else -2147483648
def rHi (g : Int) : Int := if g = 1 then 15 else if g = 2 then 1000000 else if g = 3 then 127 else if g = 4 then 127 else 2147483647
def cOk (u a : Int) (m : Nat) (tg ln : Int → Int) (F : Int → Int → Int) (b : Int × Int × Int × Int) (z : Int) : Prop := (b.1 = 0 → b.2.1 ≤ z ∧ z ≤ b.2.2.1) ∧ (b.1 = 2 ∨ b.1 = 3 → z = 0 ∨ (own m z ∧ tg z = b.2.1 ∧ (b.2.2.1 ≠ 0 → ln z = b.2.2.1) ∧ (20 ≤ b.2.1 → F z (-1) = b.2.2.2))) ∧ (b.1 = 3 → a ≠ u → z ≠ 0)
/-- the rows of a Scanner are of one length; who is ready of a Core stands in its row -/
def X5 (u : Int) (m : Nat) (tg ln : Int → Int) (F : Int → Int → Int) : Prop := ∀ a, own m a → a ≠ u → (tg a = 11 → ln (F a 3) = ln (F a 2) ∧ ln (F a 4) = ln (F a 2) ∧ ln (F a 5) = ln (F a 2) ∧ ln (F a 6) = ln (F a 2) ∧ F a 7 ≤ ln (F a 2)) ∧ (tg a = 3 → 0 ≤ F a 16 ∧ F a 16 ≤ ln (F a 15))
def HC (u : Int) (m : Nat) (tg ln : Int → Int) (F : Int → Int → Int) : Prop := 89 ≤ m ∧ (∀ a, own m a → ∀ c q : Nat, tg a = (c : Int) + 1 → q < (cBd.getD c []).length → cOk u a m tg ln F ((cBd.getD c []).getD q (1, 0, 0, 0)) (F a (q : Int))) ∧ (∀ a, own m a → 20 ≤ tg a → 0 ≤ ln a ∧ ln a ≤ 1000000) ∧ (∀ a, own m a → tg a = 20 ∨ tg a = 21 ∨ tg a = 23 → ∀ j, 0 ≤ j → rLo (F a (-1)) ≤ F a j ∧ F a j ≤ rHi (F a (-1))) ∧ (∀ a, own m a → 24 ≤ tg a → ∀ j, 0 ≤ j → F a j = 0 ∨ (own m (F a j) ∧ tg (F a j) = eTg (tg a))) ∧ X5 u m tg ln F
/-- more cells; those that were there are what they were -/
def Ex (m : Nat) (tg ln : Int → Int) (m_q : Nat) (tg_q ln_q : Int → Int) : Prop := m ≤ m_q ∧ ∀ a, own m a → tg_q a = tg a ∧ ln_q a = ln a
theorem Ex_r {m : Nat} {tg ln : Int → Int} : Ex m tg ln m tg ln := ⟨Nat.le_refl _, fun _ _ => ⟨rfl, rfl⟩⟩
theorem own_m {m m_q : Nat} {a : Int} (h : own m a) (hm : m ≤ m_q) : own m_q a := ⟨h.1, by have := h.2.1; omega, h.2.2⟩
theorem Ex_t {m m1 m2 : Nat} {tg ln tg1 ln1 tg2 ln2 : Int → Int} (h : Ex m tg ln m1 tg1 ln1) (g : Ex m1 tg1 ln1 m2 tg2 ln2) : Ex m tg ln m2 tg2 ln2 := ⟨Nat.le_trans h.1 g.1, fun a ha => ⟨(g.2 a (own_m ha h.1)).1.trans (h.2 a ha).1, (g.2 a (own_m ha h.1)).2.trans (h.2 a ha).2⟩⟩
theorem Ex_o {m m1 : Nat} {tg ln tg1 ln1 : Int → Int} {a t : Int} (h : Ex m tg ln m1 tg1 ln1) (g : own m a ∧ tg a = t) : own m1 a ∧ tg1 a = t := ⟨own_m g.1 h.1, (h.2 a g.1).1.trans g.2⟩
theorem Ex_z {m m1 : Nat} {tg ln tg1 ln1 : Int → Int} {a t : Int} (h : Ex m tg ln m1 tg1 ln1) (g : a = 0 ∨ (own m a ∧ tg a = t)) : a = 0 ∨ (own m1 a ∧ tg1 a = t) := g.imp id (Ex_o h)
theorem HC_i {u : Int} {m : Nat} {tg ln : Int → Int} {F : Int → Int → Int} {a lo hi g : Int} {c q : Nat} (h : HC u m tg ln F) (ho : own m a) (hg : tg a = (c : Int) + 1) (hq : q < (cBd.getD c []).length) (hb : (cBd.getD c []).getD q (1, 0, 0, 0) = (0, lo, hi, g)) : lo ≤ F a (q : Int) ∧ F a (q : Int) ≤ hi := by
  have z := h.2.1 a ho c q hg hq
  rw [hb] at z
  exact z.1 rfl
theorem HC_r {u : Int} {m : Nat} {tg ln : Int → Int} {F : Int → Int → Int} {a t x g : Int} {c q : Nat} (h : HC u m tg ln F) (ho : own m a) (hg : tg a = (c : Int) + 1) (hq : q < (cBd.getD c []).length) (hb : (cBd.getD c []).getD q (1, 0, 0, 0) = (2, t, x, g)) : F a (q : Int) = 0 ∨ (own m (F a (q : Int)) ∧ tg (F a (q : Int)) = t) := by
  have z := h.2.1 a ho c q hg hq
  rw [hb] at z
  rcases z.2.1 (Or.inl rfl) with w | w
  · exact Or.inl w
  · exact Or.inr ⟨w.1, w.2.1⟩
theorem HC_n {u : Int} {m : Nat} {tg ln : Int → Int} {F : Int → Int → Int} {a t x g : Int} {c q : Nat} (h : HC u m tg ln F) (ho : own m a) (hg : tg a = (c : Int) + 1) (hu : a ≠ u) (hq : q < (cBd.getD c []).length) (hb : (cBd.getD c []).getD q (1, 0, 0, 0) = (3, t, x, g)) : own m (F a (q : Int)) ∧ tg (F a (q : Int)) = t ∧ (x ≠ 0 → ln (F a (q : Int)) = x) ∧ (20 ≤ t → F (F a (q : Int)) (-1) = g) := by
  have z := h.2.1 a ho c q hg hq
  rw [hb] at z
  rcases z.2.1 (Or.inr rfl) with w | w
  · exact absurd w (z.2.2 rfl hu)
  · exact w
theorem HC_l {u : Int} {m : Nat} {tg ln : Int → Int} {F : Int → Int → Int} {a t : Int} (h : HC u m tg ln F) (ho : own m a) (hg : tg a = t) (ht : 20 ≤ t) : 0 ≤ ln a ∧ ln a ≤ 1000000 := h.2.2.1 a ho (by omega)
theorem HC_e {u : Int} {m : Nat} {tg ln : Int → Int} {F : Int → Int → Int} {a j : Int} (h : HC u m tg ln F) (ho : own m a) (hg : tg a = 20 ∨ tg a = 21 ∨ tg a = 23) (h0 : 0 ≤ j) : rLo (F a (-1)) ≤ F a j ∧ F a j ≤ rHi (F a (-1)) := h.2.2.2.1 a ho hg j h0
theorem rLo_ge (g : Int) : -2147483648 ≤ rLo g ∧ rHi g ≤ 2147483647 := by
  unfold rLo rHi
  constructor <;> (repeat' split) <;> omega
theorem HC_ei {u : Int} {m : Nat} {tg ln : Int → Int} {F : Int → Int → Int} {a j : Int} (h : HC u m tg ln F) (ho : own m a) (hg : tg a = 20 ∨ tg a = 21 ∨ tg a = 23) (h0 : 0 ≤ j) : (-2147483648 : Int) ≤ F a j ∧ F a j ≤ 2147483647 := by
  have := HC_e h ho hg h0
  have := rLo_ge (F a (-1))
  omega
theorem HC_er {u : Int} {m : Nat} {tg ln : Int → Int} {F : Int → Int → Int} {a j t : Int} (h : HC u m tg ln F) (ho : own m a) (hg : tg a = t) (ht : 24 ≤ t) (h0 : 0 ≤ j) : F a j = 0 ∨ (own m (F a j) ∧ tg (F a j) = eTg t) := by
  subst hg
  exact h.2.2.2.2.1 a ho ht j h0
theorem cBd_len {c q : Nat} (h : q < (cBd.getD c []).length) : c < 12 := by
  rcases Nat.lt_or_ge c 12 with w | w
  · exact w
  · have : cBd.getD c [] = [] := by
      unfold List.getD
      rw [List.getElem?_eq_none (show cBd.length ≤ c from w)]
      rfl
    rw [this] at h
    exact absurd h (Nat.not_lt_zero _)
theorem cBd_100 {c q : Nat} (h : q < (cBd.getD c []).length) : q < 100 := by
  have w := cBd_len h
  have : ∀ c : Fin 12, (cBd.getD c.val []).length ≤ 100 := by decide
  have := this ⟨c, w⟩
  dsimp only at this
  omega
theorem cTy_le (c : Nat) : (cTy.getD c []).length ≤ 100 := by
  rcases Nat.lt_or_ge c cTy.length with w | w
  · have : ∀ c : Fin cTy.length, (cTy.getD c.val []).length ≤ 100 := by decide
    exact this ⟨c, w⟩
  · have : cTy.getD c [] = [] := by
      unfold List.getD
      rw [List.getElem?_eq_none w]
      rfl
    rw [this]
    exact Nat.zero_le _
/-- F changes at one place that no content hangs on, or at a field -/
theorem HC_pf {u : Int} {m : Nat} {tg ln : Int → Int} {F : Int → Int → Int} {a z : Int} {c q : Nat} (h : HC u m tg ln F) (hg : tg a = (c : Int) + 1) (hc : c < 12) (hz : cOk u a m tg ln F ((cBd.getD c []).getD q (1, 0, 0, 0)) z) (hs : (c = 10 → (2 ≤ q → q ≤ 6 → a = u) ∧ (q = 7 → a = u ∨ z ≤ ln (F a 2))) ∧ (c = 2 → (q = 15 → a = u) ∧ (q = 16 → a = u ∨ (0 ≤ z ∧ z ≤ ln (F a 15))))) : HC u m tg ln (uF F a (q : Int) z) := by
  obtain ⟨h0, h1, h2, h3, h4, h5⟩ := h
  have n1 : ∀ b, uF F a (q : Int) z b (-1) = F b (-1) := fun b => uF_j (by omega)
  refine ⟨h0, fun b ho c_q q_q hg' hq_q => ?_, h2, fun b ho ht j j0 => ?_, fun b ho ht j j0 => ?_, fun b ho hu => ⟨fun ht => ?_, fun ht => ?_⟩⟩
  · unfold cOk
    simp only [n1]
    by_cases e : b = a ∧ (q_q : Int) = (q : Int)
    · obtain ⟨rfl, e2⟩ := e
      have e3 : c_q = c := by omega
      have e4 : q_q = q := by omega
      subst e3 e4
      rw [uF_e]
      exact hz
    · have w : uF F a (q : Int) z b (q_q : Int) = F b (q_q : Int) := if_neg e
      rw [w]
      exact h1 b ho c_q q_q hg' hq_q
  · rw [n1, uF_a (fun e => by rw [e] at ht; omega)]
    exact h3 b ho ht j j0
  · rw [uF_a (fun e => by rw [e] at ht; omega)]
    exact h4 b ho ht j j0
  · have n : ∀ i : Int, 2 ≤ i → i ≤ 6 → uF F a (q : Int) z b i = F b i := fun i i0 i1 => if_neg (fun w => by
      have e1 := w.1
      have e2 := w.2
      rw [e1] at ht
      exact hu (e1.trans ((hs.1 (by omega)).1 (by omega) (by omega))))
    rw [n 2 (by decide) (by decide), n 3 (by decide) (by decide), n 4 (by decide) (by decide), n 5 (by decide) (by decide), n 6 (by decide) (by decide)]
    have v := (h5 b ho hu).1 ht
    refine ⟨v.1, v.2.1, v.2.2.1, v.2.2.2.1, ?_⟩
    by_cases e : b = a ∧ (7 : Int) = (q : Int)
    · obtain ⟨rfl, e2⟩ := e
      rcases (hs.1 (by omega)).2 (by omega) with k | k
      · exact absurd k hu
      · rw [e2, uF_e]
        exact k
    · have : uF F a (q : Int) z b 7 = F b 7 := if_neg e
      rw [this]
      exact v.2.2.2.2
  · have w := (h5 b ho hu).2 ht
    by_cases e : b = a
    · subst e
      have hc2 := hs.2 (by omega)
      have e1 : uF F b (q : Int) z b 15 = F b 15 := if_neg (fun w => hu (hc2.1 (by omega)))
      rw [e1]
      by_cases e2 : q = 16
      · subst e2
        rcases hc2.2 rfl with v | v
        · exact absurd v hu
        · have : uF F b ((16 : Nat) : Int) z b 16 = z := uF_e
          rw [this]
          exact v
      · have : uF F b (q : Int) z b 16 = F b 16 := if_neg (fun w => e2 (by omega))
        rw [this]
        exact w
    · rw [uF_a e, uF_a e]
      exact w
/-- a row changes -/
theorem HC_pr {u : Int} {m : Nat} {tg ln : Int → Int} {F F_q : Int → Int → Int} {a : Int} (h : HC u m tg ln F) (hg : 20 ≤ tg a) (e : ∀ b i, b ≠ a → F_q b i = F b i) (e1 : F_q a (-1) = F a (-1)) (hi : tg a = 20 ∨ tg a = 21 ∨ tg a = 23 → ∀ j, 0 ≤ j → rLo (F a (-1)) ≤ F_q a j ∧ F_q a j ≤ rHi (F a (-1))) (hr : 24 ≤ tg a → ∀ j, 0 ≤ j → F_q a j = 0 ∨ (own m (F_q a j) ∧ tg (F_q a j) = eTg (tg a))) : HC u m tg ln F_q := by
  obtain ⟨h0, h1, h2, h3, h4, h5⟩ := h
  have n1 : ∀ b, F_q b (-1) = F b (-1) := fun b => by
    by_cases w : b = a
    · rw [w, e1]
    · rw [e b _ w]
  refine ⟨h0, fun b ho c_q q_q hg' hq_q => ?_, h2, fun b ho ht j j0 => ?_, fun b ho ht j j0 => ?_, fun b ho hu => ?_⟩
  · have := cBd_len hq_q
    unfold cOk
    simp only [n1]
    rw [e b _ (fun w => by rw [w] at hg'; omega)]
    exact h1 b ho c_q q_q hg' hq_q
  · rw [n1]
    by_cases w : b = a
    · rw [w] at ht ⊢
      exact hi ht j j0
    · rw [e b j w]
      exact h3 b ho ht j j0
  · by_cases w : b = a
    · rw [w] at ht ⊢
      exact hr ht j j0
    · rw [e b j w]
      exact h4 b ho ht j j0
  · have z := h5 b ho hu
    by_cases w : b = a
    · rw [w] at z ⊢
      exact ⟨fun t => by omega, fun t => by omega⟩
    · rw [e b 2 w, e b 3 w, e b 4 w, e b 5 w, e b 6 w, e b 7 w, e b 15 w, e b 16 w]
      exact z
theorem HC_pi {u : Int} {m : Nat} {tg ln : Int → Int} {F : Int → Int → Int} {a j z t : Int} (h : HC u m tg ln F) (ho : own m a) (ht : tg a = t) (hg : t = 20 ∨ t = 21 ∨ t = 23) (h0 : 0 ≤ j) (hz : rLo (F a (-1)) ≤ z ∧ z ≤ rHi (F a (-1))) : HC u m tg ln (uF F a j z) := by
  subst ht
  refine HC_pr h (by omega) (fun b i w => uF_a w) (uF_j (by omega)) (fun _ i i0 => ?_) (fun w => by omega)
  by_cases e : i = j
  · rw [e, uF_e]
    exact hz
  · rw [uF_j e]
    exact h.2.2.2.1 a ho hg i i0
theorem HC_pl {u : Int} {m : Nat} {tg ln : Int → Int} {F : Int → Int → Int} {a j z : Int} (h : HC u m tg ln F) (hg : tg a = 22) (h0 : 0 ≤ j) : HC u m tg ln (uF F a j z) := HC_pr h (by omega) (fun b i w => uF_a w) (uF_j (by omega)) (fun w => by omega) (fun w => by omega)
theorem HC_pa {u : Int} {m : Nat} {tg ln : Int → Int} {F : Int → Int → Int} {a j z t : Int} (h : HC u m tg ln F) (ho : own m a) (ht : tg a = t) (hg : 24 ≤ t) (h0 : 0 ≤ j) (hz : z = 0 ∨ (own m z ∧ tg z = eTg t)) : HC u m tg ln (uF F a j z) := by
  subst ht
  refine HC_pr h (by omega) (fun b i w => uF_a w) (uF_j (by omega)) (fun w => by omega) (fun w i i0 => ?_)
  by_cases e : i = j
  · rw [e, uF_e]
    exact hz
  · rw [uF_j e]
    exact h.2.2.2.2.1 a ho hg i i0
/-- one more cell -/
theorem own_s {m : Nat} {a : Int} (hm : 89 ≤ m) : own (m + 1) a ↔ own m a ∨ a = 64 + (m : Int) := by
  unfold own
  constructor
  · intro h
    by_cases e : a = 64 + (m : Int)
    · exact Or.inr e
    · exact Or.inl ⟨h.1, by omega, h.2.2⟩
  · intro h
    rcases h with h | h
    · exact ⟨h.1, by omega, h.2.2⟩
    · exact ⟨by omega, by omega, by omega⟩
theorem Ex_s {m : Nat} {tg ln : Int → Int} {t n : Int} : Ex m tg ln (m + 1) (up1 tg (64 + (m : Int)) t) (up1 ln (64 + (m : Int)) n) := ⟨Nat.le_succ _, fun a ha => ⟨up1_n (by have := ha.2.1; omega), up1_n (by have := ha.2.1; omega)⟩⟩
theorem HC_nw {u u_q : Int} {m : Nat} {tg ln : Int → Int} {F : Int → Int → Int} {t n : Int} (h : HC u m tg ln F) (hu : u_q = u ∨ (u = 0 ∧ u_q = 64 + (m : Int))) (hz : ∀ c q : Nat, t = (c : Int) + 1 → q < (cBd.getD c []).length → (((cBd.getD c []).getD q (1, 0, 0, 0)).1 = 0 → ((cBd.getD c []).getD q (1, 0, 0, 0)).2.1 ≤ 0 ∧ 0 ≤ ((cBd.getD c []).getD q (1, 0, 0, 0)).2.2.1) ∧ (((cBd.getD c []).getD q (1, 0, 0, 0)).1 = 3 → u_q = 64 + (m : Int))) (h11 : t = 11 ∨ t = 3 → u_q = 64 + (m : Int)) (hn : 0 ≤ n ∧ n ≤ 1000000) : HC u_q (m + 1) (up1 tg (64 + (m : Int)) t) (up1 ln (64 + (m : Int)) n) (zF F (64 + (m : Int))) := by
  obtain ⟨h0, h1, h2, h3, h4, h5⟩ := h
  have nw : ∀ {z : Int}, own m z → z ≠ 64 + (m : Int) := fun hz => by have := hz.2.1; omega
  have nu : ∀ {z : Int}, own m z → z ≠ u_q → z ≠ u := fun oz w e => by
    rcases hu with hu | hu
    · exact w (e.trans hu.symm)
    · have := oz.1
      omega
  refine ⟨by omega, fun b ho c q hg hq => ?_, fun b ho ht => ?_, fun b ho ht j j0 => ?_, fun b ho ht j j0 => ?_, fun b ho hb => ?_⟩
  · rcases (own_s h0).mp ho with ob | rfl
    · rw [up1_n (nw ob)] at hg
      rw [zF_n (nw ob)]
      have z := h1 b ob c q hg hq
      refine ⟨z.1, fun k => ?_, fun k w => z.2.2 k (nu ob w)⟩
      rcases z.2.1 k with w | w
      · exact Or.inl w
      · exact Or.inr ⟨(own_s h0).mpr (Or.inl w.1), by rw [up1_n (nw w.1)]; exact w.2.1, by rw [up1_n (nw w.1)]; exact w.2.2.1, by rw [zF_n (nw w.1)]; exact w.2.2.2⟩
    · rw [up1_e] at hg
      rw [zF_e]
      have z := hz c q hg hq
      exact ⟨z.1, fun _ => Or.inl rfl, fun k w => absurd (z.2 k).symm w⟩
  · rcases (own_s h0).mp ho with ob | rfl
    · rw [up1_n (nw ob)] at ht ⊢
      exact h2 b ob ht
    · rw [up1_e]
      exact hn
  · rcases (own_s h0).mp ho with ob | rfl
    · rw [up1_n (nw ob)] at ht
      rw [zF_n (nw ob), zF_n (nw ob)]
      exact h3 b ob ht j j0
    · rw [zF_e, zF_e]
      exact ⟨by decide, by decide⟩
  · rcases (own_s h0).mp ho with ob | rfl
    · rw [up1_n (nw ob)] at ht ⊢
      rw [zF_n (nw ob)]
      rcases h4 b ob ht j j0 with w | w
      · exact Or.inl w
      · exact Or.inr ⟨(own_s h0).mpr (Or.inl w.1), by rw [up1_n (nw w.1)]; exact w.2⟩
    · rw [zF_e]
      exact Or.inl rfl
  · rcases (own_s h0).mp ho with ob | rfl
    · rw [up1_n (nw ob)]
      simp only [zF_n (nw ob)]
      have z := h5 b ob (nu ob hb)
      have f : ∀ c q : Nat, tg b = (c : Int) + 1 → ((cBd.getD c []).getD q (1, 0, 0, 0)).1 = 3 → q < (cBd.getD c []).length → F b (q : Int) ≠ 64 + (m : Int) := fun c q ht k hl e => by
        rcases (h1 b ob c q ht hl).2.1 (Or.inr k) with w | w
        · omega
        · exact nw w.1 e
      constructor
      · intro ht
        have f2 : F b 2 ≠ 64 + (m : Int) := f 10 2 (by rw [ht]; rfl) rfl (by decide)
        have f3 : F b 3 ≠ 64 + (m : Int) := f 10 3 (by rw [ht]; rfl) rfl (by decide)
        have f4 : F b 4 ≠ 64 + (m : Int) := f 10 4 (by rw [ht]; rfl) rfl (by decide)
        have f5 : F b 5 ≠ 64 + (m : Int) := f 10 5 (by rw [ht]; rfl) rfl (by decide)
        have f6 : F b 6 ≠ 64 + (m : Int) := f 10 6 (by rw [ht]; rfl) rfl (by decide)
        rw [up1_n f2, up1_n f3, up1_n f4, up1_n f5, up1_n f6]
        exact z.1 ht
      · intro ht
        have f2 : F b 15 ≠ 64 + (m : Int) := f 2 15 (by rw [ht]; rfl) rfl (by decide)
        rw [up1_n f2]
        exact z.2 ht
    · rw [up1_e]
      exact ⟨fun t => absurd (h11 (Or.inl t)).symm hb, fun t => absurd (h11 (Or.inr t)).symm hb⟩
theorem HC_nr {u : Int} {m : Nat} {tg ln : Int → Int} {F : Int → Int → Int} {t n g : Int} (h : HC u m tg ln F)  (ht20 : 20 ≤ t) (hg0 : rLo g ≤ 0 ∧ 0 ≤ rHi g) (hn : 0 ≤ n ∧ n ≤ 1000000) : HC u (m + 1) (up1 tg (64 + (m : Int)) t) (up1 ln (64 + (m : Int)) n) (uF (zF F (64 + (m : Int))) (64 + (m : Int)) (-1) g) := by
  obtain ⟨h0, h1, h2, h3, h4, h5⟩ := h
  have nw : ∀ {z : Int}, own m z → z ≠ 64 + (m : Int) := fun hz => by have := hz.2.1; omega
  have fo : ∀ {z : Int} (i : Int), own m z → uF (zF F (64 + (m : Int))) (64 + (m : Int)) (-1) g z i = F z i := fun i oz => by rw [uF_a (nw oz), zF_n (nw oz)]
  have fe : uF (zF F (64 + (m : Int))) (64 + (m : Int)) (-1) g (64 + (m : Int)) (-1) = g := uF_e
  have fz : ∀ i : Int, 0 ≤ i → uF (zF F (64 + (m : Int))) (64 + (m : Int)) (-1) g (64 + (m : Int)) i = 0 := fun i i0 => by rw [uF_j (by omega), zF_e]
  refine ⟨by omega, fun b ho c q hg hq => ?_, fun b ho ht => ?_, fun b ho ht j j0 => ?_, fun b ho ht j j0 => ?_, fun b ho hb => ?_⟩
  · rcases (own_s h0).mp ho with ob | rfl
    · rw [up1_n (nw ob)] at hg
      rw [fo _ ob]
      have z := h1 b ob c q hg hq
      refine ⟨z.1, fun k => ?_, fun k w => z.2.2 k w⟩
      rcases z.2.1 k with w | w
      · exact Or.inl w
      · exact Or.inr ⟨(own_s h0).mpr (Or.inl w.1), by rw [up1_n (nw w.1)]; exact w.2.1, by rw [up1_n (nw w.1)]; exact w.2.2.1, by rw [fo _ w.1]; exact w.2.2.2⟩
    · rw [up1_e] at hg
      have := cBd_len hq
      omega
  · rcases (own_s h0).mp ho with ob | rfl
    · rw [up1_n (nw ob)] at ht ⊢
      exact h2 b ob ht
    · rw [up1_e]
      exact hn
  · rcases (own_s h0).mp ho with ob | rfl
    · rw [up1_n (nw ob)] at ht
      rw [fo _ ob, fo _ ob]
      exact h3 b ob ht j j0
    · rw [fe, fz j j0]
      exact hg0
  · rcases (own_s h0).mp ho with ob | rfl
    · rw [up1_n (nw ob)] at ht ⊢
      rw [fo _ ob]
      rcases h4 b ob ht j j0 with w | w
      · exact Or.inl w
      · exact Or.inr ⟨(own_s h0).mpr (Or.inl w.1), by rw [up1_n (nw w.1)]; exact w.2⟩
    · rw [fz j j0]
      exact Or.inl rfl
  · rcases (own_s h0).mp ho with ob | rfl
    · rw [up1_n (nw ob)]
      simp only [fo _ ob]
      have z := h5 b ob hb
      have f : ∀ c q : Nat, tg b = (c : Int) + 1 → ((cBd.getD c []).getD q (1, 0, 0, 0)).1 = 3 → q < (cBd.getD c []).length → F b (q : Int) ≠ 64 + (m : Int) := fun c q ht k hl e => by
        rcases (h1 b ob c q ht hl).2.1 (Or.inr k) with w | w
        · omega
        · exact nw w.1 e
      constructor
      · intro ht
        have f2 : F b 2 ≠ 64 + (m : Int) := f 10 2 (by rw [ht]; rfl) rfl (by decide)
        have f3 : F b 3 ≠ 64 + (m : Int) := f 10 3 (by rw [ht]; rfl) rfl (by decide)
        have f4 : F b 4 ≠ 64 + (m : Int) := f 10 4 (by rw [ht]; rfl) rfl (by decide)
        have f5 : F b 5 ≠ 64 + (m : Int) := f 10 5 (by rw [ht]; rfl) rfl (by decide)
        have f6 : F b 6 ≠ 64 + (m : Int) := f 10 6 (by rw [ht]; rfl) rfl (by decide)
        rw [up1_n f2, up1_n f3, up1_n f4, up1_n f5, up1_n f6]
        exact z.1 ht
      · intro ht
        have f2 : F b 15 ≠ 64 + (m : Int) := f 2 15 (by rw [ht]; rfl) rfl (by decide)
        rw [up1_n f2]
        exact z.2 ht
    · rw [up1_e]
      exact ⟨fun t => by omega, fun t => by omega⟩
/-- it is made -/
theorem HC_fin {u : Int} {m : Nat} {tg ln : Int → Int} {F : Int → Int → Int} (h : HC u m tg ln F) (hz : ∀ c q : Nat, tg u = (c : Int) + 1 → q < (cBd.getD c []).length → ((cBd.getD c []).getD q (1, 0, 0, 0)).1 = 3 → F u (q : Int) ≠ 0) (h5 : (tg u = 11 → ln (F u 3) = ln (F u 2) ∧ ln (F u 4) = ln (F u 2) ∧ ln (F u 5) = ln (F u 2) ∧ ln (F u 6) = ln (F u 2) ∧ F u 7 ≤ ln (F u 2)) ∧ (tg u = 3 → 0 ≤ F u 16 ∧ F u 16 ≤ ln (F u 15))) : HC 0 m tg ln F := by
  refine ⟨h.1, fun b ho c q hg hq => ?_, h.2.2.1, h.2.2.2.1, h.2.2.2.2.1, fun b ho _ => ?_⟩
  · have z := h.2.1 b ho c q hg hq
    refine ⟨z.1, z.2.1, fun k _ => ?_⟩
    by_cases w : b = u
    · subst w
      exact hz c q hg hq k
    · exact z.2.2 k w
  · by_cases w : b = u
    · subst w
      exact h5
    · exact h.2.2.2.2.2 b ho w
/-- places that no content hangs on -/
theorem cV_gh {R : Nat → jC} {m : Nat} {tg ln : Int → Int} {F : Int → Int → Int} {a j z : Int} (h : j < 0 ∨ (100 ≤ j ∧ tg a < 20)) : cV R m tg ln (uF F a j z) = cV R m tg ln F := by
  unfold cV
  refine List.map_congr_left (fun i _ => ?_)
  by_cases r : 2 ≤ i ∧ i < 89
  · rw [if_pos r, if_pos r]
  · rw [if_neg r, if_neg r]
    rcases h with h | h
    · have e : ∀ (b : Int) (i : Nat), uF F a j z b (i : Int) = F b (i : Int) := fun b i => uF_j (by omega)
      unfold cCe oF
      simp only [e]
    · by_cases e : ((64 + i : Nat) : Int) = a
      · rw [e]
        unfold cCe
        rw [if_pos h.2, if_pos h.2]
        have : oF (uF F a j z) (tg a - 1).toNat a = oF F (tg a - 1).toNat a := by
          unfold oF
          refine List.map_congr_left (fun q hq => ?_)
          have h1 := List.mem_range.mp hq
          have h2 : (cTy.getD (tg a - 1).toNat []).length ≤ 100 := cTy_le _
          rw [uF_j (by omega)]
        rw [this]
      · exact cC_n e
/-- a place of an object that no field hangs on -/
theorem HC_gh {u : Int} {m : Nat} {tg ln : Int → Int} {F : Int → Int → Int} {a j z : Int} (h : HC u m tg ln F) (hg : tg a < 20) (hj : 100 ≤ j) : HC u m tg ln (uF F a j z) := by
  obtain ⟨h0, h1, h2, h3, h4, h5⟩ := h
  have n1 : ∀ b i, i < 100 → uF F a j z b i = F b i := fun b i i0 => uF_j (by omega)
  refine ⟨h0, fun b ho c_q q_q hg' hq_q => ?_, h2, fun b ho ht i j0 => ?_, fun b ho ht i j0 => ?_, fun b ho hu => ?_⟩
  · have := cBd_100 hq_q
    unfold cOk
    simp only [n1 _ (-1) (by decide)]
    rw [n1 b _ (by omega)]
    exact h1 b ho c_q q_q hg' hq_q
  · have w : b ≠ a := fun w => by rw [w] at ht; omega
    rw [uF_a w, uF_a w]
    exact h3 b ho ht i j0
  · have w : b ≠ a := fun w => by rw [w] at ht; omega
    rw [uF_a w]
    exact h4 b ho ht i j0
  · have z := h5 b ho hu
    simp only [n1 b _ (show (2 : Int) < 100 by decide), n1 b _ (show (3 : Int) < 100 by decide), n1 b _ (show (4 : Int) < 100 by decide), n1 b _ (show (5 : Int) < 100 by decide), n1 b _ (show (6 : Int) < 100 by decide), n1 b _ (show (7 : Int) < 100 by decide), n1 b _ (show (15 : Int) < 100 by decide), n1 b _ (show (16 : Int) < 100 by decide)]
    exact z
/-- how much there is: a cell is 1 and what it holds -/
def csz (t n : Int) : Int := if t < 20 then 25 else 1 + n
