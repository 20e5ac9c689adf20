/-! code of PAR and ALT -/
/-- the children of a row, by their place in it -/
def nx (T : Nat → Nat → Int) (c : Int) : Nat → Int
  | 0 => c
  | j + 1 => T 22 (nx T c j).toNat
theorem nx_sh {T : Nat → Nat → Int} {c : Int} : ∀ {j : Nat}, nx T c (j + 1) = nx T (T 22 c.toNat) j
  | 0 => rfl
  | j + 1 => by
    show T 22 (nx T c (j + 1)).toNat = T 22 (nx T (T 22 c.toNat) j).toNat
    rw [nx_sh]
theorem CH_nx {T : Nat → Nat → Int} : ∀ {l : List Int} {c : Int} {j : Nat}, CH T c l → j < l.length → nx T c j ∈ l ∧ 0 < nx T c j
  | [], _, _, _, hj => absurd hj (by simp)
  | e :: l, c, 0, h, _ => by
    obtain ⟨rfl, h1, _⟩ := h
    exact ⟨List.mem_cons_self .., h1⟩
  | e :: l, c, j + 1, h, hj => by
    obtain ⟨rfl, _, h2⟩ := h
    rw [nx_sh]
    have := CH_nx (j := j) h2 (by simpa using hj)
    exact ⟨List.mem_cons_of_mem _ this.1, this.2⟩
theorem CH_nxe {T : Nat → Nat → Int} : ∀ {l : List Int} {c : Int}, CH T c l → nx T c l.length = 0
  | [], _, h => h
  | e :: l, c, h => by
    obtain ⟨rfl, _, h2⟩ := h
    show nx T c (l.length + 1) = 0
    rw [nx_sh]
    exact CH_nxe h2
theorem CH_nxa {T : Nat → Nat → Int} : ∀ {l m : List Int} {c d : Int}, CH T c (l ++ m) → CH T d m → d = nx T c l.length
  | [], m, c, d, h, g => by
    cases m with
    | nil => exact g.trans (show c = 0 from h).symm
    | cons e m => exact g.1.trans h.1.symm
  | e :: l, m, c, d, h, g => by
    obtain ⟨rfl, _, h2⟩ := h
    show d = nx T c (l.length + 1)
    rw [nx_sh]
    exact CH_nxa h2 g
/-- a branch of a PAR or PAR FOR; how many; what lies below it -/
def kid (T : Nat → Nat → Int) (p : Int) (j : Nat) : Int := if T 15 p.toNat = 29 then T 21 p.toNat else nx T (T 21 p.toNat) j
def mny (T : Nat → Nat → Int) (p : Int) : Int := if T 15 p.toNat = 29 then T 20 p.toNat else T 18 p.toNat
def dpt (T : Nat → Nat → Int) (p : Int) : Nat → Int
  | 0 => 3
  | j + 1 => dpt T p j + T 26 (kid T p j).toNat + T 27 (kid T p j).toNat + 3
def pri (T : Nat → Nat → Int) (p i : Int) : Int := if i = 0 ∧ T 15 p.toNat ≠ 29 ∧ T 17 p.toNat = 1 then 16 else 15
def fB (T : Nat → Nat → Int) (F : Int → Int) (nw p : Int) (i : Nat) : Int → Int := fun l => if l = nw + 1 then F nw - dpt T p i - T 26 (kid T p i).toNat else F l
def sB (T : Nat → Nat → Int) (S : Int → Int) (p : Int) (i : Nat) : Int → Int := fun s => if T 15 p.toNat = 29 ∧ s = T 17 p.toNat then (i32 (T 19 p.toNat + (i : Int))).toInt else S s
/-- the branches are put up: the first ones (La: their labels) -/
def gB1 (T C : Nat → Nat → Int) (La : Int → Int) (p : Int) : Nat → Int → Int → Int → Int → Prop
  | 0, k, k_q, l0, l1 => k_q = k ∧ l1 = l0
  | i + 1, k, k_q, l0, l1 => ∃ a b m : Int, l0 ≤ m ∧ m + 1 ≤ l1 ∧ La (i : Int) = m + 1 ∧ gB1 T C La p i k a l0 m ∧ PL C a b (La (i : Int)) (m + 1) l1 ∧ SQ C [(1, - dpt T p i - T 26 (kid T p i).toNat), (15, pri T p (i : Int))] b k_q
theorem gB1_le {T C : Nat → Nat → Int} {La : Int → Int} {p : Int} : ∀ {i : Nat} {k k_q l0 l1 : Int}, gB1 T C La p i k k_q l0 l1 → k ≤ k_q ∧ l0 ≤ l1
  | 0, _, _, _, _, h => ⟨Int.le_of_eq h.1.symm, Int.le_of_eq h.2.symm⟩
  | i + 1, k, k_q, l0, l1, h => by
    obtain ⟨a, b, m, h1, h2, h3, h4, h5, h6⟩ := h
    have := gB1_le h4
    have := PL_le h5
    have := SQ_le h6
    omega
theorem gB1_mv {T C C_q : Nat → Nat → Int} {La : Int → Int} {p K : Int} : ∀ {i : Nat} {k k_q l0 l1 : Int}, Cg K l0 l1 C C_q → k_q ≤ K → gB1 T C La p i k k_q l0 l1 → gB1 T C_q La p i k k_q l0 l1
  | 0, _, _, _, _, _, _, h => h
  | i + 1, k, k_q, l0, l1, g, hk, h => by
    obtain ⟨a, b, m, h1, h2, h3, h4, h5, h6⟩ := h
    have := gB1_le h4
    have := PL_le h5
    have := SQ_le h6
    exact ⟨a, b, m, h1, h2, h3, gB1_mv (Cg_su g (Int.le_refl _) (Int.le_refl _) (by omega)) (by omega) h4, PL_mv (Cg_su g (Int.le_refl _) (by omega) (Int.le_refl _)) (by omega) h5, SQ_mv g hk h6⟩
theorem gB1_La {T C : Nat → Nat → Int} {La : Int → Int} {p : Int} : ∀ {i : Nat} {k k_q l0 l1 : Int}, gB1 T C La p i k k_q l0 l1 → ∀ j : Nat, j < i → l0 < La (j : Int) ∧ La (j : Int) ≤ l1
  | 0, _, _, _, _, _, j, hj => absurd hj (by omega)
  | i + 1, k, k_q, l0, l1, h, j, hj => by
    obtain ⟨a, b, m, h1, h2, h3, h4, h5, h6⟩ := h
    by_cases e : j = i
    · subst e
      omega
    · have := gB1_La h4 j (by omega)
      omega
/-- the labels of two branches differ -/
theorem gB1_Ln {T C : Nat → Nat → Int} {La : Int → Int} {p : Int} : ∀ {i : Nat} {k k_q l0 l1 : Int}, gB1 T C La p i k k_q l0 l1 → ∀ j j_q : Nat, j < j_q → j_q < i → La (j : Int) < La (j_q : Int)
  | 0, _, _, _, _, _, j, j_q, _, hj => absurd hj (by omega)
  | i + 1, k, k_q, l0, l1, h, j, j_q, hj, hj' => by
    obtain ⟨a, b, m, h1, h2, h3, h4, h5, h6⟩ := h
    by_cases e : j_q = i
    · subst e
      have := gB1_La h4 j hj
      omega
    · exact gB1_Ln h4 j j_q hj (by omega)
/-- a branch's label is set -/
theorem gB1_set {T C C_q : Nat → Nat → Int} {La : Int → Int} {p z v : Int} (e : C_q = uA C 50 z.toNat v) : ∀ {i : Nat} {k k_q l0 l1 : Int}, (l1 < z ∨ ∃ j : Nat, j < i ∧ La (j : Int) = z) → 0 ≤ l0 → gB1 T C La p i k k_q l0 l1 → gB1 T C_q La p i k k_q l0 l1
  | 0, _, _, _, _, _, _, h => h
  | i + 1, k, k_q, l0, l1, hz, h0, h => by
    obtain ⟨a, b, m, h1, h2, h3, h4, h5, h6⟩ := h
    have zl : l1 < z ∨ z ≤ m + 1 := by
      rcases hz with hz | ⟨j, hj, hz⟩
      · exact .inl hz
      · by_cases q : j = i
        · subst q
          omega
        · have := gB1_La h4 j (by omega)
          omega
    have zp : 0 ≤ z := by
      rcases hz with hz | ⟨j, hj, hz⟩
      · omega
      · by_cases q : j = i
        · subst q
          omega
        · have := gB1_La h4 j (by omega)
          omega
    refine ⟨a, b, m, h1, h2, h3, gB1_set e ?_ h0 h4, PL_mv (Cg_set (K := b) e zp (by omega)) (Int.le_refl _) h5, SQ_mv (Cg_set (K := k_q) (l0 := z) (l1 := z) e zp (by omega)) (Int.le_refl _) h6⟩
    rcases hz with hz | ⟨j, hj, hz⟩
    · exact .inl (by omega)
    · by_cases q : j = i
      · subst q
        exact .inl (by omega)
      · exact .inr ⟨j, by omega, hz⟩
theorem gB1_ex {T C : Nat → Nat → Int} {La La' : Int → Int} {p : Int} : ∀ {i : Nat} {k k_q l0 l1 : Int}, (∀ j : Int, j < (i : Int) → La' j = La j) → gB1 T C La p i k k_q l0 l1 → gB1 T C La' p i k k_q l0 l1
  | 0, _, _, _, _, _, h => h
  | i + 1, k, k_q, l0, l1, q, h => by
    obtain ⟨a, b, m, h1, h2, h3, h4, h5, h6⟩ := h
    rw [← q (i : Int) (by omega)] at h3 h5
    exact ⟨a, b, m, h1, h2, h3, gB1_ex (fun j hj => q j (by omega)) h4, h5, h6⟩
/-- the branches themselves: the first ones -/
def gB2 (T C : Nat → Nat → Int) (R : (Int → Int) → (Int → Int) → Int → Int → Int → Int → Int → Int → Prop) (La F S : Int → Int) (nw p : Int) : Nat → Int → Int → Int → Int → Prop
  | 0, k, k_q, l0, l1 => k_q = k ∧ l1 = l0
  | i + 1, k, k_q, l0, l1 => ∃ a b m : Int, l0 ≤ m ∧ m ≤ l1 ∧ gB2 T C R La F S nw p i k a l0 m ∧ C 50 (La (i : Int)).toNat = a ∧ R (fB T F nw p i) (sB T S p i) (nw + 1) (kid T p i) a b m l1 ∧ SQ C [(1, T 25 p.toNat + dpt T p i + T 26 (kid T p i).toNat), (15, 17)] b k_q
theorem gB2_le {T C : Nat → Nat → Int} {R : (Int → Int) → (Int → Int) → Int → Int → Int → Int → Int → Int → Prop} {La F S : Int → Int} {nw p : Int} (hR : ∀ F S nw c a b u v, R F S nw c a b u v → a ≤ b) : ∀ {i : Nat} {k k_q l0 l1 : Int}, gB2 T C R La F S nw p i k k_q l0 l1 → k ≤ k_q ∧ l0 ≤ l1
  | 0, _, _, _, _, h => ⟨Int.le_of_eq h.1.symm, Int.le_of_eq h.2.symm⟩
  | i + 1, k, k_q, l0, l1, h => by
    obtain ⟨a, b, m, h1, h2, h3, h4, h5, h6⟩ := h
    have := gB2_le hR h3
    have := hR _ _ _ _ _ _ _ _ h5
    have := SQ_le h6
    omega
theorem gB2_mv {T C C_q : Nat → Nat → Int} {R R_q : (Int → Int) → (Int → Int) → Int → Int → Int → Int → Int → Int → Prop} {La F S : Int → Int} {nw p K x y : Int} (hl : ∀ F S nw c a b u v, R F S nw c a b u v → a ≤ b) (hR : ∀ F S nw c a b u v, x ≤ u → v ≤ y → b ≤ K → R F S nw c a b u v → R_q F S nw c a b u v) (g : Cg K x y C C_q) : ∀ {i : Nat} {k k_q l0 l1 : Int}, (∀ j : Nat, j < i → C_q 50 (La (j : Int)).toNat = C 50 (La (j : Int)).toNat) → x ≤ l0 → l1 ≤ y → k_q ≤ K → gB2 T C R La F S nw p i k k_q l0 l1 → gB2 T C_q R_q La F S nw p i k k_q l0 l1
  | 0, _, _, _, _, _, _, _, _, h => h
  | i + 1, k, k_q, l0, l1, hL, hx, hy, hk, h => by
    obtain ⟨a, b, m, h1, h2, h3, h4, h5, h6⟩ := h
    have := hl _ _ _ _ _ _ _ _ h5
    have := SQ_le h6
    exact ⟨a, b, m, h1, h2, gB2_mv hl hR g (fun j hj => hL j (by omega)) hx (by omega) (by omega) h3, by rw [hL i (by omega)]; exact h4, hR _ _ _ _ _ _ _ _ (by omega) hy (by omega) h5, SQ_mv g hk h6⟩
/-- a PAR before its branches: le the label of its end -/
def gP1 (T C : Nat → Nat → Int) (La : Int → Int) (p : Int) (i : Nat) (le k k_q l0 l1 : Int) : Prop := ∃ a b m1 : Int, l0 ≤ m1 ∧ m1 ≤ l1 ∧ PL C k a le l0 m1 ∧ SQ C [(13, T 25 p.toNat), (4, mny T p), (13, T 25 p.toNat + 1), (15, 30), (13, T 25 p.toNat + 2)] a b ∧ gB1 T C La p i b k_q m1 l1
theorem gP1_le {T C : Nat → Nat → Int} {La : Int → Int} {p : Int} {i : Nat} {le k k_q l0 l1 : Int} (h : gP1 T C La p i le k k_q l0 l1) : k ≤ k_q := by
  obtain ⟨a, b, m1, h1, h2, h3, h4, h5⟩ := h
  have := PL_le h3
  have := SQ_le h4
  have := (gB1_le h5).1
  omega
theorem gP1_mv {T C C_q : Nat → Nat → Int} {La : Int → Int} {p K : Int} {i : Nat} {le k k_q l0 l1 : Int} (g : Cg K l0 l1 C C_q) (hk : k_q ≤ K) (h : gP1 T C La p i le k k_q l0 l1) : gP1 T C_q La p i le k k_q l0 l1 := by
  obtain ⟨a, b, m1, h1, h2, h3, h4, h5⟩ := h
  have := SQ_le h4
  have := (gB1_le h5).1
  exact ⟨a, b, m1, h1, h2, PL_mv (Cg_su g (Int.le_refl _) (Int.le_refl _) h2) (by omega) h3, SQ_mv g (by omega) h4, gB1_mv (Cg_su g (Int.le_refl _) h1 (Int.le_refl _)) hk h5⟩
theorem gP1_La {T C : Nat → Nat → Int} {La : Int → Int} {p : Int} {i : Nat} {le k k_q l0 l1 : Int} (h : gP1 T C La p i le k k_q l0 l1) (j : Nat) (hj : j < i) : l0 < La (j : Int) ∧ La (j : Int) ≤ l1 := by
  obtain ⟨a, b, m1, h1, h2, h3, h4, h5⟩ := h
  have := gB1_La h5 j hj
  omega
theorem gP1_set {T C C_q : Nat → Nat → Int} {La : Int → Int} {p : Int} {i : Nat} {le k k_q l0 l1 z v : Int} (e : C_q = uA C 50 z.toNat v) (hz : ∃ j : Nat, j < i ∧ La (j : Int) = z) (h0 : 0 ≤ l0) (h : gP1 T C La p i le k k_q l0 l1) : gP1 T C_q La p i le k k_q l0 l1 := by
  obtain ⟨a, b, m1, h1, h2, h3, h4, h5⟩ := h
  obtain ⟨j, hj, hz'⟩ := hz
  have q := gB1_La h5 j hj
  have zp : 0 ≤ z := by omega
  exact ⟨a, b, m1, h1, h2, PL_mv (Cg_set (K := a) e zp (by omega)) (Int.le_refl _) h3, SQ_mv (Cg_set (K := b) (l0 := z) (l1 := z) e zp (by omega)) (Int.le_refl _) h4, gB1_set e (.inr ⟨j, hj, hz'⟩) (by omega) h5⟩
/-- a PAR -/
def gPa (T C : Nat → Nat → Int) (R : (Int → Int) → (Int → Int) → Int → Int → Int → Int → Int → Int → Prop) (F S : Int → Int) (nw p k k_q l0 l1 : Int) : Prop := ∃ (La : Int → Int) (le a b m1 m2 : Int), l0 ≤ m1 ∧ m1 ≤ m2 ∧ m2 ≤ l1 ∧ LZ C le k_q l0 m1 ∧ gP1 T C La p (mny T p).toNat le k a m1 m2 ∧ ST C a b 15 18 ∧ gB2 T C R La F S nw p (mny T p).toNat b k_q m2 l1
theorem gPa_le {T C : Nat → Nat → Int} {R : (Int → Int) → (Int → Int) → Int → Int → Int → Int → Int → Int → Prop} {F S : Int → Int} {nw p k k_q l0 l1 : Int} (hR : ∀ F S nw c a b u v, R F S nw c a b u v → a ≤ b) (h : gPa T C R F S nw p k k_q l0 l1) : k ≤ k_q := by
  obtain ⟨La, le, a, b, m1, m2, i1, i2, i3, h1, h2, h3, h4⟩ := h
  have := gP1_le h2
  have := ST_le h3
  have := (gB2_le hR h4).1
  omega
theorem gPa_mv {T C C_q : Nat → Nat → Int} {R R_q : (Int → Int) → (Int → Int) → Int → Int → Int → Int → Int → Int → Prop} {F S : Int → Int} {K nw p k k_q l0 l1 : Int} (hl : ∀ F S nw c a b u v, R F S nw c a b u v → a ≤ b) (hR : ∀ F S nw c a b u v, l0 ≤ u → v ≤ l1 → b ≤ K → R F S nw c a b u v → R_q F S nw c a b u v) (h0 : 0 ≤ l0) (g : Cg K l0 l1 C C_q) (hk : k_q ≤ K) (h : gPa T C R F S nw p k k_q l0 l1) : gPa T C_q R_q F S nw p k k_q l0 l1 := by
  obtain ⟨La, le, a, b, m1, m2, i1, i2, i3, h1, h2, h3, h4⟩ := h
  have e3 := ST_le h3
  have e4 := (gB2_le hl h4).1
  refine ⟨La, le, a, b, m1, m2, i1, i2, i3, LZ_mv (Cg_su g (Int.le_refl _) (Int.le_refl _) (by omega)) hk h1, gP1_mv (Cg_su g (Int.le_refl _) i1 (by omega)) (by omega) h2, ST_mv g (by omega) h3, gB2_mv hl hR g (fun j hj => ?_) (by omega) (Int.le_refl _) hk h4⟩
  have := gP1_La h2 j hj
  exact g.2 _ (by omega) (by omega)
/-- a guard's first steps -/
def gG1 (T C : Nat → Nat → Int) (F S : Int → Int) (nw n : Int) (g i k k_q l0 l1 : Int) : Prop := ∃ a b m : Int, l0 ≤ m ∧ m ≤ l1 ∧ ((0 < T 17 g.toNat ∧ gE T C F S nw 22 (T 17 g.toNat) k a l0 m) ∨ (T 17 g.toNat ≤ 0 ∧ ST C k a 4 1)) ∧ ST C a b 13 (T 25 n.toNat + 2 * i) ∧ ((0 < T 18 g.toNat ∧ ∃ c, gD T C F S nw 20 (T 18 g.toNat) b c m l1 ∧ ST C c k_q 13 (T 25 n.toNat + 2 * i + 1)) ∨ (T 18 g.toNat ≤ 0 ∧ k_q = b))
theorem gG1_le {T C : Nat → Nat → Int} {F S : Int → Int} {nw n g i k k_q l0 l1 : Int} (h : gG1 T C F S nw n g i k k_q l0 l1) : k ≤ k_q := by
  obtain ⟨a, b, m, h1, h2, h3, h4, h5⟩ := h
  have e4 := ST_le h4
  have e3 : k ≤ a := by
    rcases h3 with h3 | h3
    · exact gE_le h3.2
    · exact ST_le h3.2
  rcases h5 with ⟨_, c, h5, h6⟩ | h5
  · have := gD_le h5
    have := ST_le h6
    omega
  · omega
theorem gG1_mv {T C C_q : Nat → Nat → Int} {F S : Int → Int} {nw n g i K k k_q l0 l1 : Int} (q : Cg K l0 l1 C C_q) (hk : k_q ≤ K) (h : gG1 T C F S nw n g i k k_q l0 l1) : gG1 T C_q F S nw n g i k k_q l0 l1 := by
  obtain ⟨a, b, m, h1, h2, h3, h4, h5⟩ := h
  have e4 := ST_le h4
  have e5 : b ≤ k_q := by
    rcases h5 with ⟨_, c, h5, h6⟩ | h5
    · have := gD_le h5
      have := ST_le h6
      omega
    · omega
  refine ⟨a, b, m, h1, h2, ?_, ST_mv q (by omega) h4, ?_⟩
  · rcases h3 with h3 | h3
    · exact .inl ⟨h3.1, gE_mv (Cg_su q (Int.le_refl _) (Int.le_refl _) h2) (by omega) h3.2⟩
    · exact .inr ⟨h3.1, ST_mv q (by omega) h3.2⟩
  · rcases h5 with ⟨h0, c, h5, h6⟩ | h5
    · have := ST_le h6
      exact .inl ⟨h0, c, gD_mv (Cg_su q (Int.le_refl _) h1 (Int.le_refl _)) (by omega) h5, ST_mv q hk h6⟩
    · exact .inr h5
/-- the first steps of the guards before the i-th -/
def gA1 (T C : Nat → Nat → Int) (La F S : Int → Int) (nw n : Int) : Nat → Int → Int → Int → Int → Prop
  | 0, k, k_q, l0, l1 => k_q = k ∧ l1 = l0
  | i + 1, k, k_q, l0, l1 => ∃ a m : Int, l0 ≤ m ∧ m + 1 ≤ l1 ∧ La (i : Int) = m + 1 ∧ gA1 T C La F S nw n i k a l0 m ∧ gG1 T C F S nw n (nx T (T 21 n.toNat) i) (i : Int) a k_q (m + 1) l1
theorem gA1_le {T C : Nat → Nat → Int} {La F S : Int → Int} {nw n : Int} : ∀ {i : Nat} {k k_q l0 l1 : Int}, gA1 T C La F S nw n i k k_q l0 l1 → k ≤ k_q ∧ l0 ≤ l1
  | 0, _, _, _, _, h => ⟨Int.le_of_eq h.1.symm, Int.le_of_eq h.2.symm⟩
  | i + 1, k, k_q, l0, l1, h => by
    obtain ⟨a, m, h1, h2, h3, h4, h5⟩ := h
    have := gA1_le h4
    have := gG1_le h5
    omega
theorem gA1_mv {T C C_q : Nat → Nat → Int} {La F S : Int → Int} {nw n K : Int} : ∀ {i : Nat} {k k_q l0 l1 : Int}, Cg K l0 l1 C C_q → k_q ≤ K → gA1 T C La F S nw n i k k_q l0 l1 → gA1 T C_q La F S nw n i k k_q l0 l1
  | 0, _, _, _, _, _, _, h => h
  | i + 1, k, k_q, l0, l1, g, hk, h => by
    obtain ⟨a, m, h1, h2, h3, h4, h5⟩ := h
    have := gG1_le h5
    exact ⟨a, m, h1, h2, h3, gA1_mv (Cg_su g (Int.le_refl _) (Int.le_refl _) (by omega)) (by omega) h4, gG1_mv (Cg_su g (Int.le_refl _) (by omega) (Int.le_refl _)) hk h5⟩
theorem gA1_La {T C : Nat → Nat → Int} {La F S : Int → Int} {nw n : Int} : ∀ {i : Nat} {k k_q l0 l1 : Int}, gA1 T C La F S nw n i k k_q l0 l1 → ∀ j : Nat, j < i → l0 < La (j : Int) ∧ La (j : Int) ≤ l1
  | 0, _, _, _, _, _, j, hj => absurd hj (by omega)
  | i + 1, k, k_q, l0, l1, h, j, hj => by
    obtain ⟨a, m, h1, h2, h3, h4, h5⟩ := h
    by_cases e : j = i
    · subst e
      omega
    · have := gA1_La h4 j (by omega)
      omega
theorem gA1_Ln {T C : Nat → Nat → Int} {La F S : Int → Int} {nw n : Int} : ∀ {i : Nat} {k k_q l0 l1 : Int}, gA1 T C La F S nw n i k k_q l0 l1 → ∀ j j_q : Nat, j < j_q → j_q < i → La (j : Int) < La (j_q : Int)
  | 0, _, _, _, _, _, j, j_q, _, hj => absurd hj (by omega)
  | i + 1, k, k_q, l0, l1, h, j, j_q, hj, hj' => by
    obtain ⟨a, m, h1, h2, h3, h4, h5⟩ := h
    by_cases e : j_q = i
    · subst e
      have := gA1_La h4 j hj
      omega
    · exact gA1_Ln h4 j j_q hj (by omega)
theorem gA1_set {T C C_q : Nat → Nat → Int} {La F S : Int → Int} {nw n z v : Int} (e : C_q = uA C 50 z.toNat v) : ∀ {i : Nat} {k k_q l0 l1 : Int}, (l1 < z ∨ ∃ j : Nat, j < i ∧ La (j : Int) = z) → 0 ≤ l0 → gA1 T C La F S nw n i k k_q l0 l1 → gA1 T C_q La F S nw n i k k_q l0 l1
  | 0, _, _, _, _, _, _, h => h
  | i + 1, k, k_q, l0, l1, hz, h0, h => by
    obtain ⟨a, m, h1, h2, h3, h4, h5⟩ := h
    have zl : (l1 < z ∨ z ≤ m + 1) ∧ 0 ≤ z := by
      rcases hz with hz | ⟨j, hj, hz⟩
      · omega
      · by_cases q : j = i
        · subst q
          omega
        · have := gA1_La h4 j (by omega)
          omega
    refine ⟨a, m, h1, h2, h3, gA1_set e ?_ h0 h4, gG1_mv (Cg_set (K := k_q) e zl.2 (by omega)) (Int.le_refl _) h5⟩
    rcases hz with hz | ⟨j, hj, hz⟩
    · exact .inl (by omega)
    · by_cases q : j = i
      · subst q
        exact .inl (by omega)
      · exact .inr ⟨j, by omega, hz⟩
theorem gA1_ex {T C : Nat → Nat → Int} {La La' F S : Int → Int} {nw n : Int} : ∀ {i : Nat} {k k_q l0 l1 : Int}, (∀ j : Int, j < (i : Int) → La' j = La j) → gA1 T C La F S nw n i k k_q l0 l1 → gA1 T C La' F S nw n i k k_q l0 l1
  | 0, _, _, _, _, _, h => h
  | i + 1, k, k_q, l0, l1, q, h => by
    obtain ⟨a, m, h1, h2, h3, h4, h5⟩ := h
    rw [← q (i : Int) (by omega)] at h3
    exact ⟨a, m, h1, h2, h3, gA1_ex (fun j hj => q j (by omega)) h4, h5⟩
/-- the guards are put up -/
def al2 (T : Nat → Nat → Int) (n i g : Int) : List (Int × Int) := if 0 < T 18 g.toNat then [(7, T 25 n.toNat + 2 * i), (7, T 25 n.toNat + 2 * i + 1), (15, 23)] else [(7, T 25 n.toNat + 2 * i), (15, 24)]
def al3 (T : Nat → Nat → Int) (n i g : Int) : List (Int × Int) := if 0 < T 18 g.toNat then [(7, T 25 n.toNat + 2 * i), (7, T 25 n.toNat + 2 * i + 1), (15, 26)] else [(7, T 25 n.toNat + 2 * i), (15, 27)]
def gA2 (T C : Nat → Nat → Int) (n : Int) : Nat → Int → Int → Prop
  | 0, k, k_q => k_q = k
  | i + 1, k, k_q => ∃ a : Int, gA2 T C n i k a ∧ SQ C (al2 T n (i : Int) (nx T (T 21 n.toNat) i)) a k_q
theorem gA2_le {T C : Nat → Nat → Int} {n : Int} : ∀ {i : Nat} {k k_q : Int}, gA2 T C n i k k_q → k ≤ k_q
  | 0, _, _, h => Int.le_of_eq (show _ = _ from h).symm
  | i + 1, k, k_q, h => by
    obtain ⟨a, h1, h2⟩ := h
    have := gA2_le h1
    have := SQ_le h2
    omega
theorem gA2_mv {T C C_q : Nat → Nat → Int} {n K l0 l1 : Int} (g : Cg K l0 l1 C C_q) : ∀ {i : Nat} {k k_q : Int}, k_q ≤ K → gA2 T C n i k k_q → gA2 T C_q n i k k_q
  | 0, _, _, _, h => h
  | i + 1, k, k_q, hk, h => by
    obtain ⟨a, h1, h2⟩ := h
    have := SQ_le h2
    exact ⟨a, gA2_mv g (by omega) h1, SQ_mv g hk h2⟩
/-- the guards are taken down, lf: the label behind -/
def gA3 (T C : Nat → Nat → Int) (La : Int → Int) (lf n : Int) : Nat → Int → Int → Prop
  | 0, k, k_q => k_q = k
  | i + 1, k, k_q => ∃ a b : Int, gA3 T C La lf n i k a ∧ WY C a b 4 (La (i : Int)) lf ∧ SQ C (al3 T n (i : Int) (nx T (T 21 n.toNat) i)) b k_q
theorem gA3_le {T C : Nat → Nat → Int} {La : Int → Int} {lf n : Int} : ∀ {i : Nat} {k k_q : Int}, gA3 T C La lf n i k k_q → k ≤ k_q
  | 0, _, _, h => Int.le_of_eq (show _ = _ from h).symm
  | i + 1, k, k_q, h => by
    obtain ⟨a, b, h1, h2, h3⟩ := h
    have := gA3_le h1
    have := WY_le h2
    have := SQ_le h3
    omega
theorem gA3_mv {T C C_q : Nat → Nat → Int} {La : Int → Int} {lf n K l0 l1 : Int} (g : Cg K l0 l1 C C_q) : ∀ {i : Nat} {k k_q : Int}, k_q ≤ K → gA3 T C La lf n i k k_q → gA3 T C_q La lf n i k k_q
  | 0, _, _, _, h => h
  | i + 1, k, k_q, hk, h => by
    obtain ⟨a, b, h1, h2, h3⟩ := h
    have := WY_le h2
    have := SQ_le h3
    exact ⟨a, b, gA3_mv g (by omega) h1, WY_mv g (by omega) h2, SQ_mv g hk h3⟩
/-- an ALT before its processes -/
def gA0 (T C : Nat → Nat → Int) (La F S : Int → Int) (nw n : Int) (lf k k_q l0 l1 : Int) : Prop := ∃ a b c d e : Int, gA1 T C La F S nw n (T 18 n.toNat).toNat k a l0 l1 ∧ ST C a b 15 22 ∧ gA2 T C n (T 18 n.toNat).toNat b c ∧ ST C c d 15 25 ∧ gA3 T C La lf n (T 18 n.toNat).toNat d e ∧ ST C e k_q 15 28
theorem gA0_le {T C : Nat → Nat → Int} {La F S : Int → Int} {nw n lf k k_q l0 l1 : Int} (h : gA0 T C La F S nw n lf k k_q l0 l1) : k ≤ k_q := by
  obtain ⟨a, b, c, d, e, h1, h2, h3, h4, h5, h6⟩ := h
  have := (gA1_le h1).1
  have := ST_le h2
  have := gA2_le h3
  have := ST_le h4
  have := gA3_le h5
  have := ST_le h6
  omega
theorem gA0_mv {T C C_q : Nat → Nat → Int} {La F S : Int → Int} {K nw n lf k k_q l0 l1 : Int} (g : Cg K l0 l1 C C_q) (hk : k_q ≤ K) (h : gA0 T C La F S nw n lf k k_q l0 l1) : gA0 T C_q La F S nw n lf k k_q l0 l1 := by
  obtain ⟨a, b, c, d, e, h1, h2, h3, h4, h5, h6⟩ := h
  have e2 := ST_le h2
  have e3 := gA2_le h3
  have e4 := ST_le h4
  have e5 := gA3_le h5
  have e6 := ST_le h6
  exact ⟨a, b, c, d, e, gA1_mv g (by omega) h1, ST_mv g (by omega) h2, gA2_mv g (by omega) h3, ST_mv g (by omega) h4, gA3_mv g (by omega) h5, ST_mv g hk h6⟩
theorem gA0_set {T C C_q : Nat → Nat → Int} {La F S : Int → Int} {nw n lf k k_q l0 l1 z v : Int} (e : C_q = uA C 50 z.toNat v) (hz : ∃ j : Nat, j < (T 18 n.toNat).toNat ∧ La (j : Int) = z) (h0 : 0 ≤ l0) (h : gA0 T C La F S nw n lf k k_q l0 l1) : gA0 T C_q La F S nw n lf k k_q l0 l1 := by
  obtain ⟨a, b, c, d, f, h1, h2, h3, h4, h5, h6⟩ := h
  obtain ⟨j, hj, hz'⟩ := hz
  have q := gA1_La h1 j hj
  have zp : 0 ≤ z := by omega
  have s : ∀ K, Cg K z z C C_q := fun K => Cg_set (K := K) e zp (by omega)
  exact ⟨a, b, c, d, f, gA1_set e (.inr ⟨j, hj, hz'⟩) h0 h1, ST_mv (s _) (Int.le_refl _) h2, gA2_mv (s _) (Int.le_refl _) h3, ST_mv (s _) (Int.le_refl _) h4, gA3_mv (s _) (Int.le_refl _) h5, ST_mv (s _) (Int.le_refl _) h6⟩
/-- a guard's process; le: the label of the end -/
def gG4 (T C : Nat → Nat → Int) (F S : Int → Int) (nw n : Int) (R : Int → Int → Int → Int → Int → Prop) (le g i k k_q l0 l1 : Int) : Prop := ∃ b c m : Int, l0 ≤ m ∧ m ≤ l1 ∧ ((0 < T 18 g.toNat ∧ ∃ d, gD T C F S nw 20 (T 19 g.toNat) k d l0 m ∧ SQ C [(7, T 25 n.toNat + 2 * i + 1), (15, 20)] d b) ∨ (T 18 g.toNat ≤ 0 ∧ b = k)) ∧ R (T 21 g.toNat) b c m l1 ∧ WY C c k_q 0 le 0
theorem gG4_le {T C : Nat → Nat → Int} {F S : Int → Int} {nw n : Int} {R : Int → Int → Int → Int → Int → Prop} (hR : ∀ c a b u v, R c a b u v → a ≤ b) {le g i k k_q l0 l1 : Int} (h : gG4 T C F S nw n R le g i k k_q l0 l1) : k ≤ k_q := by
  obtain ⟨b, c, m, h1, h2, h3, h4, h5⟩ := h
  have := hR _ _ _ _ _ h4
  have := WY_le h5
  rcases h3 with ⟨_, d, h3, h6⟩ | h3
  · have := gD_le h3
    have := SQ_le h6
    omega
  · omega
theorem gG4_mv {T C C_q : Nat → Nat → Int} {F S : Int → Int} {nw n : Int} {R R_q : Int → Int → Int → Int → Int → Prop} {K le g i k k_q l0 l1 : Int} (hl : ∀ c a b u v, R c a b u v → a ≤ b) (hR : ∀ c a b u v, l0 ≤ u → v ≤ l1 → b ≤ K → R c a b u v → R_q c a b u v) (q : Cg K l0 l1 C C_q) (hk : k_q ≤ K) (h : gG4 T C F S nw n R le g i k k_q l0 l1) : gG4 T C_q F S nw n R_q le g i k k_q l0 l1 := by
  obtain ⟨b, c, m, h1, h2, h3, h4, h5⟩ := h
  have := hl _ _ _ _ _ h4
  have := WY_le h5
  refine ⟨b, c, m, h1, h2, ?_, hR _ _ _ _ _ h1 (Int.le_refl _) (by omega) h4, WY_mv q hk h5⟩
  rcases h3 with ⟨h0, d, h3, h6⟩ | h3
  · have := SQ_le h6
    exact .inl ⟨h0, d, gD_mv (Cg_su q (Int.le_refl _) (Int.le_refl _) h2) (by omega) h3, SQ_mv q (by omega) h6⟩
  · exact .inr h3
/-- the processes of the guards before the i-th -/
def gA4 (T C : Nat → Nat → Int) (La F S : Int → Int) (nw n : Int) (R : Int → Int → Int → Int → Int → Prop) (le : Int) : Nat → Int → Int → Int → Int → Prop
  | 0, k, k_q, l0, l1 => k_q = k ∧ l1 = l0
  | i + 1, k, k_q, l0, l1 => ∃ a m : Int, l0 ≤ m ∧ m ≤ l1 ∧ gA4 T C La F S nw n R le i k a l0 m ∧ C 50 (La (i : Int)).toNat = a ∧ gG4 T C F S nw n R le (nx T (T 21 n.toNat) i) (i : Int) a k_q m l1
theorem gA4_le {T C : Nat → Nat → Int} {La F S : Int → Int} {nw n : Int} {R : Int → Int → Int → Int → Int → Prop} {le : Int} (hR : ∀ c a b u v, R c a b u v → a ≤ b) : ∀ {i : Nat} {k k_q l0 l1 : Int}, gA4 T C La F S nw n R le i k k_q l0 l1 → k ≤ k_q ∧ l0 ≤ l1
  | 0, _, _, _, _, h => ⟨Int.le_of_eq h.1.symm, Int.le_of_eq h.2.symm⟩
  | i + 1, k, k_q, l0, l1, h => by
    obtain ⟨a, m, h1, h2, h3, h4, h5⟩ := h
    have := gA4_le hR h3
    have := gG4_le hR h5
    omega
theorem gA4_mv {T C C_q : Nat → Nat → Int} {La F S : Int → Int} {nw n : Int} {R R_q : Int → Int → Int → Int → Int → Prop} {K le x y : Int} (hl : ∀ c a b u v, R c a b u v → a ≤ b) (hR : ∀ c a b u v, x ≤ u → v ≤ y → b ≤ K → R c a b u v → R_q c a b u v) (g : Cg K x y C C_q) : ∀ {i : Nat} {k k_q l0 l1 : Int}, (∀ j : Nat, j < i → C_q 50 (La (j : Int)).toNat = C 50 (La (j : Int)).toNat) → x ≤ l0 → l1 ≤ y → k_q ≤ K → gA4 T C La F S nw n R le i k k_q l0 l1 → gA4 T C_q La F S nw n R_q le i k k_q l0 l1
  | 0, _, _, _, _, _, _, _, _, h => h
  | i + 1, k, k_q, l0, l1, hL, hx, hy, hk, h => by
    obtain ⟨a, m, h1, h2, h3, h4, h5⟩ := h
    have := gG4_le hl h5
    exact ⟨a, m, h1, h2, gA4_mv hl hR g (fun j hj => hL j (by omega)) hx (by omega) (by omega) h3, by rw [hL i (by omega)]; exact h4, gG4_mv hl (fun c a b u v g1 g2 g3 w => hR c a b u v (by omega) (by omega) g3 w) (Cg_su g (Int.le_refl _) (by omega) hy) hk h5⟩
/-- an ALT -/
def gAl (T C : Nat → Nat → Int) (F S : Int → Int) (nw : Int) (R : Int → Int → Int → Int → Int → Prop) (p k k_q l0 l1 : Int) : Prop := ∃ (La : Int → Int) (le lf a m1 m2 : Int), l0 ≤ m1 ∧ m1 ≤ m2 ∧ m2 ≤ l1 ∧ LZ C le k_q l0 m1 ∧ LZ C lf a l0 m1 ∧ gA0 T C La F S nw p lf k a m1 m2 ∧ gA4 T C La F S nw p R le (T 18 p.toNat).toNat a k_q m2 l1
theorem gAl_le {T C : Nat → Nat → Int} {F S : Int → Int} {nw : Int} {R : Int → Int → Int → Int → Int → Prop} {p k k_q l0 l1 : Int} (hR : ∀ c a b u v, R c a b u v → a ≤ b) (h : gAl T C F S nw R p k k_q l0 l1) : k ≤ k_q := by
  obtain ⟨La, le, lf, a, m1, m2, i1, i2, i3, h1, h2, h3, h4⟩ := h
  have := gA0_le h3
  have := (gA4_le hR h4).1
  omega
theorem gA0_La {T C : Nat → Nat → Int} {La F S : Int → Int} {nw n lf k k_q l0 l1 : Int} (h : gA0 T C La F S nw n lf k k_q l0 l1) (j : Nat) (hj : j < (T 18 n.toNat).toNat) : l0 < La (j : Int) ∧ La (j : Int) ≤ l1 := by
  obtain ⟨a, b, c, d, e, h1, _⟩ := h
  exact gA1_La h1 j hj
theorem gA0_Ln {T C : Nat → Nat → Int} {La F S : Int → Int} {nw n lf k k_q l0 l1 : Int} (h : gA0 T C La F S nw n lf k k_q l0 l1) (j j_q : Nat) (hj : j < j_q) (hj' : j_q < (T 18 n.toNat).toNat) : La (j : Int) < La (j_q : Int) := by
  obtain ⟨a, b, c, d, e, h1, _⟩ := h
  exact gA1_Ln h1 j j_q hj hj'
theorem gAl_mv {T C C_q : Nat → Nat → Int} {F S : Int → Int} {nw : Int} {R R_q : Int → Int → Int → Int → Int → Prop} {K p k k_q l0 l1 : Int} (hl : ∀ c a b u v, R c a b u v → a ≤ b) (hR : ∀ c a b u v, l0 ≤ u → v ≤ l1 → b ≤ K → R c a b u v → R_q c a b u v) (h0 : 0 ≤ l0) (g : Cg K l0 l1 C C_q) (hk : k_q ≤ K) (h : gAl T C F S nw R p k k_q l0 l1) : gAl T C_q F S nw R_q p k k_q l0 l1 := by
  obtain ⟨La, le, lf, a, m1, m2, i1, i2, i3, h1, h2, h3, h4⟩ := h
  have e4 := (gA4_le hl h4).1
  refine ⟨La, le, lf, a, m1, m2, i1, i2, i3, LZ_mv (Cg_su g (Int.le_refl _) (Int.le_refl _) (by omega)) hk h1, LZ_mv (Cg_su g (Int.le_refl _) (Int.le_refl _) (by omega)) (by omega) h2, gA0_mv (Cg_su g (Int.le_refl _) i1 (by omega)) (by omega) h3, gA4_mv hl hR g (fun j hj => ?_) (by omega) (Int.le_refl _) hk h4⟩
  have := gA0_La h3 j hj
  exact g.2 _ (by omega) (by omega)
/-- a statement -/
def gS (T C : Nat → Nat → Int) (Q : Int → Int) (R : (Int → Int) → (Int → Int) → Int → Int → Int → Int → Int → Int → Prop) (F S : Int → Int) (nw p k k_q l0 l1 : Int) : Prop :=
  (T 15 p.toNat = 20 ∧ k_q = k) ∨ (T 15 p.toNat = 21 ∧ ST C k k_q 15 18) ∨
  (T 15 p.toNat = 22 ∧ ∃ a m, l0 ≤ m ∧ m ≤ l1 ∧ gE T C F S nw 22 (T 18 p.toNat) k a l0 m ∧ gT T C F S nw (T 17 p.toNat) a k_q m l1) ∨
  (T 15 p.toNat = 23 ∧ ∃ a b m, l0 ≤ m ∧ m ≤ l1 ∧ gE T C F S nw 22 (T 18 p.toNat) k a l0 m ∧ gD T C F S nw 20 (T 17 p.toNat) a b m l1 ∧ ST C b k_q 15 21) ∨
  (T 15 p.toNat = 24 ∧ ∃ a b m, l0 ≤ m ∧ m ≤ l1 ∧ gD T C F S nw 20 (T 18 p.toNat) k a l0 m ∧ gD T C F S nw 20 (T 17 p.toNat) a b m l1 ∧ ST C b k_q 15 20) ∨
  (T 15 p.toNat = 25 ∧ gCl T C Q F S nw p k k_q l0 l1) ∨
  (T 15 p.toNat = 26 ∧ gQ T (R F S nw) p 0 k k_q l0 l1) ∨
  (T 15 p.toNat = 27 ∧ gFo T C F S nw (R F S nw) p k k_q l0 l1) ∨
  ((T 15 p.toNat = 28 ∨ T 15 p.toNat = 29) ∧ gPa T C R F S nw p k k_q l0 l1) ∨
  (T 15 p.toNat = 30 ∧ gIf T C F S nw (R F S nw) p k k_q l0 l1) ∨
  (T 15 p.toNat = 31 ∧ gWh T C F S nw (R F S nw) p k k_q l0 l1) ∨
  (T 15 p.toNat = 32 ∧ gAl T C F S nw (R F S nw) p k k_q l0 l1)
theorem gS_le {T C : Nat → Nat → Int} {Q : Int → Int} {R : (Int → Int) → (Int → Int) → Int → Int → Int → Int → Int → Int → Prop} {F S : Int → Int} {nw p k k_q l0 l1 : Int} (hR : ∀ F S nw c a b u v, R F S nw c a b u v → a ≤ b) (h : gS T C Q R F S nw p k k_q l0 l1) : k ≤ k_q := by
  rcases h with h | h | h | h | h | h | h | h | h | h | h | h
  · omega
  · exact ST_le h.2
  · obtain ⟨_, a, m, _, _, h1, h2⟩ := h
    have := gE_le h1
    have := gT_le h2
    omega
  · obtain ⟨_, a, b, m, _, _, h1, h2, h3⟩ := h
    have := gE_le h1
    have := gD_le h2
    have := ST_le h3
    omega
  · obtain ⟨_, a, b, m, _, _, h1, h2, h3⟩ := h
    have := gD_le h1
    have := gD_le h2
    have := ST_le h3
    omega
  · exact gCl_le h.2
  · exact gQ_le (hR F S nw) h.2
  · exact gFo_le (hR F S nw) h.2
  · exact gPa_le hR h.2
  · exact gIf_le (hR F S nw) h.2
  · exact gWh_le (hR F S nw) h.2
  · exact gAl_le (hR F S nw) h.2
theorem gS_mv {T C C_q : Nat → Nat → Int} {Q : Int → Int} {R R_q : (Int → Int) → (Int → Int) → Int → Int → Int → Int → Int → Int → Prop} {F S : Int → Int} {K nw p k k_q l0 l1 : Int} (hl : ∀ F S nw c a b u v, R F S nw c a b u v → a ≤ b) (hR : ∀ F S nw c a b u v, l0 ≤ u → v ≤ l1 → b ≤ K → R F S nw c a b u v → R_q F S nw c a b u v) (h0 : 0 ≤ l0) (g : Cg K l0 l1 C C_q) (hk : k_q ≤ K) (h : gS T C Q R F S nw p k k_q l0 l1) : gS T C_q Q R_q F S nw p k k_q l0 l1 := by
  rcases h with h | h | h | h | h | h | h | h | h | h | h | h
  · exact .inl h
  · exact .inr (.inl ⟨h.1, ST_mv g hk h.2⟩)
  · obtain ⟨e, a, m, i1, i2, h1, h2⟩ := h
    have := gT_le h2
    exact .inr (.inr (.inl ⟨e, a, m, i1, i2, gE_mv (Cg_su g (Int.le_refl _) (Int.le_refl _) i2) (by omega) h1, gT_mv (Cg_su g (Int.le_refl _) i1 (Int.le_refl _)) hk h2⟩))
  · obtain ⟨e, a, b, m, i1, i2, h1, h2, h3⟩ := h
    have := gD_le h2
    have := ST_le h3
    exact .inr (.inr (.inr (.inl ⟨e, a, b, m, i1, i2, gE_mv (Cg_su g (Int.le_refl _) (Int.le_refl _) i2) (by omega) h1, gD_mv (Cg_su g (Int.le_refl _) i1 (Int.le_refl _)) (by omega) h2, ST_mv g hk h3⟩)))
  · obtain ⟨e, a, b, m, i1, i2, h1, h2, h3⟩ := h
    have := gD_le h2
    have := ST_le h3
    exact .inr (.inr (.inr (.inr (.inl ⟨e, a, b, m, i1, i2, gD_mv (Cg_su g (Int.le_refl _) (Int.le_refl _) i2) (by omega) h1, gD_mv (Cg_su g (Int.le_refl _) i1 (Int.le_refl _)) (by omega) h2, ST_mv g hk h3⟩))))
  · exact .inr (.inr (.inr (.inr (.inr (.inl ⟨h.1, gCl_mv g hk h.2⟩)))))
  · exact .inr (.inr (.inr (.inr (.inr (.inr (.inl ⟨h.1, gQ_mv (hl F S nw) (hR F S nw) hk h.2⟩))))))
  · exact .inr (.inr (.inr (.inr (.inr (.inr (.inr (.inl ⟨h.1, gFo_mv (hl F S nw) (hR F S nw) g hk h.2⟩)))))))
  · exact .inr (.inr (.inr (.inr (.inr (.inr (.inr (.inr (.inl ⟨h.1, gPa_mv hl hR h0 g hk h.2⟩))))))))
  · exact .inr (.inr (.inr (.inr (.inr (.inr (.inr (.inr (.inr (.inl ⟨h.1, gIf_mv (hl F S nw) (hR F S nw) g hk h.2⟩)))))))))
  · exact .inr (.inr (.inr (.inr (.inr (.inr (.inr (.inr (.inr (.inr (.inl ⟨h.1, gWh_mv (hl F S nw) (hR F S nw) g hk h.2⟩))))))))))
  · exact .inr (.inr (.inr (.inr (.inr (.inr (.inr (.inr (.inr (.inr (.inr ⟨h.1, gAl_mv (hl F S nw) (hR F S nw) h0 g hk h.2⟩))))))))))
/-- a process -/
def gP (T C : Nat → Nat → Int) (Q : Int → Int) : Nat → (Int → Int) → (Int → Int) → Int → Int → Int → Int → Int → Int → Prop
  | 0, _, _, _, _, _, _, _, _ => False
  | n + 1, F, S, nw, p, k, k_q, l0, l1 => 0 ≤ l0 ∧ ∃ a, gN T C F nw (T 23 p.toNat) (T 24 p.toNat).toNat k a ∧ gS T C Q (gP T C Q n) F S nw p a k_q l0 l1
theorem gP_le {T C : Nat → Nat → Int} {Q : Int → Int} : ∀ {n : Nat} {F S : Int → Int} {nw p k k_q l0 l1 : Int}, gP T C Q n F S nw p k k_q l0 l1 → k ≤ k_q
  | 0, _, _, _, _, _, _, _, _, h => h.elim
  | n + 1, F, S, nw, p, k, k_q, l0, l1, h => by
    obtain ⟨_, a, h1, h2⟩ := h
    have := gN_le h1
    have := gS_le (fun _ _ _ _ _ _ _ _ w => gP_le w) h2
    omega
theorem gP_mv {T C C_q : Nat → Nat → Int} {Q : Int → Int} {K : Int} : ∀ {n : Nat} {F S : Int → Int} {nw p k k_q l0 l1 : Int}, Cg K l0 l1 C C_q → k_q ≤ K → gP T C Q n F S nw p k k_q l0 l1 → gP T C_q Q n F S nw p k k_q l0 l1
  | 0, _, _, _, _, _, _, _, _, _, _, h => h.elim
  | n + 1, F, S, nw, p, k, k_q, l0, l1, g, hk, h => by
    obtain ⟨h0, a, h1, h2⟩ := h
    have := gS_le (fun _ _ _ _ _ _ _ _ w => gP_le w) h2
    exact ⟨h0, a, gN_mv g (by omega) h1, gS_mv (fun _ _ _ _ _ _ _ _ w => gP_le w) (fun _ _ _ _ _ _ _ _ g1 g2 g3 w => gP_mv (Cg_su g (Int.le_refl _) g1 g2) g3 w) h0 g hk h2⟩
