/-! code: the steps that are made for a tree (T: the tree and its words; C: the steps) -/
/-- under a condition (so that it is no disjunction for the arithmetic) -/
def Cd (P Q : Prop) : Prop := P → Q
theorem Cd_mk {P Q : Prop} (h : P → Q) : Cd P Q := h
theorem Cd_ap {P Q : Prop} (h : Cd P Q) (p : P) : Q := h p
def ts : List Nat := [7, 8, 9, 10, 12, 15, 17, 18, 19, 20, 21, 22, 23, 24, 25, 26, 27, 29, 30, 31, 32, 33, 34, 35, 36, 37, 38]
def TA (T A : Nat → Nat → Int) : Prop := ∀ k : Nat, ts.elem k = true → A k = T k
theorem TA_fr {T A A_q : Nat → Nat → Int} {G G_q : Nat → Int} {gs as : List Nat} (hF : Fr gs as G A G_q A_q) (hd : ts.all (fun k => !as.elem k) = true) (h : TA T A) : TA T A_q := fun k hk => by
  have e : as.elem k = false := by
    have := List.all_eq_true.mp hd k (List.elem_iff.mp hk)
    simpa using this
  rw [hF.2 k e]
  exact h k hk
/-- frames by level, values of indices -/
def FA (F : Int → Int) (nw : Int) (A : Nat → Nat → Int) : Prop := ∀ l : Int, 0 ≤ l → l ≤ nw → A 51 l.toNat = F l ∧ -1000000 ≤ F l ∧ F l ≤ 1000000
def SA (T : Nat → Nat → Int) (V : Nat → Prop) (S : Int → Int) (A : Nat → Nat → Int) : Prop := ∀ s : Int, 0 ≤ s → V s.toNat → T 7 s.toNat = 10 → A 13 s.toNat = S s
theorem FA_fr {F : Int → Int} {nw : Int} {A A_q : Nat → Nat → Int} (e : A_q 51 = A 51) (h : FA F nw A) : FA F nw A_q := fun l h1 h2 => by
  rw [e]
  exact h l h1 h2
theorem SA_fr {T : Nat → Nat → Int} {V : Nat → Prop} {S : Int → Int} {A A_q : Nat → Nat → Int} (e : A_q 13 = A 13) (h : SA T V S A) : SA T V S A_q := fun s h1 h2 h3 => by
  rw [e]
  exact h s h1 h2 h3
/-- names that are seen and have words have them at this level or above it -/
def VW (T : Nat → Nat → Int) (V : Nat → Prop) (nw : Int) : Prop := ∀ s : Nat, V s → T 7 s ≤ 9 → 0 ≤ T 10 s ∧ T 10 s ≤ nw ∧ 0 ≤ T 9 s ∧ T 9 s ≤ 1000000
/-- the word of a name, from the frame that is now -/
def wd (T : Nat → Nat → Int) (F : Int → Int) (nw s : Int) : Int := T 9 s.toNat + F (T 10 s.toNat) - F nw
def ST (C : Nat → Nat → Int) (k k_q fn v : Int) : Prop := k_q = k + 1 ∧ 0 ≤ k ∧ C 44 k.toNat = fn ∧ C 45 k.toNat = v ∧ C 46 k.toNat = 0
def WY (C : Nat → Nat → Int) (k k_q fn l fr : Int) : Prop := k_q = k + 1 ∧ 0 ≤ k ∧ C 44 k.toNat = fn ∧ C 46 k.toNat = l ∧ C 47 k.toNat = fr
/-- a way to the step t, by a label from l0 + 1 on up to l1 -/
def JP (C : Nat → Nat → Int) (k k_q fn t l0 l1 : Int) : Prop := ∃ l : Int, WY C k k_q fn l 0 ∧ 0 < l ∧ l0 < l ∧ l ≤ l1 ∧ C 50 l.toNat = t
/-- the steps before K, and the labels from l0 + 1 on up to l1, are as they were -/
def Cg (K l0 l1 : Int) (C C_q : Nat → Nat → Int) : Prop := (∀ r j : Nat, [44, 45, 46, 47].elem r = true → (j : Int) < K → C_q r j = C r j) ∧ ∀ j : Nat, l0 < (j : Int) → (j : Int) ≤ l1 → C_q 50 j = C 50 j
theorem Cg_su {K K' l0 l1 a b : Int} {C C_q : Nat → Nat → Int} (h : Cg K l0 l1 C C_q) (hk : K' ≤ K) (ha : l0 ≤ a) (hb : b ≤ l1) : Cg K' a b C C_q := ⟨fun r j hr hj => h.1 r j hr (by omega), fun j h1 h2 => h.2 j (by omega) (by omega)⟩
theorem Cg_fx {K z l0 l1 : Int} {C C_q : Nat → Nat → Int} (f : Fx [44, 45, 46, 47] K C C_q) (g : Fx [50] z C C_q) (hz : l1 < z) : Cg K l0 l1 C C_q := ⟨f, fun j _ h2 => g 50 j rfl (by omega)⟩
theorem Cg_set {K l0 l1 l v : Int} {C C_q : Nat → Nat → Int} (e : C_q = uA C 50 l.toNat v) (h0 : 0 ≤ l) (hl : l ≤ l0 ∨ l1 < l) : Cg K l0 l1 C C_q := by
  subst e
  refine ⟨fun r j hr hj => if_neg (fun q => ?_), fun j h1 h2 => if_neg (fun q => by omega)⟩
  rw [q.1] at hr
  cases hr
theorem ST_mv {K l0 l1 k k_q fn v : Int} {C C_q : Nat → Nat → Int} (g : Cg K l0 l1 C C_q) (hk : k_q ≤ K) (h : ST C k k_q fn v) : ST C_q k k_q fn v := by
  obtain ⟨h1, h2, h3, h4, h5⟩ := h
  refine ⟨h1, h2, ?_⟩
  rw [g.1 44 k.toNat rfl (by omega), g.1 45 k.toNat rfl (by omega), g.1 46 k.toNat rfl (by omega)]
  exact ⟨h3, h4, h5⟩
theorem WY_mv {K l0 l1 k k_q fn l fr : Int} {C C_q : Nat → Nat → Int} (g : Cg K l0 l1 C C_q) (hk : k_q ≤ K) (h : WY C k k_q fn l fr) : WY C_q k k_q fn l fr := by
  obtain ⟨h1, h2, h3, h4, h5⟩ := h
  refine ⟨h1, h2, ?_⟩
  rw [g.1 44 k.toNat rfl (by omega), g.1 46 k.toNat rfl (by omega), g.1 47 k.toNat rfl (by omega)]
  exact ⟨h3, h4, h5⟩
theorem JP_mv {K l0 l1 k k_q fn t : Int} {C C_q : Nat → Nat → Int} (g : Cg K l0 l1 C C_q) (hk : k_q ≤ K) (h : JP C k k_q fn t l0 l1) : JP C_q k k_q fn t l0 l1 := by
  obtain ⟨l, h1, h2, h3, h4, h5⟩ := h
  exact ⟨l, WY_mv g hk h1, h2, h3, h4, by rw [g.2 l.toNat (by omega) (by omega)]; exact h5⟩
theorem JP_su {C : Nat → Nat → Int} {k k_q fn t l0 l1 a b : Int} (h : JP C k k_q fn t l0 l1) (ha : a ≤ l0) (hb : l1 ≤ b) : JP C k k_q fn t a b := by
  obtain ⟨l, h1, h2, h3, h4, h5⟩ := h
  exact ⟨l, h1, h2, by omega, by omega, h5⟩
/-- steps one behind the other -/
def SQ (C : Nat → Nat → Int) : List (Int × Int) → Int → Int → Prop
  | [], k, k_q => k_q = k
  | (fn, v) :: l, k, k_q => ∃ a, ST C k a fn v ∧ SQ C l a k_q
theorem SQ_le {C : Nat → Nat → Int} : ∀ {l : List (Int × Int)} {k k_q : Int}, SQ C l k k_q → k ≤ k_q
  | [], _, _, h => Int.le_of_eq (show _ = _ from h).symm
  | (fn, v) :: l, k, k_q, h => by
    obtain ⟨a, h1, h2⟩ := h
    have := h1.1
    have := SQ_le h2
    omega
theorem SQ_mv {K l0 l1 : Int} {C C_q : Nat → Nat → Int} (g : Cg K l0 l1 C C_q) : ∀ {l : List (Int × Int)} {k k_q : Int}, k_q ≤ K → SQ C l k k_q → SQ C_q l k k_q
  | [], _, _, _, h => h
  | (fn, v) :: l, k, k_q, hk, h => by
    obtain ⟨a, h1, h2⟩ := h
    have := SQ_le h2
    exact ⟨a, ST_mv g (by omega) h1, SQ_mv g hk h2⟩
/-- an operation's steps -/
def sgn (o : Int) : List (Int × Int) :=
  if o = 43 then [(15, 1)] else if o = 45 then [(15, 2)] else if o = 42 then [(15, 3)] else if o = 47 then [(15, 4)] else if o = 92 then [(15, 5)] else if o = 304 then [(15, 9)] else if o = 305 then [(15, 10)] else if o = 306 then [(15, 7)] else if o = 307 then [(15, 8)] else if o = 62 then [(15, 6)] else if o = 60 then [(15, 0), (15, 6)] else if o = 302 then [(15, 6), (12, 0)] else if o = 303 then [(15, 0), (15, 6), (12, 0)] else if o = 61 then [(15, 2), (12, 0)] else [(15, 2), (12, 0), (12, 0)]
/-- the address of a name: the step's function and operand -/
def adf (T : Nat → Nat → Int) (s : Int) : Int := if T 7 s.toNat = 11 ∨ T 7 s.toNat = 12 ∨ T 7 s.toNat = 13 then 4 else if T 7 s.toNat = 6 ∨ T 7 s.toNat = 7 ∨ T 7 s.toNat = 8 then 7 else 1
def adv (T : Nat → Nat → Int) (F : Int → Int) (nw s : Int) : Int := if T 7 s.toNat = 11 then T 12 s.toNat else if T 7 s.toNat = 12 then 12 else if T 7 s.toNat = 13 then 13 else wd T F nw s
/-- the steps of an address (R: those of an expression) -/
def gAd (T C : Nat → Nat → Int) (F : Int → Int) (nw : Int) (R : Int → Int → Int → Int → Int → Prop) (x k k_q l0 l1 : Int) : Prop :=
  (T 15 x.toNat = 3 → ∃ a, R (T 18 x.toNat) k a l0 l1 ∧ SQ C [(4, T 8 (T 17 x.toNat).toNat), (15, 12), (if T 7 (T 17 x.toNat).toNat = 7 then 7 else 1, wd T F nw (T 17 x.toNat)), (15, 11)] a k_q) ∧
  (T 15 x.toNat ≠ 3 → ST C k k_q (adf T (T 17 x.toNat)) (adv T F nw (T 17 x.toNat)))
/-- the steps of an expression -/
def gE (T C : Nat → Nat → Int) (F S : Int → Int) (nw : Int) : Nat → Int → Int → Int → Int → Int → Prop
  | 0, _, _, _, _, _ => False
  | n + 1, e, k, k_q, l0, l1 =>
    (T 15 e.toNat = 1 ∧ ST C k k_q 4 (T 17 e.toNat)) ∨
    (T 15 e.toNat = 2 ∧ ((T 7 (T 17 e.toNat).toNat = 10 ∧ ST C k k_q 4 (S (T 17 e.toNat))) ∨ (T 7 (T 17 e.toNat).toNat = 6 ∧ SQ C [(7, wd T F nw (T 17 e.toNat)), (3, 0)] k k_q) ∨ (T 7 (T 17 e.toNat).toNat ≠ 10 ∧ T 7 (T 17 e.toNat).toNat ≠ 6 ∧ ST C k k_q 7 (wd T F nw (T 17 e.toNat))))) ∨
    (T 15 e.toNat = 3 ∧ ∃ a, gAd T C F nw (gE T C F S nw n) e k a l0 l1 ∧ ST C a k_q 3 0) ∨
    (T 15 e.toNat = 5 ∧ ∃ a, gE T C F S nw n (T 17 e.toNat) k a l0 l1 ∧ SQ C [(4, 0), (15, 0), (15, 2)] a k_q) ∨
    (T 15 e.toNat = 6 ∧ ∃ a, gE T C F S nw n (T 17 e.toNat) k a l0 l1 ∧ ST C a k_q 12 0) ∨
    (T 15 e.toNat = 7 ∧ gE T C F S nw n (T 17 e.toNat) k k_q l0 l1) ∨
    (T 15 e.toNat = 4 ∧ T 17 e.toNat = 17 ∧ ∃ a b c m1 m2, l0 ≤ m1 ∧ m1 ≤ m2 ∧ m2 ≤ l1 ∧ gE T C F S nw n (T 18 e.toNat) k a m1 m2 ∧ JP C a b 10 k_q l0 m1 ∧ gE T C F S nw n (T 19 e.toNat) b c m2 l1 ∧ SQ C [(12, 0), (12, 0)] c k_q) ∨
    (T 15 e.toNat = 4 ∧ T 17 e.toNat = 18 ∧ ∃ a a_q b c d m1 m2, l0 ≤ m1 ∧ m1 ≤ m2 ∧ m2 ≤ l1 ∧ gE T C F S nw n (T 18 e.toNat) k a m1 m2 ∧ ST C a a_q 12 0 ∧ JP C a_q b 10 d l0 m1 ∧ gE T C F S nw n (T 19 e.toNat) b c m2 l1 ∧ ST C c d 12 0 ∧ ST C d k_q 12 0) ∨
    (T 15 e.toNat = 4 ∧ sO T e ∧ T 17 e.toNat ≠ 17 ∧ T 17 e.toNat ≠ 18 ∧ ∃ a b m, l0 ≤ m ∧ m ≤ l1 ∧ gE T C F S nw n (T 18 e.toNat) k a l0 m ∧ gE T C F S nw n (T 19 e.toNat) a b m l1 ∧ SQ C (sgn (T 17 e.toNat)) b k_q) ∨
    (T 15 e.toNat = 4 ∧ ¬ sO T e ∧ ∃ a b c d m, l0 ≤ m ∧ m ≤ l1 ∧ gE T C F S nw n (T 19 e.toNat) k a l0 m ∧ ST C a b 13 (T 25 e.toNat) ∧ gE T C F S nw n (T 18 e.toNat) b c m l1 ∧ ST C c d 7 (T 25 e.toNat) ∧ SQ C (sgn (T 17 e.toNat)) d k_q)
theorem ST_le {C : Nat → Nat → Int} {k k_q fn v : Int} (h : ST C k k_q fn v) : k ≤ k_q := by
  have := h.1
  omega
theorem JP_le {C : Nat → Nat → Int} {k k_q fn t l0 l1 : Int} (h : JP C k k_q fn t l0 l1) : k ≤ k_q := by
  obtain ⟨l, h1, _⟩ := h
  have := h1.1
  omega
theorem gE_le {T C : Nat → Nat → Int} {F S : Int → Int} {nw : Int} : ∀ {n : Nat} {e k k_q l0 l1 : Int}, gE T C F S nw n e k k_q l0 l1 → k ≤ k_q
  | 0, _, _, _, _, _, h => h.elim
  | n + 1, e, k, k_q, l0, l1, h => by
    rcases h with h | h | h | h | h | h | h | h | h | h
    · exact ST_le h.2
    · rcases h.2 with g | g | g
      · exact ST_le g.2
      · exact SQ_le g.2
      · exact ST_le g.2.2
    · obtain ⟨h1, a, h2, h3⟩ := h
      obtain ⟨b, h4, h5⟩ := h2.1 h1
      have := gE_le h4
      have := SQ_le h5
      have := ST_le h3
      omega
    · obtain ⟨h1, a, h2, h3⟩ := h
      have := gE_le h2
      have := SQ_le h3
      omega
    · obtain ⟨h1, a, h2, h3⟩ := h
      have := gE_le h2
      have := ST_le h3
      omega
    · exact gE_le h.2
    · obtain ⟨h1, h2, a, b, c, m1, m2, g1, g2, g3, g4, g5, g6, g7⟩ := h
      have := gE_le g4
      have := JP_le g5
      have := gE_le g6
      have := SQ_le g7
      omega
    · obtain ⟨h1, h2, a, a_q, b, c, d, m1, m2, g1, g2, g3, g4, g5, g6, g7, g8, g9⟩ := h
      have := gE_le g4
      have := ST_le g5
      have := JP_le g6
      have := gE_le g7
      have := ST_le g8
      have := ST_le g9
      omega
    · obtain ⟨h1, h2, h3, h4, a, b, m, g1, g2, g3, g4, g5⟩ := h
      have := gE_le g3
      have := gE_le g4
      have := SQ_le g5
      omega
    · obtain ⟨h1, h2, a, b, c, d, m, g1, g2, g3, g4, g5, g6, g7⟩ := h
      have := gE_le g3
      have := ST_le g4
      have := gE_le g5
      have := ST_le g6
      have := SQ_le g7
      omega
theorem gAd_mv {T C C_q : Nat → Nat → Int} {F : Int → Int} {nw : Int} {R R_q : Int → Int → Int → Int → Int → Prop} {K x k k_q l0 l1 : Int} (g : Cg K l0 l1 C C_q) (hk : k_q ≤ K) (hR : ∀ e a, a ≤ K → R e k a l0 l1 → R_q e k a l0 l1) (h : gAd T C F nw R x k k_q l0 l1) : gAd T C_q F nw R_q x k k_q l0 l1 := by
  refine ⟨fun q => ?_, fun q => ST_mv g hk (h.2 q)⟩
  obtain ⟨a, h1, h2⟩ := h.1 q
  have := SQ_le h2
  exact ⟨a, hR _ _ (by omega) h1, SQ_mv g hk h2⟩
theorem gE_mv {T C C_q : Nat → Nat → Int} {F S : Int → Int} {nw K : Int} : ∀ {n : Nat} {e k k_q l0 l1 : Int}, Cg K l0 l1 C C_q → k_q ≤ K → gE T C F S nw n e k k_q l0 l1 → gE T C_q F S nw n e k k_q l0 l1
  | 0, _, _, _, _, _, _, _, h => h.elim
  | n + 1, e, k, k_q, l0, l1, g, hk, h => by
    rcases h with h | h | h | h | h | h | h | h | h | h
    · exact .inl ⟨h.1, ST_mv g hk h.2⟩
    · refine .inr (.inl ⟨h.1, ?_⟩)
      rcases h.2 with q | q | q
      · exact .inl ⟨q.1, ST_mv g hk q.2⟩
      · exact .inr (.inl ⟨q.1, SQ_mv g hk q.2⟩)
      · exact .inr (.inr ⟨q.1, q.2.1, ST_mv g hk q.2.2⟩)
    · obtain ⟨h1, a, h2, h3⟩ := h
      have := ST_le h3
      exact .inr (.inr (.inl ⟨h1, a, gAd_mv (Cg_su g (by omega) (Int.le_refl _) (Int.le_refl _)) (Int.le_refl _) (fun e b hb w => gE_mv (Cg_su g (by omega) (Int.le_refl _) (Int.le_refl _)) hb w) h2, ST_mv g hk h3⟩))
    · obtain ⟨h1, a, h2, h3⟩ := h
      have := SQ_le h3
      exact .inr (.inr (.inr (.inl ⟨h1, a, gE_mv g (by omega) h2, SQ_mv g hk h3⟩)))
    · obtain ⟨h1, a, h2, h3⟩ := h
      have := ST_le h3
      exact .inr (.inr (.inr (.inr (.inl ⟨h1, a, gE_mv g (by omega) h2, ST_mv g hk h3⟩))))
    · exact .inr (.inr (.inr (.inr (.inr (.inl ⟨h.1, gE_mv g hk h.2⟩)))))
    · obtain ⟨h1, h2, a, b, c, m1, m2, g1, g2, g3, g4, g5, g6, g7⟩ := h
      have e1 := JP_le g5
      have e2 := gE_le g6
      have e3 := SQ_le g7
      exact .inr (.inr (.inr (.inr (.inr (.inr (.inl ⟨h1, h2, a, b, c, m1, m2, g1, g2, g3, gE_mv (Cg_su g (Int.le_refl _) g1 g3) (by omega) g4, JP_mv (Cg_su g (Int.le_refl _) (Int.le_refl _) (by omega)) (by omega) g5, gE_mv (Cg_su g (Int.le_refl _) (by omega) (Int.le_refl _)) (by omega) g6, SQ_mv g hk g7⟩))))))
    · obtain ⟨h1, h2, a, a_q, b, c, d, m1, m2, g1, g2, g3, g4, g5, g6, g7, g8, g9⟩ := h
      have e0 := ST_le g5
      have e1 := JP_le g6
      have e2 := gE_le g7
      have e3 := ST_le g8
      have e4 := ST_le g9
      exact .inr (.inr (.inr (.inr (.inr (.inr (.inr (.inl ⟨h1, h2, a, a_q, b, c, d, m1, m2, g1, g2, g3, gE_mv (Cg_su g (Int.le_refl _) g1 g3) (by omega) g4, ST_mv g (by omega) g5, JP_mv (Cg_su g (Int.le_refl _) (Int.le_refl _) (by omega)) (by omega) g6, gE_mv (Cg_su g (Int.le_refl _) (by omega) (Int.le_refl _)) (by omega) g7, ST_mv g (by omega) g8, ST_mv g hk g9⟩)))))))
    · obtain ⟨h1, h2, h3, h4, a, b, m, g1, g2, g3, g4, g5⟩ := h
      have e1 := gE_le g4
      have e2 := SQ_le g5
      exact .inr (.inr (.inr (.inr (.inr (.inr (.inr (.inr (.inl ⟨h1, h2, h3, h4, a, b, m, g1, g2, gE_mv (Cg_su g (Int.le_refl _) (Int.le_refl _) g2) (by omega) g3, gE_mv (Cg_su g (Int.le_refl _) g1 (Int.le_refl _)) (by omega) g4, SQ_mv g hk g5⟩))))))))
    · obtain ⟨h1, h2, a, b, c, d, m, g1, g2, g3, g4, g5, g6, g7⟩ := h
      have e1 := ST_le g4
      have e2 := gE_le g5
      have e3 := ST_le g6
      have e4 := SQ_le g7
      exact .inr (.inr (.inr (.inr (.inr (.inr (.inr (.inr (.inr ⟨h1, h2, a, b, c, d, m, g1, g2, gE_mv (Cg_su g (Int.le_refl _) (Int.le_refl _) g2) (by omega) g3, ST_mv g (by omega) g4, gE_mv (Cg_su g (Int.le_refl _) g1 (Int.le_refl _)) (by omega) g5, ST_mv g (by omega) g6, SQ_mv g hk g7⟩))))))))
/-- the steps of an address, its index of height n -/
def gD (T C : Nat → Nat → Int) (F S : Int → Int) (nw : Int) (n : Nat) (x k k_q l0 l1 : Int) : Prop := gAd T C F nw (gE T C F S nw n) x k k_q l0 l1
theorem gD_mv {T C C_q : Nat → Nat → Int} {F S : Int → Int} {nw K : Int} {n : Nat} {x k k_q l0 l1 : Int} (g : Cg K l0 l1 C C_q) (hk : k_q ≤ K) (h : gD T C F S nw n x k k_q l0 l1) : gD T C_q F S nw n x k k_q l0 l1 := gAd_mv g hk (fun _ _ ha w => gE_mv g ha w) h
theorem gE_su {T C : Nat → Nat → Int} {F S : Int → Int} {nw : Int} : ∀ {n : Nat} {e k k_q l0 l1 a b : Int}, a ≤ l0 → l1 ≤ b → gE T C F S nw n e k k_q l0 l1 → gE T C F S nw n e k k_q a b
  | 0, _, _, _, _, _, _, _, _, _, h => h.elim
  | n + 1, e, k, k_q, l0, l1, a, b, ha, hb, h => by
    rcases h with h | h | h | h | h | h | h | h | h | h
    · exact .inl h
    · exact .inr (.inl h)
    · obtain ⟨h1, x, h2, h3⟩ := h
      refine .inr (.inr (.inl ⟨h1, x, ⟨fun q => ?_, h2.2⟩, h3⟩))
      obtain ⟨y, h4, h5⟩ := h2.1 q
      exact ⟨y, gE_su ha hb h4, h5⟩
    · obtain ⟨h1, x, h2, h3⟩ := h
      exact .inr (.inr (.inr (.inl ⟨h1, x, gE_su ha hb h2, h3⟩)))
    · obtain ⟨h1, x, h2, h3⟩ := h
      exact .inr (.inr (.inr (.inr (.inl ⟨h1, x, gE_su ha hb h2, h3⟩))))
    · exact .inr (.inr (.inr (.inr (.inr (.inl ⟨h.1, gE_su ha hb h.2⟩)))))
    · obtain ⟨h1, h2, x, y, c, m1, m2, g1, g2, g3, g4, g5, g6, g7⟩ := h
      exact .inr (.inr (.inr (.inr (.inr (.inr (.inl ⟨h1, h2, x, y, c, m1, m2, by omega, g2, by omega, g4, JP_su g5 ha (Int.le_refl _), gE_su (Int.le_refl _) hb g6, g7⟩))))))
    · obtain ⟨h1, h2, x, x', y, c, d, m1, m2, g1, g2, g3, g4, g5, g6, g7, g8, g9⟩ := h
      exact .inr (.inr (.inr (.inr (.inr (.inr (.inr (.inl ⟨h1, h2, x, x', y, c, d, m1, m2, by omega, g2, by omega, g4, g5, JP_su g6 ha (Int.le_refl _), gE_su (Int.le_refl _) hb g7, g8, g9⟩)))))))
    · obtain ⟨h1, h2, h3, h4, x, y, m, g1, g2, g3, g4, g5⟩ := h
      exact .inr (.inr (.inr (.inr (.inr (.inr (.inr (.inr (.inl ⟨h1, h2, h3, h4, x, y, m, by omega, by omega, gE_su ha (Int.le_refl _) g3, gE_su (Int.le_refl _) hb g4, g5⟩))))))))
    · obtain ⟨h1, h2, x, y, c, d, m, g1, g2, g3, g4, g5, g6, g7⟩ := h
      exact .inr (.inr (.inr (.inr (.inr (.inr (.inr (.inr (.inr ⟨h1, h2, x, y, c, d, m, by omega, by omega, gE_su ha (Int.le_refl _) g3, g4, gE_su (Int.le_refl _) hb g5, g6, g7⟩))))))))
theorem SQ_n {C : Nat → Nat → Int} {k : Int} : SQ C [] k k := rfl
theorem SQ_c {C : Nat → Nat → Int} {fn v k a k_q : Int} {l : List (Int × Int)} (h : ST C k a fn v) (h2 : SQ C l a k_q) : SQ C ((fn, v) :: l) k k_q := ⟨a, h, h2⟩
theorem ST_e {C : Nat → Nat → Int} {k k_q fn v fn' v' : Int} (h : ST C k k_q fn v) (e1 : fn = fn') (e2 : v = v') : ST C k k_q fn' v' := e1 ▸ e2 ▸ h
theorem WY_mk {C C1 C2 C3 : Nat → Nat → Int} {k k_q fn v l fr : Int} (h : ST C k k_q fn v) (e0 : C1 = C) (e1 : C2 = uA C1 46 k.toNat l) (e2 : C3 = uA C2 47 k.toNat fr) : WY C3 k k_q fn l fr := by
  obtain ⟨h1, h2, h3, h4, h5⟩ := h
  subst e0 e1 e2
  refine ⟨h1, h2, ?_, ?_, uA_eq⟩
  · rw [uA_ne (by decide), uA_ne (by decide)]
    exact h3
  · rw [uA_ne (by decide)]
    exact uA_eq
theorem TA_w {T A : Nat → Nat → Int} {G : Nat → Int} (hW : Wk G A) (hT : TA T A) : Wk G (fun k => if ts.elem k = true then T k else A k) := by
  have e : (fun k => if ts.elem k = true then T k else A k) = A := funext (fun k => by
    by_cases h : ts.elem k = true
    · rw [if_pos h]
      exact (hT k h).symm
    · rw [if_neg h])
  rw [e]
  exact hW
/-- a place: what its steps ask for -/
def pX (T : Nat → Nat → Int) (V : Nat → Prop) (sb : Int) (n : Nat) (x lo hi : Int) : Prop := lo ≤ x ∧ x < hi ∧ SY V sb (T 17 x.toNat) ∧ ((T 15 x.toNat = 3 ∧ T 7 (T 17 x.toNat).toNat ≤ 9 ∧ wE T V sb n (T 18 x.toNat) lo x) ∨ (T 15 x.toNat = 2 ∧ (T 7 (T 17 x.toNat).toNat ≤ 9 ∨ (11 ≤ T 7 (T 17 x.toNat).toNat ∧ T 7 (T 17 x.toNat).toNat ≤ 13))))
theorem kVal_b {k : Int} (h : kVal k) : 1 ≤ k ∧ k ≤ 10 := by
  unfold kVal at h
  omega
theorem kArr_b {k : Int} (h : kArr k) : 2 ≤ k ∧ k ≤ 7 := by
  unfold kArr at h
  omega
theorem pX_wE {T : Nat → Nat → Int} {V : Nat → Prop} {sb e lo hi : Int} {n : Nat} (h : wE T V sb (n + 1) e lo hi) (k : T 15 e.toNat = 3) : pX T V sb n e lo hi := by
  have g := wE_i3 h k
  have b := kArr_b g.2.1
  exact ⟨h.1, h.2.1, g.1, .inl ⟨k, by omega, g.2.2⟩⟩
theorem pX_wR {T : Nat → Nat → Int} {V : Nat → Prop} {sb ch e lo hi : Int} {n : Nat} (h : wR T V sb n ch e lo hi) : pX T V sb n e lo hi := by
  obtain ⟨h1, h2, h3⟩ := h
  rcases h3 with h3 | h3
  · refine ⟨h1, h2, h3.2.1, .inr ⟨h3.1, ?_⟩⟩
    have := h3.2.2
    unfold kRef kVar kCh at this
    omega
  · refine ⟨h1, h2, h3.2.1, .inl ⟨h3.1, ?_, h3.2.2.2⟩⟩
    have := h3.2.2.1
    unfold kRow kArr at this
    omega
theorem pX_wW {T : Nat → Nat → Int} {V : Nat → Prop} {sb z e lo hi : Int} {n : Nat} (h : wW T V sb z e lo hi) : pX T V sb n e lo hi := by
  obtain ⟨h1, h2, h3, h4, h5, h6⟩ := h
  have b := kArr_b h5
  exact ⟨h1, h2, h4, .inr ⟨h3, .inl (by omega)⟩⟩
theorem pX_i3 {T : Nat → Nat → Int} {V : Nat → Prop} {sb x lo hi : Int} {n : Nat} (h : pX T V sb n x lo hi) (k : T 15 x.toNat = 3) : T 7 (T 17 x.toNat).toNat ≤ 9 ∧ wE T V sb n (T 18 x.toNat) lo x := by
  obtain ⟨h1, h2, h3, h4⟩ := h
  rcases h4 with h4 | h4
  · exact h4.2
  · exact absurd h4.1 (by omega)
theorem pX_i2 {T : Nat → Nat → Int} {V : Nat → Prop} {sb x lo hi : Int} {n : Nat} (h : pX T V sb n x lo hi) (k : T 15 x.toNat ≠ 3) : T 7 (T 17 x.toNat).toNat ≤ 9 ∨ (11 ≤ T 7 (T 17 x.toNat).toNat ∧ T 7 (T 17 x.toNat).toNat ≤ 13) := by
  obtain ⟨h1, h2, h3, h4⟩ := h
  rcases h4 with h4 | h4
  · exact absurd h4.1 k
  · exact h4.2
theorem adf_4 {T : Nat → Nat → Int} {s : Int} (h : 11 ≤ T 7 s.toNat ∧ T 7 s.toNat ≤ 13) : adf T s = 4 := if_pos (by omega)
theorem adf_7 {T : Nat → Nat → Int} {s : Int} (h : 6 ≤ T 7 s.toNat ∧ T 7 s.toNat ≤ 8) : adf T s = 7 := by
  unfold adf
  rw [if_neg (by omega), if_pos (by omega)]
theorem adf_1 {T : Nat → Nat → Int} {s : Int} (h : T 7 s.toNat ≤ 10 ∧ ¬ (6 ≤ T 7 s.toNat ∧ T 7 s.toNat ≤ 8)) : adf T s = 1 := by
  unfold adf
  rw [if_neg (by omega), if_neg (by omega)]
theorem adv_11 {T : Nat → Nat → Int} {F : Int → Int} {nw s : Int} (h : T 7 s.toNat = 11) : adv T F nw s = T 12 s.toNat := if_pos h
theorem adv_12 {T : Nat → Nat → Int} {F : Int → Int} {nw s : Int} (h : T 7 s.toNat = 12) : adv T F nw s = 12 := by
  unfold adv
  rw [if_neg (by omega), if_pos h]
theorem adv_13 {T : Nat → Nat → Int} {F : Int → Int} {nw s : Int} (h : T 7 s.toNat = 13) : adv T F nw s = 13 := by
  unfold adv
  rw [if_neg (by omega), if_neg (by omega), if_pos h]
theorem adv_w {T : Nat → Nat → Int} {F : Int → Int} {nw s : Int} (h : T 7 s.toNat ≤ 10) : adv T F nw s = wd T F nw s := by
  unfold adv
  rw [if_neg (by omega), if_neg (by omega), if_neg (by omega)]
theorem gD_3 {T C : Nat → Nat → Int} {F S : Int → Int} {nw : Int} {n : Nat} {x k a b c d k_q l0 l1 f v w : Int} (hk : T 15 x.toNat = 3) (h : gE T C F S nw n (T 18 x.toNat) k a l0 l1) (s1 : ST C a b 4 v) (s2 : ST C b c 15 12) (s3 : ST C c d f w) (s4 : ST C d k_q 15 11) (hv : v = T 8 (T 17 x.toNat).toNat) (hf : f = if T 7 (T 17 x.toNat).toNat = 7 then 7 else 1) (hw : w = wd T F nw (T 17 x.toNat)) : gD T C F S nw n x k k_q l0 l1 := by
  subst hv hf hw
  exact ⟨fun _ => ⟨a, h, SQ_c s1 (SQ_c s2 (SQ_c s3 (SQ_c s4 SQ_n)))⟩, fun q => absurd hk q⟩
theorem gD_2 {T C : Nat → Nat → Int} {F S : Int → Int} {nw : Int} {n : Nat} {x k k_q l0 l1 f v : Int} (hk : T 15 x.toNat ≠ 3) (s1 : ST C k k_q f v) (hf : adf T (T 17 x.toNat) = f) (hv : adv T F nw (T 17 x.toNat) = v) : gD T C F S nw n x k k_q l0 l1 := by
  subst hf hv
  exact ⟨fun q => absurd q hk, fun _ => s1⟩
theorem JP_mk {C : Nat → Nat → Int} {k k_q fn t l l0 l1 : Int} (h : WY C k k_q fn l 0) (h0 : 0 < l) (h1 : l0 < l) (h2 : l ≤ l1) (h3 : C 50 l.toNat = t) : JP C k k_q fn t l0 l1 := ⟨l, h, h0, h1, h2, h3⟩
theorem wd_b {T A : Nat → Nat → Int} {V : Nat → Prop} {F : Int → Int} {nw : Int} {s : Int} (hV : VW T V nw) (hF : FA F nw A) (h0 : 0 ≤ nw) (hs : V s.toNat) (hk : T 7 s.toNat ≤ 9) : 0 ≤ T 10 s.toNat ∧ T 10 s.toNat ≤ nw ∧ A 51 (T 10 s.toNat).toNat = F (T 10 s.toNat) ∧ A 51 nw.toNat = F nw ∧ 0 ≤ T 9 s.toNat ∧ T 9 s.toNat ≤ 1000000 ∧ -1000000 ≤ F (T 10 s.toNat) ∧ F (T 10 s.toNat) ≤ 1000000 ∧ -1000000 ≤ F nw ∧ F nw ≤ 1000000 := by
  have a := hV s.toNat hs hk
  have b := hF (T 10 s.toNat) a.1 a.2.1
  have c := hF nw h0 (Int.le_refl _)
  exact ⟨a.1, a.2.1, b.1, c.1, a.2.2.1, a.2.2.2, b.2.1, b.2.2, c.2.1, c.2.2⟩
