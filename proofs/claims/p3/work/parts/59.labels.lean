/-! the labels of code lead to steps -/
def LJ (C : Nat → Nat → Int) (N : Int) (j : Nat) : Prop := (0 ≤ C 44 j ∧ C 44 j ≤ 15) ∧ (0 < C 46 j → C 46 j ≤ 19999 ∧ 0 ≤ C 50 (C 46 j).toNat ∧ C 50 (C 46 j).toNat ≤ N ∧ (C 47 j ≠ 0 → 0 < C 47 j ∧ C 47 j ≤ 19999 ∧ 0 ≤ C 50 (C 47 j).toNat ∧ C 50 (C 47 j).toNat ≤ N))
/-- the steps from k on, before k_q -/
def LR (C : Nat → Nat → Int) (N k k_q : Int) : Prop := ∀ j : Nat, k ≤ (j : Int) → (j : Int) < k_q → LJ C N j
/-- a label, where it stands -/
def Lb (C : Nat → Nat → Int) (N l : Int) : Prop := l ≤ 19999 ∧ 0 ≤ C 50 l.toNat ∧ C 50 l.toNat ≤ N
theorem LR_tr {C : Nat → Nat → Int} {N k a k_q : Int} (h : LR C N k a) (g : LR C N a k_q) : LR C N k k_q := fun j h1 h2 => by
  by_cases q : (j : Int) < a
  · exact h j h1 q
  · exact g j (by omega) h2
theorem LR_nil {C : Nat → Nat → Int} {N k k_q : Int} (h : k_q = k) : LR C N k k_q := fun j h1 h2 => by omega
theorem ST_lb {C : Nat → Nat → Int} {N k k_q fn v : Int} (h : ST C k k_q fn v) (hf : 0 ≤ fn ∧ fn ≤ 15 := by decide) : LR C N k k_q := fun j h1 h2 => by
  obtain ⟨g1, g2, g3, g4, g5⟩ := h
  have : j = k.toNat := by omega
  subst this
  refine ⟨by rw [g3]; exact hf, fun q => ?_⟩
  rw [g5] at q
  omega
theorem WY_lb {C : Nat → Nat → Int} {N k k_q fn l fr : Int} (h : WY C k k_q fn l fr) (hl : Lb C N l) (hf : fr ≠ 0 → 0 < fr ∧ Lb C N fr) (hfn : 0 ≤ fn ∧ fn ≤ 15 := by decide) : LR C N k k_q := fun j h1 h2 => by
  obtain ⟨g1, g2, g3, g4, g5⟩ := h
  have : j = k.toNat := by omega
  subst this
  refine ⟨by rw [g3]; exact hfn, fun q => ?_⟩
  rw [g4, g5]
  exact ⟨hl.1, hl.2.1, hl.2.2, fun w => ⟨(hf w).1, (hf w).2.1, (hf w).2.2.1, (hf w).2.2.2⟩⟩
theorem WY_lb0 {C : Nat → Nat → Int} {N k k_q fn l : Int} (h : WY C k k_q fn l 0) (hl : Lb C N l) (hfn : 0 ≤ fn ∧ fn ≤ 15 := by decide) : LR C N k k_q := WY_lb h hl (fun w => absurd rfl w) hfn
/-- a call's label is 0 or leads somewhere -/
theorem WY_lbq {C : Nat → Nat → Int} {N k k_q fn l : Int} (h : WY C k k_q fn l 0) (hl : 0 < l → Lb C N l) (hfn : 0 ≤ fn ∧ fn ≤ 15 := by decide) : LR C N k k_q := fun j h1 h2 => by
  obtain ⟨g1, g2, g3, g4, g5⟩ := h
  have : j = k.toNat := by omega
  subst this
  refine ⟨by rw [g3]; exact hfn, fun q => ?_⟩
  rw [g4] at q
  have hl := hl q
  rw [g4, g5]
  exact ⟨hl.1, hl.2.1, hl.2.2, fun w => absurd rfl w⟩
theorem LZ_lb {C : Nat → Nat → Int} {N l d l0 l1 : Int} (h : LZ C l d l0 l1) (hl : l1 ≤ 19999) (h0 : 0 ≤ d) (hN : d ≤ N) : Lb C N l := by
  obtain ⟨h1, h2, h3, h4⟩ := h
  unfold Lb
  rw [h4]
  omega
theorem JP_lb {C : Nat → Nat → Int} {N k k_q fn t l0 l1 : Int} (h : JP C k k_q fn t l0 l1) (hl : l1 ≤ 19999) (h0 : 0 ≤ t) (hN : t ≤ N) (hfn : 0 ≤ fn ∧ fn ≤ 15 := by decide) : LR C N k k_q := by
  obtain ⟨l, h1, h2, h3, h4, h5⟩ := h
  exact WY_lb0 h1 ⟨by omega, by rw [h5]; exact h0, by rw [h5]; exact hN⟩ hfn
def fnOk (l : List (Int × Int)) : Bool := l.all (fun q => decide (0 ≤ q.1) && decide (q.1 ≤ 15))
theorem SQ_lb {C : Nat → Nat → Int} {N : Int} : ∀ {l : List (Int × Int)} {k k_q : Int}, SQ C l k k_q → (hf : fnOk l = true := by rfl) → LR C N k k_q
  | [], _, _, h, _ => LR_nil h
  | (fn, v) :: l, k, k_q, h, hf => by
    obtain ⟨a, h1, h2⟩ := h
    unfold fnOk at hf
    rw [List.all_cons, Bool.and_eq_true, Bool.and_eq_true] at hf
    exact LR_tr (ST_lb h1 ⟨of_decide_eq_true hf.1.1, of_decide_eq_true hf.1.2⟩) (SQ_lb h2 hf.2)
theorem fnOk_if {b : Prop} [Decidable b] {x y : List (Int × Int)} (hx : fnOk x = true) (hy : fnOk y = true) : fnOk (if b then x else y) = true := by
  split
  · exact hx
  · exact hy
theorem fnOk_sgn (o : Int) : fnOk (sgn o) = true := by
  unfold sgn
  refine fnOk_if rfl ?_
  refine fnOk_if rfl ?_
  refine fnOk_if rfl ?_
  refine fnOk_if rfl ?_
  refine fnOk_if rfl ?_
  refine fnOk_if rfl ?_
  refine fnOk_if rfl ?_
  refine fnOk_if rfl ?_
  refine fnOk_if rfl ?_
  refine fnOk_if rfl ?_
  refine fnOk_if rfl ?_
  refine fnOk_if rfl ?_
  refine fnOk_if rfl ?_
  refine fnOk_if rfl ?_
  rfl
theorem fnOk_ad {b : Prop} [Decidable b] {v w : Int} : fnOk [(4, v), (15, 12), (if b then 7 else 1, w), (15, 11)] = true := by
  split <;> rfl
theorem fnOk_gN {u v w : Int} : fnOk [(4, u), (4, v), (1, w), (15, 14)] = true := rfl
theorem adf_b {T : Nat → Nat → Int} {s : Int} : 0 ≤ adf T s ∧ adf T s ≤ 15 := by
  unfold adf
  repeat' split
  all_goals decide
theorem fnOk_al2 {T : Nat → Nat → Int} {n i g : Int} : fnOk (al2 T n i g) = true := by
  unfold al2
  split <;> rfl
theorem fnOk_al3 {T : Nat → Nat → Int} {n i g : Int} : fnOk (al3 T n i g) = true := by
  unfold al3
  split <;> rfl
theorem gE_lb {T C : Nat → Nat → Int} {F S : Int → Int} {nw N : Int} : ∀ {n : Nat} {e k k_q l0 l1 : Int}, l1 ≤ 19999 → 0 ≤ k → k_q ≤ N → gE T C F S nw n e k k_q l0 l1 → LR C N k k_q
  | 0, _, _, _, _, _, _, _, _, h => h.elim
  | n + 1, e, k, k_q, l0, l1, hl, h0, hN, h => by
    have hle := gE_le h
    rcases h with h | h | h | h | h | h | h | h | h | h
    · exact ST_lb h.2
    · rcases h.2 with g | g | g
      · exact ST_lb g.2
      · exact SQ_lb g.2
      · exact ST_lb g.2.2
    · obtain ⟨h1, a, h2, h3⟩ := h
      obtain ⟨b, h4, h5⟩ := h2.1 h1
      have := SQ_le h5
      have := ST_le h3
      exact LR_tr (LR_tr (gE_lb hl h0 (by omega) h4) (SQ_lb h5 fnOk_ad)) (ST_lb h3)
    · obtain ⟨h1, a, h2, h3⟩ := h
      have := SQ_le h3
      exact LR_tr (gE_lb hl h0 (by omega) h2) (SQ_lb h3)
    · obtain ⟨h1, a, h2, h3⟩ := h
      have := ST_le h3
      exact LR_tr (gE_lb hl h0 (by omega) h2) (ST_lb h3)
    · exact gE_lb hl h0 hN h.2
    · obtain ⟨h1, h2, a, b, c, m1, m2, g1, g2, g3, g4, g5, g6, g7⟩ := h
      have := gE_le g4
      have := JP_le g5
      have := gE_le g6
      have := SQ_le g7
      exact LR_tr (LR_tr (LR_tr (gE_lb (by omega) h0 (by omega) g4) (JP_lb g5 (by omega) (by omega) hN)) (gE_lb hl (by omega) (by omega) g6)) (SQ_lb g7)
    · obtain ⟨h1, h2, a, a_q, b, c, d, m1, m2, g1, g2, g3, g4, g5, g6, g7, g8, g9⟩ := h
      have := gE_le g4
      have := ST_le g5
      have := JP_le g6
      have := gE_le g7
      have := ST_le g8
      have := ST_le g9
      exact LR_tr (LR_tr (LR_tr (LR_tr (LR_tr (gE_lb (by omega) h0 (by omega) g4) (ST_lb g5)) (JP_lb g6 (by omega) (by omega) (by omega))) (gE_lb hl (by omega) (by omega) g7)) (ST_lb g8)) (ST_lb g9)
    · obtain ⟨h1, h2, h3, h4, a, b, m, g1, g2, g3, g4, g5⟩ := h
      have := gE_le g3
      have := gE_le g4
      have := SQ_le g5
      exact LR_tr (LR_tr (gE_lb (by omega) h0 (by omega) g3) (gE_lb hl (by omega) (by omega) g4)) (SQ_lb g5 (fnOk_sgn _))
    · obtain ⟨h1, h2, a, b, c, d, m, g1, g2, g3, g4, g5, g6, g7⟩ := h
      have := gE_le g3
      have := ST_le g4
      have := gE_le g5
      have := ST_le g6
      have := SQ_le g7
      exact LR_tr (LR_tr (LR_tr (LR_tr (gE_lb (by omega) h0 (by omega) g3) (ST_lb g4)) (gE_lb hl (by omega) (by omega) g5)) (ST_lb g6)) (SQ_lb g7 (fnOk_sgn _))
theorem gD_lb {T C : Nat → Nat → Int} {F S : Int → Int} {nw N : Int} {n : Nat} {x k k_q l0 l1 : Int} (hl : l1 ≤ 19999) (h0 : 0 ≤ k) (hN : k_q ≤ N) (h : gD T C F S nw n x k k_q l0 l1) : LR C N k k_q := by
  by_cases q : T 15 x.toNat = 3
  · obtain ⟨a, h1, h2⟩ := h.1 q
    have := SQ_le h2
    exact LR_tr (gE_lb hl h0 (by omega) h1) (SQ_lb h2 fnOk_ad)
  · exact ST_lb (h.2 q) adf_b
theorem gT_lb {T C : Nat → Nat → Int} {F S : Int → Int} {nw N x k k_q l0 l1 : Int} (hl : l1 ≤ 19999) (h0 : 0 ≤ k) (hN : k_q ≤ N) (h : gT T C F S nw x k k_q l0 l1) : LR C N k k_q := by
  rcases h with ⟨_, a, h1, h2⟩ | h | h
  · have := ST_le h2
    exact LR_tr (gD_lb hl h0 (by omega) h1) (ST_lb h2)
  · exact SQ_lb h.2.2
  · exact ST_lb h.2.2
theorem PL_lb {C : Nat → Nat → Int} {N k k_q l l0 l1 : Int} (hl : l1 ≤ 19999) (h0 : 0 ≤ k) (hN : k_q ≤ N) (hL : Lb C N l) (h : PL C k k_q l l0 l1) : LR C N k k_q := by
  obtain ⟨a, b, h1, h2, h3, h4, h5, h6⟩ := h
  have := WY_le h1
  have := ST_le h2
  exact LR_tr (WY_lb h1 hL (fun _ => ⟨h3, by omega, by rw [h6]; omega, by rw [h6]; exact hN⟩)) (ST_lb h2)
theorem gN_lb {T C : Nat → Nat → Int} {F : Int → Int} {nw s N : Int} : ∀ {m : Nat} {k k_q : Int}, gN T C F nw s m k k_q → LR C N k k_q
  | 0, _, _, h => LR_nil h
  | m + 1, k, k_q, h => by
    obtain ⟨a, h1, h2⟩ := h
    exact LR_tr (gN_lb h1) (SQ_lb h2 fnOk_gN)
theorem gLs_lr {C : Nat → Nat → Int} {N : Int} {R : Int → Int → Int → Int → Int → Prop} (hl : ∀ c a b u v, R c a b u v → a ≤ b) (hR : ∀ c a b u v, v ≤ 19999 → 0 ≤ a → b ≤ N → R c a b u v → LR C N a b) : ∀ {l : List Int} {k k_q l0 l1 : Int}, l1 ≤ 19999 → 0 ≤ k → k_q ≤ N → gLs R l k k_q l0 l1 → LR C N k k_q
  | [], _, _, _, _, _, _, _, h => LR_nil h.1
  | c :: l, k, k_q, l0, l1, h1, h0, hN, h => by
    obtain ⟨a, m, g1, g2, g3, g4⟩ := h
    have := hl _ _ _ _ _ g3
    have := gLs_le hl g4
    exact LR_tr (hR _ _ _ _ _ (by omega) h0 (by omega) g3) (gLs_lr hl hR h1 (by omega) hN g4)
theorem gQ_lr {T C : Nat → Nat → Int} {N : Int} {R : Int → Int → Int → Int → Int → Prop} (hl : ∀ c a b u v, R c a b u v → a ≤ b) (hR : ∀ c a b u v, v ≤ 19999 → 0 ≤ a → b ≤ N → R c a b u v → LR C N a b) {n c k k_q l0 l1 : Int} (h1 : l1 ≤ 19999) (h0 : 0 ≤ k) (hN : k_q ≤ N) (h : gQ T R n c k k_q l0 l1) : LR C N k k_q := by
  obtain ⟨u, v, g1, g2, g3⟩ := h
  exact gLs_lr hl hR h1 h0 hN g3
theorem gAr_lb {T C : Nat → Nat → Int} {F S : Int → Int} {nw q a k k_q l0 l1 N : Int} (hl : l1 ≤ 19999) (h0 : 0 ≤ k) (hN : k_q ≤ N) (h : gAr T C F S nw q a k k_q l0 l1) : LR C N k k_q := by
  obtain ⟨b, h1, h2⟩ := h
  have := ST_le h2
  rcases h1 with h1 | h1
  · exact LR_tr (gE_lb hl h0 (by omega) h1.2) (ST_lb h2)
  · exact LR_tr (gD_lb hl h0 (by omega) h1.2) (ST_lb h2)
theorem gCl_lb {T C : Nat → Nat → Int} {Q F S : Int → Int} {nw p k k_q l0 l1 N : Int} (hQ : ∀ q, 0 < Q q → Lb C N (Q q)) (hl : l1 ≤ 19999) (h0 : 0 ≤ k) (hN : k_q ≤ N) (h : gCl T C Q F S nw p k k_q l0 l1) : LR C N k k_q := by
  obtain ⟨a, h1, h2⟩ := h
  have := WY_le h2
  exact LR_tr (gQ_lr (fun _ _ _ _ _ w => gAr_le w) (fun _ _ _ _ _ g1 g2 g3 w => gAr_lb g1 g2 g3 w) hl h0 (by omega) h1) (WY_lbq h2 (hQ _))
theorem gFo_lb {T C : Nat → Nat → Int} {F S : Int → Int} {nw N : Int} {R : Int → Int → Int → Int → Int → Prop} {p k k_q l0 l1 : Int} (hr : ∀ c a b u v, R c a b u v → a ≤ b) (hR : ∀ c a b u v, v ≤ 19999 → 0 ≤ a → b ≤ N → R c a b u v → LR C N a b) (hl : l1 ≤ 19999) (h0 : 0 ≤ k) (hN : k_q ≤ N) (h : gFo T C F S nw R p k k_q l0 l1) : LR C N k k_q := by
  obtain ⟨a, b, c, d, e, f, g, h, m2, m3, m4, i1, i2, i3, i4, h1, h2, h3, h4, h5, h6, h7, h8, h9⟩ := h
  have := gE_le h1
  have := ST_le h2
  have := gE_le h3
  have := ST_le h4
  have := SQ_le h5
  have := JP_le h6
  have := hr _ _ _ _ _ h7
  have := SQ_le h8
  have := JP_le h9
  exact LR_tr (LR_tr (LR_tr (LR_tr (LR_tr (LR_tr (LR_tr (LR_tr (gE_lb (by omega) h0 (by omega) h1) (ST_lb h2)) (gE_lb (by omega) (by omega) (by omega) h3)) (ST_lb h4)) (SQ_lb h5)) (JP_lb h6 (by omega) (by omega) hN)) (hR _ _ _ _ _ hl (by omega) (by omega) h7)) (SQ_lb h8)) (JP_lb h9 (by omega) (by omega) (by omega))
theorem gIc_lb {T C : Nat → Nat → Int} {F S : Int → Int} {nw N : Int} {R : Int → Int → Int → Int → Int → Prop} {le c k k_q l0 l1 : Int} (hr : ∀ c a b u v, R c a b u v → a ≤ b) (hR : ∀ c a b u v, v ≤ 19999 → 0 ≤ a → b ≤ N → R c a b u v → LR C N a b) (hle : Lb C N le) (hl : l1 ≤ 19999) (h0 : 0 ≤ k) (hN : k_q ≤ N) (h : gIc T C F S nw R le c k k_q l0 l1) : LR C N k k_q := by
  obtain ⟨a, b, d, m1, m2, i1, i2, i3, h1, h2, h3, h4⟩ := h
  have := gE_le h1
  have := JP_le h2
  have := hr _ _ _ _ _ h3
  have := WY_le h4
  exact LR_tr (LR_tr (LR_tr (gE_lb (by omega) h0 (by omega) h1) (JP_lb h2 (by omega) (by omega) hN)) (hR _ _ _ _ _ hl (by omega) (by omega) h3)) (WY_lb0 h4 hle)
theorem gIf_lb {T C : Nat → Nat → Int} {F S : Int → Int} {nw N : Int} {R : Int → Int → Int → Int → Int → Prop} {p k k_q l0 l1 : Int} (hr : ∀ c a b u v, R c a b u v → a ≤ b) (hR : ∀ c a b u v, v ≤ 19999 → 0 ≤ a → b ≤ N → R c a b u v → LR C N a b) (hl : l1 ≤ 19999) (h0 : 0 ≤ k) (hN : k_q ≤ N) (h : gIf T C F S nw R p k k_q l0 l1) : LR C N k k_q := by
  obtain ⟨le, a, m, i1, i2, h1, h2, h3⟩ := h
  have := gQ_le (fun _ _ _ _ _ w => gIc_le hr w) h2
  have := ST_le h3
  exact LR_tr (gQ_lr (fun _ _ _ _ _ w => gIc_le hr w) (fun _ _ _ _ _ g1 g2 g3 w => gIc_lb hr hR (LZ_lb h1 (by omega) (by omega) hN) g1 g2 g3 w) hl h0 (by omega) h2) (ST_lb h3)
theorem gWh_lb {T C : Nat → Nat → Int} {F S : Int → Int} {nw N : Int} {R : Int → Int → Int → Int → Int → Prop} {p k k_q l0 l1 : Int} (hr : ∀ c a b u v, R c a b u v → a ≤ b) (hR : ∀ c a b u v, v ≤ 19999 → 0 ≤ a → b ≤ N → R c a b u v → LR C N a b) (hl : l1 ≤ 19999) (h0 : 0 ≤ k) (hN : k_q ≤ N) (h : gWh T C F S nw R p k k_q l0 l1) : LR C N k k_q := by
  obtain ⟨a, b, c, m1, m2, i1, i2, i3, h1, h2, h3, h4⟩ := h
  have := gE_le h1
  have := JP_le h2
  have := hr _ _ _ _ _ h3
  have := JP_le h4
  exact LR_tr (LR_tr (LR_tr (gE_lb (by omega) h0 (by omega) h1) (JP_lb h2 (by omega) (by omega) hN)) (hR _ _ _ _ _ hl (by omega) (by omega) h3)) (JP_lb h4 (by omega) h0 (by omega))
theorem gB2_pos {T C : Nat → Nat → Int} {R : (Int → Int) → (Int → Int) → Int → Int → Int → Int → Int → Int → Prop} {La F S : Int → Int} {nw p : Int} (hr : ∀ F S nw c a b u v, R F S nw c a b u v → a ≤ b) : ∀ {i : Nat} {k k_q l0 l1 : Int}, gB2 T C R La F S nw p i k k_q l0 l1 → ∀ j : Nat, j < i → k ≤ C 50 (La (j : Int)).toNat ∧ C 50 (La (j : Int)).toNat ≤ k_q
  | 0, _, _, _, _, _, j, hj => absurd hj (by omega)
  | i + 1, k, k_q, l0, l1, h, j, hj => by
    obtain ⟨a, b, m, h1, h2, h3, h4, h5, h6⟩ := h
    have := (gB2_le hr h3).1
    have := hr _ _ _ _ _ _ _ _ h5
    have := SQ_le h6
    by_cases e : j = i
    · subst e
      omega
    · have := gB2_pos hr h3 j (by omega)
      omega
theorem gB2_lb {T C : Nat → Nat → Int} {R : (Int → Int) → (Int → Int) → Int → Int → Int → Int → Int → Int → Prop} {La F S : Int → Int} {nw p N : Int} (hr : ∀ F S nw c a b u v, R F S nw c a b u v → a ≤ b) (hR : ∀ F S nw c a b u v, v ≤ 19999 → 0 ≤ a → b ≤ N → R F S nw c a b u v → LR C N a b) : ∀ {i : Nat} {k k_q l0 l1 : Int}, l1 ≤ 19999 → 0 ≤ k → k_q ≤ N → gB2 T C R La F S nw p i k k_q l0 l1 → LR C N k k_q
  | 0, _, _, _, _, _, _, _, h => LR_nil h.1
  | i + 1, k, k_q, l0, l1, hl, h0, hN, h => by
    obtain ⟨a, b, m, h1, h2, h3, h4, h5, h6⟩ := h
    have := (gB2_le hr h3).1
    have := hr _ _ _ _ _ _ _ _ h5
    have := SQ_le h6
    exact LR_tr (LR_tr (gB2_lb hr hR (by omega) h0 (by omega) h3) (hR _ _ _ _ _ _ _ _ hl (by omega) (by omega) h5)) (SQ_lb h6)
theorem gB1_lb {T C : Nat → Nat → Int} {La : Int → Int} {p N : Int} : ∀ {i : Nat} {k k_q l0 l1 : Int}, (∀ j : Nat, j < i → Lb C N (La (j : Int))) → l1 ≤ 19999 → 0 ≤ k → k_q ≤ N → gB1 T C La p i k k_q l0 l1 → LR C N k k_q
  | 0, _, _, _, _, _, _, _, _, h => LR_nil h.1
  | i + 1, k, k_q, l0, l1, hL, hl, h0, hN, h => by
    obtain ⟨a, b, m, h1, h2, h3, h4, h5, h6⟩ := h
    have := (gB1_le h4).1
    have := PL_le h5
    have := SQ_le h6
    exact LR_tr (LR_tr (gB1_lb (fun j hj => hL j (by omega)) (by omega) h0 (by omega) h4) (PL_lb hl (by omega) (by omega) (hL i (by omega)) h5)) (SQ_lb h6 rfl)
theorem gPa_lb {T C : Nat → Nat → Int} {R : (Int → Int) → (Int → Int) → Int → Int → Int → Int → Int → Int → Prop} {F S : Int → Int} {nw p k k_q l0 l1 N : Int} (hr : ∀ F S nw c a b u v, R F S nw c a b u v → a ≤ b) (hR : ∀ F S nw c a b u v, v ≤ 19999 → 0 ≤ a → b ≤ N → R F S nw c a b u v → LR C N a b) (hl : l1 ≤ 19999) (h0 : 0 ≤ k) (hN : k_q ≤ N) (h : gPa T C R F S nw p k k_q l0 l1) : LR C N k k_q := by
  obtain ⟨La, le, a, b, m1, m2, i1, i2, i3, h1, h2, h3, h4⟩ := h
  have e2 := gP1_le h2
  have e3 := ST_le h3
  have e4 := (gB2_le hr h4).1
  have hL : ∀ j : Nat, j < (mny T p).toNat → Lb C N (La (j : Int)) := fun j hj => by
    have q := gP1_La h2 j hj
    have r := gB2_pos hr h4 j hj
    exact ⟨by omega, by omega, by omega⟩
  obtain ⟨x, y, m, g1, g2, g3, g4, g5⟩ := h2
  have := PL_le g3
  have := SQ_le g4
  have := (gB1_le g5).1
  exact LR_tr (LR_tr (LR_tr (LR_tr (PL_lb (by omega) h0 (by omega) (LZ_lb h1 (by omega) (by omega) hN) g3) (SQ_lb g4)) (gB1_lb hL (by omega) (by omega) (by omega) g5)) (ST_lb h3)) (gB2_lb hr hR hl (by omega) hN h4)
theorem gG1_lb {T C : Nat → Nat → Int} {F S : Int → Int} {nw n g i k k_q l0 l1 N : Int} (hl : l1 ≤ 19999) (h0 : 0 ≤ k) (hN : k_q ≤ N) (h : gG1 T C F S nw n g i k k_q l0 l1) : LR C N k k_q := by
  obtain ⟨a, b, m, h1, h2, h3, h4, h5⟩ := h
  have e4 := ST_le h4
  have e5 : b ≤ k_q ∧ (0 ≤ b → LR C N b k_q) := by
    rcases h5 with ⟨_, c, h5, h6⟩ | h5
    · have := gD_le h5
      have := ST_le h6
      exact ⟨by omega, fun q => LR_tr (gD_lb hl q (by omega) h5) (ST_lb h6)⟩
    · exact ⟨by omega, fun _ => LR_nil h5.2⟩
  have e3 : k ≤ a ∧ LR C N k a := by
    rcases h3 with h3 | h3
    · have := gE_le h3.2
      exact ⟨this, gE_lb (by omega) h0 (by omega) h3.2⟩
    · exact ⟨ST_le h3.2, ST_lb h3.2⟩
  exact LR_tr (LR_tr e3.2 (ST_lb h4)) (e5.2 (by omega))
theorem gA1_lb {T C : Nat → Nat → Int} {La F S : Int → Int} {nw n N : Int} : ∀ {i : Nat} {k k_q l0 l1 : Int}, l1 ≤ 19999 → 0 ≤ k → k_q ≤ N → gA1 T C La F S nw n i k k_q l0 l1 → LR C N k k_q
  | 0, _, _, _, _, _, _, _, h => LR_nil h.1
  | i + 1, k, k_q, l0, l1, hl, h0, hN, h => by
    obtain ⟨a, m, h1, h2, h3, h4, h5⟩ := h
    have := (gA1_le h4).1
    have := gG1_le h5
    exact LR_tr (gA1_lb (by omega) h0 (by omega) h4) (gG1_lb hl (by omega) hN h5)
theorem gA2_lb {T C : Nat → Nat → Int} {n N : Int} : ∀ {i : Nat} {k k_q : Int}, gA2 T C n i k k_q → LR C N k k_q
  | 0, _, _, h => LR_nil h
  | i + 1, k, k_q, h => by
    obtain ⟨a, h1, h2⟩ := h
    exact LR_tr (gA2_lb h1) (SQ_lb h2 fnOk_al2)
theorem gA3_lb {T C : Nat → Nat → Int} {La : Int → Int} {lf n N : Int} (hf : 0 < lf ∧ Lb C N lf) : ∀ {i : Nat} {k k_q : Int}, (∀ j : Nat, j < i → Lb C N (La (j : Int))) → gA3 T C La lf n i k k_q → LR C N k k_q
  | 0, _, _, _, h => LR_nil h
  | i + 1, k, k_q, hL, h => by
    obtain ⟨a, b, h1, h2, h3⟩ := h
    exact LR_tr (LR_tr (gA3_lb hf (fun j hj => hL j (by omega)) h1) (WY_lb h2 (hL i (by omega)) (fun _ => hf))) (SQ_lb h3 fnOk_al3)
theorem gG4_lb {T C : Nat → Nat → Int} {F S : Int → Int} {nw n N : Int} {R : Int → Int → Int → Int → Int → Prop} {le g i k k_q l0 l1 : Int} (hr : ∀ c a b u v, R c a b u v → a ≤ b) (hR : ∀ c a b u v, v ≤ 19999 → 0 ≤ a → b ≤ N → R c a b u v → LR C N a b) (hle : Lb C N le) (hl : l1 ≤ 19999) (h0 : 0 ≤ k) (hN : k_q ≤ N) (h : gG4 T C F S nw n R le g i k k_q l0 l1) : LR C N k k_q := by
  obtain ⟨b, c, m, h1, h2, h3, h4, h5⟩ := h
  have e4 := hr _ _ _ _ _ h4
  have e5 := WY_le h5
  have e3 : k ≤ b ∧ LR C N k b := by
    rcases h3 with ⟨_, d, h3, h6⟩ | h3
    · have := gD_le h3
      have := SQ_le h6
      exact ⟨by omega, LR_tr (gD_lb (by omega) h0 (by omega) h3) (SQ_lb h6)⟩
    · exact ⟨by omega, LR_nil h3.2⟩
  exact LR_tr (LR_tr e3.2 (hR _ _ _ _ _ hl (by omega) (by omega) h4)) (WY_lb0 h5 hle)
theorem gA4_pos {T C : Nat → Nat → Int} {La F S : Int → Int} {nw n : Int} {R : Int → Int → Int → Int → Int → Prop} {le : Int} (hr : ∀ c a b u v, R c a b u v → a ≤ b) : ∀ {i : Nat} {k k_q l0 l1 : Int}, gA4 T C La F S nw n R le i k k_q l0 l1 → ∀ j : Nat, j < i → k ≤ C 50 (La (j : Int)).toNat ∧ C 50 (La (j : Int)).toNat ≤ k_q
  | 0, _, _, _, _, _, j, hj => absurd hj (by omega)
  | i + 1, k, k_q, l0, l1, h, j, hj => by
    obtain ⟨a, m, h1, h2, h3, h4, h5⟩ := h
    have := (gA4_le hr h3).1
    have := gG4_le hr h5
    by_cases e : j = i
    · subst e
      omega
    · have := gA4_pos hr h3 j (by omega)
      omega
theorem gA4_lb {T C : Nat → Nat → Int} {La F S : Int → Int} {nw n N : Int} {R : Int → Int → Int → Int → Int → Prop} {le : Int} (hr : ∀ c a b u v, R c a b u v → a ≤ b) (hR : ∀ c a b u v, v ≤ 19999 → 0 ≤ a → b ≤ N → R c a b u v → LR C N a b) (hle : Lb C N le) : ∀ {i : Nat} {k k_q l0 l1 : Int}, l1 ≤ 19999 → 0 ≤ k → k_q ≤ N → gA4 T C La F S nw n R le i k k_q l0 l1 → LR C N k k_q
  | 0, _, _, _, _, _, _, _, h => LR_nil h.1
  | i + 1, k, k_q, l0, l1, hl, h0, hN, h => by
    obtain ⟨a, m, h1, h2, h3, h4, h5⟩ := h
    have := (gA4_le hr h3).1
    have := gG4_le hr h5
    exact LR_tr (gA4_lb hr hR hle (by omega) h0 (by omega) h3) (gG4_lb hr hR hle hl (by omega) hN h5)
theorem gAl_lb {T C : Nat → Nat → Int} {F S : Int → Int} {nw N : Int} {R : Int → Int → Int → Int → Int → Prop} {p k k_q l0 l1 : Int} (hr : ∀ c a b u v, R c a b u v → a ≤ b) (hR : ∀ c a b u v, v ≤ 19999 → 0 ≤ a → b ≤ N → R c a b u v → LR C N a b) (hl : l1 ≤ 19999) (h0 : 0 ≤ k) (hN : k_q ≤ N) (h : gAl T C F S nw R p k k_q l0 l1) : LR C N k k_q := by
  obtain ⟨La, le, lf, a, m1, m2, i1, i2, i3, h1, h2, h3, h4⟩ := h
  have e3 := gA0_le h3
  have e4 := (gA4_le hr h4).1
  have hL : ∀ j : Nat, j < (T 18 p.toNat).toNat → Lb C N (La (j : Int)) := fun j hj => by
    have q := gA0_La h3 j hj
    have r := gA4_pos hr h4 j hj
    exact ⟨by omega, by omega, by omega⟩
  have le' : Lb C N le := LZ_lb h1 (by omega) (by omega) hN
  have lf' : 0 < lf ∧ Lb C N lf := ⟨h2.1, LZ_lb h2 (by omega) (by omega) (by omega)⟩
  obtain ⟨x, b, c, d, e, g1, g2, g3, g4, g5, g6⟩ := h3
  have := (gA1_le g1).1
  have := ST_le g2
  have := gA2_le g3
  have := ST_le g4
  have := gA3_le g5
  have := ST_le g6
  exact LR_tr (LR_tr (LR_tr (LR_tr (LR_tr (LR_tr (gA1_lb (by omega) h0 (by omega) g1) (ST_lb g2)) (gA2_lb g3)) (ST_lb g4)) (gA3_lb lf' hL g5)) (ST_lb g6)) (gA4_lb hr hR le' hl (by omega) hN h4)
theorem gS_lb {T C : Nat → Nat → Int} {Q : Int → Int} {R : (Int → Int) → (Int → Int) → Int → Int → Int → Int → Int → Int → Prop} {F S : Int → Int} {nw p k k_q l0 l1 N : Int} (hQ : ∀ q, 0 < Q q → Lb C N (Q q)) (hr : ∀ F S nw c a b u v, R F S nw c a b u v → a ≤ b) (hR : ∀ F S nw c a b u v, v ≤ 19999 → 0 ≤ a → b ≤ N → R F S nw c a b u v → LR C N a b) (hl : l1 ≤ 19999) (h0 : 0 ≤ k) (hN : k_q ≤ N) (h : gS T C Q R F S nw p k k_q l0 l1) : LR C N k k_q := by
  rcases h with h | h | h | h | h | h | h | h | h | h | h | h
  · exact LR_nil h.2
  · exact ST_lb h.2
  · obtain ⟨_, a, m, i1, i2, h1, h2⟩ := h
    have := gE_le h1
    have := gT_le h2
    exact LR_tr (gE_lb (by omega) h0 (by omega) h1) (gT_lb hl (by omega) hN h2)
  · obtain ⟨_, a, b, m, i1, i2, h1, h2, h3⟩ := h
    have := gE_le h1
    have := gD_le h2
    have := ST_le h3
    exact LR_tr (LR_tr (gE_lb (by omega) h0 (by omega) h1) (gD_lb hl (by omega) (by omega) h2)) (ST_lb h3)
  · obtain ⟨_, a, b, m, i1, i2, h1, h2, h3⟩ := h
    have := gD_le h1
    have := gD_le h2
    have := ST_le h3
    exact LR_tr (LR_tr (gD_lb (by omega) h0 (by omega) h1) (gD_lb hl (by omega) (by omega) h2)) (ST_lb h3)
  · exact gCl_lb hQ hl h0 hN h.2
  · exact gQ_lr (hr F S nw) (fun c a b u v g1 g2 g3 w => hR F S nw c a b u v g1 g2 g3 w) hl h0 hN h.2
  · exact gFo_lb (hr F S nw) (hR F S nw) hl h0 hN h.2
  · exact gPa_lb hr hR hl h0 hN h.2
  · exact gIf_lb (hr F S nw) (hR F S nw) hl h0 hN h.2
  · exact gWh_lb (hr F S nw) (hR F S nw) hl h0 hN h.2
  · exact gAl_lb (hr F S nw) (hR F S nw) hl h0 hN h.2
theorem gP_lb {T C : Nat → Nat → Int} {Q : Int → Int} {N : Int} (hQ : ∀ q, 0 < Q q → Lb C N (Q q)) : ∀ {n : Nat} {F S : Int → Int} {nw p k k_q l0 l1 : Int}, l1 ≤ 19999 → 0 ≤ k → k_q ≤ N → gP T C Q n F S nw p k k_q l0 l1 → LR C N k k_q
  | 0, _, _, _, _, _, _, _, _, _, _, _, h => h.elim
  | n + 1, F, S, nw, p, k, k_q, l0, l1, hl, h0, hN, h => by
    obtain ⟨_, a, h1, h2⟩ := h
    have := gN_le h1
    have := gS_le (fun _ _ _ _ _ _ _ _ w => gP_le w) h2
    exact LR_tr (gN_lb h1) (gS_lb hQ (fun _ _ _ _ _ _ _ _ w => gP_le w) (fun _ _ _ _ _ _ _ _ g1 g2 g3 w => gP_lb hQ g1 g2 g3 w) hl (by omega) hN h2)
