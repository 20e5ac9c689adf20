/-! code of processes: what it is, and that it stays so while steps are added behind it -/
theorem Cg_ne {K l0 l1 v : Int} {C C_q : Nat → Nat → Int} {k n : Nat} (e : C_q = uA C k n v) (hk : [44, 45, 46, 47, 50].elem k = false) : Cg K l0 l1 C C_q := by
  subst e
  refine ⟨fun r j hr _ => if_neg (fun q => ?_), fun j _ _ => if_neg (fun q => ?_)⟩
  · rw [← q.1] at hk
    have := List.elem_iff.mp hr
    simp only [List.mem_cons, List.not_mem_nil, or_false] at this
    rcases this with rfl | rfl | rfl | rfl <;> cases hk
  · rw [← q.1] at hk
    cases hk
/-- the label l stands at the step d -/
def LZ (C : Nat → Nat → Int) (l d l0 l1 : Int) : Prop := 0 < l ∧ l0 < l ∧ l ≤ l1 ∧ C 50 l.toNat = d
theorem LZ_mk {C : Nat → Nat → Int} {l d l0 l1 : Int} (h0 : 0 < l) (h1 : l0 < l) (h2 : l ≤ l1) (h3 : C 50 l.toNat = d) : LZ C l d l0 l1 := ⟨h0, h1, h2, h3⟩
theorem LZ_mv {K l d l0 l1 : Int} {C C_q : Nat → Nat → Int} (g : Cg K l0 l1 C C_q) (_ : d ≤ K) (h : LZ C l d l0 l1) : LZ C_q l d l0 l1 := by
  obtain ⟨h1, h2, h3, h4⟩ := h
  exact ⟨h1, h2, h3, by rw [g.2 l.toNat (by omega) (by omega)]; exact h4⟩
theorem LZ_su {l d l0 l1 a b : Int} {C : Nat → Nat → Int} (h : LZ C l d l0 l1) (ha : a ≤ l0) (hb : l1 ≤ b) : LZ C l d a b := by
  obtain ⟨h1, h2, h3, h4⟩ := h
  exact ⟨h1, by omega, by omega, h4⟩
theorem JP_ls {C : Nat → Nat → Int} {k k_q fn t l l0 l1 : Int} (h : WY C k k_q fn l 0) (g : LZ C l t l0 l1) : JP C k k_q fn t l0 l1 := ⟨l, h, g.1, g.2.1, g.2.2.1, g.2.2.2⟩
theorem WY_le {C : Nat → Nat → Int} {k k_q fn l fr : Int} (h : WY C k k_q fn l fr) : k ≤ k_q := by
  have := h.1
  omega
/-- steps of names: the first ones of those from s on -/
def gN (T C : Nat → Nat → Int) (F : Int → Int) (nw s : Int) : Nat → Int → Int → Prop
  | 0, k, k_q => k_q = k
  | m + 1, k, k_q => ∃ a, gN T C F nw s m k a ∧ SQ C [(4, if T 7 (s + (m : Int)).toNat = 3 ∨ T 7 (s + (m : Int)).toNat = 4 then -1 else 0), (4, T 8 (s + (m : Int)).toNat), (1, wd T F nw (s + (m : Int))), (15, 14)] a k_q
theorem gN_le {T C : Nat → Nat → Int} {F : Int → Int} {nw s : Int} : ∀ {m : Nat} {k k_q : Int}, gN T C F nw s m k k_q → k ≤ k_q
  | 0, _, _, h => Int.le_of_eq (show _ = _ from h).symm
  | m + 1, k, k_q, h => by
    obtain ⟨a, h1, h2⟩ := h
    have := gN_le h1
    have := SQ_le h2
    omega
theorem gN_mv {T C C_q : Nat → Nat → Int} {F : Int → Int} {nw s K l0 l1 : Int} (g : Cg K l0 l1 C C_q) : ∀ {m : Nat} {k k_q : Int}, k_q ≤ K → gN T C F nw s m k k_q → gN T C_q F nw s m k k_q
  | 0, _, _, _, h => h
  | m + 1, k, k_q, hk, h => by
    obtain ⟨a, h1, h2⟩ := h
    have := SQ_le h2
    exact ⟨a, gN_mv g (by omega) h1, SQ_mv g hk h2⟩
/-- pieces one behind the other -/
def gLs (R : Int → Int → Int → Int → Int → Prop) : List Int → Int → Int → Int → Int → Prop
  | [], k, k_q, l0, l1 => k_q = k ∧ l1 = l0
  | c :: l, k, k_q, l0, l1 => ∃ a m, l0 ≤ m ∧ m ≤ l1 ∧ R c k a l0 m ∧ gLs R l a k_q m l1
theorem gLs_le {R : Int → Int → Int → Int → Int → Prop} (hR : ∀ c a b u v, R c a b u v → a ≤ b) : ∀ {l : List Int} {k k_q l0 l1 : Int}, gLs R l k k_q l0 l1 → k ≤ k_q
  | [], _, _, _, _, h => Int.le_of_eq h.1.symm
  | c :: l, k, k_q, l0, l1, h => by
    obtain ⟨a, m, h1, h2, h3, h4⟩ := h
    have := hR _ _ _ _ _ h3
    have := gLs_le hR h4
    omega
theorem gLs_add {R : Int → Int → Int → Int → Int → Prop} {c a k_q m l1 : Int} (h2 : m ≤ l1) (h3 : R c a k_q m l1) : ∀ {l : List Int} {k l0 : Int}, gLs R l k a l0 m → gLs R (l ++ [c]) k k_q l0 l1
  | [], k, l0, h => by
    obtain ⟨rfl, rfl⟩ := h
    exact ⟨k_q, l1, h2, Int.le_refl _, h3, rfl, rfl⟩
  | e :: l, k, l0, h => by
    obtain ⟨b, u, g1, g2, g3, g4⟩ := h
    exact ⟨b, u, g1, by omega, g3, gLs_add h2 h3 g4⟩
theorem gLs_mv {R R_q : Int → Int → Int → Int → Int → Prop} {K l0 l1 : Int} (hl : ∀ c a b u v, R c a b u v → a ≤ b) (hR : ∀ c a b u v, l0 ≤ u → v ≤ l1 → b ≤ K → R c a b u v → R_q c a b u v) : ∀ {l : List Int} {k k_q u : Int}, l0 ≤ u → k_q ≤ K → gLs R l k k_q u l1 → gLs R_q l k k_q u l1
  | [], _, _, _, _, _, h => h
  | c :: l, k, k_q, u, hu, hk, h => by
    obtain ⟨a, m, h1, h2, h3, h4⟩ := h
    have := gLs_le hl h4
    exact ⟨a, m, h1, h2, hR _ _ _ _ _ hu h2 (by omega) h3, gLs_mv hl hR (by omega) hk h4⟩
/-- the pieces of the children of n that stand before c -/
def gQ (T : Nat → Nat → Int) (R : Int → Int → Int → Int → Int → Prop) (n c k k_q l0 l1 : Int) : Prop := ∃ u v : List Int, CH T (T 21 n.toNat) (u ++ v) ∧ CH T c v ∧ gLs R u k k_q l0 l1
theorem gQ_0 {T : Nat → Nat → Int} {R : Int → Int → Int → Int → Int → Prop} {n c k k_q l0 l1 : Int} (h : ∃ l, CH T (T 21 n.toNat) l) (hc : c = T 21 n.toNat) (hk : k_q = k) (hl : l1 = l0) : gQ T R n c k k_q l0 l1 := by
  obtain ⟨l, h⟩ := h
  exact ⟨[], l, h, hc ▸ h, hk, hl⟩
theorem gQ_nx {T : Nat → Nat → Int} {R : Int → Int → Int → Int → Int → Prop} {n c d k a k_q l0 m l1 : Int} (h : gQ T R n c k a l0 m) (hc : 0 < c) (hd : d = T 22 c.toNat) (h2 : m ≤ l1) (h3 : R c a k_q m l1) : gQ T R n d k k_q l0 l1 := by
  obtain ⟨u, v, g1, g2, g3⟩ := h
  cases v with
  | nil =>
    have : c = 0 := g2
    omega
  | cons e v =>
    obtain ⟨rfl, _, g4⟩ := g2
    refine ⟨u ++ [c], v, ?_, hd ▸ g4, gLs_add h2 h3 g3⟩
    rw [List.append_assoc]
    exact g1
theorem gQ_end {T : Nat → Nat → Int} {R : Int → Int → Int → Int → Int → Prop} {n c k k_q l0 l1 : Int} (h : gQ T R n c k k_q l0 l1) (hc : c ≤ 0) : gQ T R n 0 k k_q l0 l1 := by
  obtain ⟨u, v, g1, g2, g3⟩ := h
  cases v with
  | nil => exact ⟨u, [], g1, rfl, g3⟩
  | cons e v =>
    obtain ⟨g4, g5, _⟩ := g2
    omega
theorem gQ_le {T : Nat → Nat → Int} {R : Int → Int → Int → Int → Int → Prop} (hR : ∀ c a b u v, R c a b u v → a ≤ b) {n c k k_q l0 l1 : Int} (h : gQ T R n c k k_q l0 l1) : k ≤ k_q := by
  obtain ⟨u, v, g1, g2, g3⟩ := h
  exact gLs_le hR g3
theorem gQ_mv {T : Nat → Nat → Int} {R R_q : Int → Int → Int → Int → Int → Prop} {K n c k k_q l0 l1 : Int} (hl : ∀ c a b u v, R c a b u v → a ≤ b) (hR : ∀ c a b u v, l0 ≤ u → v ≤ l1 → b ≤ K → R c a b u v → R_q c a b u v) (hk : k_q ≤ K) (h : gQ T R n c k k_q l0 l1) : gQ T R_q n c k k_q l0 l1 := by
  obtain ⟨u, v, g1, g2, g3⟩ := h
  exact ⟨u, v, g1, g2, gLs_mv hl hR (Int.le_refl _) hk g3⟩
/-- an argument of a call of q -/
def gAr (T C : Nat → Nat → Int) (F S : Int → Int) (nw q : Int) (a k k_q l0 l1 : Int) : Prop := ∃ b, ((T 7 (T 18 a.toNat).toNat = 5 ∧ gE T C F S nw 22 (T 17 a.toNat) k b l0 l1) ∨ (T 7 (T 18 a.toNat).toNat ≠ 5 ∧ gD T C F S nw 20 (T 17 a.toNat) k b l0 l1)) ∧ ST C b k_q 13 (T 9 (T 18 a.toNat).toNat - 7 - T 32 q.toNat)
theorem gAr_le {T C : Nat → Nat → Int} {F S : Int → Int} {nw q a k k_q l0 l1 : Int} (h : gAr T C F S nw q a k k_q l0 l1) : k ≤ k_q := by
  obtain ⟨b, h1, h2⟩ := h
  have := ST_le h2
  rcases h1 with h1 | h1
  · have := gE_le h1.2
    omega
  · have := gD_le h1.2
    omega
theorem gAr_mv {T C C_q : Nat → Nat → Int} {F S : Int → Int} {K nw q a k k_q l0 l1 : Int} (g : Cg K l0 l1 C C_q) (hk : k_q ≤ K) (h : gAr T C F S nw q a k k_q l0 l1) : gAr T C_q F S nw q a k k_q l0 l1 := by
  obtain ⟨b, h1, h2⟩ := h
  have := ST_le h2
  refine ⟨b, ?_, ST_mv g hk h2⟩
  rcases h1 with h1 | h1
  · exact .inl ⟨h1.1, gE_mv g (by omega) h1.2⟩
  · exact .inr ⟨h1.1, gD_mv g (by omega) h1.2⟩
/-- the arguments before c -/
def gAs (T C : Nat → Nat → Int) (F S : Int → Int) (nw q n c k k_q l0 l1 : Int) : Prop := gQ T (gAr T C F S nw q) n c k k_q l0 l1
theorem gAs_mv {T C C_q : Nat → Nat → Int} {F S : Int → Int} {K nw q n c k k_q l0 l1 : Int} (g : Cg K l0 l1 C C_q) (hk : k_q ≤ K) (h : gAs T C F S nw q n c k k_q l0 l1) : gAs T C_q F S nw q n c k k_q l0 l1 := gQ_mv (fun _ _ _ _ _ w => gAr_le w) (fun _ _ _ _ _ h1 h2 h3 w => gAr_mv (Cg_su g (Int.le_refl _) h1 h2) h3 w) hk h
theorem gAs_le {T C : Nat → Nat → Int} {F S : Int → Int} {nw q n c k k_q l0 l1 : Int} (h : gAs T C F S nw q n c k k_q l0 l1) : k ≤ k_q := gQ_le (fun _ _ _ _ _ w => gAr_le w) h
/-- a call -/
def gCl (T C : Nat → Nat → Int) (Q F S : Int → Int) (nw p k k_q l0 l1 : Int) : Prop := ∃ a, gAs T C F S nw (T 17 p.toNat) p 0 k a l0 l1 ∧ WY C a k_q 9 (Q (T 17 p.toNat)) 0
theorem gCl_le {T C : Nat → Nat → Int} {Q F S : Int → Int} {nw p k k_q l0 l1 : Int} (h : gCl T C Q F S nw p k k_q l0 l1) : k ≤ k_q := by
  obtain ⟨a, h1, h2⟩ := h
  have := gAs_le h1
  have := WY_le h2
  omega
theorem gCl_mv {T C C_q : Nat → Nat → Int} {Q F S : Int → Int} {K nw p k k_q l0 l1 : Int} (g : Cg K l0 l1 C C_q) (hk : k_q ≤ K) (h : gCl T C Q F S nw p k k_q l0 l1) : gCl T C_q Q F S nw p k k_q l0 l1 := by
  obtain ⟨a, h1, h2⟩ := h
  have := WY_le h2
  exact ⟨a, gAs_mv g (by omega) h1, WY_mv g hk h2⟩
/-- a FOR (R: its process) -/
def gFo (T C : Nat → Nat → Int) (F S : Int → Int) (nw : Int) (R : Int → Int → Int → Int → Int → Prop) (p k k_q l0 l1 : Int) : Prop := ∃ a b c d e f g h m2 m3 m4 : Int, l0 ≤ m2 ∧ m2 ≤ m3 ∧ m3 ≤ m4 ∧ m4 ≤ l1 ∧ gE T C F S nw 22 (T 19 p.toNat) k a m2 m3 ∧ ST C a b 13 (T 9 (T 17 p.toNat).toNat) ∧ gE T C F S nw 22 (T 20 p.toNat) b c m3 m4 ∧ ST C c d 13 (T 9 (T 17 p.toNat).toNat + 1) ∧ SQ C [(7, T 9 (T 17 p.toNat).toNat + 1), (4, 0), (15, 6)] d e ∧ JP C e f 10 k_q l0 m2 ∧ R (T 21 p.toNat) f g m4 l1 ∧ SQ C [(7, T 9 (T 17 p.toNat).toNat), (8, 1), (13, T 9 (T 17 p.toNat).toNat), (7, T 9 (T 17 p.toNat).toNat + 1), (8, -1), (13, T 9 (T 17 p.toNat).toNat + 1)] g h ∧ JP C h k_q 0 d l0 m2
theorem gFo_le {T C : Nat → Nat → Int} {F S : Int → Int} {nw : Int} {R : Int → Int → Int → Int → Int → Prop} (hR : ∀ c a b u v, R c a b u v → a ≤ b) {p k k_q l0 l1 : Int} (h : gFo T C F S nw R p k k_q l0 l1) : k ≤ k_q := by
  obtain ⟨a, b, c, d, e, f, g, h, m2, m3, m4, i1, i2, i3, i4, h1, h2, h3, h4, h5, h6, h7, h8, h9⟩ := h
  have := gE_le h1
  have := ST_le h2
  have := gE_le h3
  have := ST_le h4
  have := SQ_le h5
  have := JP_le h6
  have := hR _ _ _ _ _ h7
  have := SQ_le h8
  have := JP_le h9
  omega
theorem gFo_mv {T C C_q : Nat → Nat → Int} {F S : Int → Int} {nw : Int} {R R_q : Int → Int → Int → Int → Int → Prop} {K p k k_q l0 l1 : Int} (hl : ∀ c a b u v, R c a b u v → a ≤ b) (hR : ∀ c a b u v, l0 ≤ u → v ≤ l1 → b ≤ K → R c a b u v → R_q c a b u v) (q : Cg K l0 l1 C C_q) (hk : k_q ≤ K) (h : gFo T C F S nw R p k k_q l0 l1) : gFo T C_q F S nw R_q p k k_q l0 l1 := by
  obtain ⟨a, b, c, d, e, f, g, h, m2, m3, m4, i1, i2, i3, i4, h1, h2, h3, h4, h5, h6, h7, h8, h9⟩ := h
  have e2 := ST_le h2
  have e3 := gE_le h3
  have e4 := ST_le h4
  have e5 := SQ_le h5
  have e6 := JP_le h6
  have e7 := hl _ _ _ _ _ h7
  have e8 := SQ_le h8
  have e9 := JP_le h9
  have s : ∀ {u v}, l0 ≤ u → v ≤ l1 → Cg K u v C C_q := fun h1 h2 => Cg_su q (Int.le_refl _) h1 h2
  exact ⟨a, b, c, d, e, f, g, h, m2, m3, m4, i1, i2, i3, i4, gE_mv (s (by omega) (by omega)) (by omega) h1, ST_mv q (by omega) h2, gE_mv (s (by omega) (by omega)) (by omega) h3, ST_mv q (by omega) h4, SQ_mv q (by omega) h5, JP_mv (s (by omega) (by omega)) (by omega) h6, hR _ _ _ _ _ (by omega) (by omega) (by omega) h7, SQ_mv q (by omega) h8, JP_mv (s (by omega) (by omega)) (by omega) h9⟩
/-- a choice of an IF; le: the label of its end -/
def gIc (T C : Nat → Nat → Int) (F S : Int → Int) (nw : Int) (R : Int → Int → Int → Int → Int → Prop) (le c k k_q l0 l1 : Int) : Prop := ∃ a b d m1 m2 : Int, l0 ≤ m1 ∧ m1 ≤ m2 ∧ m2 ≤ l1 ∧ gE T C F S nw 22 (T 17 c.toNat) k a m1 m2 ∧ JP C a b 10 k_q l0 m1 ∧ R (T 21 c.toNat) b d m2 l1 ∧ WY C d k_q 0 le 0
theorem gIc_le {T C : Nat → Nat → Int} {F S : Int → Int} {nw : Int} {R : Int → Int → Int → Int → Int → Prop} (hR : ∀ c a b u v, R c a b u v → a ≤ b) {le c k k_q l0 l1 : Int} (h : gIc T C F S nw R le c k k_q l0 l1) : k ≤ k_q := by
  obtain ⟨a, b, d, m1, m2, i1, i2, i3, h1, h2, h3, h4⟩ := h
  have := gE_le h1
  have := JP_le h2
  have := hR _ _ _ _ _ h3
  have := WY_le h4
  omega
theorem gIc_mv {T C C_q : Nat → Nat → Int} {F S : Int → Int} {nw : Int} {R R_q : Int → Int → Int → Int → Int → Prop} {K le c k k_q l0 l1 : Int} (hl : ∀ c a b u v, R c a b u v → a ≤ b) (hR : ∀ c a b u v, l0 ≤ u → v ≤ l1 → b ≤ K → R c a b u v → R_q c a b u v) (q : Cg K l0 l1 C C_q) (hk : k_q ≤ K) (h : gIc T C F S nw R le c k k_q l0 l1) : gIc T C_q F S nw R_q le c k k_q l0 l1 := by
  obtain ⟨a, b, d, m1, m2, i1, i2, i3, h1, h2, h3, h4⟩ := h
  have e2 := JP_le h2
  have e3 := hl _ _ _ _ _ h3
  have e4 := WY_le h4
  exact ⟨a, b, d, m1, m2, i1, i2, i3, gE_mv (Cg_su q (Int.le_refl _) (by omega) (by omega)) (by omega) h1, JP_mv (Cg_su q (Int.le_refl _) (Int.le_refl _) (by omega)) (by omega) h2, hR _ _ _ _ _ (by omega) (by omega) (by omega) h3, WY_mv q hk h4⟩
/-- an IF -/
def gIf (T C : Nat → Nat → Int) (F S : Int → Int) (nw : Int) (R : Int → Int → Int → Int → Int → Prop) (p k k_q l0 l1 : Int) : Prop := ∃ le a m : Int, l0 ≤ m ∧ m ≤ l1 ∧ LZ C le k_q l0 m ∧ gQ T (gIc T C F S nw R le) p 0 k a m l1 ∧ ST C a k_q 15 29
theorem gIf_le {T C : Nat → Nat → Int} {F S : Int → Int} {nw : Int} {R : Int → Int → Int → Int → Int → Prop} (hR : ∀ c a b u v, R c a b u v → a ≤ b) {p k k_q l0 l1 : Int} (h : gIf T C F S nw R p k k_q l0 l1) : k ≤ k_q := by
  obtain ⟨le, a, m, i1, i2, h1, h2, h3⟩ := h
  have := gQ_le (fun _ _ _ _ _ w => gIc_le hR w) h2
  have := ST_le h3
  omega
theorem gIf_mv {T C C_q : Nat → Nat → Int} {F S : Int → Int} {nw : Int} {R R_q : Int → Int → Int → Int → Int → Prop} {K p k k_q l0 l1 : Int} (hl : ∀ c a b u v, R c a b u v → a ≤ b) (hR : ∀ c a b u v, l0 ≤ u → v ≤ l1 → b ≤ K → R c a b u v → R_q c a b u v) (q : Cg K l0 l1 C C_q) (hk : k_q ≤ K) (h : gIf T C F S nw R p k k_q l0 l1) : gIf T C_q F S nw R_q p k k_q l0 l1 := by
  obtain ⟨le, a, m, i1, i2, h1, h2, h3⟩ := h
  have := ST_le h3
  refine ⟨le, a, m, i1, i2, LZ_mv (Cg_su q (Int.le_refl _) (Int.le_refl _) i2) hk h1, ?_, ST_mv q hk h3⟩
  exact gQ_mv (K := K) (fun _ _ _ _ _ w => gIc_le hl w) (fun c a b u v g1 g2 g3 w => gIc_mv hl (fun c_q a_q b_q u_q v' j1 j2 j3 w_q => hR c_q a_q b_q u_q v' (by omega) (by omega) j3 w_q) (Cg_su q (Int.le_refl _) (by omega) g2) g3 w) (by omega) h2
/-- a WHILE -/
def gWh (T C : Nat → Nat → Int) (F S : Int → Int) (nw : Int) (R : Int → Int → Int → Int → Int → Prop) (p k k_q l0 l1 : Int) : Prop := ∃ a b c m1 m2 : Int, l0 ≤ m1 ∧ m1 ≤ m2 ∧ m2 ≤ l1 ∧ gE T C F S nw 22 (T 17 p.toNat) k a m1 m2 ∧ JP C a b 10 k_q l0 m1 ∧ R (T 21 p.toNat) b c m2 l1 ∧ JP C c k_q 0 k l0 m1
theorem gWh_le {T C : Nat → Nat → Int} {F S : Int → Int} {nw : Int} {R : Int → Int → Int → Int → Int → Prop} (hR : ∀ c a b u v, R c a b u v → a ≤ b) {p k k_q l0 l1 : Int} (h : gWh T C F S nw R p k k_q l0 l1) : k ≤ k_q := by
  obtain ⟨a, b, c, m1, m2, i1, i2, i3, h1, h2, h3, h4⟩ := h
  have := gE_le h1
  have := JP_le h2
  have := hR _ _ _ _ _ h3
  have := JP_le h4
  omega
theorem gWh_mv {T C C_q : Nat → Nat → Int} {F S : Int → Int} {nw : Int} {R R_q : Int → Int → Int → Int → Int → Prop} {K p k k_q l0 l1 : Int} (hl : ∀ c a b u v, R c a b u v → a ≤ b) (hR : ∀ c a b u v, l0 ≤ u → v ≤ l1 → b ≤ K → R c a b u v → R_q c a b u v) (q : Cg K l0 l1 C C_q) (hk : k_q ≤ K) (h : gWh T C F S nw R p k k_q l0 l1) : gWh T C_q F S nw R_q p k k_q l0 l1 := by
  obtain ⟨a, b, c, m1, m2, i1, i2, i3, h1, h2, h3, h4⟩ := h
  have e2 := JP_le h2
  have e3 := hl _ _ _ _ _ h3
  have e4 := JP_le h4
  exact ⟨a, b, c, m1, m2, i1, i2, i3, gE_mv (Cg_su q (Int.le_refl _) (by omega) (by omega)) (by omega) h1, JP_mv (Cg_su q (Int.le_refl _) (Int.le_refl _) (by omega)) (by omega) h2, hR _ _ _ _ _ (by omega) (by omega) (by omega) h3, JP_mv (Cg_su q (Int.le_refl _) (Int.le_refl _) (by omega)) hk h4⟩
