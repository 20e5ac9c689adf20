/-! code of PAR and ALT: steps of the proofs -/
theorem SA_k28 {T : Nat → Nat → Int} {V : Nat → Prop} {S : Int → Int} {n : Int} {j : Nat} {A : Nat → Nat → Int} (h15 : T 15 n.toNat = 28) (h : SA T V S A) : SA T (vB T V n) (sB T S n j) A := fun s g1 g2 g3 => by
  rcases g2 with g2 | g2
  · rw [h s g1 g2 g3]
    exact (if_neg (fun q => by omega)).symm
  · omega
theorem SA_k29 {T : Nat → Nat → Int} {V : Nat → Prop} {S : Int → Int} {n z v i : Int} {A A_q : Nat → Nat → Int} (e : A_q = uA A 13 z.toNat v) (h15 : T 15 n.toNat = 29) (hz : z = T 17 n.toNat) (hz0 : 0 ≤ z) (hi : 0 ≤ i) (hv : v = (i32 (T 19 n.toNat + i)).toInt) (h : SA T V S A) : SA T (vB T V n) (sB T S n i.toNat) A_q := by
  subst hz
  rw [← vB_29 h15 rfl]
  refine SA_st e hz0 h ?_ (fun s hs => if_neg (fun q => hs q.2))
  rw [hv]
  show (if _ then (i32 (T 19 n.toNat + ((i.toNat : Nat) : Int))).toInt else _) = _
  rw [if_pos ⟨h15, rfl⟩, show ((i.toNat : Nat) : Int) = i by omega]
theorem SA_kdn {T : Nat → Nat → Int} {V : Nat → Prop} {S : Int → Int} {n b : Int} {j : Nat} {A : Nat → Nat → Int} (h : SA T (vB T V n) (sB T S n j) A) (hv : VB V b) (hb : T 15 n.toNat = 29 → b ≤ T 17 n.toNat) : SA T V S A := fun s g1 g2 g3 => by
  have := hv _ g2
  rw [h s g1 (.inl g2) g3]
  exact if_neg (fun q => by
    have := hb q.1
    omega)
theorem VW_kd {T : Nat → Nat → Int} {V : Nat → Prop} {n nw : Int} (h : VW T V nw) (h7 : T 15 n.toNat = 29 → T 7 (T 17 n.toNat).toNat = 10) : VW T (vB T V n) (nw + 1) := fun s hs hk => by
  rcases hs with hs | hs
  · have := h s hs hk
    omega
  · have := h7 hs.1
    rw [show (T 17 n.toNat).toNat = s by omega] at this
    omega
theorem VB_kd {T : Nat → Nat → Int} {V : Nat → Prop} {n b u : Int} (h : VB V b) (hu : b ≤ u) (h7 : T 15 n.toNat = 29 → T 17 n.toNat = b ∧ b + 1 ≤ u) : VB (vB T V n) u := fun s hs => by
  rcases hs with hs | hs
  · have := h s hs
    omega
  · have := h7 hs.1
    omega
theorem fB_l {T : Nat → Nat → Int} {F : Int → Int} {nw p : Int} {i : Nat} : ∀ l, l ≤ nw → fB T F nw p i l = F l := fun l hl => if_neg (by omega)
theorem fB_n {T : Nat → Nat → Int} {F : Int → Int} {nw p : Int} {i : Nat} : fB T F nw p i (nw + 1) = F nw - dpt T p i - T 26 (kid T p i).toNat := if_pos rfl
theorem dpt_s {T : Nat → Nat → Int} {p i : Int} (h : 0 ≤ i) : dpt T p (i + 1).toNat = dpt T p i.toNat + T 26 (kid T p i.toNat).toNat + T 27 (kid T p i.toNat).toNat + 3 := by
  rw [show (i + 1).toNat = i.toNat + 1 by omega]
  rfl
theorem kid_s {T : Nat → Nat → Int} {p i : Int} (h : 0 ≤ i) (h15 : T 15 p.toNat = 28) : kid T p (i + 1).toNat = T 22 (kid T p i.toNat).toNat := by
  rw [show (i + 1).toNat = i.toNat + 1 by omega, kid_28 h15, kid_28 h15]
  rfl
theorem gP1_0 {T C : Nat → Nat → Int} {La : Int → Int} {p le k a b c d e f l0 l1 m w : Int} {i : Nat} (hi : i = 0) (h1 : PL C k a le l0 l1) (hl : l0 ≤ l1) (s1 : ST C a b 13 w) (s2 : ST C b c 4 m) (s3 : ST C c d 13 (w + 1)) (s4 : ST C d e 15 30) (s5 : ST C e f 13 (w + 2)) (hw : w = T 25 p.toNat) (hm : m = mny T p) : gP1 T C La p i le k f l0 l1 := by
  subst hw hm hi
  exact ⟨a, f, l1, hl, Int.le_refl _, h1, SQ_c s1 (SQ_c s2 (SQ_c s3 (SQ_c s4 (SQ_c s5 SQ_n)))), rfl, rfl⟩
theorem gP1_nx {T C : Nat → Nat → Int} {La : Int → Int} {p le k a b c d l0 l1 m r i v o : Int} (h0 : 0 ≤ i) (h : gP1 T C La p i.toNat le k a l0 m) (hr : r = m + 1) (hl : m + 1 ≤ l1) (h1 : PL C a b r (m + 1) l1) (s1 : ST C b c 1 v) (s2 : ST C c d 15 o) (hv : v = - dpt T p i.toNat - T 26 (kid T p i.toNat).toNat) (ho : o = pri T p i) : gP1 T C (upf La i r) p (i + 1).toNat le k d l0 l1 := by
  subst hr hv ho
  obtain ⟨x, y, m1, g1, g2, g3, g4, g5⟩ := h
  have ii : ((i.toNat : Nat) : Int) = i := by omega
  rw [show (i + 1).toNat = i.toNat + 1 by omega]
  refine ⟨x, y, m1, g1, by omega, g3, g4, a, b, m, g2, hl, ?_, gB1_ex (fun j hj => upf_n (by omega)) g5, ?_, ?_⟩
  · rw [ii, upf_e]
  · rw [ii, upf_e]
    exact h1
  · rw [ii]
    exact SQ_c s1 (SQ_c s2 SQ_n)
/-- a PAR, as far as its i-th branch -/
def gP2 (T C : Nat → Nat → Int) (Q : Int → Int) (k0 : Nat) (La F S : Int → Int) (nw p : Int) (i : Nat) (le k k_q l0 l1 : Int) : Prop := 0 ≤ l0 ∧ i ≤ (mny T p).toNat ∧ ∃ a b m2 : Int, l0 ≤ m2 ∧ m2 ≤ l1 ∧ gP1 T C La p (mny T p).toNat le k a l0 m2 ∧ ST C a b 15 18 ∧ gB2 T C (gP T C Q k0) La F S nw p i b k_q m2 l1
theorem gP2_0 {T C : Nat → Nat → Int} {Q : Int → Int} {k0 : Nat} {La F S : Int → Int} {nw p le k a b l0 l1 i : Int} {j : Nat} (hl : 0 ≤ l0) (h1 : gP1 T C La p i.toNat le k a l0 l1) (hl1 : l0 ≤ l1) (s1 : ST C a b 15 18) (hi : i = mny T p) (hj : j = 0) : gP2 T C Q k0 La F S nw p j le k b l0 l1 := by
  subst hi hj
  exact ⟨hl, Nat.zero_le _, a, b, l1, hl1, Int.le_refl _, h1, s1, rfl, rfl⟩
theorem gP2_mv {T C C_q : Nat → Nat → Int} {Q : Int → Int} {k0 : Nat} {La F S : Int → Int} {K nw p : Int} {i : Nat} {le k k_q l0 l1 : Int} (g : Cg K l0 l1 C C_q) (hk : k_q ≤ K) (h : gP2 T C Q k0 La F S nw p i le k k_q l0 l1) : gP2 T C_q Q k0 La F S nw p i le k k_q l0 l1 := by
  obtain ⟨h0, hi, a, b, m2, h1, h2, h3, h4, h5⟩ := h
  have e4 := ST_le h4
  have e5 := (gB2_le (fun _ _ _ _ _ _ _ _ w => gP_le w) h5).1
  refine ⟨h0, hi, a, b, m2, h1, h2, gP1_mv (Cg_su g (Int.le_refl _) (Int.le_refl _) h2) (by omega) h3, ST_mv g (by omega) h4, gB2_mv (fun _ _ _ _ _ _ _ _ w => gP_le w) (fun _ _ _ _ _ _ _ _ g1 g2 g3 w => gP_mv (Cg_su g (Int.le_refl _) g1 g2) g3 w) g (fun j hj => ?_) h1 (Int.le_refl _) hk h5⟩
  have := gP1_La h3 j (by omega)
  exact g.2 _ (by omega) (by omega)
theorem gP1_Ln {T C : Nat → Nat → Int} {La : Int → Int} {p : Int} {i : Nat} {le k k_q l0 l1 : Int} (h : gP1 T C La p i le k k_q l0 l1) (j j_q : Nat) (hj : j < j_q) (hj' : j_q < i) : La (j : Int) < La (j_q : Int) := by
  obtain ⟨a, b, m1, h1, h2, h3, h4, h5⟩ := h
  exact gB1_Ln h5 j j_q hj hj'
theorem gP2_set {T C C_q : Nat → Nat → Int} {Q : Int → Int} {k0 : Nat} {La F S : Int → Int} {nw p : Int} {i : Int} {le k k_q l0 l1 z v : Int} (e : C_q = uA C 50 z.toNat v) (hz : z = La i) (h0 : 0 ≤ i) (hi : i < mny T p) (h : gP2 T C Q k0 La F S nw p i.toNat le k k_q l0 l1) : gP2 T C_q Q k0 La F S nw p i.toNat le k k_q l0 l1 := by
  obtain ⟨hl, _, a, b, m2, h1, h2, h3, h4, h5⟩ := h
  have ii : ((i.toNat : Nat) : Int) = i := by omega
  have q := gP1_La h3 i.toNat (by omega)
  rw [ii] at q
  subst hz
  have s : ∀ K u v, m2 ≤ u → Cg K u v C C_q := fun K u v hu => Cg_set e (by omega) (.inl (by omega))
  refine ⟨hl, by omega, a, b, m2, h1, h2, gP1_set e ⟨i.toNat, by omega, by rw [ii]⟩ hl h3, ST_mv (s _ m2 m2 (Int.le_refl _)) (Int.le_refl _) h4, gB2_mv (K := k_q) (x := m2) (y := l1) (fun _ _ _ _ _ _ _ _ w => gP_le w) (fun _ _ _ _ _ _ _ _ g1 g2 g3 w => gP_mv (s _ _ _ g1) g3 w) (s _ _ _ (Int.le_refl _)) (fun j hj => ?_) (Int.le_refl _) (Int.le_refl _) (Int.le_refl _) h5⟩
  have n := gP1_Ln h3 j i.toNat hj (by omega)
  have q_q := gP1_La h3 j (by omega)
  rw [ii] at n
  rw [e]
  exact uA_ni (by omega)
theorem gP2_nx {T C : Nat → Nat → Int} {Q : Int → Int} {k0 : Nat} {La F S : Int → Int} {nw p le k a b c d l0 l1 m i v : Int} (h0 : 0 ≤ i) (hi : i < mny T p) (h : gP2 T C Q k0 La F S nw p i.toNat le k a l0 m) (hl : m ≤ l1) (hL : C 50 (La i).toNat = a) (h1 : gP T C Q k0 (fB T F nw p i.toNat) (sB T S p i.toNat) (nw + 1) (kid T p i.toNat) a b m l1) (s1 : ST C b c 1 v) (s2 : ST C c d 15 17) (hv : v = T 25 p.toNat + dpt T p i.toNat + T 26 (kid T p i.toNat).toNat) : gP2 T C Q k0 La F S nw p (i + 1).toNat le k d l0 l1 := by
  subst hv
  obtain ⟨hl0, _, x, y, m2, g1, g2, g3, g4, g5⟩ := h
  have ii : ((i.toNat : Nat) : Int) = i := by omega
  rw [show (i + 1).toNat = i.toNat + 1 by omega]
  refine ⟨hl0, by omega, x, y, m2, g1, by omega, g3, g4, a, b, m, g2, hl, g5, ?_, h1, SQ_c s1 (SQ_c s2 SQ_n)⟩
  rw [ii]
  exact hL
theorem gPa_mk {T C : Nat → Nat → Int} {Q : Int → Int} {k0 : Nat} {La F S : Int → Int} {nw p le k k_q l0 l1 m1 i : Int} (h1 : l0 ≤ m1) (h : gP2 T C Q k0 La F S nw p i.toNat le k k_q m1 l1) (hi : i = mny T p) (hL : LZ C le k_q l0 m1) : gPa T C (gP T C Q k0) F S nw p k k_q l0 l1 := by
  subst hi
  obtain ⟨_, _, a, b, m2, g1, g2, g3, g4, g5⟩ := h
  exact ⟨La, le, a, b, m1, m2, h1, g1, g2, hL, g3, g4, g5⟩
/-- an ALT, as far as the i-th process -/
def gA5 (T C : Nat → Nat → Int) (Q : Int → Int) (k0 : Nat) (La F S : Int → Int) (nw n : Int) (i : Nat) (le lf k sa k_q l0 l1 : Int) : Prop := 0 ≤ l0 ∧ i ≤ (T 18 n.toNat).toNat ∧ ∃ m2 : Int, l0 ≤ m2 ∧ m2 ≤ l1 ∧ gA0 T C La F S nw n lf k sa l0 m2 ∧ gA4 T C La F S nw n (gP T C Q k0 F S nw) le i sa k_q m2 l1
theorem gA5_0 {T C : Nat → Nat → Int} {Q : Int → Int} {k0 : Nat} {La F S : Int → Int} {nw n le lf k k_q a b c d e l0 l1 i1 i2 i3 : Int} {j : Nat} (hl : 0 ≤ l0) (h1 : gA1 T C La F S nw n i1.toNat k a l0 l1) (s1 : ST C a b 15 22) (h2 : gA2 T C n i2.toNat b c) (s2 : ST C c d 15 25) (h3 : gA3 T C La lf n i3.toNat d e) (s3 : ST C e k_q 15 28) (e1 : i1 = T 18 n.toNat) (e2 : i2 = T 18 n.toNat) (e3 : i3 = T 18 n.toNat) (hj : j = 0) : gA5 T C Q k0 La F S nw n j le lf k k_q k_q l0 l1 := by
  subst hj
  rw [e1] at h1
  rw [e2] at h2
  rw [e3] at h3
  exact ⟨hl, Nat.zero_le _, l1, (gA1_le h1).2, Int.le_refl _, ⟨a, b, c, d, e, h1, s1, h2, s2, h3, s3⟩, rfl, rfl⟩
theorem gA5_mv {T C C_q : Nat → Nat → Int} {Q : Int → Int} {k0 : Nat} {La F S : Int → Int} {K nw n : Int} {i : Nat} {le lf k sa k_q l0 l1 : Int} (g : Cg K l0 l1 C C_q) (hk : k_q ≤ K) (h : gA5 T C Q k0 La F S nw n i le lf k sa k_q l0 l1) : gA5 T C_q Q k0 La F S nw n i le lf k sa k_q l0 l1 := by
  obtain ⟨h0, hi, m2, h1, h2, h3, h4⟩ := h
  have e4 := (gA4_le (fun _ _ _ _ _ w => gP_le w) h4).1
  refine ⟨h0, hi, m2, h1, h2, gA0_mv (Cg_su g (Int.le_refl _) (Int.le_refl _) h2) (by omega) h3, gA4_mv (fun _ _ _ _ _ w => gP_le w) (fun _ _ _ _ _ g1 g2 g3 w => gP_mv (Cg_su g (Int.le_refl _) g1 g2) g3 w) g (fun j hj => ?_) h1 (Int.le_refl _) hk h4⟩
  have := gA0_La h3 j (by omega)
  exact g.2 _ (by omega) (by omega)
theorem gA5_set {T C C_q : Nat → Nat → Int} {Q : Int → Int} {k0 : Nat} {La F S : Int → Int} {nw n i le lf k sa k_q l0 l1 z v : Int} (e : C_q = uA C 50 z.toNat v) (hz : z = La i) (h0 : 0 ≤ i) (hi : i < T 18 n.toNat) (h : gA5 T C Q k0 La F S nw n i.toNat le lf k sa k_q l0 l1) : gA5 T C_q Q k0 La F S nw n i.toNat le lf k sa k_q l0 l1 := by
  obtain ⟨hl, _, m2, h1, h2, h3, h4⟩ := h
  have ii : ((i.toNat : Nat) : Int) = i := by omega
  have q := gA0_La h3 i.toNat (by omega)
  rw [ii] at q
  subst hz
  have s : ∀ K u v, m2 ≤ u → Cg K u v C C_q := fun K u v hu => Cg_set e (by omega) (.inl (by omega))
  refine ⟨hl, by omega, m2, h1, h2, gA0_set e ⟨i.toNat, by omega, by rw [ii]⟩ hl h3, gA4_mv (K := k_q) (x := m2) (y := l1) (fun _ _ _ _ _ w => gP_le w) (fun _ _ _ _ _ g1 g2 g3 w => gP_mv (s _ _ _ g1) g3 w) (s _ _ _ (Int.le_refl _)) (fun j hj => ?_) (Int.le_refl _) (Int.le_refl _) (Int.le_refl _) h4⟩
  have n := gA0_Ln h3 j i.toNat hj (by omega)
  have q_q := gA0_La h3 j (by omega)
  rw [ii] at n
  rw [e]
  exact uA_ni (by omega)
theorem gA5_nx {T C : Nat → Nat → Int} {Q : Int → Int} {k0 : Nat} {La F S : Int → Int} {nw n i le lf k sa a b l0 m l1 g : Int} (h0 : 0 ≤ i) (hi : i < T 18 n.toNat) (h : gA5 T C Q k0 La F S nw n i.toNat le lf k sa a l0 m) (hl : m ≤ l1) (hL : C 50 (La i).toNat = a) (hg : g = nx T (T 21 n.toNat) i.toNat) (h1 : gG4 T C F S nw n (gP T C Q k0 F S nw) le g i a b m l1) : gA5 T C Q k0 La F S nw n (i + 1).toNat le lf k sa b l0 l1 := by
  subst hg
  obtain ⟨hl0, _, m2, g1, g2, g3, g4⟩ := h
  have ii : ((i.toNat : Nat) : Int) = i := by omega
  rw [show (i + 1).toNat = i.toNat + 1 by omega]
  refine ⟨hl0, by omega, m2, g1, by omega, g3, a, m, g2, hl, g4, ?_, ?_⟩
  · rw [ii]
    exact hL
  · rw [ii]
    exact h1
theorem gAl_mk {T C : Nat → Nat → Int} {Q : Int → Int} {k0 : Nat} {La F S : Int → Int} {nw p le lf k sa k_q l0 l1 m1 i : Int} (h1 : l0 ≤ m1) (h : gA5 T C Q k0 La F S nw p i.toNat le lf k sa k_q m1 l1) (hi : i = T 18 p.toNat) (hL : LZ C le k_q l0 m1) (hf : LZ C lf sa l0 m1) : gAl T C F S nw (gP T C Q k0 F S nw) p k k_q l0 l1 := by
  subst hi
  obtain ⟨_, _, m2, g1, g2, g3, g4⟩ := h
  exact ⟨La, le, lf, sa, m1, m2, h1, g1, g2, hL, hf, g3, g4⟩
theorem gA1_nx {T C : Nat → Nat → Int} {La F S : Int → Int} {nw n i k a k_q l0 l1 m r g : Int} (h0 : 0 ≤ i) (h : gA1 T C La F S nw n i.toNat k a l0 m) (hr : r = m + 1) (hl : m + 1 ≤ l1) (hg : g = nx T (T 21 n.toNat) i.toNat) (h1 : gG1 T C F S nw n g i a k_q (m + 1) l1) : gA1 T C (upf La i r) F S nw n (i + 1).toNat k k_q l0 l1 := by
  subst hr hg
  have ii : ((i.toNat : Nat) : Int) = i := by omega
  rw [show (i + 1).toNat = i.toNat + 1 by omega]
  refine ⟨a, m, (gA1_le h).2, hl, ?_, gA1_ex (fun j hj => upf_n (by omega)) h, ?_⟩
  · rw [ii, upf_e]
  · rw [ii]
    exact h1
theorem gA2_nx {T C : Nat → Nat → Int} {n i k a k_q g : Int} (h0 : 0 ≤ i) (h : gA2 T C n i.toNat k a) (hg : g = nx T (T 21 n.toNat) i.toNat) (h1 : SQ C (al2 T n i g) a k_q) : gA2 T C n (i + 1).toNat k k_q := by
  subst hg
  have ii : ((i.toNat : Nat) : Int) = i := by omega
  rw [show (i + 1).toNat = i.toNat + 1 by omega]
  refine ⟨a, h, ?_⟩
  rw [ii]
  exact h1
theorem gA3_nx {T C : Nat → Nat → Int} {La : Int → Int} {lf n i k a b k_q g l : Int} (h0 : 0 ≤ i) (h : gA3 T C La lf n i.toNat k a) (hg : g = nx T (T 21 n.toNat) i.toNat) (hl : l = La i) (h1 : WY C a b 4 l lf) (h2 : SQ C (al3 T n i g) b k_q) : gA3 T C La lf n (i + 1).toNat k k_q := by
  subst hg hl
  have ii : ((i.toNat : Nat) : Int) = i := by omega
  rw [show (i + 1).toNat = i.toNat + 1 by omega]
  refine ⟨a, b, h, ?_, ?_⟩
  · rw [ii]
    exact h1
  · rw [ii]
    exact h2
theorem al2_p {T C : Nat → Nat → Int} {n i g k a b k_q v w : Int} (hg : 0 < T 18 g.toNat) (s1 : ST C k a 7 v) (s2 : ST C a b 7 w) (s3 : ST C b k_q 15 23) (hv : v = T 25 n.toNat + 2 * i) (hw : w = T 25 n.toNat + 2 * i + 1) : SQ C (al2 T n i g) k k_q := by
  subst hv hw
  unfold al2
  rw [if_pos hg]
  exact SQ_c s1 (SQ_c s2 (SQ_c s3 SQ_n))
theorem al2_z {T C : Nat → Nat → Int} {n i g k a k_q v : Int} (hg : T 18 g.toNat ≤ 0) (s1 : ST C k a 7 v) (s3 : ST C a k_q 15 24) (hv : v = T 25 n.toNat + 2 * i) : SQ C (al2 T n i g) k k_q := by
  subst hv
  unfold al2
  rw [if_neg (by omega)]
  exact SQ_c s1 (SQ_c s3 SQ_n)
theorem al3_p {T C : Nat → Nat → Int} {n i g k a b k_q v w : Int} (hg : 0 < T 18 g.toNat) (s1 : ST C k a 7 v) (s2 : ST C a b 7 w) (s3 : ST C b k_q 15 26) (hv : v = T 25 n.toNat + 2 * i) (hw : w = T 25 n.toNat + 2 * i + 1) : SQ C (al3 T n i g) k k_q := by
  subst hv hw
  unfold al3
  rw [if_pos hg]
  exact SQ_c s1 (SQ_c s2 (SQ_c s3 SQ_n))
theorem al3_z {T C : Nat → Nat → Int} {n i g k a k_q v : Int} (hg : T 18 g.toNat ≤ 0) (s1 : ST C k a 7 v) (s3 : ST C a k_q 15 27) (hv : v = T 25 n.toNat + 2 * i) : SQ C (al3 T n i g) k k_q := by
  subst hv
  unfold al3
  rw [if_neg (by omega)]
  exact SQ_c s1 (SQ_c s3 SQ_n)
/-- a guard: its parts -/
theorem gN_nx {T C : Nat → Nat → Int} {F : Int → Int} {nw s0 s k a b c d e u v w : Int} (h0 : s0 ≤ s) (h : gN T C F nw s0 (s - s0).toNat k a) (s1 : ST C a b 4 u) (s2 : ST C b c 4 v) (s3 : ST C c d 1 w) (s4 : ST C d e 15 14) (hu : u = if T 7 s.toNat = 3 ∨ T 7 s.toNat = 4 then -1 else 0) (hv : v = T 8 s.toNat) (hw : w = wd T F nw s) : gN T C F nw s0 (s + 1 - s0).toNat k e := by
  subst hv hw
  have ii : s0 + (((s - s0).toNat : Nat) : Int) = s := by omega
  rw [show (s + 1 - s0).toNat = (s - s0).toNat + 1 by omega]
  refine ⟨a, h, ?_⟩
  rw [ii, ← hu]
  exact SQ_c s1 (SQ_c s2 (SQ_c s3 (SQ_c s4 SQ_n)))
