/-! the code of a processor: all PROCs, then its process -/
/-- what the reader's rows say of the PROCs, one behind the other -/
def CW (T : Nat → Nat → Int) (L Sx : Nat → Int) (pc : Int) : Prop := L 0 = 1 ∧ ∀ q : Nat, (q : Int) < pc → ∃ V : Nat → Prop, QV T q V (Sx q) ∧ QA T q V (L q) (L (q + 1)) (Sx q) (Sx (q + 1))
theorem wQ_cw {A : Nat → Nat → Int} : ∀ {Q : Nat} {hi s1 : Int}, wQ A Q hi s1 → ∃ L Sx : Nat → Int, L Q = hi ∧ Sx Q = s1 ∧ CW A L Sx (Q : Int)
  | 0, hi, s1, h => by
    obtain ⟨h1, h2⟩ := h
    exact ⟨fun _ => hi, fun _ => s1, rfl, rfl, h1, fun q hq => by omega⟩
  | Q + 1, hi, s1, h => by
    obtain ⟨lo, s0, V, h1, h2, h3, h4, h5, h6, h7, h8, h9, h10, h11, h12, h13⟩ := h
    obtain ⟨L, Sx, g1, g2, g3, g4⟩ := wQ_cw h1
    refine ⟨fun q => if q = Q + 1 then hi else L q, fun q => if q = Q + 1 then s1 else Sx q, if_pos rfl, if_pos rfl, ?_, fun q hq => ?_⟩
    · show (if 0 = Q + 1 then hi else L 0) = 1
      rw [if_neg (by omega)]
      exact g3
    · simp only
      rw [if_neg (show ¬ q = Q + 1 by omega), if_neg (show ¬ q = Q + 1 by omega)]
      by_cases hc : q = Q
      · subst hc
        rw [if_pos rfl, if_pos rfl, g1, g2]
        exact ⟨V, h12, h2, h3, h4, h5, h6, h7, h10, h11, h13⟩
      · rw [if_neg (by omega), if_neg (by omega)]
        exact g4 q (by omega)
/-- kinds of what is seen at a PROC's begin -/
theorem QV_k {T : Nat → Nat → Int} {q : Nat} {V : Nat → Prop} {s0 : Int} (h : QV T q V s0) (hM : wM T (s0 + 1) (T 30 q)) (h0 : 0 ≤ s0) {s : Nat} (hs : V s) : T 7 s ≠ 10 ∧ (T 7 s ≤ 9 → ∃ j : Nat, (j : Int) < T 30 q ∧ (s : Int) = s0 + 1 + (j : Int)) := by
  rcases h s hs with g | g | g
  · have := g.2
    exact ⟨by omega, fun w => by omega⟩
  · have := g.2
    exact ⟨by omega, fun w => by omega⟩
  · have m := (hM (s : Int) g.1 g.2)
    have m2 := m.2.1
    rw [show ((s : Int)).toNat = s by omega] at m2
    exact ⟨by omega, fun w => ⟨((s : Int) - s0 - 1).toNat, by omega, by omega⟩⟩
theorem QV_vw {T : Nat → Nat → Int} {q : Nat} {V : Nat → Prop} {s0 : Int} (h : QV T q V s0) (hM : wM T (s0 + 1) (T 30 q)) (h0 : 0 ≤ s0) (h6 : T 30 q ≤ 6) (h29 : T 29 q = s0 + 1) (hw : ∀ k : Nat, (k : Int) < T 30 q → T 9 (T 29 q + (k : Int)).toNat = 1 + (k : Int) ∧ T 10 (T 29 q + (k : Int)).toNat = 0) : VW T V 0 := fun s hs hk => by
  obtain ⟨j, h1, h2⟩ := (QV_k h hM h0 hs).2 hk
  have := hw j h1
  rw [h29, show (s0 + 1 + (j : Int)).toNat = s by omega] at this
  omega
theorem QV_vb {T : Nat → Nat → Int} {q : Nat} {V : Nat → Prop} {s0 : Int} (h : QV T q V s0) (h0 : 2 ≤ s0) (h30 : 0 ≤ T 30 q) : VB V (s0 + 1 + T 30 q) := fun s hs => by
  rcases h s hs with g | g | g
  · have := g.1
    omega
  · omega
  · omega
theorem SA_v {T : Nat → Nat → Int} {V : Nat → Prop} {S : Int → Int} {A : Nat → Nat → Int} (h : ∀ s, V s → T 7 s ≠ 10) : SA T V S A := fun s _ h2 h3 => absurd h3 (h _ h2)
/-- the labels of PROCs -/
def Qf (pc : Int) : Int → Int := fun q => if 0 ≤ q ∧ q < pc then q + 1 else 0
theorem PA_pe {pc pb : Int} {A : Nat → Nat → Int} (h : PE 52 (fun j => j + 1) 0 pc A) (hb : pb ≤ pc) : PA (Qf pc) pb A := fun q h1 h2 => by
  have := h q h1 (by omega)
  rw [show (0 : Int) + q = q by omega] at this
  rw [this]
  exact (if_pos ⟨h1, by omega⟩).symm
theorem PV_su {T : Nat → Nat → Int} {a b : Int} (h : PV T a) (hb : b ≤ a) : PV T b := fun q h1 h2 => h q h1 (by omega)
/-- the code of the PROCs before q -/
def gPR (T C : Nat → Nat → Int) (pc : Int) : Nat → Int → Int → Int → Prop
  | 0, k, k_q, l1 => k_q = k ∧ l1 = pc
  | q + 1, k, k_q, l1 => ∃ a b c m : Int, pc ≤ m ∧ m ≤ l1 ∧ gPR T C pc q k a m ∧ C 50 (q + 1) = a ∧ ST C a b 11 (-(T 32 q) - 3) ∧ gP T C (Qf pc) 18 (fun _ => 0) (fun _ => 0) 0 (T 31 q) b c m l1 ∧ SQ C [(11, T 32 q + 3), (15, 19)] c k_q
theorem gPR_le {T C : Nat → Nat → Int} {pc : Int} : ∀ {q : Nat} {k k_q l1 : Int}, gPR T C pc q k k_q l1 → k ≤ k_q ∧ pc ≤ l1
  | 0, _, _, _, h => ⟨Int.le_of_eq h.1.symm, Int.le_of_eq h.2.symm⟩
  | q + 1, k, k_q, l1, h => by
    obtain ⟨a, b, c, m, h1, h2, h3, h4, h5, h6, h7⟩ := h
    have := gPR_le h3
    have := ST_le h5
    have := gP_le h6
    have := SQ_le h7
    omega
theorem gPR_mv {T C C_q : Nat → Nat → Int} {pc K z : Int} : ∀ {q : Nat} {k k_q l1 : Int}, (q : Int) ≤ pc → z ≤ 0 → Cg K z l1 C C_q → k_q ≤ K → gPR T C pc q k k_q l1 → gPR T C_q pc q k k_q l1
  | 0, _, _, _, _, _, _, _, h => h
  | q + 1, k, k_q, l1, hq, hz, g, hk, h => by
    obtain ⟨a, b, c, m, h1, h2, h3, h4, h5, h6, h7⟩ := h
    have := gP_le h6
    have := SQ_le h7
    have := ST_le h5
    refine ⟨a, b, c, m, h1, h2, gPR_mv (by omega) hz (Cg_su g (Int.le_refl _) (Int.le_refl _) h2) (by omega) h3, ?_, ST_mv g (by omega) h5, gP_mv (Cg_su g (Int.le_refl _) (by omega) (Int.le_refl _)) (by omega) h6, SQ_mv g hk h7⟩
    rw [g.2 (q + 1) (by omega) (by omega)]
    exact h4
/-- bundled, for carrying -/
def gPq (T C : Nat → Nat → Int) (pc q k k_q z l1 : Int) : Prop := 0 ≤ q ∧ q ≤ pc ∧ z = 0 ∧ gPR T C pc q.toNat k k_q l1
theorem gPq_mv {T C C_q : Nat → Nat → Int} {K pc q k k_q z l1 : Int} (g : Cg K z l1 C C_q) (hk : k_q ≤ K) (h : gPq T C pc q k k_q z l1) : gPq T C_q pc q k k_q z l1 := by
  obtain ⟨h1, h2, h3, h4⟩ := h
  exact ⟨h1, h2, h3, gPR_mv (by omega) (by omega) g hk h4⟩
theorem gPq_0 {T C : Nat → Nat → Int} {pc q k k_q z l1 : Int} (hq : q = 0) (hp : 0 ≤ pc) (hk : k_q = k) (hz : z = 0) (hl : l1 = pc) : gPq T C pc q k k_q z l1 := by
  subst hq
  exact ⟨Int.le_refl _, hp, hz, hk, hl⟩
theorem gPR_set {T C C_q : Nat → Nat → Int} {pc z v : Int} (e : C_q = uA C 50 z.toNat v) (h0 : 0 ≤ z) (hz : z ≤ pc) : ∀ {q : Nat} {k k_q l1 : Int}, (q : Int) < z → gPR T C pc q k k_q l1 → gPR T C_q pc q k k_q l1
  | 0, _, _, _, _, h => h
  | q + 1, k, k_q, l1, hq, h => by
    obtain ⟨a, b, c, m, h1, h2, h3, h4, h5, h6, h7⟩ := h
    have s : ∀ K u v, pc ≤ u → Cg K u v C C_q := fun K u v hu => Cg_set e h0 (.inl (by omega))
    refine ⟨a, b, c, m, h1, h2, gPR_set e h0 hz (by omega) h3, ?_, ST_mv (s _ pc pc (Int.le_refl _)) (Int.le_refl _) h5, gP_mv (s _ _ _ h1) (Int.le_refl _) h6, SQ_mv (s _ pc pc (Int.le_refl _)) (Int.le_refl _) h7⟩
    rw [e, uA_ni (by omega)]
    exact h4
theorem gPq_set {T C C_q : Nat → Nat → Int} {pc q k k_q z0 l1 z v : Int} (e : C_q = uA C 50 z.toNat v) (hz : z = q + 1) (hq : q < pc) (h : gPq T C pc q k k_q z0 l1) : gPq T C_q pc q k k_q z0 l1 := by
  obtain ⟨h1, h2, h3, h4⟩ := h
  exact ⟨h1, h2, h3, gPR_set e (by omega) (by omega) (by omega) h4⟩
theorem gPq_nx {T C : Nat → Nat → Int} {pc q q_q k a b c d e z l1 m u v y w : Int} (h : gPq T C pc q k a z m) (hq_q : q_q = q + 1) (hq : q < pc) (hm : m ≤ l1) (hL : LZ C y a w pc) (hy : y = q + 1) (s1 : ST C a b 11 u) (hu : u = -(T 32 q.toNat) - 3) (hp : gP T C (Qf pc) 18 (fun _ => 0) (fun _ => 0) 0 (T 31 q.toNat) b c m l1) (s2 : ST C c d 11 v) (hv : v = T 32 q.toNat + 3) (s3 : ST C d e 15 19) : gPq T C pc q_q k e z l1 := by
  obtain ⟨h1, h2, h3, h4⟩ := h
  subst hq_q hu hv hy
  refine ⟨by omega, by omega, h3, ?_⟩
  rw [show (q + 1).toNat = q.toNat + 1 by omega]
  refine ⟨a, b, c, m, (gPR_le h4).2, hm, h4, ?_, s1, hp, SQ_c s2 (SQ_c s3 SQ_n)⟩
  have := hL.2.2.2
  rw [show (q + 1).toNat = q.toNat + 1 by omega] at this
  exact this
/-- the whole code of the processor p; bg: where its process begins -/
def gM (T C : Nat → Nat → Int) (pc p bg st lb : Int) : Prop := ∃ c m : Int, m ≤ lb ∧ lb ≤ 19998 ∧ gPR T C pc pc.toNat 0 bg m ∧ gP T C (Qf pc) 18 (fun _ => 0) (fun _ => 0) 0 (T 36 p.toNat) bg c m lb ∧ ST C c st 15 31
theorem gPR_pos {T C : Nat → Nat → Int} {pc : Int} : ∀ {q : Nat} {k k_q l1 : Int}, gPR T C pc q k k_q l1 → ∀ j : Nat, j < q → k ≤ C 50 (j + 1) ∧ C 50 (j + 1) ≤ k_q
  | 0, _, _, _, _, j, hj => absurd hj (by omega)
  | q + 1, k, k_q, l1, h, j, hj => by
    obtain ⟨a, b, c, m, h1, h2, h3, h4, h5, h6, h7⟩ := h
    have := (gPR_le h3).1
    have := ST_le h5
    have := gP_le h6
    have := SQ_le h7
    by_cases e : j = q
    · subst e
      omega
    · have := gPR_pos h3 j (by omega)
      omega
theorem gPR_lb {T C : Nat → Nat → Int} {pc N : Int} (hQ : ∀ q, 0 < Qf pc q → Lb C N (Qf pc q)) : ∀ {q : Nat} {k k_q l1 : Int}, l1 ≤ 19999 → 0 ≤ k → k_q ≤ N → gPR T C pc q k k_q l1 → LR C N k k_q
  | 0, _, _, _, _, _, _, h => LR_nil h.1
  | q + 1, k, k_q, l1, hl, h0, hN, h => by
    obtain ⟨a, b, c, m, h1, h2, h3, h4, h5, h6, h7⟩ := h
    have := (gPR_le h3).1
    have := ST_le h5
    have := gP_le h6
    have := SQ_le h7
    exact LR_tr (LR_tr (LR_tr (gPR_lb hQ (by omega) h0 (by omega) h3) (ST_lb h5)) (gP_lb hQ hl (by omega) (by omega) h6)) (SQ_lb h7 rfl)
theorem gM_lr {T C : Nat → Nat → Int} {pc p bg st lb : Int} (h : gM T C pc p bg st lb) : LR C st 0 st := by
  obtain ⟨c, m, h1, h2, h3, h4, h5⟩ := h
  have e3 := gPR_le h3
  have e4 := gP_le h4
  have e5 := ST_le h5
  have hQ : ∀ q, 0 < Qf pc q → Lb C st (Qf pc q) := fun q hq => by
    by_cases w : 0 ≤ q ∧ q < pc
    · have e : Qf pc q = q + 1 := if_pos w
      rw [e]
      have := gPR_pos h3 q.toNat (by omega)
      rw [show q.toNat + 1 = (q + 1).toNat by omega] at this
      exact ⟨by omega, by omega, by omega⟩
    · have e : Qf pc q = 0 := if_neg w
      omega
  exact LR_tr (LR_tr (gPR_lb hQ (by omega) (Int.le_refl _) (by omega) h3) (gP_lb hQ (by omega) (by omega) (by omega) h4)) (ST_lb h5)
/-- the bytes of the steps before k are written -/
def DW (C A : Nat → Nat → Int) (p k : Int) : Prop := ∀ j : Int, 0 ≤ j → j < k → BYw A (6000 * p + C 49 j.toNat) (C 48 j.toNat) (C 44 j.toNat) (vl C j) (-1)
theorem DW_0 {C A : Nat → Nat → Int} {p k : Int} (h : k ≤ 0) : DW C A p k := fun j h1 h2 => by omega
theorem AT_mo {C : Nat → Nat → Int} {n : Int} (h : AT C n) (hl : LN C n) : ∀ {j i : Nat}, i ≤ j → (j : Int) ≤ n → C 49 i ≤ C 49 j := fun {j} => by
  induction j with
  | zero =>
    intro i hi _
    have : i = 0 := by omega
    subst this
    exact Int.le_refl _
  | succ j ih =>
    intro i hi hn
    by_cases q : i = j + 1
    · subst q
      exact Int.le_refl _
    · have a := ih (i := i) (by omega) (by omega)
      have b := h.2 j (by omega)
      have c := hl j (by omega)
      omega
theorem DW_nx {C A A_q : Nat → Nat → Int} {p k k_q n lo hi : Int} (h : DW C A p k) (f : Fo [53] lo hi A A_q) (hlo : lo = 6000 * p + C 49 k.toNat) (h0 : 0 ≤ k) (hn : k < n) (hk : k_q = k + 1) (hp : 0 ≤ p) (hat : AT C n) (hl : LN C n) (hb : BYw A_q (6000 * p + C 49 k.toNat) (C 48 k.toNat) (C 44 k.toNat) (vl C k) (-1)) : DW C A_q p k_q := fun j h1 h2 i g1 g2 => by
  by_cases q : j = k
  · subst q
    exact hb i g1 g2
  · have a := hat.2 j.toNat (by omega)
    have b := AT_mo hat hl (i := j.toNat + 1) (j := k.toNat) (by omega) (by omega)
    have c := AT_mo hat hl (i := 0) (j := j.toNat) (by omega) (by omega)
    have d := hat.1
    rw [f 53 (6000 * p + C 49 j.toNat + i).toNat rfl (by omega)]
    exact h j h1 (by omega) i g1 g2
theorem vl_fr {A A_q : Nat → Nat → Int} {k : Int} (e45 : A_q 45 = A 45) (e46 : A_q 46 = A 46) (e47 : A_q 47 = A 47) (e49 : A_q 49 = A 49) (e50 : A_q 50 = A 50) : vl A_q k = vl A k := by
  unfold vl wy
  rw [e45, e46, e47, e49, e50]
/-- a processor's code lies in the bytes -/
def CP (T A : Nat → Nat → Int) (pc p : Int) : Prop := ∃ (C : Nat → Nat → Int) (st bg lb : Int), gM T C pc p bg st lb ∧ AT C st ∧ LN C st ∧ FI C st ∧ FK C st st ∧ C 49 st.toNat ≤ 6000 ∧ A 54 p.toNat = C 49 st.toNat ∧ A 55 p.toNat = C 49 bg.toNat ∧ DW C A p st ∧ ∀ n, (-2147483648 ≤ C 49 n ∧ C 49 n ≤ 2147483647) ∧ -2147483648 ≤ C 45 n ∧ C 45 n ≤ 2147483647
theorem gPq_end {T C : Nat → Nat → Int} {pc q k k_q z l1 : Int} (h : gPq T C pc q k k_q z l1) (e : q = pc) : gPR T C pc pc.toNat k k_q l1 := by
  subst e
  exact h.2.2.2
theorem CW_mo {T : Nat → Nat → Int} {L Sx : Nat → Int} {pc : Int} (h : CW T L Sx pc) : ∀ {j i : Nat}, i ≤ j → (j : Int) ≤ pc → 1 ≤ L i ∧ L i ≤ L j ∧ Sx i ≤ Sx j := fun {j} => by
  induction j with
  | zero =>
    intro i hi _
    have : i = 0 := by omega
    subst this
    have := h.1
    omega
  | succ j ih =>
    intro i hi hn
    obtain ⟨V, _, g⟩ := h.2 j (by omega)
    have g1 := g.1
    have g2 := g.2.1
    have g3 := g.2.2.1
    have g4 := g.2.2.2.1
    have g5 := g.2.2.2.2.2.1
    by_cases q : i = j + 1
    · subst q
      omega
    · have := ih (i := i) (by omega) (by omega)
      omega
/-- the next PROC -/
theorem CW_hd {T : Nat → Nat → Int} {L Sx : Nat → Int} {pc q gm : Int} (h : CW T L Sx pc) (hM : MQa T T pc 1) (h0 : 0 ≤ q) (hq : q < pc) (hg : gm = L q.toNat) : ∃ (V : Nat → Prop) (m1 s0 s1 : Int), m1 = L (q + 1).toNat ∧ 1 ≤ gm ∧ gm ≤ m1 ∧ m1 ≤ L pc.toNat ∧ 2 ≤ s0 ∧ s1 ≤ Sx pc.toNat ∧ 0 ≤ T 30 q.toNat ∧ s0 + 1 + T 30 q.toNat ≤ s1 ∧ VW T V 0 ∧ (∀ s, V s → T 7 s ≠ 10) ∧ VB V (s0 + 1 + T 30 q.toNat) ∧ wP T s1 q 18 V (T 31 q.toNat) gm m1 (s0 + 1 + T 30 q.toNat) s1 ∧ lP T 18 (T 31 q.toNat) (1 + T 30 q.toNat) 0 (T 32 q.toNat) (T 33 q.toNat) ∧ 1 + T 30 q.toNat ≤ T 32 q.toNat ∧ 0 ≤ T 33 q.toNat ∧ T 32 q.toNat + T 33 q.toNat + 3 ≤ 4000 := by
  obtain ⟨V, g0, g1, g2, g3, g4, g5, g6, g7, g8, g9⟩ := h.2 q.toNat (by omega)
  obtain ⟨⟨l1, l2, l3, l4, l5, l6⟩, l7⟩ := hM q.toNat (by omega)
  have l7 := l7 rfl
  have m := CW_mo h (i := q.toNat + 1) (j := pc.toNat) (by omega) (by omega)
  refine ⟨V, L (q.toNat + 1), Sx q.toNat, Sx (q.toNat + 1), by rw [show (q + 1).toNat = q.toNat + 1 by omega], by omega, by omega, m.2.1, g3, m.2.2, g4, g6, QV_vw g0 g8 (by omega) g5 g7 l6, fun s hs => (QV_k g0 g8 (by omega) hs).1, QV_vb g0 g3 g4, ?_, l1, l2, l4, l7⟩
  rw [hg]
  rw [show ((q.toNat : Nat) : Int) = q by omega] at g9
  exact g9
theorem PV_mq {T : Nat → Nat → Int} {L Sx : Nat → Int} {pc : Int} (h : CW T L Sx pc) (hM : MQa T T pc 1) : PV T pc := fun q h1 h2 => by
  obtain ⟨V, g0, g1, g2, g3, g4, g5, g6, g7, g8, g9⟩ := h.2 q.toNat (by omega)
  obtain ⟨⟨l1, l2, l3, l4, l5, l6⟩, l7⟩ := hM q.toNat (by omega)
  have l7 := l7 rfl
  exact ⟨by omega, by omega, fun j hj => ⟨(l6 j hj).1, by omega⟩⟩
theorem Cg_eq {K l0 l1 : Int} {C C_q : Nat → Nat → Int} (e44 : C_q 44 = C 44) (e45 : C_q 45 = C 45) (e46 : C_q 46 = C 46) (e47 : C_q 47 = C 47) (e50 : C_q 50 = C 50) : Cg K l0 l1 C C_q := ⟨fun r j hr _ => by
  have := List.elem_iff.mp hr
  simp only [List.mem_cons, List.not_mem_nil, or_false] at this
  rcases this with rfl | rfl | rfl | rfl
  · rw [e44]
  · rw [e45]
  · rw [e46]
  · rw [e47], fun j _ _ => by rw [e50]⟩
theorem gM_fr {T C C_q : Nat → Nat → Int} {pc p bg st lb : Int} (e44 : C_q 44 = C 44) (e45 : C_q 45 = C 45) (e46 : C_q 46 = C 46) (e47 : C_q 47 = C 47) (e50 : C_q 50 = C 50) (hp : 0 ≤ pc) (h : gM T C pc p bg st lb) : gM T C_q pc p bg st lb := by
  obtain ⟨c, m, h1, h2, h3, h4, h5⟩ := h
  have g : ∀ K l0 l1, Cg K l0 l1 C C_q := fun K l0 l1 => Cg_eq e44 e45 e46 e47 e50
  exact ⟨c, m, h1, h2, gPR_mv (z := 0) (by omega) (Int.le_refl _) (g _ _ _) (Int.le_refl _) h3, gP_mv (g _ _ _) (Int.le_refl _) h4, ST_mv (g _ 0 0) (Int.le_refl _) h5⟩
/-- all about a processor's code, as far as the step k is written -/
def CQ (T A : Nat → Nat → Int) (pc p bg st lb k : Int) : Prop := gM T A pc p bg st lb ∧ AT A st ∧ LN A st ∧ FI A st ∧ FK A st st ∧ A 49 st.toNat ≤ 6000 ∧ A 54 p.toNat = A 49 st.toNat ∧ A 55 p.toNat = A 49 bg.toNat ∧ DW A A p k
theorem CQ_cp {T A : Nat → Nat → Int} {pc p bg st lb k : Int} (h : CQ T A pc p bg st lb k) (hk : st ≤ k) (hb : ∀ n, (-2147483648 ≤ A 49 n ∧ A 49 n ≤ 2147483647) ∧ -2147483648 ≤ A 45 n ∧ A 45 n ≤ 2147483647) : CP T A pc p := by
  obtain ⟨h1, h2, h3, h4, h5, h6, h7, h8, h9⟩ := h
  exact ⟨A, st, bg, lb, h1, h2, h3, h4, h5, h6, h7, h8, fun j g1 g2 => h9 j g1 (by omega), hb⟩
theorem CQ_6 {T A : Nat → Nat → Int} {pc p bg st lb k j : Int} (h : CQ T A pc p bg st lb k) (h0 : 0 ≤ j) (hj : j < st) : 0 ≤ A 49 j.toNat ∧ A 49 j.toNat + A 48 j.toNat ≤ 6000 := by
  obtain ⟨h1, h2, h3, h4, h5, h6, h7, h8, h9⟩ := h
  have a := h2.2 j.toNat (by omega)
  have b := AT_mo h2 h3 (i := j.toNat + 1) (j := st.toNat) (by omega) (by omega)
  have c := AT_mo h2 h3 (i := 0) (j := j.toNat) (by omega) (by omega)
  have d := h2.1
  omega
theorem CQ_0 {T A1 A : Nat → Nat → Int} {pc p bg st lb k : Int} (hp : 0 ≤ pc) (e44 : A 44 = A1 44) (e45 : A 45 = A1 45) (e46 : A 46 = A1 46) (e47 : A 47 = A1 47) (e48 : A 48 = A1 48) (e49 : A 49 = A1 49) (e50 : A 50 = A1 50) (h1 : gM T A1 pc p bg st lb) (h2 : LN A1 st) (h3 : FI A1 st) (h4 : FK A1 st st) (h5 : A 49 st.toNat ≤ 6000) (h6 : A 54 p.toNat = A 49 st.toNat) (h7 : A 55 p.toNat = A 49 bg.toNat) (hk : k ≤ 0) : CQ T A pc p bg st lb k := by
  refine ⟨gM_fr e44 e45 e46 e47 e50 hp h1, ?_, LN_fr e48 h2, FI_fr e45 e46 e48 h3, ⟨?_, fun j hj q => ?_⟩, h5, h6, h7, DW_0 hk⟩
  · unfold AT
    rw [e48, e49]
    exact h4.1
  · unfold AT
    rw [e48, e49]
    exact h4.1
  · rw [e46] at q
    rw [e48]
    unfold wy
    rw [e46, e47, e49, e50]
    exact h4.2 j hj q
theorem CQ_nx {T A A_q : Nat → Nat → Int} {G G_q : Nat → Int} {gs as : List Nat} {pc p bg st lb k k_q lo hi : Int} (hF : Fr gs as G A G_q A_q) (hd : [44, 45, 46, 47, 48, 49, 50, 54, 55].all (fun k => !as.elem k) = true) (f : Fo [53] lo hi A A_q) (hlo : lo = 6000 * p + A 49 k.toNat) (h0 : 0 ≤ k) (hn : k < st) (hk : k_q = k + 1) (hp : 0 ≤ p) (hpc : 0 ≤ pc) (hb : BYw A_q (6000 * p + A 49 k.toNat) (A 48 k.toNat) (A 44 k.toNat) (vl A k) (-1)) (h : CQ T A pc p bg st lb k) : CQ T A_q pc p bg st lb k_q := by
  have e : ∀ r, [44, 45, 46, 47, 48, 49, 50, 54, 55].elem r = true → A_q r = A r := fun r hr => hF.2 r (by
    have := List.all_eq_true.mp hd r (List.elem_iff.mp hr)
    simpa using this)
  have e44 := e 44 rfl
  have e45 := e 45 rfl
  have e46 := e 46 rfl
  have e47 := e 47 rfl
  have e48 := e 48 rfl
  have e49 := e 49 rfl
  have e50 := e 50 rfl
  obtain ⟨h1, h2, h3, h4, h5, h6, h7, h8, h9⟩ := h
  have d := DW_nx (k_q := k_q) h9 f hlo h0 hn hk hp h2 h3 hb
  have q := CQ_0 (T := T) (p := p) (k := 0) hpc e44 e45 e46 e47 e48 e49 e50 h1 h3 h4 h5 (by rw [e49]; exact h6) (by rw [e 54 rfl, e49]; exact h7) (by rw [e 55 rfl, e49]; exact h8) (Int.le_refl _)
  obtain ⟨q1, q2, q3, q4, q5, q6, q7, q8, _⟩ := q
  refine ⟨q1, q2, q3, q4, q5, q6, q7, q8, fun j j1 j2 i i1 i2 => ?_⟩
  rw [e44, e48, e49, vl_fr e45 e46 e47 e49 e50]
  rw [e48] at i2
  exact d j j1 j2 i i1 i2
