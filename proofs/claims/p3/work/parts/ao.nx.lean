/-! ONE BYTE KEEPS THE STATE -/
/-- the links: as they were, or a word was taken -/
def Lk2 (A A_q : Nat → Nat → Int) : Prop := (A_q 80 = A 80 ∧ A_q 83 = A 83 ∧ A_q 84 = A 84) ∨ ∃ a : Int, 0 ≤ a ∧ a ≤ 11 ∧ A 83 a.toNat = 4 ∧ A_q 80 = A 80 ∧ A_q 83 a.toNat = 0 ∧ A_q 84 a.toNat = 1 ∧ (∀ n, n ≠ a.toNat → A_q 83 n = A 83 n ∧ A_q 84 n = A 84 n)
/-- the code lies in the bytes of core p -/
def Cby (K : Kd) (N : Int) (A : Nat → Nat → Int) (p : Int) : Prop := ∀ j i, 0 ≤ j → j < N → 0 ≤ i → i < kP K (j + 1) - kP K j → A 53 (6000 * p + (kP K j + i)).toNat = byt (kF K j) (kV K j) (kP K (j + 1) - kP K j) i
theorem byt_b {fn v L j : Int} (h0 : 0 ≤ fn) (h1 : fn ≤ 15) : 0 ≤ byt fn v L j ∧ byt fn v L j ≤ 255 := by
  unfold byt
  split
  · omega
  · split <;> omega
theorem prt_16 {v L i : Int} : prt v L i % 16 = 0 := by
  unfold prt
  split <;> omega
theorem prt_b {v L i : Int} (h0 : -2147483648 ≤ v) (h1 : v ≤ 2147483647) (hi : i ≤ L - 1) : -2147483648 ≤ prt v L i ∧ prt v L i ≤ 2147483647 := by
  unfold prt
  split
  · omega
  · have e : (L - i).toNat = (L - i).toNat - 1 + 1 := by omega
    rw [e, div_16]
    have p1 := p16_p ((L - i).toNat - 1)
    have u0 : 0 ≤ uu v ∧ uu v ≤ 2147483647 := by
      unfold uu
      split <;> omega
    have d1 : uu v / p16 ((L - i).toNat - 1) ≤ uu v := Int.ediv_le_self _ u0.1
    have d0 : 0 ≤ uu v / p16 ((L - i).toNat - 1) := Int.ediv_nonneg u0.1 (by omega)
    omega
section
variable {K : Kd} {N : Int} {ty : Int → Int} {g : Int → Fm} {A A_q : Nat → Nat → Int} {p r : Int}
/-- only registers and places change: who is ready is as it was -/
theorem SK_reg (h : SK K N ty g A p) (o : ∀ k, k = 59 ∨ (71 ≤ k ∧ k ≤ 77) → A_q k = A k) : SK K N ty g A_q p := by
  unfold SK Asd rw0 at h ⊢
  rw [ldM_f (p := p) (o 59 (Or.inl rfl)), o 71 (Or.inr (by decide)), o 72 (Or.inr (by decide)), o 73 (Or.inr (by decide)), o 74 (Or.inr (by decide)), o 75 (Or.inr (by decide)), o 76 (Or.inr (by decide)), o 77 (Or.inr (by decide))]
  exact h
/-- the byte that was taken -/
theorem fetch {ri ro x1 x2 : Int} {A1 A2 A3 A4 : Nat → Nat → Int} (e1 : A1 = uA A 63 p.toNat (ri + 1)) (e2 : A2 = uA A1 69 p.toNat x1) (e3 : A3 = uA A2 70 p.toNat x2) (e4 : A4 = uA A3 65 p.toNat ro) : A4 63 p.toNat = ri + 1 ∧ A4 65 p.toNat = ro ∧ ∀ k, k ≠ 63 → k ≠ 65 → k ≠ 69 → k ≠ 70 → A4 k = A k := by
  refine ⟨?_, ?_, fun k k1 k2 k3 k4 => ?_⟩
  · rw [e4, uA_ne (by decide), e3, uA_ne (by decide), e2, uA_ne (by decide), e1, uA_eq]
  · rw [e4, uA_eq]
  · rw [e4, uA_ne k2, e3, uA_ne k4, e2, uA_ne k3, e1, uA_ne k1]
theorem ob_nx {it im om : Int} (s : Sby K N) (kb : Kb K) (kr : Kr K N) (kv : ∀ j, -2147483648 ≤ kV K j ∧ kV K j ≤ 2147483647) (hp : 0 ≤ p) (hI : Ib A) (cb : Cby K N A p) (h : SI K N ty g A p) (x : X2 g) (hn : A 66 p.toNat ≠ -1) (ho : obR A A_q it im om p) :
    (Lk2 A A_q ∧ Nxs K N ty g (ldM A p) A_q p) ∨ ∃ a r g_q, 0 ≤ a ∧ a ≤ 11 ∧ ty (-1 - a) / 4 % 2 = 1 ∧ SI K N ty g_q A_q p ∧ X2 g_q ∧ Lst ty (ldM A p) g (ldM A_q p) g_q ∧ Lka (ldM A_q p) g_q a r ∧ A_q 80 a.toNat = 1 ∧ (∀ n, n ≠ a.toNat → A_q 80 n = A 80 n) ∧ A_q 83 = A 83 ∧ A_q 84 = A 84 := by
  obtain ⟨hS, ⟨q1, _⟩ | ⟨r, ⟨z1, z2, z3, z4, z5, z6, z7⟩, u⟩⟩ := h
  · exact absurd q1 hn
  obtain ⟨a1, a2, a3, a4, a5, a6⟩ := hS.1.1 r z1
  have cn : Cn A p := ⟨hS.2.1.1, by have := Rdy_le hS.1 (by decide) (by decide) hS.2.1; omega, hS.2.2.1.1, by have := Rdy_le hS.1 (by decide) (by decide) hS.2.2.1; omega⟩
  have lk0 : (∀ k, k = 80 ∨ k = 83 ∨ k = 84 → A_q k = A k) → Lk2 A A_q := fun q => Or.inl ⟨q 80 (by decide), q 83 (by decide), q 84 (by decide)⟩
  have gs : Gs K N (fun _ _ => False) (fSt (g r)) (fCx (g r)) := by
    rcases Gd_o a4.1 with ⟨_, _, q⟩ | q
    · exact q.elim
    · exact q
  obtain ⟨j0, j1, e0, S0, w0, R0, _⟩ := gs
  have sj := s _ j0 j1
  rcases z5 with ⟨i, i0, i1, eI, eO⟩ | ⟨eI, eO, d1, d2, d3, d4, d5, d6, d7⟩
  · obtain ⟨L, hL⟩ : ∃ L, L = kP K (fSt (g r) + 1) - kP K (fSt (g r)) := ⟨_, rfl⟩
    rw [← hL] at i1 eO sj
    have rf := Rul_f R0
    have hbyte := cb _ i j0 j1 i0 (by omega)
    rw [← hL] at hbyte
    have bb := byt_b (v := kV K (fSt (g r))) (L := L) (j := i) rf.2.2.1 rf.2.2.2
    have bh := byt_h (v := kV K (fSt (g r))) (L := L) (j := i) rf.2.2.1 rf.2.2.2
    have pb := prt_b (L := L) (i := i) (kv (fSt (g r))).1 (kv (fSt (g r))).2 (by omega)
    have pm := prt_16 (v := kV K (fSt (g r))) (L := L) (i := i)
    have dec : ∀ {ri ro b fn q o : Int}, A 63 p.toNat = ri → A 65 p.toNat = ro → A 53 (6000 * p + ri).toNat = b → fn = (i32 b >>> (i32 4 &&& 31)).toInt → q = (i32 b &&& i32 15).toInt → o = (i32 ro ||| i32 q).toInt → b = byt (kF K (fSt (g r))) (kV K (fSt (g r))) L i ∧ fn = b / 16 ∧ q = b % 16 ∧ o = prt (kV K (fSt (g r))) L i + q := fun hi ho' hb hf hq hoo => by
      rw [← hi, eI, hbyte] at hb
      have eb := hb.symm
      have ef : _ = _ := hf.trans (shr_4 (by omega) (by omega))
      have eq : _ = _ := hq.trans (and_nib (by omega) (by omega))
      refine ⟨eb, ef, eq, ?_⟩
      rw [← ho', eO] at hoo
      rw [hoo, or_nib pb.1 pb.2 pm (by omega) (by omega)]
    by_cases last : i = L - 1
    · obtain ⟨f1, f2⟩ := bh.1 last
      have pl := prt_l (v := kV K (fSt (g r))) (L := L)
      rw [← last] at pl
      have mk : ∀ {ri x1 x2 : Int} {A1 A2 A3 A4 : Nat → Nat → Int}, A 63 p.toNat = ri → A1 = uA A 63 p.toNat (ri + 1) → A2 = uA A1 69 p.toNat x1 → A3 = uA A2 70 p.toNat x2 → A4 = uA A3 65 p.toNat 0 → SF K N ty g A4 p r ∧ ldM A4 p = ldM A p ∧ A4 60 p.toNat = A 60 p.toNat := fun hi e1 e2 e3 e4 => by
        obtain ⟨t1, t2, t3⟩ := fetch e1 e2 e3 e4
        have em := ldM_f (p := p) (t3 59 (by decide) (by decide) (by decide) (by decide))
        refine ⟨⟨SK_reg hS (fun k hk => t3 k (by omega) (by omega) (by omega) (by omega)), x, ⟨z1, z2, ?_, ?_, ?_, t2, ?_, ?_⟩, u⟩, em, by rw [t3 60 (by decide) (by decide) (by decide) (by decide)]⟩
        · rw [t3 66 (by decide) (by decide) (by decide) (by decide)]
          exact z3
        · rw [t3 64 (by decide) (by decide) (by decide) (by decide)]
          exact z4
        · rw [t1, ← hi, eI]
          omega
        · rw [em, t3 60 (by decide) (by decide) (by decide) (by decide), t3 61 (by decide) (by decide) (by decide) (by decide), t3 62 (by decide) (by decide) (by decide) (by decide)]
          exact z6
        · rw [t3 73 (by decide) (by decide) (by decide) (by decide)]
          exact z7
      have ib : ∀ {ri x1 x2 : Int} {A1 A2 A3 A4 : Nat → Nat → Int}, A1 = uA A 63 p.toNat (ri + 1) → A2 = uA A1 69 p.toNat x1 → A3 = uA A2 70 p.toNat x2 → A4 = uA A3 65 p.toNat 0 → Ib A4 := fun e1 e2 e3 e4 k n k1 k2 => by
        obtain ⟨t1, t2, t3⟩ := fetch e1 e2 e3 e4
        rw [t3 k (by omega) (by omega) (by omega) (by omega)]
        exact hI k n k1 k2
      rcases ho with ⟨ri, ro, b, x1, x2, fn, q, o, v, A1, A2, A3, hi, ho', hb, e1, e2, e3, hf, hq, hoo, h2, hv, e⟩ | ⟨ri, ro, b, x1, x2, fn, q, o, o2, v, A1, A2, A3, hi, ho', hb, e1, e2, e3, hf, hq, hoo, h2, ho2, hv, e⟩ | ⟨ri, ro, b, x1, x2, fn, q, o, A1, A2, A3, A4, hi, ho', hb, e1, e2, e3, hf, hq, hoo, h2, e4, k⟩ | ⟨ri, ro, b, x1, x2, fn, q, o, A1, A2, A3, A4, hi, ho', hb, e1, e2, e3, hf, hq, hoo, h2, e4, k⟩
      · obtain ⟨y1, y2, y3, y4⟩ := dec hi ho' hb hf hq hoo
        rw [← y1] at f1
        omega
      · obtain ⟨y1, y2, y3, y4⟩ := dec hi ho' hb hf hq hoo
        rw [← y1] at f1
        omega
      · obtain ⟨y1, y2, y3, y4⟩ := dec hi ho' hb hf hq hoo
        rw [← y1] at f1 f2
        have eo : o = kV K (fSt (g r)) := by omega
        have ef : kF K (fSt (g r)) = 15 := by omega
        rw [eo] at k
        obtain ⟨hF, em, e60⟩ := mk hi e1 e2 e3 e4
        obtain ⟨e, S, _, _, hF1, L1, R, hs⟩ := SF_rul hF
        have res := step_op (g := ug g r (mv (g r) (fSt (g r)) e)) s kb kr hp (ib e1 e2 e3 e4) hF1 (by rw [ug_e]; exact j0) (by rw [ug_e]; exact j1) (S := S) (by rw [ug_e]; exact R) hs (by rw [ug_e]; exact ef) (by rw [ug_e]; exact k)
        obtain ⟨t1, t2, t3⟩ := fetch e1 e2 e3 e4
        obtain ⟨_, lk⟩ := op_l hp (Cn_s cn (t3 72 (by decide) (by decide) (by decide) (by decide))) k
        unfold Lk3 at lk
        rw [t3 80 (by decide) (by decide) (by decide) (by decide), t3 83 (by decide) (by decide) (by decide) (by decide), t3 84 (by decide) (by decide) (by decide) (by decide), e60] at lk
        rw [ug_e] at res
        rcases res with ⟨nn, nx⟩ | ⟨k21, a, g_q, w1, w2, w3, w4, w5, w6, w7, w8⟩
        · rw [em] at nx L1
          refine Or.inl ⟨?_, Nxs_t L1 nx⟩
          rcases lk with y | ⟨y0, a, y1, y2, y3, _⟩ | ⟨_, y⟩
          · exact Or.inl y.2
          · obtain ⟨a_q, n1, n2⟩ := nn y0
            rw [e60] at n1
            exact absurd ⟨by omega, by omega⟩ n2
          · exact Or.inr y
        · rw [em] at w7 L1
          rw [e60] at w1
          have k21' : kV K (fSt (g r)) = 21 := k21
          refine Or.inr ⟨a, r, g_q, w2, w3, w4, w5, w6, Lst_t L1 (fun _ _ => rfl) w7, w8, ?_⟩
          rcases lk with ⟨y1, _⟩ | ⟨y0, a_q, y1, y2, y3, y7, y4, y5, y6⟩ | ⟨y0, _⟩
          · exact absurd ⟨by omega, by omega⟩ (y1 k21')
          · rw [show a_q = a by omega] at y4 y7
            exact ⟨y7, y4, y5, y6⟩
          · omega
      · obtain ⟨y1, y2, y3, y4⟩ := dec hi ho' hb hf hq hoo
        rw [← y1] at f1 f2
        have eo : o = kV K (fSt (g r)) := by omega
        have ef : fn = kF K (fSt (g r)) := by omega
        rw [eo, ef] at k
        obtain ⟨hF, em, e60⟩ := mk hi e1 e2 e3 e4
        obtain ⟨e, S, _, _, hF1, L1, R, hs⟩ := SF_rul hF
        have nx := step_ac (g := ug g r (mv (g r) (fSt (g r)) e)) s kb hp (ib e1 e2 e3 e4) hF1 (S := S) (by rw [ug_e]; exact R) hs (by rw [ug_e]; show kF K (fSt (g r)) ≠ 15; omega) (by rw [ug_e]; exact k)
        rw [em] at nx L1
        obtain ⟨t1, t2, t3⟩ := fetch e1 e2 e3 e4
        have lh := (Lh_ac hp (Cn_s cn (t3 72 (by decide) (by decide) (by decide) (by decide))) (by rw [t3 66 (by decide) (by decide) (by decide) (by decide)]; exact hn) k).2
        exact Or.inl ⟨lk0 (fun k hk => (lh k (by omega)).trans (t3 k (by omega) (by omega) (by omega) (by omega))), Nxs_t L1 nx⟩
    · obtain ⟨f1, f2⟩ := bh.2 last
      obtain ⟨n1, n2⟩ := prt_n (v := kV K (fSt (g r))) (L := L) (i := i) i0 (by omega) _ rfl
      have pb1 := prt_b (L := L) (i := i + 1) (kv (fSt (g r))).1 (kv (fSt (g r))).2 (by omega)
      have fin : ∀ {ri x1 x2 v : Int} {A1 A2 A3 : Nat → Nat → Int}, A 63 p.toNat = ri → A1 = uA A 63 p.toNat (ri + 1) → A2 = uA A1 69 p.toNat x1 → A3 = uA A2 70 p.toNat x2 → A_q = uA A3 65 p.toNat v → v = prt (kV K (fSt (g r))) L (i + 1) → Lk2 A A_q ∧ Nxs K N ty g (ldM A p) A_q p := fun hi e1 e2 e3 e4 hv => by
        obtain ⟨t1, t2, t3⟩ := fetch e1 e2 e3 e4
        refine ⟨lk0 (fun k hk => t3 k (by omega) (by omega) (by omega) (by omega)), ?_⟩
        have em := ldM_f (p := p) (t3 59 (by decide) (by decide) (by decide) (by decide))
        refine ⟨ty, g, ⟨SK_reg hS (fun k hk => t3 k (by omega) (by omega) (by omega) (by omega)), Or.inr ⟨r, ⟨z1, z2, ?_, ?_, Or.inl ⟨i + 1, by omega, by omega, ?_, ?_⟩, ?_, ?_⟩, u⟩⟩, x, fun _ _ => rfl, fun l W _ _ _ d => by rw [em]; exact d⟩
        · rw [t3 66 (by decide) (by decide) (by decide) (by decide)]
          exact z3
        · rw [t3 64 (by decide) (by decide) (by decide) (by decide)]
          exact z4
        · rw [t1, ← hi, eI]
          omega
        · rw [t2, hv, hL]
        · rw [em, t3 60 (by decide) (by decide) (by decide) (by decide), t3 61 (by decide) (by decide) (by decide) (by decide), t3 62 (by decide) (by decide) (by decide) (by decide)]
          exact z6
        · rw [t3 73 (by decide) (by decide) (by decide) (by decide)]
          exact z7
      rcases ho with ⟨ri, ro, b, x1, x2, fn, q, o, v, A1, A2, A3, hi, ho', hb, e1, e2, e3, hf, hq, hoo, h2, hv, e⟩ | ⟨ri, ro, b, x1, x2, fn, q, o, o2, v, A1, A2, A3, hi, ho', hb, e1, e2, e3, hf, hq, hoo, h2, ho2, hv, e⟩ | ⟨ri, ro, b, x1, x2, fn, q, o, A1, A2, A3, A4, hi, ho', hb, e1, e2, e3, hf, hq, hoo, h2, e4, k⟩ | ⟨ri, ro, b, x1, x2, fn, q, o, A1, A2, A3, A4, hi, ho', hb, e1, e2, e3, hf, hq, hoo, h2, e4, k⟩
      · obtain ⟨y1, y2, y3, y4⟩ := dec hi ho' hb hf hq hoo
        rw [← y1] at f1 f2
        have nn : ¬ (kV K (fSt (g r)) < 0 ∧ i = L - 2) := fun w => by
          rw [if_pos w] at f1
          omega
        have m := n1 nn
        rw [← f2] at m
        refine Or.inl (fin hi e1 e2 e3 e ?_)
        rw [hv, shl_4w (by omega) (by omega) (by omega) (by omega)]
        omega
      · obtain ⟨y1, y2, y3, y4⟩ := dec hi ho' hb hf hq hoo
        rw [← y1] at f1 f2
        have nn : kV K (fSt (g r)) < 0 ∧ i = L - 2 := by
          by_cases w : kV K (fSt (g r)) < 0 ∧ i = L - 2
          · exact w
          · rw [if_neg w] at f1
            omega
        have m := n2 nn
        rw [← f2] at m
        have eo2 : o2 = -o - 1 := ho2.trans (not_1 (by omega) (by omega))
        refine Or.inl (fin hi e1 e2 e3 e ?_)
        rw [hv, shl_4w (by omega) (by omega) (by omega) (by omega)]
        omega
      · obtain ⟨y1, y2, y3, y4⟩ := dec hi ho' hb hf hq hoo
        rw [← y1] at f1
        split at f1 <;> omega
      · obtain ⟨y1, y2, y3, y4⟩ := dec hi ho' hb hf hq hoo
        rw [← y1] at f1
        split at f1 <;> omega
  · have sj' := s (fSt (g r) - 1) d7 (by omega)
    rw [show fSt (g r) - 1 + 1 = fSt (g r) by omega] at sj'
    have hbyte := cb (fSt (g r) - 1) (kP K (fSt (g r)) - kP K (fSt (g r) - 1) - 1) d7 (by omega) (by omega) (by rw [show fSt (g r) - 1 + 1 = fSt (g r) by omega]; omega)
    rw [show fSt (g r) - 1 + 1 = fSt (g r) by omega, d5, d6] at hbyte
    have h252 : byt 15 28 (kP K (fSt (g r)) - kP K (fSt (g r) - 1)) (kP K (fSt (g r)) - kP K (fSt (g r) - 1) - 1) = 252 := by
      unfold byt
      rw [if_pos rfl]
      rfl
    rw [h252] at hbyte
    have dec : ∀ ri ro b fn q o : Int, A 63 p.toNat = ri → A 65 p.toNat = ro → A 53 (6000 * p + ri).toNat = b → fn = (i32 b >>> (i32 4 &&& 31)).toInt → q = (i32 b &&& i32 15).toInt → o = (i32 ro ||| i32 q).toInt → fn = 15 ∧ o = 12 := fun ri ro b fn q o hi ho' hb hf hq hoo => by
      have eb : b = 252 := by
        rw [← hb, ← hi, eI, show kP K (fSt (g r)) - 1 = kP K (fSt (g r) - 1) + (kP K (fSt (g r)) - kP K (fSt (g r) - 1) - 1) by omega]
        exact hbyte
      have ef : _ = _ := hf.trans (shr_4 (by omega) (by omega))
      have eq : _ = _ := hq.trans (and_nib (by omega) (by omega))
      refine ⟨by omega, ?_⟩
      rw [← ho', eO] at hoo
      rw [hoo, or_nib (by decide) (by decide) (by decide) (by omega) (by omega)]
      omega
    rcases ho with ⟨ri, ro, b, x1, x2, fn, q, o, v, A1, A2, A3, hi, ho', hb, e1, e2, e3, hf, hq, hoo, h2, hv, e⟩ | ⟨ri, ro, b, x1, x2, fn, q, o, o2, v, A1, A2, A3, hi, ho', hb, e1, e2, e3, hf, hq, hoo, h2, ho2, hv, e⟩ | ⟨ri, ro, b, x1, x2, fn, q, o, A1, A2, A3, A4, hi, ho', hb, e1, e2, e3, hf, hq, hoo, h2, e4, k⟩ | ⟨ri, ro, b, x1, x2, fn, q, o, A1, A2, A3, A4, hi, ho', hb, e1, e2, e3, hf, hq, hoo, h2, e4, k⟩
    · have := dec _ _ _ _ _ _ hi ho' hb hf hq hoo
      omega
    · have := dec _ _ _ _ _ _ hi ho' hb hf hq hoo
      omega
    · obtain ⟨y1, y2⟩ := dec _ _ _ _ _ _ hi ho' hb hf hq hoo
      obtain ⟨t1, t2, t3⟩ := fetch e1 e2 e3 e4
      rcases opR_f12 k y2 with ⟨a, b_q, _, hA, hB, hc, e⟩ | ⟨a, b_q, B1, _, hA, hB, hc, t, e⟩
      · have oo : ∀ k, k ≠ 60 → k ≠ 61 → A_q k = A4 k := fun k k1 k2 => by
          rw [e]
          exact take_c.2.2 k k1 k2
        have o : ∀ k, k ≠ 60 → k ≠ 61 → k ≠ 63 → k ≠ 65 → k ≠ 69 → k ≠ 70 → A_q k = A k := fun k k1 k2 k3 k4 k5 k6 => by
          rw [oo k k1 k2, t3 k k3 k4 k5 k6]
        have em := ldM_f (p := p) (o 59 (by decide) (by decide) (by decide) (by decide) (by decide) (by decide))
        refine Or.inl ⟨lk0 (fun k hk => o k (by omega) (by omega) (by omega) (by omega) (by omega) (by omega)), ty, g, ⟨SK_reg hS (fun k hk => o k (by omega) (by omega) (by omega) (by omega) (by omega) (by omega)), Or.inr ⟨r, ⟨z1, z2, ?_, ?_, Or.inl ?_, ?_, ?_⟩, u⟩⟩, x, fun _ _ => rfl, fun l W _ _ _ d => by rw [em]; exact d⟩
        · rw [o 66 (by decide) (by decide) (by decide) (by decide) (by decide) (by decide)]
          exact z3
        · rw [o 64 (by decide) (by decide) (by decide) (by decide) (by decide) (by decide)]
          exact z4
        · rw [oo 63 (by decide) (by decide), oo 65 (by decide) (by decide), t1, t2, ← hi, eI, show kP K (fSt (g r)) - 1 + 1 = kP K (fSt (g r)) by omega]
          exact Pos_0 s a4.1
        · unfold Rgs
          show Rok _ _ _ (fCx (g r)).2.2.1.1 _ ∧ Rok _ _ _ (fCx (g r)).2.2.1.2.1 _ ∧ Rok _ _ _ (fCx (g r)).2.2.1.2.2 _
          rw [d2]
          exact ⟨Rok_0, Rok_0, Rok_0⟩
        · rw [o 73 (by decide) (by decide) (by decide) (by decide) (by decide) (by decide)]
          exact z7
      · obtain ⟨c1, c2⟩ := fault_c (A := B1) (p := p)
        rw [← e] at c1 c2
        have o : ∀ k, k ≠ 60 → k ≠ 61 → k ≠ 63 → k ≠ 65 → k ≠ 66 → k ≠ 67 → k ≠ 69 → k ≠ 70 → A_q k = A k := fun k k1 k2 k3 k4 k7 k8 k5 k6 => by
          rw [c2 k k7 k8, t, take_c.2.2 k k1 k2, t3 k k3 k4 k5 k6]
        have em := ldM_f (p := p) (o 59 (by decide) (by decide) (by decide) (by decide) (by decide) (by decide) (by decide) (by decide))
        refine Or.inl ⟨lk0 (fun k hk => o k (by omega) (by omega) (by omega) (by omega) (by omega) (by omega) (by omega) (by omega)), ty, ug g r fo, ⟨SK_own hS z2 ?_ (Oky_e em) (o 71 (by decide) (by decide) (by decide) (by decide) (by decide) (by decide) (by decide) (by decide)) (o 72 (by decide) (by decide) (by decide) (by decide) (by decide) (by decide) (by decide) (by decide)) (o 73 (by decide) (by decide) (by decide) (by decide) (by decide) (by decide) (by decide) (by decide)) (o 74 (by decide) (by decide) (by decide) (by decide) (by decide) (by decide) (by decide) (by decide)) (o 75 (by decide) (by decide) (by decide) (by decide) (by decide) (by decide) (by decide) (by decide)) (o 76 (by decide) (by decide) (by decide) (by decide) (by decide) (by decide) (by decide) (by decide)) (o 77 (by decide) (by decide) (by decide) (by decide) (by decide) (by decide) (by decide) (by decide)) (fun q => absurd q (show ¬ (0 : Int) = 1 by decide)), Or.inl ⟨c1, fun W w1 w2 => ?_⟩⟩, X2_own x z1 z2 (fun q => absurd q (show ¬ (0 : Int) = 1 by decide)) (fun q _ => absurd q (show ¬ (0 : Int) = 2 by decide)), fun _ _ => rfl, Lst_own (by omega) (fun l _ _ _ _ => by rw [em])⟩
        · rw [em]
          exact MI_off hS.1 z1 d4 (by omega) rfl (fun y => Att_0 z2 (by omega)) (fun _ _ => rfl) (fun _ _ _ => Or.inl rfl)
        · by_cases n : W = r
          · subst n
            rw [ug_e] at w1
            exact absurd w1 (show ¬ (0 : Int) = 1 by decide)
          · rw [ug_n n] at w1 w2
            exact n (u W w1 w2)
    · have := dec _ _ _ _ _ _ hi ho' hb hf hq hoo
      omega
end
