/-! LINKS: a beat of a link keeps the machine -/
theorem Nxa_y {K : Kd} {N : Int} {ty m : Int → Int} {g : Int → Fm} {A5 A_q : Nat → Nat → Int} {q a : Int} (s : Sby K N) (hq : 0 ≤ q) (h : Nxa K N ty g m A5 q a) (hy : yR A5 A_q q) : Nxa K N ty g m A_q q a := by
  obtain ⟨ty1, g1, h1, h2, h3, h4⟩ := h
  obtain ⟨ty2, g2, k1, k2, k3, k4⟩ := yd_nx s hq h1 h2 hy
  exact ⟨ty2, g2, k1, k2, fun x hx => (k3 x hx).trans (h3 x hx), fun l W l0 l1 n b d => k4 l W l0 l1 (by rw [h3 _ (by omega)]; exact b) (h4 l W l0 l1 n b d)⟩
theorem Lcl_i {p : Int} {A A_q : Nat → Nat → Int} (o : ∀ k : Nat, k ≤ 77 → A_q k = A k) : Lcl p A A_q := ⟨fun n _ => by rw [o 59 (by decide)], fun k _ b _ _ n _ => by rw [o k b], fun n _ => by rw [o 71 (by decide)], fun n _ _ => by rw [o 72 (by decide)], fun k hk => o k (by omega)⟩
theorem SI_h {K : Kd} {N : Int} {ty : Int → Int} {g : Int → Fm} {A A_q : Nat → Nat → Int} {q : Int} (hq : 0 ≤ q) (o : ∀ k : Nat, k ≤ 77 → A_q k = A k) (h : SI K N ty g A q) : SI K N ty g A_q q := SI_l (p := q + 1) (Lcl_i o) (by omega) hq (by omega) h
theorem Nxa_h {K : Kd} {N : Int} {ty : Int → Int} {g : Int → Fm} {A A_q : Nat → Nat → Int} {q a : Int} (hq : 0 ≤ q) (o : ∀ k : Nat, k ≤ 77 → A_q k = A k) (h : SI K N ty g A q) (x : X2 g) : Nxa K N ty g (ldM A q) A_q q a := ⟨ty, g, SI_h hq o h, x, fun _ _ => rfl, fun l W _ _ _ _ d => by rw [ldM_f (o 59 (by decide))]; exact d⟩
/-- one core is told by the link a -/
theorem GS_a0 {K : Int → Kd} {N : Int → Int} {ty : Int → Int → Int} {g : Int → Int → Fm} {A A_q : Nat → Nat → Int} {q a : Int} (hq : 0 ≤ q) (hq5 : q ≤ 5) (a0 : 0 ≤ a) (lc : Lcl q A A_q) (hc : ∀ p, 0 ≤ p → p ≤ 5 → Cor (K p) (N p) (ty p) (g p) A p) (hl : ∀ l, 0 ≤ l → l ≤ 11 → Lnk g A l) (hn : Nxa (K q) (N q) (ty q) (g q) (ldM A q) A_q q a)
    (h80 : a ≤ 11 → A_q 80 a.toNat ≠ 0 → A 80 a.toNat ≠ 0 ∧ A 34 a.toNat ≠ q) (h84 : a ≤ 11 → A_q 84 a.toNat ≠ 0 → A_q 80 a.toNat ≠ 0 ∧ A_q 83 a.toNat ≠ 4) (h83 : a ≤ 11 → A_q 83 a.toNat = 4 → A_q 80 a.toNat ≠ 0) (ho : ∀ n, n ≠ a.toNat → A_q 80 n = A 80 n ∧ A_q 83 n = A 83 n ∧ A_q 84 n = A 84 n) : GS A_q := by
  obtain ⟨ty_q, g_q, k1, k2, k3, k4⟩ := hn
  refine GS_n hq lc hc (Cor_n lc (hc q hq hq5) k1 k2 k3) (fun l l0 l1 => ?_)
  have L := hl l l0 l1
  have key : A 80 l.toNat ≠ 0 → (l = a → A 34 l.toNat ≠ q) → A_q 34 l.toNat ≠ A_q 35 l.toNat ∧ 0 ≤ A_q 34 l.toNat ∧ A_q 34 l.toNat ≤ 5 ∧ ∃ W, Lka (ldM A_q (A_q 34 l.toNat)) (at1 g q g_q (A_q 34 l.toNat)) l W := fun e80 nq => by
    obtain ⟨j1, j2, j3, W, j4⟩ := L.1 e80
    rw [lc.2.2.2.2 34 (by decide), lc.2.2.2.2 35 (by decide)]
    refine ⟨j1, j2, j3, W, ?_⟩
    by_cases n : A 34 l.toNat = q
    · have na : l ≠ a := fun e => nq e n
      rw [n] at j4 ⊢
      rw [at1_e]
      refine k4 l W l0 l1 na ?_ j4
      by_cases b : ty q (-1 - l) / 8 % 2 = 1
      · have := ((hc q hq hq5).2.2.2.1 l l0 l1).2 b
        exact absurd (n.trans this.symm) j1
      · omega
    · rw [at1_n n, ldM_l lc hq j2 n]
      exact j4
  by_cases n : l = a
  · subst n
    exact ⟨fun w => key (h80 l1 w).1 (fun _ => (h80 l1 w).2), h84 l1, h83 l1⟩
  · obtain ⟨o1, o2, o3⟩ := ho l.toNat (by omega)
    refine ⟨fun w => key (by rw [← o1]; exact w) (fun e => absurd e n), ?_, ?_⟩
    · rw [o1, o2, o3]
      exact L.2.1
    · rw [o1, o2]
      exact L.2.2
theorem GS_a {K : Int → Kd} {N : Int → Int} {ty : Int → Int → Int} {g : Int → Int → Fm} {A A_q : Nat → Nat → Int} {q a : Int} (hq : 0 ≤ q) (hq5 : q ≤ 5) (a0 : 0 ≤ a) (lc : Lcl q A A_q) (hc : ∀ p, 0 ≤ p → p ≤ 5 → Cor (K p) (N p) (ty p) (g p) A p) (hl : ∀ l, 0 ≤ l → l ≤ 11 → Lnk g A l) (hn : Nxa (K q) (N q) (ty q) (g q) (ldM A q) A_q q a)
    (h80 : A_q 80 a.toNat ≠ 0 → A 80 a.toNat ≠ 0 ∧ A 34 a.toNat ≠ q) (h84 : A_q 84 a.toNat ≠ 0 → A_q 80 a.toNat ≠ 0 ∧ A_q 83 a.toNat ≠ 4) (h83 : A_q 83 a.toNat = 4 → A_q 80 a.toNat ≠ 0) (ho : ∀ n, n ≠ a.toNat → A_q 80 n = A 80 n ∧ A_q 83 n = A 83 n ∧ A_q 84 n = A 84 n) : GS A_q := GS_a0 hq hq5 a0 lc hc hl hn (fun _ => h80) (fun _ => h84) (fun _ => h83) ho
/-- only what a link says of itself -/
theorem GS_r {A A_q : Nat → Nat → Int} {a : Int} (h : GS A) (a0 : 0 ≤ a) (a1 : a ≤ 11) (o : ∀ k : Nat, k ≤ 77 → A_q k = A k) (e80 : A_q 80 = A 80) (h84 : A_q 84 a.toNat ≠ 0 → A_q 80 a.toNat ≠ 0 ∧ A_q 83 a.toNat ≠ 4) (h83 : A_q 83 a.toNat = 4 → A_q 80 a.toNat ≠ 0) (ho : ∀ n, n ≠ a.toNat → A_q 83 n = A 83 n ∧ A_q 84 n = A 84 n) : GS A_q := by
  obtain ⟨K, N, ty, g, hc, hl⟩ := h
  refine ⟨K, N, ty, g, fun q q0 q1 => Cor_l (p := q + 1) (Lcl_i o) (by omega) q0 (by omega) (hc q q0 q1), fun l l0 l1 => ?_⟩
  have L := hl l l0 l1
  have k : A_q 80 l.toNat ≠ 0 → A_q 34 l.toNat ≠ A_q 35 l.toNat ∧ 0 ≤ A_q 34 l.toNat ∧ A_q 34 l.toNat ≤ 5 ∧ ∃ W, Lka (ldM A_q (A_q 34 l.toNat)) (g (A_q 34 l.toNat)) l W := by
    rw [e80, o 34 (by decide), o 35 (by decide), ldM_f (o 59 (by decide))]
    exact L.1
  by_cases n : l = a
  · subst n
    exact ⟨k, h84, h83⟩
  · obtain ⟨o2, o3⟩ := ho l.toNat (by omega)
    refine ⟨k, ?_, ?_⟩
    · rw [e80, o2, o3]
      exact L.2.1
    · rw [e80, o2]
      exact L.2.2
/-- who is at a channel of the outside that nobody here sends at -/
theorem at_ext {K : Kd} {N : Int} {m ty : Int → Int} {g : Int → Fm} {x : Int} (h : MI K N m ty g) (tx : ty x = 2) (x1 : x < 16) (nb : ty (-1 - x) / 4 % 2 = 0) :
    m x = -1 ∨ ∃ W, Ats m g x W ∧ ((fSx (g W) = 3 ∧ fCh (g W) = x ∧ m (W - 3) = 0 ∧ m (W - 1) = kP K (fSt (g W)) ∧ ∃ v, Cl m W (fQ (g W)) 1 (m (W - 2)) v) ∨ (cMd (fCx (g W)) = 1 ∧ m (W - 3) ≠ 0 ∧ (m (W - 3) = 2 → fSx (g W) = 4) ∧ fSx (g W) ≠ 2 ∧ fSx (g W) ≠ 3)) := by
  rcases h.2.2 x tx with e | ⟨W, a⟩
  · exact Or.inl e
  · refine Or.inr ⟨W, Att_s h a, ?_⟩
    obtain ⟨v, d, k⟩ := Att_c h a
    have a4 := (h.1 W a.1).2.2.2.1
    rcases k with ⟨_, _, k⟩ | ⟨k1, k2, _⟩ | ⟨k1, _⟩
    · exfalso
      rcases ((h.1 W a.1).2.2.1.1 _ _ _ d).2.2.2 with w | ⟨_, w⟩
      · omega
      · have := w.1 k
        omega
    · have b1 := a4.2.2.2.2.2.2.2.2.2.2.1 (Or.inr k1)
      have b2 := a4.2.2.2.2.2.2.2.2.2.2.2.1 (Or.inr (Or.inl k1))
      exact Or.inl ⟨k1, k2, b1.1, b2.2, a4.2.2.2.2.2.2.2.2.2.2.2.2.2.1 k1⟩
    · have b := (a4.2.2.2.2.1 k1).1
      have b1 := a4.2.2.2.2.2.2.2.2.2.2.1
      refine Or.inr ⟨k1, b.1, b.2, fun q => ?_, fun q => ?_⟩
      · exact b.1 (b1 (Or.inl q)).1
      · exact b.1 (b1 (Or.inr q)).1
/-- what comes from outside at x finds none, one that takes, or one in ALT -/
theorem ext_in {K : Kd} {N : Int} {ty : Int → Int} {g : Int → Fm} {A A3 A4 A5 A7 A8 : Nat → Nat → Int} {q x d v t z : Int} (s : Sby K N) (hq : 0 ≤ q) (h : SI K N ty g A q) (hx : X2 g) (tx : ty x = 2) (x0 : 0 ≤ x) (x1 : x < 16) (nb : ty (-1 - x) / 4 % 2 = 0) (o3 : ∀ k : Nat, k ≤ 77 → A3 k = A k) (ld : d = ldM A3 q x) (hd : d ≠ -1) (l3 : v = ldM A3 q (d / 2 - 3)) (hv : v = 0) (l2 : t = ldM A3 q (d / 2 - 2)) (s4 : A4 = stM A3 q t z) (s5 : A5 = stM A4 q x (-1)) (o7 : ∀ k : Nat, k ≤ 77 → A7 k = A5 k) (m : mkR A7 A8 q d) : Nxa K N ty g (ldM A q) A8 q x := by
  have e3 : ldM A3 q = ldM A q := ldM_f (o3 59 (by decide))
  rw [e3] at ld l3 l2
  have hM := h.1.1
  rcases at_ext hM tx x1 nb with w | ⟨W, y, w⟩
  · exact absurd (ld.trans w) hd
  have y' := y
  obtain ⟨y1, y2, y3, y4, y5, y6, y7, y8⟩ := y'
  have dv : d / 2 = W := by rw [ld, y3]; omega
  rw [dv] at l3 l2
  rcases w with ⟨k1, k2, k3, k4, u, k5⟩ | ⟨_, k2, _⟩
  · obtain ⟨c1, c2, c3, c4, c5, c6⟩ := hM.1 W y1
    have cl := c3.1 _ _ _ k5
    rw [← l2] at cl
    have t16 : 16 ≤ t := by
      rcases cl.2.2.2 with w | ⟨w, _⟩
      · exact w
      · exact absurd w (by decide)
    have em : ldM A7 q = um (um (ldM A q) t z) x (-1) := by
      rw [ldM_f (o7 59 (by decide)), s5, ld_um hq x0 (by omega), s4, ld_um hq cl.2.1 (by have := cl.2.2.1; omega), e3]
    have o : ∀ k : Nat, 60 ≤ k → k ≤ 77 → A7 k = A k := fun k k1 k2 => by
      rw [o7 k k2, s5, stM_ne (by omega), s4, stM_ne (by omega), o3 k k2]
    rw [ld, y3] at m
    exact ext_rdy s hq h hx y (Or.inr k1) k2 k4 tx (Or.inr ⟨t, z, cl.1, t16, em⟩) o m
  · exact absurd (l3.symm.trans hv) k2
theorem ext_al {K : Kd} {N : Int} {ty : Int → Int} {g : Int → Fm} {A A3 A4 : Nat → Nat → Int} {q x d v : Int} (s : Sby K N) (hq : 0 ≤ q) (h : SI K N ty g A q) (hx : X2 g) (tx : ty x = 2) (x1 : x < 16) (nb : ty (-1 - x) / 4 % 2 = 0) (o3 : ∀ k : Nat, k ≤ 77 → A3 k = A k) (ld : d = ldM A3 q x) (hd : d ≠ -1) (l3 : v = ldM A3 q (d / 2 - 3)) (hv : v ≠ 0) (k : wkR A3 A4 q d) : Nxa K N ty g (ldM A q) A4 q x := by
  have e3 : ldM A3 q = ldM A q := ldM_f (o3 59 (by decide))
  rw [e3] at ld l3
  have hM := h.1.1
  rcases at_ext hM tx x1 nb with w | ⟨W, y, w⟩
  · exact absurd (ld.trans w) hd
  have y' := y
  obtain ⟨y1, y2, y3, y4, y5, y6, y7, y8⟩ := y'
  have dv : d / 2 = W := by rw [ld, y3]; omega
  rw [dv] at l3
  rcases w with ⟨_, _, k3, _⟩ | ⟨k1, k2, k3, k4⟩
  · exact absurd (l3.trans k3) hv
  · rw [ld, y3] at k
    exact ext_wk s hq h hx y k1 k3 k4 (fun k _ k2 => o3 k k2) k
theorem Cn_o {A B : Nat → Nat → Int} {K : Kd} {N : Int} {ty : Int → Int} {g : Int → Fm} {q : Int} (h : SI K N ty g A q) (e : B 72 = A 72) : Cn B q := Cn_s (SI_cn h) e
theorem Nxa_cn {K : Kd} {N : Int} {ty m : Int → Int} {g : Int → Fm} {A : Nat → Nat → Int} {q a : Int} (h : Nxa K N ty g m A q a) : Cn A q := by
  obtain ⟨ty1, g1, h1, _⟩ := h
  exact SI_cn h1
theorem uA_78 {A B : Nat → Nat → Int} {k i : Nat} {v : Int} (e : B = uA A k i v) (hk : 78 ≤ k) : ∀ j : Nat, j ≤ 77 → B j = A j := fun j hj => by
  rw [e]
  exact uA_ne (by omega)
theorem uA_o {A B : Nat → Nat → Int} {k i : Nat} {v : Int} (e : B = uA A k i v) : B k i = v ∧ (∀ n, n ≠ i → B k n = A k n) ∧ ∀ j, j ≠ k → B j = A j := by
  subst e
  exact ⟨uA_eq, fun n hn => uA_ni hn, fun j hj => uA_ne hj⟩
theorem GS_bt {A A_q : Nat → Nat → Int} {l : Int} (l0 : 0 ≤ l) (l1 : l ≤ 11) (ft : 0 ≤ A 35 l.toNat ∧ A 35 l.toNat ≤ 5) (h : GS A) (hb : btR A A_q l) : GS A_q := by
  have h_q := h
  obtain ⟨K, N, ty, g, hc, hl⟩ := h_q
  have L := hl l l0 l1
  have ext : ∀ {A1 A2 A3 : Nat → Nat → Int} {to1 x c : Int}, A 35 l.toNat = to1 → A 80 l.toNat ≠ 0 → A1 = uA A 85 l.toNat 0 → A2 = uA A1 82 l.toNat x → A3 = uA A2 83 l.toNat c → (0 ≤ to1 ∧ to1 ≤ 5) ∧ A 34 l.toNat ≠ to1 ∧ (∀ k : Nat, k ≤ 77 → A3 k = A k) ∧ A3 80 = A 80 ∧ A3 83 l.toNat = c ∧ (∀ n, n ≠ l.toNat → A3 83 n = A 83 n) ∧ A3 84 = A 84 ∧ ty to1 l = 2 ∧ ty to1 (-1 - l) / 4 % 2 = 0 := fun {A1 A2 A3 to1 x c} e35 h8 e1 e2 e3 => by
    obtain ⟨x1, x2, x3⟩ := uA_o e1
    obtain ⟨y1, y2, y3⟩ := uA_o e2
    obtain ⟨z1, z2, z3⟩ := uA_o e3
    have n := (L.1 h8).1
    have t5 : 0 ≤ to1 ∧ to1 ≤ 5 := by omega
    have c := hc to1 t5.1 t5.2
    refine ⟨t5, by omega, fun k hk => by rw [z3 k (by omega), y3 k (by omega), x3 k (by omega)], by rw [z3 80 (by decide), y3 80 (by decide), x3 80 (by decide)], z1, fun n hn => by rw [z2 n hn, y3 83 (by decide), x3 83 (by decide)], by rw [z3 84 (by decide), y3 84 (by decide), x3 84 (by decide)], c.2.2.2.2.2 l l0 (by omega), ?_⟩
    by_cases b : ty to1 (-1 - l) / 4 % 2 = 1
    · have := ((c.2.2.2.1 l l0 l1).1 b).1
      omega
    · omega
  rcases hb with ⟨fr, d, A1, A2, A3, A4, A5, hf, h, e1, h4, ld, s2, e3, e4, m, y⟩ | ⟨A1, h, e1, e⟩ | ⟨h, e⟩ | ⟨x, c, A1, A2, A3, h, h8, e1, e2, e3, hc4, e⟩ | ⟨to1, d, x, c, A1, A2, A3, ht, h, h8, e1, e2, e3, ld, hd, y⟩ | ⟨to1, d, x, c, b, v, A1, A2, A3, A4, ht, h, h8, e1, e2, e3, ld, hd, hb, l3, hv, k, y⟩ | ⟨to1, d, x, c, b, v, b2, t, z, A1, A2, A3, A4, A5, A6, A7, A8, ht, h, h8, e1, e2, e3, ld, hd, hb, l3, hv, hb2, l2, s4, s5, e6, e7, m, y⟩
  · obtain ⟨n80, n83⟩ := L.2.1 h
    obtain ⟨j1, j2, j3, W, j4⟩ := L.1 n80
    rw [hf] at j1 j2 j3 j4
    obtain ⟨st, si, x2, bt⟩ := hc fr j2 j3
    obtain ⟨x1', x2', x3'⟩ := uA_o e1
    obtain ⟨y1', y2', y3'⟩ := uA_o e3
    obtain ⟨z1', z2', z3'⟩ := uA_o e4
    have em0 : ldM A1 fr = ldM A fr := ldM_f (x3' 59 (by decide))
    have em : ldM A4 fr = um (ldM A fr) l (-1) := by
      rw [ldM_f (z3' 59 (by decide)), ldM_f (y3' 59 (by decide)), s2, ld_um j2 l0 (by omega), em0]
    have o : ∀ k : Nat, 60 ≤ k → k ≤ 77 → A4 k = A k := fun k k1 k2 => by
      rw [z3' k (by omega), y3' k (by omega), s2, stM_ne (by omega), x3' k (by omega)]
    have hM := si.1.1
    have hV := Att_s hM (x := l) (W := W) ⟨j4.1, j4.2.1, j4.2.2.2.2, Or.inl ⟨Or.inl j4.2.2.1, j4.2.2.2.1⟩⟩
    have a4 := (hM.1 W j4.1).2.2.2.1
    have b2 := a4.2.2.2.2.2.2.2.2.2.2.2.1 (Or.inl j4.2.2.1)
    rw [ld, em0, j4.2.1] at m
    have nx := Nxa_y st.1 j2 (ext_rdy st.1 j2 si x2 hV (Or.inl j4.2.2.1) j4.2.2.2.1 b2.2 (bt.2.2 l l0 (by omega)) (Or.inl em) o m) y
    have c4 : Cn A4 fr := Cn_o si (o 72 (by decide) (by decide))
    have l5 := Lh_mk j2 c4 m
    have n5 := ext_rdy st.1 j2 si x2 hV (Or.inl j4.2.2.1) j4.2.2.2.1 b2.2 (bt.2.2 l l0 (by omega)) (Or.inl em) o m
    have l6 := Lh_y j2 (Nxa_cn n5) y
    have lh := Lh_t l5 l6
    have lc : Lcl fr A A_q := Lcl_t (Lcl_t (Lcl_t (Lcl_t (Lcl_h e1 (by decide)) (Lh_st j2 s2).1) (Lcl_h e3 (by decide))) (Lcl_h e4 (by decide))) lh.1
    have r80 : A_q 80 = A3 80 := by rw [lh.2 80 (by decide), z3' 80 (by decide)]
    have r83 : A_q 83 = A 83 := by rw [lh.2 83 (by decide), z3' 83 (by decide), y3' 83 (by decide), s2, stM_ne (by decide), x3' 83 (by decide)]
    have r84 : A_q 84 = A1 84 := by rw [lh.2 84 (by decide), z3' 84 (by decide), y3' 84 (by decide), s2, stM_ne (by decide)]
    refine GS_a j2 j3 l0 lc hc hl nx ?_ ?_ ?_ (fun n hn => ⟨?_, ?_, ?_⟩)
    · rw [r80, y1']
      exact fun w => absurd rfl w
    · rw [r84, x1']
      exact fun w => absurd rfl w
    · rw [r83]
      exact fun w => absurd w n83
    · rw [r80, y2' n hn, s2, stM_ne (by decide), x3' 80 (by decide)]
    · rw [r83]
    · rw [r84, x2' n hn]
  · obtain ⟨x1', x2', x3'⟩ := uA_o e1
    obtain ⟨y1', y2', y3'⟩ := uA_o e
    refine GS_r (a := l) ‹GS A› l0 l1 (fun k hk => by rw [y3' k (by omega), x3' k (by omega)]) (by rw [y3' 80 (by decide), x3' 80 (by decide)]) ?_ ?_ (fun n hn => ⟨by rw [y3' 83 (by decide), x3' 83 (by decide)], by rw [y3' 84 (by decide), x2' n hn]⟩)
    · rw [y3' 84 (by decide), x1']
      exact fun w => absurd rfl w
    · rw [y3' 83 (by decide), x3' 83 (by decide), y3' 80 (by decide), x3' 80 (by decide)]
      exact L.2.2
  · rw [e]
    exact ‹GS A›
  · obtain ⟨x1', x2', x3'⟩ := uA_o e1
    obtain ⟨y1', y2', y3'⟩ := uA_o e2
    obtain ⟨z1', z2', z3'⟩ := uA_o e3
    obtain ⟨w1', w2', w3'⟩ := uA_o e
    have r80 : A_q 80 = A 80 := by rw [w3' 80 (by decide), z3' 80 (by decide), y3' 80 (by decide), x3' 80 (by decide)]
    refine GS_r (a := l) ‹GS A› l0 l1 (fun k hk => by rw [w3' k (by omega), z3' k (by omega), y3' k (by omega), x3' k (by omega)]) r80 ?_ ?_ (fun n hn => ⟨by rw [w3' 83 (by decide), z2' n hn, y3' 83 (by decide), x3' 83 (by decide)], by rw [w2' n hn, z3' 84 (by decide), y3' 84 (by decide), x3' 84 (by decide)]⟩)
    · rw [r80, w3' 83 (by decide), z1']
      exact fun _ => ⟨h8, by omega⟩
    · rw [r80]
      exact fun _ => h8
  · obtain ⟨t5, n34, o3, r80, r83, q83, r84, tl, nb⟩ := ext ht h8 e1 e2 e3
    obtain ⟨st, si, x2, bt⟩ := hc to1 t5.1 t5.2
    have n3 : Nxa (K to1) (N to1) (ty to1) (g to1) (ldM A to1) A3 to1 l := Nxa_h t5.1 o3 si x2
    have lh := Lh_y t5.1 (Nxa_cn n3) y
    refine GS_a t5.1 t5.2 l0 (Lcl_t (Lcl_i o3) lh.1) hc hl (Nxa_y st.1 t5.1 n3 y) (fun _ => ⟨h8, n34⟩) ?_ ?_ (fun n hn => ⟨?_, ?_, ?_⟩)
    · rw [lh.2 84 (by decide), r84]
      exact fun w => absurd h w
    · rw [lh.2 80 (by decide), r80]
      exact fun _ => h8
    · rw [lh.2 80 (by decide), r80]
    · rw [lh.2 83 (by decide), q83 n hn]
    · rw [lh.2 84 (by decide), r84]
  · obtain ⟨t5, n34, o3, r80, r83, q83, r84, tl, nb⟩ := ext ht h8 e1 e2 e3
    obtain ⟨st, si, x2, bt⟩ := hc to1 t5.1 t5.2
    rw [hb] at l3
    have n4 := ext_al st.1 t5.1 si x2 tl (by omega) nb o3 ld hd l3 hv k
    have lk := Lh_wk t5.1 (Cn_o si (o3 72 (by decide))) k
    have lh := Lh_t lk (Lh_y t5.1 (Nxa_cn n4) y)
    refine GS_a t5.1 t5.2 l0 (Lcl_t (Lcl_i o3) lh.1) hc hl (Nxa_y st.1 t5.1 n4 y) (fun _ => ⟨h8, n34⟩) ?_ ?_ (fun n hn => ⟨?_, ?_, ?_⟩)
    · rw [lh.2 84 (by decide), r84]
      exact fun w => absurd h w
    · rw [lh.2 80 (by decide), r80]
      exact fun _ => h8
    · rw [lh.2 80 (by decide), r80]
    · rw [lh.2 83 (by decide), q83 n hn]
    · rw [lh.2 84 (by decide), r84]
  · obtain ⟨t5, n34, o3, r80, r83, q83, r84, tl, nb⟩ := ext ht h8 e1 e2 e3
    obtain ⟨st, si, x2, bt⟩ := hc to1 t5.1 t5.2
    obtain ⟨x1', x2', x3'⟩ := uA_o e6
    obtain ⟨y1', y2', y3'⟩ := uA_o e7
    rw [hb] at l3
    rw [hb2] at l2
    have o7 : ∀ k : Nat, k ≤ 77 → A7 k = A5 k := fun k hk => by rw [y3' k (by omega), x3' k (by omega)]
    have n8 := ext_in st.1 t5.1 si x2 tl l0 (by omega) nb o3 ld hd l3 hv l2 s4 s5 o7 m
    have e72 : A7 72 = A 72 := by rw [o7 72 (by decide), s5, stM_ne (by decide), s4, stM_ne (by decide), o3 72 (by decide)]
    have lm := Lh_mk t5.1 (Cn_o si e72) m
    have lh := Lh_t lm (Lh_y t5.1 (Nxa_cn n8) y)
    have lc : Lcl to1 A A_q := Lcl_t (Lcl_t (Lcl_t (Lcl_t (Lcl_t (Lcl_i o3) (Lh_st t5.1 s4).1) (Lh_st t5.1 s5).1) (Lcl_h e6 (by decide))) (Lcl_h e7 (by decide))) lh.1
    have q80 : A_q 80 = A 80 := by rw [lh.2 80 (by decide), y3' 80 (by decide), x3' 80 (by decide), s5, stM_ne (by decide), s4, stM_ne (by decide), r80]
    have q83' : A_q 83 = A6 83 := by rw [lh.2 83 (by decide), y3' 83 (by decide)]
    have q84 : A_q 84 = A7 84 := by rw [lh.2 84 (by decide)]
    refine GS_a t5.1 t5.2 l0 lc hc hl (Nxa_y st.1 t5.1 n8 y) (fun _ => ⟨h8, n34⟩) ?_ ?_ (fun n hn => ⟨?_, ?_, ?_⟩)
    · rw [q80, q83', x1']
      exact fun _ => ⟨h8, by decide⟩
    · rw [q80]
      exact fun _ => h8
    · rw [q80]
    · rw [q83', x2' n hn, s5, stM_ne (by decide), s4, stM_ne (by decide), q83 n hn]
    · rw [q84, y2' n hn, x3' 84 (by decide), s5, stM_ne (by decide), s4, stM_ne (by decide), r84]
