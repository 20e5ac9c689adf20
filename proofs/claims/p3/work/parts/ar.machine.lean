/-! THE WHOLE MACHINE: six cores and the links between them -/
theorem Nxs_c {K : Kd} {N : Int} {ty m : Int → Int} {g : Int → Fm} {A5 A_q : Nat → Nat → Int} {p : Int} (h : Nxs K N ty g m A5 p) (k : ∀ ty1 g1, SI K N ty1 g1 A5 p → X2 g1 → Nxs K N ty1 g1 (ldM A5 p) A_q p) : Nxs K N ty g m A_q p := by
  obtain ⟨ty1, g1, h1, h2, h3, h4⟩ := h
  obtain ⟨ty2, g2, k1, k2, k3, k4⟩ := k ty1 g1 h1 h2
  exact ⟨ty2, g2, k1, k2, fun x hx => (k3 x hx).trans (h3 x hx), Lst_t h4 h3 k4⟩
theorem SI_cn {K : Kd} {N : Int} {ty : Int → Int} {g : Int → Fm} {A : Nat → Nat → Int} {p : Int} (h : SI K N ty g A p) : Cn A p := by
  have hS := h.1
  exact ⟨hS.2.1.1, by have := Rdy_le hS.1 (by decide) (by decide) hS.2.1; omega, hS.2.2.1.1, by have := Rdy_le hS.1 (by decide) (by decide) hS.2.2.1; omega⟩
/-- if one runs, W is in reach -/
theorem SI_gb {K : Kd} {N : Int} {ty : Int → Int} {g : Int → Fm} {A : Nat → Nat → Int} {p : Int} (h : SI K N ty g A p) : Gb A p := by
  obtain ⟨c1, c2, c3, c4⟩ := SI_cn h
  refine ⟨c1, c2, c3, c4, ?_⟩
  rcases h.2 with ⟨q, _⟩ | ⟨r, q, _⟩
  · exact Or.inl q
  · have f := fR_in h.1.1 q.1
    have z := q.2.2.2.1
    exact Or.inr (by omega)
theorem SI_no1 {K : Kd} {N : Int} {ty : Int → Int} {g : Int → Fm} {A : Nat → Nat → Int} {p : Int} (h : SI K N ty g A p) (e : A 66 p.toNat = -1) : ∀ W, fOn (g W) = 1 → fSx (g W) ≠ 0 := by
  rcases h.2 with ⟨_, q⟩ | ⟨r, q, _⟩
  · exact q
  · have f := fR_in h.1.1 q.1
    have w := (h.1.1.1 r q.1).1.2.2.2.2.2.2.2.2.1
    have z := q.2.2.1
    omega
theorem dy_nx {K : Kd} {N : Int} {ty : Int → Int} {g : Int → Fm} {A5 A6 A_q : Nat → Nat → Int} {p : Int} (s : Sby K N) (hp : 0 ≤ p) (h : SI K N ty g A5 p) (x : X2 g) (hd : (A5 66 p.toNat = -1 ∧ dispR A5 A6 p) ∨ (A5 66 p.toNat ≠ -1 ∧ A6 = A5)) (hy : yR A6 A_q p) : Nxs K N ty g (ldM A5 p) A_q p ∧ Lh p A5 A_q := by
  have c := SI_cn h
  have n6 : Nxs K N ty g (ldM A5 p) A6 p ∧ Lh p A5 A6 := by
    rcases hd with ⟨e, d⟩ | ⟨_, e⟩
    · exact ⟨SX_dsp s h.1 x (SI_no1 h e) hp d, Lh_disp hp ⟨c.1, by have := c.2.1; omega⟩ ⟨c.2.2.1, by have := c.2.2.2; omega⟩ d⟩
    · subst e
      exact ⟨⟨ty, g, h, x, fun _ _ => rfl, fun _ _ _ _ _ d => d⟩, Lh_r⟩
  have c6 : Cn A6 p := by
    obtain ⟨ty1, g1, h1, _⟩ := n6.1
    exact SI_cn h1
  exact ⟨Nxs_c n6.1 (fun ty1 g1 h1 x1 => yd_nx s hp h1 x1 hy), Lh_t n6.2 (Lh_y hp c6 hy)⟩
/-- what stays of a core's code -/
def St1 (K : Kd) (N : Int) (A : Nat → Nat → Int) (p : Int) : Prop := Sby K N ∧ Kb K ∧ Kr K N ∧ (∀ j, -2147483648 ≤ kV K j ∧ kV K j ≤ 2147483647) ∧ Cby K N A p
theorem Lk2_f {A B C : Nat → Nat → Int} (e : ∀ k, 78 ≤ k → C k = B k) (h : Lk2 A B) : Lk2 A C := by
  unfold Lk2 at h ⊢
  rw [e 80 (by decide), e 83 (by decide), e 84 (by decide)]
  exact h
theorem by_nx {K : Kd} {N : Int} {ty : Int → Int} {g : Int → Fm} {A A_q : Nat → Nat → Int} {p it im om : Int} (st : St1 K N A p) (hp : 0 ≤ p) (hI : Ib A) (h : SI K N ty g A p) (x : X2 g) (hb : obY A A_q it im om p) : Lcl p A A_q ∧ ((Lk2 A A_q ∧ Nxs K N ty g (ldM A p) A_q p) ∨ ∃ (a r : Int) (ty_q : Int → Int) (g_q : Int → Fm), 0 ≤ a ∧ a ≤ 11 ∧ ty (-1 - a) / 4 % 2 = 1 ∧ SI K N ty_q g_q A_q p ∧ X2 g_q ∧ (∀ x, x < 16 → ty_q x = ty x) ∧ Lst ty (ldM A p) g (ldM A_q p) g_q ∧ (ty (-1 - a) / 8 % 2 = 0 → Lka (ldM A_q p) g_q a r) ∧ A_q 80 a.toNat = 1 ∧ (∀ n, n ≠ a.toNat → A_q 80 n = A 80 n) ∧ A_q 83 = A 83 ∧ A_q 84 = A 84) := by
  obtain ⟨hn, A5, A6, ho, hd, hy⟩ := hb
  obtain ⟨s, kb, kr, kv, cb⟩ := st
  have l0 := ob_l hp (SI_cn h) hn ho
  rcases ob_nx s kb kr kv hp hI cb h x hn ho with ⟨lk, nx⟩ | ⟨a, r, g5, w1, w2, w3, w4, w5, w6, w7, w8, w9, w10, w11⟩
  · have nx' := nx
    obtain ⟨ty1, g1, h1, x1, _, _⟩ := nx'
    have dl := (dy_nx s hp h1 x1 hd hy).2
    exact ⟨Lcl_t l0 dl.1, Or.inl ⟨Lk2_f dl.2 lk, Nxs_c nx (fun ty1 g1 h1 x1 => (dy_nx s hp h1 x1 hd hy).1)⟩⟩
  · obtain ⟨nx, dl⟩ := dy_nx s hp w4 w5 hd hy
    obtain ⟨ty_q, g_q, k1, k2, k3, k4⟩ := nx
    refine ⟨Lcl_t l0 dl.1, Or.inr ⟨a, r, ty_q, g_q, w1, w2, w3, k1, k2, k3, Lst_t w6 (fun _ _ => rfl) k4, fun b8 => k4 a r w1 w2 b8 w7, ?_, fun n hn => ?_, ?_, ?_⟩⟩
    · rw [dl.2 80 (by decide)]
      exact w8
    · rw [dl.2 80 (by decide)]
      exact w9 n hn
    · rw [dl.2 83 (by decide)]
      exact w10
    · rw [dl.2 84 (by decide)]
      exact w11
/-- another core does something -/
theorem ldM_l {p q : Int} {A A_q : Nat → Nat → Int} (l : Lcl p A A_q) (hp : 0 ≤ p) (hq : 0 ≤ q) (n : q ≠ p) : ldM A_q q = ldM A q := funext (fun a => by
  unfold ldM
  by_cases w : 0 ≤ a ∧ a ≤ 4015
  · rw [if_pos w, if_pos w]
    exact l.1 _ (by omega)
  · rw [if_neg w, if_neg w])
theorem SI_l {K : Kd} {N : Int} {ty : Int → Int} {g : Int → Fm} {A A_q : Nat → Nat → Int} {p q : Int} (l : Lcl p A A_q) (hp : 0 ≤ p) (hq : 0 ≤ q) (n : q ≠ p) (h : SI K N ty g A q) : SI K N ty g A_q q := by
  have em := ldM_l l hp hq n
  have r : ∀ k, 60 ≤ k → k ≤ 77 → k ≠ 71 → k ≠ 72 → A_q k q.toNat = A k q.toNat := fun k a b c d => l.2.1 k a b c d _ (by omega)
  have r72 : A_q 72 (2 * q).toNat = A 72 (2 * q).toNat := l.2.2.2.1 _ (by omega) (by omega)
  have r72' : A_q 72 (2 * q + 1).toNat = A 72 (2 * q + 1).toNat := l.2.2.2.1 _ (by omega) (by omega)
  have r71 : ∀ b i, (b = 0 ∨ b = 1) → 0 ≤ i → i < 1100 → rw0 A_q (2 * q + b) i = rw0 A (2 * q + b) i := fun b i hb i0 i1 => l.2.2.1 _ (by omega)
  have r0 : ∀ i, 0 ≤ i → i < 1100 → rw0 A_q (2 * q) i = rw0 A (2 * q) i := fun i i0 i1 => l.2.2.1 _ (by omega)
  obtain ⟨⟨hM, hR0, hR1, hS1, hS2, hS3⟩, hr⟩ := h
  have l0 := Rdy_le hM (by decide) (by decide) hR0
  have l1 := Rdy_le hM (by decide) (by decide) hR1
  have as : ∀ W, Asd g A_q q W ↔ Asd g A q W := fun W => by
    unfold Asd
    rw [r 73 (by decide) (by decide) (by decide) (by decide), r71 1 0 (Or.inr rfl) (by decide) (by decide)]
  refine ⟨⟨by rw [em]; exact hM, Rdy_x hR0 r72 (fun i i0 i1 => r0 i i0 (by omega)), Rdy_x hR1 r72' (fun i i0 i1 => r71 1 i (Or.inr rfl) i0 (by omega)), fun W w1 w2 w3 => ?_, ?_, fun W w1 w2 w3 => ?_⟩, ?_⟩
  · rw [em]
    rw [as W] at w3
    exact hS1 W w1 w2 w3
  · rw [r 73 (by decide) (by decide) (by decide) (by decide), r72']
    exact hS2
  · rw [em, r 74 (by decide) (by decide) (by decide) (by decide), r 75 (by decide) (by decide) (by decide) (by decide), r 76 (by decide) (by decide) (by decide) (by decide), r 77 (by decide) (by decide) (by decide) (by decide)]
    rw [as W] at w3
    exact hS3 W w1 w2 w3
  · rw [r 66 (by decide) (by decide) (by decide) (by decide)]
    rcases hr with hr | ⟨w, hr, u⟩
    · exact Or.inl hr
    · refine Or.inr ⟨w, ?_, u⟩
      unfold RN at hr ⊢
      rw [em, r 60 (by decide) (by decide) (by decide) (by decide), r 61 (by decide) (by decide) (by decide) (by decide), r 62 (by decide) (by decide) (by decide) (by decide), r 63 (by decide) (by decide) (by decide) (by decide), r 64 (by decide) (by decide) (by decide) (by decide), r 65 (by decide) (by decide) (by decide) (by decide), r 66 (by decide) (by decide) (by decide) (by decide), r 73 (by decide) (by decide) (by decide) (by decide)]
      exact hr
/-- which core may send and take at which link (34 from, 35 to); nobody sends at 13 -/
def Bts (ty : Int → Int) (A : Nat → Nat → Int) (p : Int) : Prop := (∀ l, 0 ≤ l → l ≤ 11 → (ty (-1 - l) / 4 % 2 = 1 → A 34 l.toNat = p ∧ A 34 l.toNat ≠ A 35 l.toNat) ∧ (ty (-1 - l) / 8 % 2 = 1 → A 35 l.toNat = p)) ∧ ty (-14) / 4 % 2 = 0 ∧ ∀ x, 0 ≤ x → x ≤ 13 → ty x = 2
def Cor (K : Kd) (N : Int) (ty : Int → Int) (g : Int → Fm) (A : Nat → Nat → Int) (p : Int) : Prop := St1 K N A p ∧ SI K N ty g A p ∧ X2 g ∧ Bts ty A p
/-- a link: if a word is sent, its sender waits there -/
def Lnk (g : Int → Int → Fm) (A : Nat → Nat → Int) (l : Int) : Prop := (A 80 l.toNat ≠ 0 → A 34 l.toNat ≠ A 35 l.toNat ∧ 0 ≤ A 34 l.toNat ∧ A 34 l.toNat ≤ 5 ∧ ∃ W, Lka (ldM A (A 34 l.toNat)) (g (A 34 l.toNat)) l W) ∧ (A 84 l.toNat ≠ 0 → A 80 l.toNat ≠ 0 ∧ A 83 l.toNat ≠ 4) ∧ (A 83 l.toNat = 4 → A 80 l.toNat ≠ 0)
def GS (A : Nat → Nat → Int) : Prop := ∃ (K : Int → Kd) (N : Int → Int) (ty : Int → Int → Int) (g : Int → Int → Fm), (∀ p, 0 ≤ p → p ≤ 5 → Cor (K p) (N p) (ty p) (g p) A p) ∧ ∀ l, 0 ≤ l → l ≤ 11 → Lnk g A l
theorem Cor_l {K : Kd} {N : Int} {ty : Int → Int} {g : Int → Fm} {A A_q : Nat → Nat → Int} {p q : Int} (l : Lcl p A A_q) (hp : 0 ≤ p) (hq : 0 ≤ q) (n : q ≠ p) (h : Cor K N ty g A q) : Cor K N ty g A_q q := by
  obtain ⟨⟨a1, a2, a3, a4, a5⟩, h2, h3, h4⟩ := h
  refine ⟨⟨a1, a2, a3, a4, ?_⟩, SI_l l hp hq n h2, h3, ?_⟩
  · unfold Cby at a5 ⊢
    rw [l.2.2.2.2 53 (by decide)]
    exact a5
  · unfold Bts at h4 ⊢
    rw [l.2.2.2.2 34 (by decide), l.2.2.2.2 35 (by decide)]
    exact h4
theorem Cor_n {K : Kd} {N : Int} {ty ty_q : Int → Int} {g g_q : Int → Fm} {A A_q : Nat → Nat → Int} {p : Int} (l : Lcl p A A_q) (h : Cor K N ty g A p) (h2 : SI K N ty_q g_q A_q p) (h3 : X2 g_q) (e : ∀ x, x < 16 → ty_q x = ty x) : Cor K N ty_q g_q A_q p := by
  obtain ⟨⟨a1, a2, a3, a4, a5⟩, _, _, h4⟩ := h
  refine ⟨⟨a1, a2, a3, a4, ?_⟩, h2, h3, ?_⟩
  · unfold Cby at a5 ⊢
    rw [l.2.2.2.2 53 (by decide)]
    exact a5
  · unfold Bts at h4 ⊢
    rw [l.2.2.2.2 34 (by decide), l.2.2.2.2 35 (by decide), e _ (by decide)]
    refine ⟨fun l l1 l2 => ?_, h4.2.1, fun x x0 x1 => by rw [e x (by omega)]; exact h4.2.2 x x0 x1⟩
    rw [e _ (by omega)]
    exact h4.1 l l1 l2
/-- one core's value replaced -/
def at1 {α : Type} (f : Int → α) (p : Int) (v : α) : Int → α := fun q => if q = p then v else f q
theorem at1_e {α : Type} {f : Int → α} {p : Int} {v : α} : at1 f p v p = v := if_pos rfl
theorem at1_n {α : Type} {f : Int → α} {p q : Int} {v : α} (n : q ≠ p) : at1 f p v q = f q := if_neg n
/-- core p does something that keeps its state -/
theorem GS_n {K : Int → Kd} {N : Int → Int} {ty : Int → Int → Int} {g : Int → Int → Fm} {A A_q : Nat → Nat → Int} {p : Int} {ty_q : Int → Int} {g_q : Int → Fm} (hp : 0 ≤ p) (l : Lcl p A A_q) (hc : ∀ p, 0 ≤ p → p ≤ 5 → Cor (K p) (N p) (ty p) (g p) A p) (h : Cor (K p) (N p) ty_q g_q A_q p) (hl : ∀ l, 0 ≤ l → l ≤ 11 → Lnk (at1 g p g_q) A_q l) : GS A_q := by
  refine ⟨K, N, at1 ty p ty_q, at1 g p g_q, fun q q0 q1 => ?_, hl⟩
  by_cases n : q = p
  · subst n
    rw [at1_e, at1_e]
    exact h
  · rw [at1_n n, at1_n n]
    exact Cor_l l hp q0 n (hc q q0 q1)
/-- the sender at a link stays there -/
theorem Lnk_k {K : Int → Kd} {N : Int → Int} {ty : Int → Int → Int} {g : Int → Int → Fm} {A A_q : Nat → Nat → Int} {p l : Int} {g_q : Int → Fm} (hp : 0 ≤ p) (lc : Lcl p A A_q) (hc : ∀ p, 0 ≤ p → p ≤ 5 → Cor (K p) (N p) (ty p) (g p) A p) (ls : Lst (ty p) (ldM A p) (g p) (ldM A_q p) g_q) (l0 : 0 ≤ l) (l1 : l ≤ 11) (h : Lnk g A l) (h80 : A 80 l.toNat ≠ 0) : A_q 34 l.toNat ≠ A_q 35 l.toNat ∧ 0 ≤ A_q 34 l.toNat ∧ A_q 34 l.toNat ≤ 5 ∧ ∃ W, Lka (ldM A_q (A_q 34 l.toNat)) (at1 g p g_q (A_q 34 l.toNat)) l W := by
  obtain ⟨h1, h2, h3, W, h4⟩ := h.1 h80
  rw [lc.2.2.2.2 34 (by decide), lc.2.2.2.2 35 (by decide)]
  refine ⟨h1, h2, h3, W, ?_⟩
  by_cases n : A 34 l.toNat = p
  · rw [n] at h4 ⊢
    rw [at1_e]
    refine ls l W l0 l1 ?_ h4
    by_cases b : ty p (-1 - l) / 8 % 2 = 1
    · have := ((hc p hp (by omega)).2.2.2.1 l l0 l1).2 b
      exact absurd (n.trans this.symm) h1
    · omega
  · rw [at1_n n, ldM_l lc hp h2 n]
    exact h4
theorem GS_by {A A_q : Nat → Nat → Int} {p it im om : Int} (hp : 0 ≤ p) (hp5 : p ≤ 5) (hI : Ib A) (h : GS A) (hb : obY A A_q it im om p) : GS A_q := by
  obtain ⟨K, N, ty, g, hc, hl⟩ := h
  have c := hc p hp hp5
  obtain ⟨lc, hh⟩ := by_nx c.1 hp hI c.2.1 c.2.2.1 hb
  rcases hh with ⟨lk, ty_q, g_q, k1, k2, k3, k4⟩ | ⟨a, r, ty_q, g_q, w1, w2, w3, k1, k2, k3, k4, w7, w8, w9, w10, w11⟩
  · refine GS_n hp lc hc (Cor_n lc c k1 k2 k3) (fun l l0 l1 => ?_)
    have L := hl l l0 l1
    rcases lk with ⟨y1, y2, y3⟩ | ⟨a, y1, y2, y3, y4, y5, y6, y7⟩
    · refine ⟨fun q => Lnk_k hp lc hc k4 l0 l1 L (by rw [← y1]; exact q), ?_, ?_⟩
      · rw [y1, y2, y3]
        exact L.2.1
      · rw [y1, y2]
        exact L.2.2
    · refine ⟨fun q => Lnk_k hp lc hc k4 l0 l1 L (by rw [← y4]; exact q), fun q => ?_, fun q => ?_⟩
      · rw [y4]
        by_cases n : l = a
        · subst n
          exact ⟨L.2.2 y3, by rw [y5]; decide⟩
        · have w := y7 l.toNat (by omega)
          rw [w.1]
          rw [w.2] at q
          exact L.2.1 q
      · rw [y4]
        by_cases n : l = a
        · subst n
          rw [y5] at q
          exact absurd q (by decide)
        · rw [(y7 l.toNat (by omega)).1] at q
          exact L.2.2 q
  · refine GS_n hp lc hc (Cor_n lc c k1 k2 k3) (fun l l0 l1 => ?_)
    have L := hl l l0 l1
    have ba := (c.2.2.2.1 a w1 w2)
    have b4 := ba.1 w3
    by_cases n : l = a
    · subst n
      refine ⟨fun _ => ?_, fun q => ?_, fun _ => by rw [w8]; decide⟩
      · rw [lc.2.2.2.2 34 (by decide), lc.2.2.2.2 35 (by decide)]
        refine ⟨b4.2, by omega, by omega, r, ?_⟩
        rw [b4.1, at1_e]
        refine w7 ?_
        by_cases b : ty p (-1 - l) / 8 % 2 = 1
        · exact absurd (b4.1.trans (ba.2 b).symm) b4.2
        · omega
      · rw [w11] at q
        rw [w8, w10]
        exact ⟨by decide, (L.2.1 q).2⟩
    · have e80 := w9 l.toNat (by omega)
      refine ⟨fun q => Lnk_k hp lc hc k4 l0 l1 L (by rw [← e80]; exact q), ?_, ?_⟩
      · rw [e80, w10, w11]
        exact L.2.1
      · rw [e80, w10]
        exact L.2.2
/-- what oneByte asks for -/
theorem GS_hob {A : Nat → Nat → Int} {p it im om : Int} (hp : 0 ≤ p) (hp5 : p ≤ 5) (hI : Ib A) (h : GS A) : Gb A p ∧ Hob A it im om p := by
  obtain ⟨K, N, ty, g, hc, hl⟩ := h
  obtain ⟨⟨s, kb, kr, kv, cb⟩, h2, x, _⟩ := hc p hp hp5
  refine ⟨SI_gb h2, fun hn => ⟨fun A5 ho => ?_, ?_⟩⟩
  · have n5 : ∃ ty_q g_q, SI (K p) (N p) ty_q g_q A5 p ∧ X2 g_q := by
      rcases ob_nx s kb kr kv hp hI cb h2 x hn ho with ⟨_, ty_q, g_q, k1, k2, _⟩ | ⟨a, r, g5, _, _, _, w4, w5, _⟩
      · exact ⟨ty_q, g_q, k1, k2⟩
      · exact ⟨_, g5, w4, w5⟩
    obtain ⟨ty_q, g_q, k1, k2⟩ := n5
    refine ⟨SI_gb k1, fun e A6 d => ?_⟩
    obtain ⟨ty6, g6, k3, _⟩ := SX_dsp s k1.1 k2 (SI_no1 k1 e) hp d
    exact SI_gb k3
  · obtain ⟨hS, ⟨q1, _⟩ | ⟨r, ⟨z1, z2, z3, z4, z5, z6, z7⟩, u⟩⟩ := h2
    · exact absurd q1 hn
    obtain ⟨a1, a2, a3, a4, a5, a6⟩ := hS.1.1 r z1
    rcases Gd_o a4.1 with ⟨_, _, q⟩ | ⟨j0, j1, e, S0, w, R, _⟩
    · exact q.elim
    have sj := s _ j0 j1
    have kr0 := kr _ j0 (by omega)
    have kr1 := kr (fSt (g p r) + 1) (by omega) (by omega)
    rcases z5 with ⟨i, i0, i1, eI, eO⟩ | ⟨eI, eO, d1, d2, d3, d4, d5, d6, d7⟩
    · refine ⟨fun q o h15 hq ho o17 => ?_, by omega, by omega⟩
      obtain ⟨L, hL⟩ : ∃ L, L = kP (K p) (fSt (g p r) + 1) - kP (K p) (fSt (g p r)) := ⟨_, rfl⟩
      rw [← hL] at i1 eO sj
      have rf := Rul_f R
      have hbyte := cb _ i j0 j1 i0 (by omega)
      rw [← hL] at hbyte
      rw [eI] at h15 hq
      rw [hbyte] at h15 hq
      have bb := byt_b (v := kV (K p) (fSt (g p r))) (L := L) (j := i) rf.2.2.1 rf.2.2.2
      have bh := byt_h (v := kV (K p) (fSt (g p r))) (L := L) (j := i) rf.2.2.1 rf.2.2.2
      have pb := prt_b (L := L) (i := i) (kv (fSt (g p r))).1 (kv (fSt (g p r))).2 (by omega)
      have pm := prt_16 (v := kV (K p) (fSt (g p r))) (L := L) (i := i)
      rw [shr_4 (by omega) (by omega)] at h15
      rw [and_nib (by omega) (by omega)] at hq
      rw [eO, or_nib pb.1 pb.2 pm (by omega) (by omega)] at ho
      by_cases last : i = L - 1
      · obtain ⟨f1, f2⟩ := bh.1 last
        have pl := prt_l (v := kV (K p) (fSt (g p r))) (L := L)
        rw [← last] at pl
        have k15 : kF (K p) (fSt (g p r)) = 15 := by omega
        have k17 : kV (K p) (fSt (g p r)) = 17 := by omega
        have rule : cEk e = 2 ∧ cA e = (2, cPd e, 1) := by
          rcases R with ⟨t, hp1, hS⟩ | ⟨hk, hS⟩ | ⟨k, v1, v2, _⟩ | ⟨k, v, _⟩ | ⟨k, v, _⟩ | ⟨k, v, _⟩ | ⟨k, _⟩ | ⟨k, _⟩ | ⟨k, _⟩ | ⟨k, _⟩ | ⟨k, v, _⟩ | ⟨k, _⟩ | ⟨k, _⟩ | ⟨k, v, _⟩ | ⟨k, v, _⟩ | ⟨k, v, _⟩ | ⟨k, _⟩ | ⟨k, v, _⟩ | ⟨k, v, _⟩ | ⟨k, v, ek, md, ca⟩ | ⟨k, v, _⟩ | ⟨k, v, _⟩ | ⟨k, v, _⟩ | ⟨k, v, _⟩ | ⟨k, v, _⟩ | ⟨k, v, _⟩ | ⟨k, v, _⟩ | ⟨k, v, _⟩ | ⟨k, v, _⟩
          · rcases hp1 with ⟨k, _⟩ | ⟨k, _⟩ | ⟨k, _⟩ | ⟨k, v, _⟩ <;> omega
          all_goals first | exact ⟨ek, ca⟩ | omega
        obtain ⟨w1, w2, w3, _⟩ := w
        have ek : cEk (fCx (g p r)) = 2 := by
          have := congrArg (fun t : Hd => t.1) w1
          exact this.symm.trans rule.1
        have pd : cPd e = cPd (fCx (g p r)) := congrArg (fun t : Hd => t.2.1) w1
        have ca : cA (fCx (g p r)) = (2, cPd (fCx (g p r)), 1) := by
          rcases w3 with w3 | w3
          · rw [← w3, rule.2, pd]
          · rw [rule.2] at w3
            exact absurd (congrArg (fun t : Rt => t.1) w3) (show ¬ (2 : Int) = 0 by decide)
        obtain ⟨pa, V, v1, v2, v3, v4, v5⟩ := a5.2.1 ek
        have tv := (hS.1.1 V v1).2.1.2.2.2.2.2 v2
        obtain ⟨b1, b2, b3, b4, b5, b6, b7⟩ := (hS.1.1 V v1).1
        have R1 := z6.1
        rw [ca] at R1
        have q1 : r + cPd (fCx (g p r)) ≤ A 60 p.toNat ∧ A 60 p.toNat < r + cPd (fCx (g p r)) + 1 := R1.2.1 rfl (by show -2000000 ≤ r + cPd (fCx (g p r)); omega) (by show r + cPd (fCx (g p r)) + 1 ≤ 2000000; omega)
        omega
      · obtain ⟨f1, f2⟩ := bh.2 last
        split at f1 <;> omega
    · have sj' := s (fSt (g p r) - 1) d7 (by omega)
      have kr' := kr (fSt (g p r) - 1) d7 (by omega)
      rw [show fSt (g p r) - 1 + 1 = fSt (g p r) by omega] at sj'
      refine ⟨fun q o h15 hq ho o17 => ?_, by omega, by omega⟩
      have hbyte := cb (fSt (g p r) - 1) (kP (K p) (fSt (g p r)) - kP (K p) (fSt (g p r) - 1) - 1) d7 (by omega) (by omega) (by rw [show fSt (g p r) - 1 + 1 = fSt (g p r) by omega]; omega)
      rw [show fSt (g p r) - 1 + 1 = fSt (g p r) by omega, d5, d6] at hbyte
      have h252 : byt 15 28 (kP (K p) (fSt (g p r)) - kP (K p) (fSt (g p r) - 1)) (kP (K p) (fSt (g p r)) - kP (K p) (fSt (g p r) - 1) - 1) = 252 := by
        unfold byt
        rw [if_pos rfl]
        rfl
      rw [h252] at hbyte
      rw [eI, show kP (K p) (fSt (g p r)) - 1 = kP (K p) (fSt (g p r) - 1) + (kP (K p) (fSt (g p r)) - kP (K p) (fSt (g p r) - 1) - 1) by omega, hbyte, and_nib (by decide) (by decide)] at hq
      rw [eO, or_nib (by decide) (by decide) (by decide) (by omega) (by omega)] at ho
      omega
