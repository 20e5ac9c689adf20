/-! ONE STEP OF THE PROCESS THAT RUNS: what stays -/
/-- a frame that starts branches has no rights; before it waits some branch has not run -/
def X2 (g : Int → Fm) : Prop := (∀ V, fOn (g V) = 1 → fSu (g V) = 2 → cCp (fCx (g V)) = []) ∧ ∀ V, fOn (g V) = 1 → fSu (g V) = 2 → (fSx (g V) = 0 ∨ fSx (g V) = 1) → (∃ R, fOn (g R) = 1 ∧ fPa (g R) = fAw (g V)) → ∃ U, fOn (g U) = 1 ∧ fPa (g U) = fAw (g V) ∧ (fSx (g U) = 5 ∨ (fSx (g U) = 1 ∧ fPb (g U) = fPb (g V)))
/-- W waits, to send, at the link l -/
def Lka (m : Int → Int) (g : Int → Fm) (l W : Int) : Prop := fOn (g W) = 1 ∧ m l = 2 * W + fPb (g W) ∧ fSx (g W) = 2 ∧ fCh (g W) = l ∧ cDw (fCx (g W)) = 0
def Lst (ty m : Int → Int) (g : Int → Fm) (m_q : Int → Int) (g_q : Int → Fm) : Prop := ∀ l W, 0 ≤ l → l ≤ 11 → ty (-1 - l) / 8 % 2 = 0 → Lka m g l W → Lka m_q g_q l W
/-- what a step leaves -/
def Nxs (K : Kd) (N : Int) (ty : Int → Int) (g : Int → Fm) (m : Int → Int) (A_q : Nat → Nat → Int) (p : Int) : Prop := ∃ (ty_q : Int → Int) (g_q : Int → Fm), SI K N ty_q g_q A_q p ∧ X2 g_q ∧ (∀ x, x < 16 → ty_q x = ty x) ∧ Lst ty m g (ldM A_q p) g_q
/-- r has taken the last byte of its step -/
def SF (K : Kd) (N : Int) (ty : Int → Int) (g : Int → Fm) (A : Nat → Nat → Int) (p r : Int) : Prop := SK K N ty g A p ∧ X2 g ∧ (fOn (g r) = 1 ∧ fSx (g r) = 0 ∧ A 66 p.toNat = 2 * fR g r + fPb (g r) ∧ A 64 p.toNat = fR g r ∧ A 63 p.toNat = kP K (fSt (g r) + 1) ∧ A 65 p.toNat = 0 ∧ Rgs (ldM A p) g r (A 60 p.toNat) (A 61 p.toNat) (A 62 p.toNat) ∧ (A 73 p.toNat ≠ 0 → fPb (g r) = 0)) ∧ ∀ W, fOn (g W) = 1 → fSx (g W) = 0 → W = r
theorem Lst_t {ty m m1 m2 : Int → Int} {g g1 g2 : Int → Fm} {ty1 : Int → Int} (h : Lst ty m g m1 g1) (e : ∀ x, x < 16 → ty1 x = ty x) (k : Lst ty1 m1 g1 m2 g2) : Lst ty m g m2 g2 := fun l W a b c d => k l W a b (by rw [e _ (by omega)]; exact c) (h l W a b c d)
/-- other frames' words, when a leaf writes into its stretch -/
theorem oth_w {K : Kd} {N : Int} {m ty : Int → Int} {g : Int → Fm} {r W : Int} (h : MI K N m ty g) (hr : fOn (g r) = 1) (hu : fSu (g r) = 0) (hW : fOn (g W) = 1) (n : W ≠ r) :
    (∀ y, W - 3 ≤ y → y < fHi (g W) → ¬ (fLo (g r) ≤ y ∧ y < fHi (g r))) ∧ ∀ k x u, Cl m W (fQ (g W)) k x u → ¬ (fLo (g r) ≤ x ∧ x < fHi (g r)) := by
  obtain ⟨a1, a2, a3, a4, a5, a6, a7⟩ := (h.1 W hW).1
  rcases h.2.1 W r hW hr n with q | q | q
  · obtain ⟨q1, q2, q3, q4⟩ := q
    exact ⟨fun y y1 y2 y3 => by omega, q2⟩
  · obtain ⟨q1, q2, q3, q4⟩ := q
    exact ⟨fun y y1 y2 y3 => by omega, q4⟩
  · exact absurd hu q.2.2.1
/-- what may change: data, channels, counts, what lies between lo and hi -/
def Mch (m m_q ty : Int → Int) (lo hi : Int) : Prop := ∀ y, m_q y ≠ m y → ty y = 1 ∨ ty y = 2 ∨ ty y = 5 ∨ (lo ≤ y ∧ y < hi)
/-- the words that the others stand by -/
def Oky (m m_q : Int → Int) (g : Int → Fm) (r : Int) : Prop := ∀ W, fOn (g W) = 1 → W ≠ r → m_q (fR g W - 1) = m (fR g W - 1) ∧ ∀ o, Kpt (cCp (fCx (g W))) o → m_q (W + o) = m (W + o)
theorem fR_6 {K : Kd} {N : Int} {m ty : Int → Int} {g : Int → Fm} {W : Int} (h : MI K N m ty g) (hW : fOn (g W) = 1) : ty (fR g W - 1) = 6 ∧ W - 1 ≤ fR g W - 1 ∧ fR g W - 1 < fHi (g W) := by
  have f := fR_in h hW
  obtain ⟨a1, a2, _⟩ := h.1 W hW
  obtain ⟨t1, t2, t3, t4, t5, t6⟩ := a2
  refine ⟨?_, by omega, by omega⟩
  rcases a1.2.2.2.2.2.2.2.1 with d | ⟨d1, d2, d3⟩
  · show ty (W + cDw (fCx (g W)) - 1) = 6
    rw [d, show W + 0 - 1 = W - 1 by omega]
    exact t3
  · show ty (W + cDw (fCx (g W)) - 1) = 6
    rw [d2, show W + (cZ (fCx (g W)) + 3) - 1 = W + cZ (fCx (g W)) + 2 by omega]
    exact (t5 d1).2.2.1
theorem Kpt_t {K : Kd} {N : Int} {m ty : Int → Int} {g : Int → Fm} {W o : Int} (h : MI K N m ty g) (x : X2 g) (hW : fOn (g W) = 1) (k : Kpt (cCp (fCx (g W))) o) : (ty (W + o) = 3 ∨ ty (W + o) = 4) ∧ ∃ k, Cl m W (fQ (g W)) k (W + o) 0 := by
  by_cases s2 : fSu (g W) = 2
  · obtain ⟨q, hq, _⟩ := k
    rw [x.1 W hW s2] at hq
    exact absurd hq List.not_mem_nil
  · have e : fQ (g W) = cCp (fCx (g W)) := if_neg s2
    have c := (h.1 W hW).2.2.1
    rw [e] at c ⊢
    obtain ⟨q, hq, ho, hk⟩ := k
    subst ho
    rcases hk with hk | hk | hk | hk
    · have a := Cl_p (m := m) (W := W) hq (Or.inl hk)
      exact ⟨Or.inl (c.1 _ _ _ a).1, 3, a⟩
    · have a := Cl_p (m := m) (W := W) hq (Or.inr (Or.inl hk))
      exact ⟨Or.inl (c.1 _ _ _ a).1, 3, a⟩
    · have a := Cl_k (m := m) (W := W) hq (Or.inl hk)
      exact ⟨Or.inr (c.1 _ _ _ a).1, 4, a⟩
    · have a := Cl_p (m := m) (W := W) hq (Or.inr (Or.inr (Or.inl hk)))
      exact ⟨Or.inl (c.1 _ _ _ a).1, 3, a⟩
theorem Oky_m {K : Kd} {N : Int} {m ty m_q : Int → Int} {g : Int → Fm} {r : Int} (h : MI K N m ty g) (x : X2 g) (hr : fOn (g r) = 1) (hu : fSu (g r) = 0) (c : Mch m m_q ty (fLo (g r)) (fHi (g r))) : Oky m m_q g r := fun W hW n => by
  obtain ⟨w1, w2⟩ := oth_w h hr hu hW n
  refine ⟨?_, fun o k => ?_⟩
  · obtain ⟨t, y1, y2⟩ := fR_6 h hW
    by_cases e : m_q (fR g W - 1) = m (fR g W - 1)
    · exact e
    · rcases c _ e with q | q | q | q
      · omega
      · omega
      · omega
      · exact absurd q (w1 _ (by omega) y2)
  · obtain ⟨t, k_q, cl⟩ := Kpt_t h x hW k
    by_cases e : m_q (W + o) = m (W + o)
    · exact e
    · rcases c _ e with q | q | q | q
      · omega
      · omega
      · omega
      · exact absurd q (w2 _ _ _ cl)
theorem Oky_e {m m_q : Int → Int} {g : Int → Fm} {r : Int} (e : m_q = m) : Oky m m_q g r := fun W _ _ => by
  rw [e]
  exact ⟨rfl, fun _ _ => rfl⟩
/-- registers of one whose kept words are as they were -/
theorem Rgs_m {K : Kd} {N : Int} {m m_q ty : Int → Int} {g : Int → Fm} {W a b c : Int} (h : MI K N m ty g) (hW : fOn (g W) = 1) (k : ∀ o, Kpt (cCp (fCx (g W))) o → m_q (W + o) = m (W + o)) (q : Rgs m g W a b c) : Rgs m_q g W a b c := by
  have s := (h.1 W hW).2.2.2.1.2.2.2.2.2.2
  exact ⟨Rok_m (fun e => k _ (s.1 e)) q.1, Rok_m (fun e => k _ (s.2.1 e)) q.2.1, Rok_m (fun e => k _ (s.2.2.1 e)) q.2.2⟩
/-- the running one does something by itself -/
theorem SK_own {K : Kd} {N : Int} {ty ty_q : Int → Int} {g : Int → Fm} {A A_q : Nat → Nat → Int} {p r : Int} {f : Fm} (h : SK K N ty g A p) (hx : fSx (g r) = 0) (hM : MI K N (ldM A_q p) ty_q (ug g r f)) (o : Oky (ldM A p) (ldM A_q p) g r)
    (e71 : A_q 71 = A 71) (e72 : A_q 72 = A 72) (e73 : A_q 73 = A 73) (e74 : A_q 74 = A 74) (e75 : A_q 75 = A 75) (e76 : A_q 76 = A 76) (e77 : A_q 77 = A 77) (f1 : fOn f = 1 → fSx f ≠ 1) : SK K N ty_q (ug g r f) A_q p := by
  obtain ⟨hM0, hR0, hR1, hS1, hS2, hS3⟩ := h
  have hn : fSx (g r) ≠ 1 := by omega
  have nr : ∀ W, fOn (ug g r f W) = 1 → fSx (ug g r f W) = 1 → W ≠ r := fun W w1 w2 e => by
    subst e
    rw [ug_e] at w1 w2
    exact f1 w1 w2
  have fr : ∀ W, W ≠ r → fR (ug g r f) W = fR g W := fun W n => by
    show W + cDw (fCx (ug g r f W)) = W + cDw (fCx (g W))
    rw [ug_n n]
  have as : ∀ W, W ≠ r → (Asd (ug g r f) A_q p W ↔ Asd g A p W) := fun W n => by
    unfold Asd rw0
    rw [fr W n, ug_n n, e71, e73]
  unfold SK rw0
  rw [e71, e72, e73, e74, e75, e76, e77]
  refine ⟨hM, Rdy_o hR0 (Or.inl hn), Rdy_o hR1 (Or.inl hn), fun W w1 w2 w3 => ?_, hS2, fun W w1 w2 w3 => ?_⟩
  · have n := nr W w1 w2
    rw [as W n] at w3
    have w1' := w1
    rw [ug_n n] at w1 w2
    obtain ⟨s1, s2, s3⟩ := hS1 W w1 w2 w3
    unfold Rst
    rw [fr W n, ug_n n]
    exact ⟨(o W w1 n).1.trans s1, s2, s3⟩
  · have n := nr W w1 w2
    rw [as W n] at w3
    rw [ug_n n] at w1 w2
    obtain ⟨s1, s2⟩ := hS3 W w1 w2 w3
    have q := Rgs_m hM0 w1 (o W w1 n).2 s2
    unfold Rgs at q ⊢
    rw [fr W n, ug_n n]
    refine ⟨?_, q⟩
    have e := (o W w1 n).1
    rw [e]
    exact s1
theorem X2_own {g : Int → Fm} {r : Int} {f : Fm} (x : X2 g) (hr : fOn (g r) = 1) (hx : fSx (g r) = 0) (hp : fOn f = 1 → fPa f = fPa (g r)) (h0 : fSu f = 2 → fOn f = 1 → fSu (g r) = 2 ∧ cCp (fCx f) = [] ∧ fAw f = fAw (g r) ∧ fPb f = fPb (g r)) : X2 (ug g r f) := by
  refine ⟨fun V v1 v2 => ?_, fun V v1 v2 v3 v4 => ?_⟩
  · by_cases n : V = r
    · subst n
      rw [ug_e] at v1 v2 ⊢
      exact (h0 v2 v1).2.1
    · rw [ug_n n] at v1 v2 ⊢
      exact x.1 V v1 v2
  · have v4' : ∀ a, fAw (ug g r f V) = a → ∃ R, fOn (g R) = 1 ∧ fPa (g R) = a := fun a ea => by
      obtain ⟨R, r1, r2⟩ := v4
      by_cases n : R = r
      · subst n
        rw [ug_e] at r1 r2
        exact ⟨R, hr, by rw [← hp r1, r2, ea]⟩
      · rw [ug_n n] at r1 r2
        exact ⟨R, r1, by rw [r2, ea]⟩
    have back : ∀ a b, (∃ U, fOn (g U) = 1 ∧ fPa (g U) = a ∧ (fSx (g U) = 5 ∨ (fSx (g U) = 1 ∧ fPb (g U) = b))) → ∃ U, fOn (ug g r f U) = 1 ∧ fPa (ug g r f U) = a ∧ (fSx (ug g r f U) = 5 ∨ (fSx (ug g r f U) = 1 ∧ fPb (ug g r f U) = b)) := fun a b ⟨U, u1, u2, u3⟩ => by
      have n : U ≠ r := fun e => by
        subst e
        omega
      refine ⟨U, ?_⟩
      rw [ug_n n]
      exact ⟨u1, u2, u3⟩
    by_cases n : V = r
    · subst n
      rw [ug_e] at v1 v2 v3 ⊢
      obtain ⟨z1, z2, z3, z4⟩ := h0 v2 v1
      refine back _ _ ?_
      rw [z3, z4]
      exact x.2 V hr z1 (Or.inl hx) (v4' _ (by rw [ug_e]; exact z3))
    · rw [ug_n n] at v1 v2 v3 ⊢
      exact back _ _ (x.2 V v1 v2 v3 (v4' _ (by rw [ug_n n])))
theorem Lst_own {ty m m_q : Int → Int} {g : Int → Fm} {r : Int} {f : Fm} (hx : fSx (g r) ≠ 2) (hl : ∀ l, 0 ≤ l → l ≤ 11 → ty (-1 - l) / 8 % 2 = 0 → (∃ W, Lka m g l W) → m_q l = m l) : Lst ty m g m_q (ug g r f) := fun l W a b c d => by
  have n : W ≠ r := fun e => by
    subst e
    have := d.2.2.1
    omega
  unfold Lka
  rw [ug_n n, hl l a b c ⟨W, d⟩]
  exact d
/-- it goes on -/
theorem Nxs_own {K : Kd} {N : Int} {ty ty_q : Int → Int} {g : Int → Fm} {A A_q : Nat → Nat → Int} {p r : Int} {f : Fm} (h : SF K N ty g A p r) (hM : MI K N (ldM A_q p) ty_q (ug g r f)) (o : Oky (ldM A p) (ldM A_q p) g r)
    (e71 : A_q 71 = A 71) (e72 : A_q 72 = A 72) (e73 : A_q 73 = A 73) (e74 : A_q 74 = A 74) (e75 : A_q 75 = A 75) (e76 : A_q 76 = A 76) (e77 : A_q 77 = A 77)
    (f1 : fOn f = 1) (f2 : fSx f = 0) (f3 : fPb f = fPb (g r)) (f4 : fPa f = fPa (g r)) (f5 : fSu f = 2 → fSu (g r) = 2 ∧ cCp (fCx f) = [] ∧ fAw f = fAw (g r))
    (e66 : A_q 66 p.toNat = 2 * (r + cDw (fCx f)) + fPb f) (e64 : A_q 64 p.toNat = r + cDw (fCx f)) (hP : Psx K f (A_q 63 p.toNat) (A_q 65 p.toNat)) (hG : Rok (ldM A_q p) r (fPb f) (cA (fCx f)) (A_q 60 p.toNat) ∧ Rok (ldM A_q p) r (fPb f) (cB (fCx f)) (A_q 61 p.toNat) ∧ Rok (ldM A_q p) r (fPb f) (cC (fCx f)) (A_q 62 p.toNat))
    (hty : ∀ x, x < 16 → ty_q x = ty x) (hl : ∀ l, 0 ≤ l → l ≤ 11 → ty (-1 - l) / 8 % 2 = 0 → (∃ W, Lka (ldM A p) g l W) → ldM A_q p l = ldM A p l) : Nxs K N ty g (ldM A p) A_q p := by
  obtain ⟨hS, x, ⟨s1, s2, s3, s4, s5, s6, s7, s8⟩, u⟩ := h
  refine ⟨ty_q, ug g r f, ⟨SK_own hS s2 hM o e71 e72 e73 e74 e75 e76 e77 (fun _ => by omega), Or.inr ⟨r, ?_, fun W w1 w2 => ?_⟩⟩, X2_own x s1 s2 (fun _ => f4) (fun q _ => ⟨(f5 q).1, (f5 q).2.1, (f5 q).2.2, f3⟩), hty, Lst_own (by omega) hl⟩
  · unfold RN Rgs fR
    rw [ug_e, e73]
    exact ⟨f1, f2, e66, e64, hP, hG, fun q => by rw [f3]; exact s8 q⟩
  · by_cases n : W = r
    · exact n
    · rw [ug_n n] at w1 w2
      exact u W w1 w2
/-- it stops running -/
theorem Nxs_gone {K : Kd} {N : Int} {ty ty_q : Int → Int} {g : Int → Fm} {A A_q : Nat → Nat → Int} {p r : Int} {f : Fm} (h : SF K N ty g A p r) (hM : MI K N (ldM A_q p) ty_q (ug g r f)) (o : Oky (ldM A p) (ldM A_q p) g r)
    (e71 : A_q 71 = A 71) (e72 : A_q 72 = A 72) (e73 : A_q 73 = A 73) (e74 : A_q 74 = A 74) (e75 : A_q 75 = A 75) (e76 : A_q 76 = A 76) (e77 : A_q 77 = A 77)
    (f1 : fOn f = 1 → fSx f ≠ 1 ∧ fSx f ≠ 0 ∧ fPa f = fPa (g r)) (f5 : fSu f = 2 → fOn f = 1 → (fSu (g r) = 2 ∧ cCp (fCx f) = [] ∧ fAw f = fAw (g r) ∧ fPb f = fPb (g r)))
    (e66 : A_q 66 p.toNat = -1) (hty : ∀ x, x < 16 → ty_q x = ty x) (hl : ∀ l, 0 ≤ l → l ≤ 11 → ty (-1 - l) / 8 % 2 = 0 → (∃ W, Lka (ldM A p) g l W) → ldM A_q p l = ldM A p l) : Nxs K N ty g (ldM A p) A_q p := by
  obtain ⟨hS, x, ⟨s1, s2, s3, s4, s5, s6, s7, s8⟩, u⟩ := h
  refine ⟨ty_q, ug g r f, ⟨SK_own hS s2 hM o e71 e72 e73 e74 e75 e76 e77 (fun q => (f1 q).1), Or.inl ⟨e66, fun W w1 w2 => ?_⟩⟩, X2_own x s1 s2 (fun q => (f1 q).2.2) f5, hty, Lst_own (by omega) hl⟩
  by_cases n : W = r
  · subst n
    rw [ug_e] at w1 w2
    exact (f1 w1).2.1 w2
  · rw [ug_n n] at w1 w2
    exact n (u W w1 w2)
