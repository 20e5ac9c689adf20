/-! expressions keep the rules -/
theorem s0 {l : List Cp} : Sup l r0 := fun q => absurd q (by decide)
/-- a value that is taken at once: a number, a name (brackets don't matter) -/
theorem gE_p {T C : Nat → Nat → Int} {F S : Int → Int} {nw N : Int} {P : Int → Cx → Prop} : ∀ {n m : Nat} {e k k_q l0 l1 : Int} {c : Cx}, gE T C F S nw n e k k_q l0 l1 → n ≤ m → (T 15 (bK T m e).toNat = 1 ∨ T 15 (bK T m e).toNat = 2) → k_q ≤ N → cDw c = 0 → cMd c = 0 → Sup (cCp c) (cA c) → Sup (cCp c) (cB c) → Gd (Kc C) N P k_q (sR c r0 (cA c) (cB c)) → Gs (Kc C) N P k c
  | 0, _, _, _, _, _, _, _, h, _, _, _, _, _, _, _, _ => h.elim
  | n + 1, 0, _, _, _, _, _, _, _, hn, _, _, _, _, _, _, _ => absurd hn (by omega)
  | n + 1, m + 1, e, k, k_q, l0, l1, c, h, hn, hb, hk, dw, md, sA, sB, g => by
    have w : Wkr (sR c (cA c) (cB c) r0) c := Wkr_g (Or.inl rfl) (Or.inl rfl) (Or.inr rfl) sA sB s0 (by omega)
    have wf : Wf (sR c (cA c) (cB c) r0) := Wf_m sA sB s0 (show cMd c ≠ 1 by omega)
    by_cases k7 : T 15 e.toNat = 7
    · rw [bK_y k7] at hb
      rcases h with h | h | h | h | h | h | h | h | h | h <;> first | omega | skip
      exact gE_p h.2 (by omega) hb hk dw md sA sB g
    · rw [bK_x k7] at hb
      rcases h with h | h | h | h | h | h | h | h | h | h <;> first | omega | skip
      · obtain ⟨i1, i2, i3, i4⟩ := ST_k h.2
        exact Gs_w w (Gs_psh i2 i1 hk wf (Or.inl ⟨i3, Or.inr rfl⟩) g)
      · rcases h.2 with q | q | q
        · obtain ⟨i1, i2, i3, i4⟩ := ST_k q.2
          exact Gs_w w (Gs_psh i2 i1 hk wf (Or.inl ⟨i3, Or.inr rfl⟩) g)
        · obtain ⟨x, h1, y, h2, h3⟩ := q.2
          have h3 : k_q = y := h3
          subst h3
          obtain ⟨i1, i2, i3, i4⟩ := ST_k h1
          obtain ⟨j1, j2, j3, j4⟩ := ST_k h2
          exact Gs_w w (Gs_psh i2 i1 (by omega) wf (Or.inr (Or.inr (Or.inl ⟨i3, dw, Or.inr rfl⟩))) (Gs_d (Gs_any j2 j1 hk (Wf_m s0 sA sB (show cMd c ≠ 1 by omega)) (Or.inl j3) g)))
        · obtain ⟨i1, i2, i3, i4⟩ := ST_k q.2.2
          exact Gs_w w (Gs_psh i2 i1 hk wf (Or.inr (Or.inr (Or.inl ⟨i3, dw, Or.inr rfl⟩))) g)
/-- what an address is known as -/
def AdT (T : Nat → Nat → Int) (F : Int → Int) (nw : Int) (c : Cx) (x : Int) (t : Rt) : Prop :=
  t = r0 ∨ (T 15 x.toNat = 3 ∧ T 7 (T 17 x.toNat).toNat ≠ 7 ∧ t = (2, wd T F nw (T 17 x.toNat), T 8 (T 17 x.toNat).toNat)) ∨ (T 15 x.toNat = 3 ∧ T 7 (T 17 x.toNat).toNat = 7 ∧ Kpt (cCp c) (wd T F nw (T 17 x.toNat)) ∧ t = (3, wd T F nw (T 17 x.toNat), T 8 (T 17 x.toNat).toNat)) ∨
  (T 15 x.toNat ≠ 3 ∧ adf T (T 17 x.toNat) = 1 ∧ t = (2, adv T F nw (T 17 x.toNat), 1)) ∨ (T 15 x.toNat ≠ 3 ∧ adf T (T 17 x.toNat) = 7 ∧ Kpt (cCp c) (adv T F nw (T 17 x.toNat)) ∧ t = (3, adv T F nw (T 17 x.toNat), 1)) ∨ (T 15 x.toNat ≠ 3 ∧ adf T (T 17 x.toNat) = 4 ∧ t = (5, adv T F nw (T 17 x.toNat), 0))
theorem AdT_s {T : Nat → Nat → Int} {F : Int → Int} {nw : Int} {c : Cx} {x : Int} {t : Rt} (h : AdT T F nw c x t) : Sup (cCp c) t := fun q => by
  rcases h with h | h | h | h | h | h
  · rw [h] at q
    exact absurd q (by decide)
  · rw [h.2.2] at q
    exact absurd q (by show ¬ (2 : Int) = 3; decide)
  · rw [h.2.2.2]
    exact h.2.2.1
  · rw [h.2.2] at q
    exact absurd q (by show ¬ (2 : Int) = 3; decide)
  · rw [h.2.2.2]
    exact h.2.2.1
  · rw [h.2.2] at q
    exact absurd q (by show ¬ (5 : Int) = 3; decide)
theorem gAd_g {T C : Nat → Nat → Int} {F : Int → Int} {nw N : Int} {P : Int → Cx → Prop} {R : Int → Int → Int → Int → Int → Prop} {x k k_q l0 l1 : Int} {c : Cx} {t : Rt}
    (hR : ∀ {e a : Int} {d : Cx}, R e k a l0 l1 → a ≤ N → T 15 x.toNat = 3 → e = T 18 x.toNat → d = sR c (cA c) r0 r0 → Gd (Kc C) N P a (sR d r0 (cA d) r0) → Gs (Kc C) N P k d) (h : gAd T C F nw R x k k_q l0 l1) (hk : k_q ≤ N) (dw : cDw c = 0) (md : cMd c = 0) (sA : Sup (cCp c) (cA c)) (ht : AdT T F nw c x t) (g : Gd (Kc C) N P k_q (sR c t (cA c) r0)) : Gs (Kc C) N P k c := by
  have st := AdT_s ht
  have nm : cMd c ≠ 1 := by omega
  have w0 : Wkr (sR c (cA c) r0 r0) c := Wkr_g (Or.inl rfl) (Or.inr rfl) (Or.inr rfl) sA s0 s0 nm
  by_cases k3 : T 15 x.toNat = 3
  · obtain ⟨a, h1, a1, h2, a2, h3, a3, h4, a4, h5, h6⟩ := h.1 k3
    have h6 : k_q = a4 := h6
    subst h6
    obtain ⟨i1, i2, i3, i4⟩ := ST_k h2
    obtain ⟨j1, j2, j3, j4⟩ := ST_k h3
    obtain ⟨m1, m2, m3, m4⟩ := ST_k h4
    obtain ⟨n1, n2, n3, n4⟩ := ST_k h5
    refine Gs_w w0 (hR h1 (by omega) k3 rfl rfl ?_)
    -- [E] is there: A a value, B what was
    refine Gs_d (Gs_psh (t := (5, T 8 (T 17 x.toNat).toNat, 0)) i2 i1 (by omega) (Wf_m s0 sA s0 nm) (Or.inl ⟨i3, Or.inl (by rw [i4])⟩) ?_)
    refine Gs_d (Gs_chk (t := (1, T 8 (T 17 x.toNat).toNat, 0)) j2 j1 (by omega) (Wf_m (fun q => absurd q (by show ¬ (5 : Int) = 3; decide)) s0 sA nm) j3 j4 md (Or.inr ⟨rfl, rfl⟩) ?_)
    have wf1 : Wf (sR (sR (sR (sR c (cA c) r0 r0) r0 (cA c) r0) (5, T 8 (T 17 x.toNat).toNat, 0) r0 (cA c)) (1, T 8 (T 17 x.toNat).toNat, 0) (cA c) (cA c)) := Wf_m (fun q => absurd q (by show ¬ (1 : Int) = 3; decide)) sA sA nm
    have fin : ∀ {t1 : Rt} {d : Cx}, Sup (cCp c) t1 → d = sR c t1 (1, T 8 (T 17 x.toNat).toNat, 0) (cA c) → (t = r0 ∨ (t1.1 = 2 ∧ t1.2.2 = 1 ∧ t = (2, t1.2.1, T 8 (T 17 x.toNat).toNat)) ∨ (t1.1 = 3 ∧ t1.2.2 = 1 ∧ t = (3, t1.2.1, T 8 (T 17 x.toNat).toNat))) → Gd (Kc C) N P a3 d := fun {t1 d} q1 q2 q3 => by
      subst q2
      refine Gs_d (Gs_two (t := t) n2 n1 hk (Wf_m q1 (fun q => absurd q (by show ¬ (1 : Int) = 3; decide)) sA nm) n3 (by omega) (by omega) md ?_ (Gd_w (e := sR c t (cA c) r0) ⟨rfl, Or.inl rfl, Or.inl rfl, Or.inl rfl, Or.inr rfl, rfl, st, sA, s0, fun _ _ q => absurd q (show ¬ cMd c = 1 by omega)⟩ g))
      rcases q3 with q3 | q3 | q3
      · exact Or.inl q3
      · exact Or.inr (Or.inl ⟨n4, Or.inr (Or.inr (Or.inl ⟨q3.1, q3.2.1, rfl, q3.2.2⟩))⟩)
      · exact Or.inr (Or.inl ⟨n4, Or.inr (Or.inr (Or.inr ⟨q3.1, q3.2.1, rfl, q3.2.2⟩))⟩)
    by_cases k7 : T 7 (T 17 x.toNat).toNat = 7
    · rw [if_pos k7] at m3
      rcases ht with q | q | q | q | q | q
      · exact Gs_d (Gs_psh (t := r0) m2 m1 (by omega) wf1 (Or.inr (Or.inr (Or.inl ⟨m3, dw, Or.inr rfl⟩))) (fin s0 rfl (Or.inl q)))
      · exact absurd k7 q.2.1
      · exact Gs_d (Gs_psh (t := (3, wd T F nw (T 17 x.toNat), 1)) m2 m1 (by omega) wf1 (Or.inr (Or.inr (Or.inl ⟨m3, dw, Or.inl ⟨by rw [m4], by rw [m4]; exact q.2.2.1⟩⟩))) (fin (fun _ => q.2.2.1) rfl (Or.inr (Or.inr ⟨rfl, rfl, q.2.2.2⟩))))
      · exact absurd k3 q.1
      · exact absurd k3 q.1
      · exact absurd k3 q.1
    · rw [if_neg k7] at m3
      refine Gs_d (Gs_psh (t := (2, wd T F nw (T 17 x.toNat), 1)) m2 m1 (by omega) wf1 (Or.inr (Or.inl ⟨m3, dw, by rw [m4]⟩)) (fin (fun q => absurd q (by show ¬ (2 : Int) = 3; decide)) rfl ?_))
      rcases ht with q | q | q | q | q | q
      · exact Or.inl q
      · exact Or.inr (Or.inl ⟨rfl, rfl, q.2.2⟩)
      · exact absurd q.2.1 k7
      · exact absurd k3 q.1
      · exact absurd k3 q.1
      · exact absurd k3 q.1
  · obtain ⟨i1, i2, i3, i4⟩ := ST_k (h.2 k3)
    have wf : Wf (sR c (cA c) r0 r0) := Wf_m sA s0 s0 nm
    have a147 : adf T (T 17 x.toNat) = 1 ∨ adf T (T 17 x.toNat) = 7 ∨ adf T (T 17 x.toNat) = 4 := by
      unfold adf
      split
      · omega
      · split <;> omega
    rcases ht with q | q | q | q | q | q
    · -- nothing is to be known
      have gw : ∀ t_q : Rt, Sup (cCp c) t_q → Gd (Kc C) N P k_q (sR c t_q (cA c) r0) := fun t_q s_q => Gd_w (e := sR c r0 (cA c) r0) ⟨rfl, Or.inl rfl, Or.inr rfl, Or.inl rfl, Or.inl rfl, rfl, s0, sA, s0, fun _ _ q => absurd q nm⟩ (q ▸ g)
      rcases a147 with b | b | b
      · exact Gs_w w0 (Gs_psh (t := (2, adv T F nw (T 17 x.toNat), 1)) i2 i1 hk wf (Or.inr (Or.inl ⟨i3.trans b, dw, by rw [i4]⟩)) (gw _ (fun q => absurd q (by show ¬ (2 : Int) = 3; decide))))
      · exact Gs_w w0 (Gs_psh (t := r0) i2 i1 hk wf (Or.inr (Or.inr (Or.inl ⟨i3.trans b, dw, Or.inr rfl⟩))) (gw _ s0))
      · exact Gs_w w0 (Gs_psh (t := r0) i2 i1 hk wf (Or.inl ⟨i3.trans b, Or.inr rfl⟩) (gw _ s0))
    · exact absurd q.1 k3
    · exact absurd q.1 k3
    · rw [q.2.2] at g
      exact Gs_w w0 (Gs_psh (t := (2, adv T F nw (T 17 x.toNat), 1)) i2 i1 hk wf (Or.inr (Or.inl ⟨i3.trans q.2.1, dw, by rw [i4]⟩)) g)
    · rw [q.2.2.2] at g
      exact Gs_w w0 (Gs_psh (t := (3, adv T F nw (T 17 x.toNat), 1)) i2 i1 hk wf (Or.inr (Or.inr (Or.inl ⟨i3.trans q.2.1, dw, Or.inl ⟨by rw [i4], by rw [i4]; exact q.2.2.1⟩⟩))) g)
    · rw [q.2.2] at g
      exact Gs_w w0 (Gs_psh (t := (5, adv T F nw (T 17 x.toNat), 0)) i2 i1 hk wf (Or.inl ⟨i3.trans q.2.1, Or.inl (by rw [i4])⟩) g)
/-- an expression: its value comes, what was stays below it -/
theorem gE_g {T C : Nat → Nat → Int} {F S : Int → Int} {nw N : Int} {P : Int → Cx → Prop} : ∀ {n : Nat} {e k k_q l0 l1 f : Int} {c : Cx}, n ≤ 30 → gE T C F S nw n e k k_q l0 l1 → lE T n e f (cZ c) → k_q ≤ N → Bf c f → 1 ≤ f → cDw c = 0 → cMd c = 0 → Sup (cCp c) (cA c) → Gd (Kc C) N P k_q (sR c r0 (cA c) r0) → Gs (Kc C) N P k c
  | 0, _, _, _, _, _, _, _, _, h, _, _, _, _, _, _, _, _ => h.elim
  | n + 1, e, k, k_q, l0, l1, f, c, hn, h, hl, hk, bf, hf, dw, md, sA, g => by
    have nm : cMd c ≠ 1 := by omega
    have w0 : Wkr (sR c (cA c) r0 r0) c := Wkr_g (Or.inl rfl) (Or.inr rfl) (Or.inr rfl) sA s0 s0 nm
    have wf0 : Wf (sR c (cA c) r0 r0) := Wf_m sA s0 s0 nm
    rcases h with h | h | h | h | h | h | h | h | h | h
    · obtain ⟨i1, i2, i3, i4⟩ := ST_k h.2
      exact Gs_w w0 (Gs_psh i2 i1 hk wf0 (Or.inl ⟨i3, Or.inr rfl⟩) g)
    · rcases h.2 with q | q | q
      · obtain ⟨i1, i2, i3, i4⟩ := ST_k q.2
        exact Gs_w w0 (Gs_psh i2 i1 hk wf0 (Or.inl ⟨i3, Or.inr rfl⟩) g)
      · obtain ⟨x, h1, y, h2, h3⟩ := q.2
        have h3 : k_q = y := h3
        subst h3
        obtain ⟨i1, i2, i3, i4⟩ := ST_k h1
        obtain ⟨j1, j2, j3, j4⟩ := ST_k h2
        exact Gs_w w0 (Gs_psh i2 i1 (by omega) wf0 (Or.inr (Or.inr (Or.inl ⟨i3, dw, Or.inr rfl⟩))) (Gs_d (Gs_any j2 j1 hk (Wf_m s0 sA s0 nm) (Or.inl j3) g)))
      · obtain ⟨i1, i2, i3, i4⟩ := ST_k q.2.2
        exact Gs_w w0 (Gs_psh i2 i1 hk wf0 (Or.inr (Or.inr (Or.inl ⟨i3, dw, Or.inr rfl⟩))) g)
    · obtain ⟨k3, a, h1, h2⟩ := h
      obtain ⟨i1, i2, i3, i4⟩ := ST_k h2
      refine gAd_g (t := r0) (fun {e_q a_q d} w1 w2 w3 w4 w5 w6 => ?_) h1 (by omega) dw md sA (Or.inl rfl) (Gs_d (Gs_any i2 i1 hk (Wf_m s0 sA s0 nm) (Or.inl i3) g))
      subst w4 w5
      exact gE_g (by omega) w1 (hl.1 k3) w2 bf hf dw md sA w6
    · obtain ⟨k5, a, h1, a1, h2, a2, h3, a3, h4, h5⟩ := h
      have h5 : k_q = a3 := h5
      subst h5
      obtain ⟨i1, i2, i3, i4⟩ := ST_k h2
      obtain ⟨j1, j2, j3, j4⟩ := ST_k h3
      obtain ⟨m1, m2, m3, m4⟩ := ST_k h4
      refine gE_g (by omega) h1 (hl.2.1 (Or.inl k5)) (by omega) bf hf dw md sA (Gs_d (Gs_psh (t := r0) i2 i1 (by omega) (Wf_m s0 sA s0 nm) (Or.inl ⟨i3, Or.inr rfl⟩) (Gs_d (Gs_rev j2 j1 (by omega) (Wf_m s0 s0 sA nm) j3 j4 (Gs_d (Gs_two (t := r0) m2 m1 hk (Wf_m s0 s0 sA nm) m3 (by omega) (by omega) md (Or.inl rfl) (Gd_w (e := sR c r0 (cA c) r0) ⟨rfl, Or.inl rfl, Or.inl rfl, Or.inl rfl, Or.inr rfl, rfl, s0, sA, s0, fun _ _ q => absurd q nm⟩ g)))))))
    · obtain ⟨k6, a, h1, h2⟩ := h
      obtain ⟨i1, i2, i3, i4⟩ := ST_k h2
      exact gE_g (by omega) h1 (hl.2.1 (Or.inr (Or.inl k6))) (by omega) bf hf dw md sA (Gs_d (Gs_any i2 i1 hk (Wf_m s0 sA s0 nm) (Or.inr (Or.inr (Or.inr i3))) g))
    · exact gE_g (by omega) h.2 (hl.2.1 (Or.inr (Or.inr h.1))) hk bf hf dw md sA g
    · obtain ⟨k4, o, a, b, d, m1, m2, _, _, _, h1, h2, h3, b1, h4, b2, h5, h6⟩ := h
      have h6 : k_q = b2 := h6
      subst h6
      obtain ⟨i1, i2, i3, i4⟩ := JP_k h2
      obtain ⟨j1, j2, j3, j4⟩ := ST_k h4
      obtain ⟨n1, n2, n3, n4⟩ := ST_k h5
      have hs := gE_le h3
      have so : sO T e := Or.inl o
      refine gE_g (by omega) h1 (hl.2.2.1 k4 so).1 (by omega) bf hf dw md sA (Gs_d (Gs_cj i2 i1 (by omega) (Wf_m s0 sA s0 nm) i3 i4 ?_ g))
      exact Gs_d (gE_g (c := sR (sR c r0 (cA c) r0) (cA c) r0 r0) (by omega) h3 (hl.2.2.1 k4 so).2 (by omega) bf hf dw md sA (Gs_d (Gs_any j2 j1 (by omega) (Wf_m s0 sA s0 nm) (Or.inr (Or.inr (Or.inr j3))) (Gs_d (Gs_any n2 n1 hk (Wf_m s0 sA s0 nm) (Or.inr (Or.inr (Or.inr n3))) g)))))
    · obtain ⟨k4, o, a, a_q, b, c_q, d, m1, m2, _, _, _, h1, h1', h2, h3, h4, h5⟩ := h
      obtain ⟨y1, y2, y3, y4⟩ := ST_k h1'
      obtain ⟨i1, i2, i3, i4⟩ := JP_k h2
      obtain ⟨j1, j2, j3, j4⟩ := ST_k h4
      obtain ⟨n1, n2, n3, n4⟩ := ST_k h5
      have hs := gE_le h3
      have so : sO T e := Or.inr (Or.inl o)
      have gd : Gd (Kc C) N P d (sR c r0 (cA c) r0) := Gs_d (Gs_any n2 n1 hk (Wf_m s0 sA s0 nm) (Or.inr (Or.inr (Or.inr n3))) g)
      refine gE_g (by omega) h1 (hl.2.2.1 k4 so).1 (by omega) bf hf dw md sA (Gs_d (Gs_any y2 y1 (by omega) (Wf_m s0 sA s0 nm) (Or.inr (Or.inr (Or.inr y3))) (Gs_d (Gs_cj i2 i1 (by omega) (Wf_m s0 sA s0 nm) i3 i4 ?_ gd))))
      exact Gs_d (gE_g (c := sR (sR (sR c r0 (cA c) r0) r0 (cA c) r0) (cA c) r0 r0) (by omega) h3 (hl.2.2.1 k4 so).2 (by omega) bf hf dw md sA (Gs_d (Gs_any j2 j1 (by omega) (Wf_m s0 sA s0 nm) (Or.inr (Or.inr (Or.inr j3))) gd)))
    · obtain ⟨k4, so, o1, o2, a, b, m1, _, _, h1, h2, h3⟩ := h
      have := SQ_le h3
      have := gE_le h2
      have pl : T 15 (bK T 30 (T 19 e.toNat)).toNat = 1 ∨ T 15 (bK T 30 (T 19 e.toNat)).toNat = 2 := by
        rcases so with q | q | q | q
        · exact absurd q o1
        · exact absurd q o2
        · exact Or.inl q
        · exact Or.inr q
      refine gE_g (by omega) h1 (hl.2.2.1 k4 so).1 (by omega) bf hf dw md sA (Gs_d (gE_p (c := sR c r0 (cA c) r0) h2 (by omega) pl (by omega) dw md s0 sA (Gs_d ?_)))
      exact sgn_g (c := sR (sR c r0 (cA c) r0) r0 r0 (cA c)) h3 hk md rfl s0 s0 sA g
    · obtain ⟨k4, so, a, b, d, y, m1, _, _, h1, h2, h3, h4, h5⟩ := h
      obtain ⟨i1, i2, i3, i4⟩ := ST_k h2
      obtain ⟨j1, j2, j3, j4⟩ := ST_k h4
      have := SQ_le h5
      have := gE_le h3
      obtain ⟨l1', l2, l3, l4⟩ := hl.2.2.2 k4 so
      refine gE_g (by omega) h1 l1' (by omega) bf hf dw md sA (Gs_d (Gs_stl (l := cCp c) i2 i1 (by omega) (Wf_m s0 sA s0 nm) i3 dw md (Or.inr ⟨?_, Or.inl rfl⟩) (Gs_d ?_)))
      · rw [i4]
        exact Bf_f (c := sR c r0 (cA c) r0) bf hf (by omega) (by show T 25 e.toNat + 1 ≤ cZ c; omega) (by omega)
      · refine gE_g (c := sC (sR (sR c r0 (cA c) r0) (cA c) r0 r0) (cCp c)) (by omega) h3 l4 (by omega) (Bf_m (c := c) bf (by omega)) (by omega) dw md sA (Gs_d (Gs_psh (t := r0) j2 j1 (by omega) (Wf_m s0 sA s0 nm) (Or.inr (Or.inr (Or.inl ⟨j3, dw, Or.inr rfl⟩))) (Gs_d ?_)))
        exact sgn_g (c := sR (sR (sC (sR (sR c r0 (cA c) r0) (cA c) r0 r0) (cCp c)) r0 (cA c) r0) r0 r0 (cA c)) h5 hk md rfl s0 s0 sA g
