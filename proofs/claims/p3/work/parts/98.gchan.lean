/-! constant indexes; addresses of channels and of data -/
def Rf (S : Int → Int) : Nat → Int := fun n => S (n : Int)
theorem wE_s2 {T : Nat → Nat → Int} {V : Nat → Prop} {sb : Int} {n : Nat} {e lo hi : Int} (h : wE T V sb n e lo hi) (k : T 15 e.toNat = 2) : 0 ≤ T 17 e.toNat := by
  cases n with
  | zero => exact h.elim
  | succ n =>
    rcases h.2.2 with a | a | a | a | a <;> first | omega | exact a.2.1.1
theorem gE_k1 {T C : Nat → Nat → Int} {F S : Int → Int} {nw N : Int} {P : Int → Cx → Prop} : ∀ {n m : Nat} {e k k_q l0 l1 : Int} {c : Cx}, gE T C F S nw n e k k_q l0 l1 → n ≤ m → pC T (bK T m e) → (T 15 (bK T m e).toNat = 2 → 0 ≤ T 17 (bK T m e).toNat) → k_q ≤ N → cMd c = 0 → Sup (cCp c) (cA c) → Sup (cCp c) (cB c) → Gd (Kc C) N P k_q (sR c (5, cP T (Rf S) (bK T m e), 0) (cA c) (cB c)) → Gs (Kc C) N P k c
  | 0, _, _, _, _, _, _, _, h, _, _, _, _, _, _, _, _ => h.elim
  | n + 1, 0, _, _, _, _, _, _, _, hn, _, _, _, _, _, _, _ => absurd hn (by omega)
  | n + 1, m + 1, e, k, k_q, l0, l1, c, h, hn, hb, h0, hk, md, sA, sB, g => by
    have w : Wkr (sR c (cA c) (cB c) r0) c := Wkr_g (Or.inl rfl) (Or.inl rfl) (Or.inr rfl) sA sB s0 (by omega)
    have wf : Wf (sR c (cA c) (cB c) r0) := Wf_m sA sB s0 (show cMd c ≠ 1 by omega)
    by_cases k7 : T 15 e.toNat = 7
    · rw [bK_y k7] at hb h0 g
      rcases h with h | h | h | h | h | h | h | h | h | h <;> first | omega | skip
      exact gE_k1 h.2 (by omega) hb h0 hk md sA sB g
    · rw [bK_x k7] at hb h0 g
      rcases h with h | h | h | h | h | h | h | h | h | h
      · obtain ⟨i1, i2, i3, i4⟩ := ST_k h.2
        have e1 : cP T (Rf S) e = T 17 e.toNat := if_pos h.1
        rw [e1] at g
        exact Gs_w w (Gs_psh (t := (5, T 17 e.toNat, 0)) i2 i1 hk wf (Or.inl ⟨i3, Or.inl (by rw [i4])⟩) g)
      · rcases hb with hb | hb
        · omega
        · rcases h.2 with q | q | q
          · obtain ⟨i1, i2, i3, i4⟩ := ST_k q.2
            have h0 := h0 hb.1
            have e1 : cP T (Rf S) e = S (T 17 e.toNat) := by
              unfold cP Rf
              rw [if_neg (by omega), show ((T 17 e.toNat).toNat : Int) = T 17 e.toNat by omega]
            rw [e1] at g
            exact Gs_w w (Gs_psh (t := (5, S (T 17 e.toNat), 0)) i2 i1 hk wf (Or.inl ⟨i3, Or.inl (by rw [i4])⟩) g)
          · omega
          · omega
      all_goals (exfalso; rcases hb with hb | hb <;> omega)
/-- a constant index: its value is known -/
theorem gE_k {T C : Nat → Nat → Int} {F S : Int → Int} {V : Nat → Prop} {sb : Int} {nw N : Int} {P : Int → Cx → Prop} : ∀ {n m : Nat} {e k k_q l0 l1 lo hi : Int} {c : Cx}, gE T C F S nw n e k k_q l0 l1 → wE T V sb m e lo hi → 0 ≤ lo → n ≤ 30 → m ≤ 30 → ∀ {M : Nat}, m ≤ M → M ≤ 30 → ((T 15 (bK T M e).toNat = 4 ∧ (T 17 (bK T M e).toNat = 43 ∨ T 17 (bK T M e).toNat = 45) ∧ T 15 (bK T 30 (T 19 (bK T M e).toNat)).toNat = 1 ∧ pC T (bK T 30 (T 18 (bK T M e).toNat))) ∨ (T 15 (bK T M e).toNat ≠ 4 ∧ pC T (bK T M e))) → k_q ≤ N → cMd c = 0 → Sup (cCp c) (cA c) → Gd (Kc C) N P k_q (sR c (5, if T 15 (bK T M e).toNat = 4 then (if T 17 (bK T M e).toNat = 43 then (i32 (cP T (Rf S) (bK T 30 (T 18 (bK T M e).toNat)) + cP T (Rf S) (bK T 30 (T 19 (bK T M e).toNat)))).toInt else (i32 (cP T (Rf S) (bK T 30 (T 18 (bK T M e).toNat)) - cP T (Rf S) (bK T 30 (T 19 (bK T M e).toNat)))).toInt) else cP T (Rf S) (bK T M e), 0) (cA c) r0) → Gs (Kc C) N P k c
  | 0, _, _, _, _, _, _, _, _, _, h, _, _, _, _, _, _, _, _, _, _, _, _ => h.elim
  | n + 1, 0, _, _, _, _, _, _, _, _, _, h, _, _, _, _, _, _, _, _, _, _, _ => h.elim
  | n + 1, m + 1, e, k, k_q, l0, l1, lo, hi, c, h, we, hlo, hn, hm, M, hM, hM2, hi2, hk, md, sA, g => by
    have nm : cMd c ≠ 1 := by omega
    have w0 : Wkr (sR c (cA c) r0 r0) c := Wkr_g (Or.inl rfl) (Or.inr rfl) (Or.inr rfl) sA s0 s0 nm
    obtain ⟨M, rfl⟩ : ∃ M', M = M' + 1 := ⟨M - 1, by omega⟩
    by_cases k7 : T 15 e.toNat = 7
    · rw [bK_y k7] at hi2 g
      rcases h with h | h | h | h | h | h | h | h | h | h <;> first | omega | skip
      exact gE_k h.2 (wE_i5 we (.inr (.inr k7))) hlo (by omega) (by omega) (M := M) (by omega) (by omega) hi2 hk md sA g
    · rw [bK_x k7] at hi2 g
      rcases hi2 with ⟨k4, op, y1, xp⟩ | ⟨k4, xp⟩
      · rw [if_pos k4] at g
        obtain ⟨mm, g1, g2, g3, g4⟩ := wE_i4 we k4
        have so : sO T e := Or.inr (Or.inr (Or.inl y1))
        rcases h with h | h | h | h | h | h | h | h | h | h <;> first | omega | skip
        · obtain ⟨_, _, o1, o2, a, b, m1, _, _, h1, h2, h3⟩ := h
          have yp : pC T (bK T 30 (T 19 e.toNat)) := Or.inl y1
          have x0 := wE_s2 (bK_w (N := 30) g3)
          have y0 := wE_s2 (bK_w (N := 30) g4)
          have := SQ_le h3
          have := gE_le h2
          refine Gs_w w0 (gE_k1 (m := 30) (c := sR c (cA c) r0 r0) h1 (by omega) xp x0 (by omega) md sA s0 (Gs_d (gE_k1 (m := 30) (c := sR (sR c (cA c) r0 r0) (5, cP T (Rf S) (bK T 30 (T 18 e.toNat)), 0) (cA c) r0) h2 (by omega) yp y0 (by omega) md (fun q => absurd q (by show ¬ (5 : Int) = 3; decide)) sA (Gs_d ?_))))
          have wf : Wf (sR (sR (sR c (cA c) r0 r0) (5, cP T (Rf S) (bK T 30 (T 18 e.toNat)), 0) (cA c) r0) (5, cP T (Rf S) (bK T 30 (T 19 e.toNat)), 0) (5, cP T (Rf S) (bK T 30 (T 18 e.toNat)), 0) (cA c)) := Wf_m (fun q => absurd q (by show ¬ (5 : Int) = 3; decide)) (fun q => absurd q (by show ¬ (5 : Int) = 3; decide)) sA nm
          have fin : ∀ z : Int, Gd (Kc C) N P k_q (sR c (5, z, 0) (cA c) r0) → Gd (Kc C) N P k_q (sR (sR (sR (sR c (cA c) r0 r0) (5, cP T (Rf S) (bK T 30 (T 18 e.toNat)), 0) (cA c) r0) (5, cP T (Rf S) (bK T 30 (T 19 e.toNat)), 0) (5, cP T (Rf S) (bK T 30 (T 18 e.toNat)), 0) (cA c)) (5, z, 0) (cA c) (cA c)) := fun z g => Gd_w (e := sR c (5, z, 0) (cA c) r0) ⟨rfl, Or.inl rfl, Or.inl rfl, Or.inl rfl, Or.inr rfl, rfl, fun q => absurd q (by show ¬ (5 : Int) = 3; decide), sA, s0, fun _ _ q => absurd q nm⟩ g
          rcases op with op | op
          · rw [if_pos op] at g
            have es : sgn (T 17 e.toNat) = [(15, 1)] := if_pos op
            rw [es] at h3
            obtain ⟨x, h4, h5⟩ := h3
            have h5 : k_q = x := h5
            subst h5
            obtain ⟨i1, i2, i3, i4⟩ := ST_k h4
            exact Gs_two i2 i1 hk wf i3 (by omega) (by omega) md (Or.inr (Or.inr (Or.inl ⟨i4, rfl, rfl, rfl⟩))) (fin _ g)
          · have n43 : T 17 e.toNat ≠ 43 := by omega
            rw [if_neg n43] at g
            have es : sgn (T 17 e.toNat) = [(15, 2)] := by
              unfold sgn
              rw [if_neg n43, if_pos op]
            rw [es] at h3
            obtain ⟨x, h4, h5⟩ := h3
            have h5 : k_q = x := h5
            subst h5
            obtain ⟨i1, i2, i3, i4⟩ := ST_k h4
            exact Gs_two i2 i1 hk wf i3 (by omega) (by omega) md (Or.inr (Or.inr (Or.inr ⟨i4, rfl, rfl, rfl⟩))) (fin _ g)
        · exact absurd so h.2.1
      · rw [if_neg k4] at g
        have x0 := wE_s2 we
        refine Gs_w w0 (gE_k1 (m := 30) (c := sR c (cA c) r0 r0) h (by omega) ?_ ?_ hk md sA s0 ?_)
        · rw [bK_x k7]
          exact xp
        · rw [bK_x k7]
          exact x0
        · rw [bK_x k7]
          exact g
/-- a channel's use is covered by the rights -/
def ChU (T : Nat → Nat → Int) (F S : Int → Int) (nw : Int) (c : Cx) (x b : Int) : Prop :=
  (T 15 x.toNat = 3 → -1000000 ≤ wd T F nw (T 17 x.toNat) ∧ wd T F nw (T 17 x.toNat) ≤ 1000000 ∧ T 8 (T 17 x.toNat).toNat ≤ 64 ∧ T 7 (T 17 x.toNat).toNat ≠ 7 ∧ (iC T (T 18 x.toNat) → 0 ≤ cv T (Rf S) (T 18 x.toNat) → cv T (Rf S) (T 18 x.toNat) < T 8 (T 17 x.toNat).toNat → ∃ q ∈ cCp c, sbt (qU q) b ∧ qK q = 2 ∧ qO q ≤ wd T F nw (T 17 x.toNat) + cv T (Rf S) (T 18 x.toNat) ∧ wd T F nw (T 17 x.toNat) + cv T (Rf S) (T 18 x.toNat) + 1 ≤ qO q + qN q) ∧ (¬ iC T (T 18 x.toNat) → ∃ q ∈ cCp c, sbt (qU q) b ∧ qK q = 2 ∧ qO q ≤ wd T F nw (T 17 x.toNat) ∧ wd T F nw (T 17 x.toNat) + T 8 (T 17 x.toNat).toNat ≤ qO q + qN q)) ∧
  (T 15 x.toNat ≠ 3 → ∃ q ∈ cCp c, sbt (qU q) b ∧ ((adf T (T 17 x.toNat) = 1 ∧ qK q = 2 ∧ qO q ≤ adv T F nw (T 17 x.toNat) ∧ adv T F nw (T 17 x.toNat) + 1 ≤ qO q + qN q) ∨ (adf T (T 17 x.toNat) = 7 ∧ qK q = 4 ∧ qO q = adv T F nw (T 17 x.toNat)) ∨ (adf T (T 17 x.toNat) = 4 ∧ qK q = 5 ∧ qO q = adv T F nw (T 17 x.toNat))))
/-- what the address of a channel is known as -/
def CrT (T : Nat → Nat → Int) (F S : Int → Int) (nw x : Int) (t : Rt) : Prop :=
  (T 15 x.toNat = 3 ∧ iC T (T 18 x.toNat) ∧ 0 ≤ cv T (Rf S) (T 18 x.toNat) ∧ cv T (Rf S) (T 18 x.toNat) < T 8 (T 17 x.toNat).toNat ∧ t = (2, wd T F nw (T 17 x.toNat) + cv T (Rf S) (T 18 x.toNat), 1)) ∨ (T 15 x.toNat = 3 ∧ ¬ iC T (T 18 x.toNat) ∧ t = (2, wd T F nw (T 17 x.toNat), T 8 (T 17 x.toNat).toNat)) ∨
  (T 15 x.toNat ≠ 3 ∧ ((adf T (T 17 x.toNat) = 1 ∧ t = (2, adv T F nw (T 17 x.toNat), 1)) ∨ (adf T (T 17 x.toNat) = 7 ∧ t = (3, adv T F nw (T 17 x.toNat), 1)) ∨ (adf T (T 17 x.toNat) = 4 ∧ t = (5, adv T F nw (T 17 x.toNat), 0))))
/-- the address of a channel -/
theorem gD_c {T C : Nat → Nat → Int} {F S : Int → Int} {V : Nat → Prop} {sb_q : Int} {nw N f : Int} {P : Int → Cx → Prop} {x k k_q l0 l1 lo hi b : Int} {c : Cx} 
    (h : gD T C F S nw 20 x k k_q l0 l1) (we : T 15 x.toNat = 3 → wE T V sb_q 20 (T 18 x.toNat) lo hi) (hlo : 0 ≤ lo) (hl : T 15 x.toNat = 3 → lE T 20 (T 18 x.toNat) f (cZ c)) (hk : k_q ≤ N) (bf : Bf c f) (hf : 1 ≤ f) (dw : cDw c = 0) (md : cMd c = 0) (sA : Sup (cCp c) (cA c)) (hu : ChU T F S nw c x b) (g : ∀ t, Chr (cCp c) t b → Sup (cCp c) t → CrT T F S nw x t → Gd (Kc C) N P k_q (sR c t (cA c) r0)) : Gs (Kc C) N P k c := by
  have nm : cMd c ≠ 1 := by omega
  have gen : ∀ t, AdT T F nw c x t → Chr (cCp c) t b → CrT T F S nw x t → Gs (Kc C) N P k c := fun t ht hc hr => by
    refine gAd_g (t := t) (fun {e_q a_q d} w1 w2 w3 w4 w5 w6 => ?_) h hk dw md sA ht (g t hc (AdT_s ht) hr)
    subst w4 w5
    exact gE_g (by omega) w1 (hl w3) w2 bf hf dw md sA w6
  by_cases k3 : T 15 x.toNat = 3
  · obtain ⟨u1, u2, u3, u4, u5, u6⟩ := hu.1 k3
    by_cases ic : iC T (T 18 x.toNat)
    · -- the index is known
      obtain ⟨a, h1, a1, h2, a2, h3, a3, h4, a4, h5, h6⟩ := h.1 k3
      have h6 : k_q = a4 := h6
      subst h6
      obtain ⟨i1, i2, i3, i4⟩ := ST_k h2
      obtain ⟨j1, j2, j3, j4⟩ := ST_k h3
      obtain ⟨m1, m2, m3, m4⟩ := ST_k h4
      obtain ⟨n1, n2, n3, n4⟩ := ST_k h5
      rw [if_neg u4] at m3
      have w0 : Wkr (sR c (cA c) r0 r0) c := Wkr_g (Or.inl rfl) (Or.inr rfl) (Or.inr rfl) sA s0 s0 nm
      have n5 : ∀ (l : List Cp) (z w : Int), Sup l (5, z, w) := fun l z w q => absurd q (by show ¬ (5 : Int) = 3; decide)
      have n2' : ∀ (l : List Cp) (z w : Int), Sup l (2, z, w) := fun l z w q => absurd q (by show ¬ (2 : Int) = 3; decide)
      refine Gs_w w0 (gE_k (c := sR c (cA c) r0 r0) h1 (we k3) hlo (by omega) (by omega) (M := 30) (by omega) (by omega) ic (by omega) md sA ?_)
      show Gd (Kc C) N P a (sR (sR c (cA c) r0 r0) (5, cv T (Rf S) (T 18 x.toNat), 0) (cA c) r0)
      refine Gs_d (Gs_psh (t := (5, T 8 (T 17 x.toNat).toNat, 0)) i2 i1 (by omega) (Wf_m (n5 _ _ _) sA s0 nm) (Or.inl ⟨i3, Or.inl (by rw [i4])⟩) (Gs_d (Gs_chc j2 j1 (by omega) (Wf_m (n5 _ _ _) (n5 _ _ _) sA nm) j3 j4 md rfl rfl (fun v1 v2 => ?_))))
      refine Gs_d (Gs_psh (t := (2, wd T F nw (T 17 x.toNat), 1)) m2 m1 (by omega) (Wf_m (n5 _ _ _) sA sA nm) (Or.inr (Or.inl ⟨m3, dw, by rw [m4]⟩)) ?_)
      obtain ⟨q, hq, q1, q2, q3, q4⟩ := u5 ic v1 v2
      have cr : Chr (cCp c) (2, wd T F nw (T 17 x.toNat) + cv T (Rf S) (T 18 x.toNat), 1) b := ⟨q, hq, q1, Or.inr (Or.inl ⟨rfl, q2, q3, q4⟩)⟩
      exact Gs_d (Gs_two (t := (2, wd T F nw (T 17 x.toNat) + cv T (Rf S) (T 18 x.toNat), 1)) n2 n1 hk (Wf_m (n2' _ _ _) (n5 _ _ _) sA nm) n3 (by omega) (by omega) md (Or.inr (Or.inl ⟨n4, Or.inr (Or.inl ⟨rfl, rfl, rfl, v1, by show cv T (Rf S) (T 18 x.toNat) ≤ 64; omega, u1, u2, rfl⟩)⟩)) (Gd_w (e := sR c (2, wd T F nw (T 17 x.toNat) + cv T (Rf S) (T 18 x.toNat), 1) (cA c) r0) ⟨rfl, Or.inl rfl, Or.inl rfl, Or.inl rfl, Or.inr rfl, rfl, n2' _ _ _, sA, s0, fun _ _ q => absurd q nm⟩ (g _ cr (n2' _ _ _) (Or.inl ⟨k3, ic, v1, v2, rfl⟩))))
    · obtain ⟨q, hq, q1, q2, q3, q4⟩ := u6 ic
      exact gen _ (Or.inr (Or.inl ⟨k3, u4, rfl⟩)) ⟨q, hq, q1, Or.inr (Or.inl ⟨rfl, q2, q3, q4⟩)⟩ (Or.inr (Or.inl ⟨k3, ic, rfl⟩))
  · obtain ⟨q, hq, q1, a | a | a⟩ := hu.2 k3
    · exact gen (2, adv T F nw (T 17 x.toNat), 1) (Or.inr (Or.inr (Or.inr (Or.inl ⟨k3, a.1, rfl⟩)))) ⟨q, hq, q1, Or.inr (Or.inl ⟨rfl, a.2.1, a.2.2.1, a.2.2.2⟩)⟩ (Or.inr (Or.inr ⟨k3, Or.inl ⟨a.1, rfl⟩⟩))
    · exact gen (3, adv T F nw (T 17 x.toNat), 1) (Or.inr (Or.inr (Or.inr (Or.inr (Or.inl ⟨k3, a.1, ⟨q, hq, a.2.2, Or.inr (Or.inl a.2.1)⟩, rfl⟩))))) ⟨q, hq, q1, Or.inr (Or.inr ⟨rfl, rfl, Or.inl a.2.1, a.2.2⟩)⟩ (Or.inr (Or.inr ⟨k3, Or.inr (Or.inl ⟨a.1, rfl⟩)⟩))
    · exact gen (5, adv T F nw (T 17 x.toNat), 0) (Or.inr (Or.inr (Or.inr (Or.inr (Or.inr ⟨k3, a.1, rfl⟩))))) ⟨q, hq, q1, Or.inl ⟨rfl, a.2.1, a.2.2⟩⟩ (Or.inr (Or.inr ⟨k3, Or.inr (Or.inr ⟨a.1, rfl⟩)⟩))
