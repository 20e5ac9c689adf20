/-! TURNS: dispatch and makeReady, with what is kept besides -/
theorem disp_59 {A A_q : Nat → Nat → Int} {p : Int} (h : dispR A A_q p) : A_q 59 = A 59 := by
  rcases h with ⟨_, _, h⟩ | ⟨q, i, _, _, ⟨_, h⟩ | ⟨_, _, h⟩⟩
  · rw [h]
    exact no_o ⟨by decide, by decide, by decide, by decide, by decide, by decide, by decide, by decide⟩
  · rw [h]
    exact (gt_o ⟨by decide, by decide⟩).trans (tk_o ⟨by decide, by decide, by decide, by decide, by decide, by decide, by decide, by decide⟩)
  · rw [h]
    exact (kp_o ⟨by decide, by decide, by decide, by decide, by decide⟩).trans ((gt_o ⟨by decide, by decide⟩).trans (tk_o ⟨by decide, by decide, by decide, by decide, by decide, by decide, by decide, by decide⟩))
theorem mk_59 {A A_q : Nat → Nat → Int} {p d : Int} (h : mkR A A_q p d) : A_q 59 = A 59 := by
  rcases h with ⟨_, h⟩ | ⟨_, h⟩
  · rw [h]
    exact ad_o ⟨by decide, by decide⟩
  · exact (disp_59 h).trans (ad_o ⟨by decide, by decide⟩)
/-- a PAR's words are not those of the PAR around -/
theorem pa_ne {K : Kd} {N : Int} {m ty : Int → Int} {g : Int → Fm} {r : Int} (h : MI K N m ty g) (hr : fOn (g r) = 1) (hu : fSu (g r) = 2) : fPa (g r) ≠ fAw (g r) := fun e => by
  obtain ⟨a1, a2, a3, a4, a5, a6⟩ := h.1 r hr
  have t := a2.2.2.2.2.2 hu
  have b1 := a1.1
  have b2 := a1.2.1
  have b3 := a1.2.2.1
  have b6 := a1.2.2.2.2.2.1
  by_cases k : cEk (fCx (g r)) = 2
  · obtain ⟨V, v1, v2, v3, v4, v5⟩ := (a5.2.1 k).2
    have tv := (h.1 V v1).2.1.2.2.2.2.2 v2
    omega
  · have := a5.2.2 k
    omega
theorem X2_dsp {K : Kd} {N : Int} {ty : Int → Int} {g : Int → Fm} {A : Nat → Nat → Int} {p r : Int} (hS : SK K N ty g A p) (x : X2 g) (hn : ∀ W, fOn (g W) = 1 → fSx (g W) ≠ 0) (hr : fOn (g r) = 1) (hx : fSx (g r) = 1) (hf : fPb (g r) = 1 → rw0 A (2 * p + 1) 0 = 2 * fR g r + 1) : X2 (ug g r (ws (g r) 0 (fCh (g r)) (fSt (g r)) (fCx (g r)))) := by
  have hM := hS.1
  have un : ∀ V, fOn (g V) = 1 → fSu (g V) = 2 → (fSx (g V) = 0 ∨ fSx (g V) = 1) → fPa (g r) = fAw (g V) → fPb (g r) = fPb (g V) → False := fun V v1 v2 v3 v4 v5 => by
    by_cases n : V = r
    · subst n
      exact pa_ne hM v1 v2 v4
    · rcases v3 with v3 | v3
      · exact hn V v1 v3
      · by_cases q : Asd g A p V
        · obtain ⟨q1, q2, q3⟩ := q
          have := hf (by omega)
          have := W_far hM v1 hr n
          omega
        · have := (hS.2.2.2.1 V v1 v3 q).2.2
          omega
  refine ⟨fun V v1 v2 => ?_, fun V v1 v2 v3 v4 => ?_⟩
  · by_cases n : V = r
    · subst n
      rw [ug_e] at v2 ⊢
      exact x.1 V hr v2
    · rw [ug_n n] at v1 v2 ⊢
      exact x.1 V v1 v2
  · have fld : ∀ W, fOn (ug g r (ws (g r) 0 (fCh (g r)) (fSt (g r)) (fCx (g r))) W) = fOn (g W) ∧ fPa (ug g r (ws (g r) 0 (fCh (g r)) (fSt (g r)) (fCx (g r))) W) = fPa (g W) ∧ fAw (ug g r (ws (g r) 0 (fCh (g r)) (fSt (g r)) (fCx (g r))) W) = fAw (g W) ∧ fPb (ug g r (ws (g r) 0 (fCh (g r)) (fSt (g r)) (fCx (g r))) W) = fPb (g W) ∧ fSu (ug g r (ws (g r) 0 (fCh (g r)) (fSt (g r)) (fCx (g r))) W) = fSu (g W) := fun W => by
      by_cases n : W = r
      · subst n
        rw [ug_e]
        exact ⟨rfl, rfl, rfl, rfl, rfl⟩
      · rw [ug_n n]
        exact ⟨rfl, rfl, rfl, rfl, rfl⟩
    have z : fSx (g V) = 0 ∨ fSx (g V) = 1 := by
      by_cases n : V = r
      · subst n
        exact Or.inr hx
      · rw [ug_n n] at v3
        exact v3
    rw [(fld V).1] at v1
    rw [(fld V).2.2.2.2] at v2
    rw [(fld V).2.2.1] at v4 ⊢
    rw [(fld V).2.2.2.1]
    obtain ⟨R, r1, r2⟩ := v4
    rw [(fld R).1] at r1
    rw [(fld R).2.1] at r2
    obtain ⟨U, u1, u2, u3⟩ := x.2 V v1 v2 z ⟨R, r1, r2⟩
    have n : U ≠ r := fun e => by
      subst e
      rcases u3 with u3 | u3
      · omega
      · exact un V v1 v2 z u2 u3.2
    refine ⟨U, ?_⟩
    rw [ug_n n]
    exact ⟨u1, u2, u3⟩
theorem SX_dsp {K : Kd} {N : Int} {ty : Int → Int} {g : Int → Fm} {A A_q : Nat → Nat → Int} {p : Int} (s : Sby K N) (h : SK K N ty g A p) (x : X2 g) (hn : ∀ W, fOn (g W) = 1 → fSx (g W) ≠ 0) (hp : 0 ≤ p) (hd : dispR A A_q p) : Nxs K N ty g (ldM A p) A_q p := by
  have em := ldM_f (p := p) (disp_59 hd)
  rcases SI_dsp s h hn hp hd with w | ⟨r, w1, w2, w3, w4⟩
  · refine ⟨ty, g, w, x, fun _ _ => rfl, fun l W _ _ _ d => ?_⟩
    rw [em]
    exact d
  · refine ⟨ty, _, w4, X2_dsp h x hn w1 w2 w3, fun _ _ => rfl, ?_⟩
    exact Lst_own (by omega) (fun l _ _ _ _ => by rw [em])
theorem SX_mk {K : Kd} {N : Int} {ty : Int → Int} {g : Int → Fm} {A A_q : Nat → Nat → Int} {p b V d : Int} {f : Fm} (s : Sby K N) (hp : 0 ≤ p) (hb : b = 0 ∨ b = 1) (hM : MI K N (ldM A p) ty (ug g V f)) (hR0 : Rdy g 0 (A 72 (2 * p).toNat) (rw0 A (2 * p))) (hR1 : Rdy g 1 (A 72 (2 * p + 1).toNat) (rw0 A (2 * p + 1))) (hV : fSx (g V) ≠ 1) (f1 : fOn f = 1) (f2 : fSx f = 1) (f3 : fPb f = b) (hd : d = 2 * (V + cDw (fCx f)) + b)
    (hS1 : ∀ W, fOn (ug g V f W) = 1 → fSx (ug g V f W) = 1 → ¬ Asd (ug g V f) A p W → Rst K (ldM A p) (ug g V f) W) (hS2 : A 73 p.toNat ≠ 0 → 0 < A 72 (2 * p + 1).toNat)
    (hS3 : ∀ W, fOn (ug g V f W) = 1 → fSx (ug g V f W) = 1 → Asd (ug g V f) A p W → Psx K (ug g V f W) (ldM A p (fR (ug g V f) W - 1)) (A 77 p.toNat) ∧ Rgs (ldM A p) (ug g V f) W (A 74 p.toNat) (A 75 p.toNat) (A 76 p.toNat))
    (hrn : (A 66 p.toNat = -1 ∧ ∀ W, fOn (ug g V f W) = 1 → fSx (ug g V f W) ≠ 0) ∨ ∃ r, RN K (ug g V f) A p r ∧ ∀ W, fOn (ug g V f W) = 1 → fSx (ug g V f W) = 0 → W = r) (x : X2 (ug g V f)) (hk : mkR A A_q p d) : Nxs K N ty (ug g V f) (ldM A p) A_q p := by
  have em := ldM_f (p := p) (mk_59 hk)
  have h := SK_ad hp hb hM hR0 hR1 hV f1 f2 f3 hd hS1 hS2 hS3
  have e2 : d % 2 = b := by omega
  have em2 : ldM (adM A (2 * p + b) d) p = ldM A p := ldM_f (ad_o ⟨by decide, by decide⟩)
  unfold mkR at hk
  rw [e2] at hk
  rcases hrn with ⟨r1, r2⟩ | ⟨r, r1, r2⟩
  · rcases hk with ⟨k1, _⟩ | ⟨_, k2⟩
    · exact absurd r1 k1
    · have q := SX_dsp s h x r2 hp k2
      rw [em2] at q
      exact q
  · rcases hk with ⟨_, k2⟩ | ⟨k1, _⟩
    · subst k2
      refine ⟨ty, ug g V f, ⟨h, Or.inr ⟨r, ?_, r2⟩⟩, x, fun _ _ => rfl, fun l W _ _ _ d => ?_⟩
      · unfold RN at r1 ⊢
        rw [em2, ad_o (k := 66) ⟨by decide, by decide⟩, ad_o (k := 64) ⟨by decide, by decide⟩, ad_o (k := 63) ⟨by decide, by decide⟩, ad_o (k := 65) ⟨by decide, by decide⟩, ad_o (k := 60) ⟨by decide, by decide⟩, ad_o (k := 61) ⟨by decide, by decide⟩, ad_o (k := 62) ⟨by decide, by decide⟩, ad_o (k := 73) ⟨by decide, by decide⟩]
        exact r1
      · rw [em2]
        exact d
    · have q := r1.2.2.1
      have v := fR_in hM r1.1
      have w := (hM.1 r r1.1).1.2.2.2.2.2.2.2.2.1
      omega
