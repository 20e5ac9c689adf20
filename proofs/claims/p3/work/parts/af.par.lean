/-! EACH RULE AS A STEP: PAR -/
/-- the PAR around lies elsewhere -/
theorem pa_out {K : Kd} {N : Int} {m ty : Int → Int} {g : Int → Fm} {r R : Int} (h : MI K N m ty g) (hr : fOn (g r) = 1) (hu : fSu (g r) = 0) (hR : fOn (g R) = 1) : ¬ (fLo (g r) ≤ fPa (g R) ∧ fPa (g R) < fHi (g r)) := fun q => by
  obtain ⟨a1, a2, a3, a4, a5, a6⟩ := h.1 R hR
  have L := (h.1 r hr).1.1
  by_cases k : cEk (fCx (g R)) = 2
  · obtain ⟨V, v1, v2, v3, v4, v5⟩ := (a5.2.1 k).2
    have tv := (h.1 V v1).2.1.2.2.2.2.2 v2
    have hv := (h.1 V v1).1.2.2.1
    have n : V ≠ r := fun e => by
      subst e
      omega
    rw [← v3] at q
    exact (oth_w h hr hu v1 n).1 (fAw (g V)) (by omega) (by omega) q
  · have := a5.2.2 k
    omega
theorem aw_out {K : Kd} {N : Int} {m ty : Int → Int} {g : Int → Fm} {r V : Int} (h : MI K N m ty g) (hr : fOn (g r) = 1) (hu : fSu (g r) = 0) (v1 : fOn (g V) = 1) (v2 : fSu (g V) = 2) : ¬ (fLo (g r) ≤ fAw (g V) ∧ fAw (g V) < fHi (g r)) := by
  have tv := (h.1 V v1).2.1.2.2.2.2.2 v2
  have hv := (h.1 V v1).1.2.2.1
  exact (oth_w h hr hu v1 (fun e => by subst e; omega)).1 (fAw (g V)) (by omega) (by omega)
section
variable {K : Kd} {N : Int} {ty : Int → Int} {g : Int → Fm} {A A_q : Nat → Nat → Int} {p r : Int}
theorem ru_par {w b : Int} {c0 : Cx} {ks : List (Int × Int × Cx)} (s : Sby K N) (hp : 0 ≤ p) (h : SF K N ty g A p r) (k : kF K (fSt (g r)) = 13) (dw : cDw (fCx (g r)) = 0) (hd : cMd (fCx (g r)) = 0) (kv : kV K (fSt (g r)) = w + 2) (w1 : 1 ≤ w) (w2 : w + 3 ≤ cZ (fCx (g r))) (ca : (cA (fCx (g r))).1 = 6)
    (qa : ∃ q ∈ cCp (fCx (g r)), qK q = 7 ∧ qO q = w ∧ qU q = kP K b) (qb : ∃ q ∈ cCp (fCx (g r)), qK q = 7 ∧ qO q = w + 1 ∧ qU q = (ks.length : Int)) (wk0 : Wkr c0 (a0 (fCx (g r)))) (ab : Abv c0) (ov : ∀ q ∈ cCp c0, qK q = 5 ∨ ¬ Ov w 3 (qO q) (wN q)) (kk : Kds c0 w ks)
    (o0 : Gd K N (fun _ _ => False) b c0) (o1 : Gd K N (fun _ _ => False) (fSt (g r) + 1) (sM (sC (a0 (fCx (g r))) []) (2, ks.map (fun k => (k.1, k.2.1)), [w]))) (ok : ∀ k ∈ ks, Gd K N (fun _ _ => False) k.2.1 k.2.2) (ha : acR A A_q p (kF K (fSt (g r))) (kV K (fSt (g r)))) : Nxs K N ty g (ldM A p) A_q p := by
  have hu := SF_lf h (by omega)
  have q := SF_rw h dw
  obtain ⟨hS, x, ⟨z1, z2, z3, z4, z5, z6, z7, z8⟩, u⟩ := h
  obtain ⟨w_q, v, a, A1, _, hw, hA, ev, s1, e⟩ := acR_f13 ha k
  have H := (hS.1.1 r z1).1
  obtain ⟨b1, b2, b3, b4, b5, b6, b7, b8, b9, b10, b11, b12, b13⟩ := H
  have ea : a = 2 * r + fPb (g r) := by
    rw [← hA]
    exact z7.1.2.2.2.2 ca
  have e2 : v = r + w + 2 := by
    rw [ev, i32_to (by omega) (by omega)]
    omega
  obtain ⟨cp, ecp⟩ : ∃ cp, cp = sM (sC (a0 (fCx (g r))) []) (2, ks.map (fun k => (k.1, k.2.1)), [w]) := ⟨_, rfl⟩
  rw [← ecp] at o1
  obtain ⟨ty_q, t1, hM⟩ := MI_par hS.1 z1 hu z2 hd dw w1 w2 qa qb wk0 ab ov kk ecp o0 o1 ok
  obtain ⟨c1, c2, c4⟩ := take_c (A := A1) (p := p)
  rw [← e] at c1 c2 c4
  have o12 : ∀ q, q ≠ 59 → q ≠ 60 → q ≠ 61 → A_q q = A q := fun q q1 q2 q3 => by
    rw [c4 q q2 q3, s1, stM_ne q1]
  have em : ldM A_q p = um (ldM A p) (r + w + 2) (2 * r + fPb (g r)) := by
    rw [ldM_f (p := p) (c4 59 (by decide) (by decide)), s1, e2, ea]
    exact ld_um hp (by omega) (by omega)
  rw [← em] at hM
  obtain ⟨F, hF⟩ : ∃ F : Fm, F = (fOn (g r), 2, 0, fPb (g r), fCh (g r), fPa (g r), r + w, fLo (g r), fHi (g r), fSt (g r) + 1, cp, b, c0) := ⟨_, rfl⟩
  rw [← hF] at hM
  obtain ⟨g_q, hg⟩ : ∃ g_q, g_q = gk g r F (kdf (r + w) (fPb (g r)) r ks) := ⟨_, rfl⟩
  rw [← hg] at hM
  have gr : g_q r = F := by
    rw [hg]
    exact if_pos rfl
  have go : ∀ W, W ≠ r → (g_q W = g W ∧ ¬ fOn (kdf (r + w) (fPb (g r)) r ks W) = 1) ∨ ∃ k ∈ ks, W = r - k.1 ∧ g_q W = kf (r + w) (fPb (g r)) r k := fun W n => by
    by_cases o : fOn (kdf (r + w) (fPb (g r)) r ks W) = 1
    · obtain ⟨k, hk, k1, k2⟩ := kdf_o o
      refine Or.inr ⟨k, hk, k1, ?_⟩
      rw [hg, ← k2]
      show (if W = r then F else if fOn (kdf (r + w) (fPb (g r)) r ks W) = 1 then kdf (r + w) (fPb (g r)) r ks W else g W) = _
      rw [if_neg n, if_pos o]
    · refine Or.inl ⟨?_, o⟩
      rw [hg]
      show (if W = r then F else if fOn (kdf (r + w) (fPb (g r)) r ks W) = 1 then kdf (r + w) (fPb (g r)) r ks W else g W) = _
      rw [if_neg n, if_neg o]
  have geo : ∀ k ∈ ks, fLo (g r) ≤ r - k.1 ∧ r - k.1 < r - 3 := fun k hk => by
    obtain ⟨y1, y2, y3, y4, y5, y6, y7, y8, y9⟩ := kk.1 k hk
    have eD : cD c0 = cD (fCx (g r)) := congrArg (fun t : Hd => t.2.2.2.1) wk0.1
    omega
  have of2 : ∀ k ∈ ks, fOn (g (r - k.1)) ≠ 1 := fun k hk => by
    have := geo k hk
    exact no_in hS.1 z1 hu (by omega) (by omega) (by omega)
  have ne : ∀ y, ldM A_q p y ≠ ldM A p y → y = r + w + 2 := fun y hy => by
    by_cases q : y = r + w + 2
    · exact q
    · rw [em, um_n q] at hy
      exact absurd rfl hy
  have sm : ∀ W, fOn (g W) = 1 → W ≠ r → g_q W = g W := fun W q1 q2 => by
    rcases go W q2 with q | ⟨k, hk, q3, _⟩
    · exact q.1
    · rw [q3] at q1
      exact absurd q1 (of2 k hk)
  have nr : ∀ W, fSx (g W) ≠ 0 → W ≠ r := fun W nq e => nq (by rw [e]; exact z2)
  have hK : SK K N ty_q g_q A_q p := SK_gen hS z2 hM (Oky_m hS.1 x z1 hu (fun y hy => Or.inr (Or.inr (Or.inr (by rw [ne y hy]; omega))))) (fun W q1 q2 => sm W q1 (nr W (by omega))) (fun W q1 q2 => by
    have n : W ≠ r := fun e => by
      subst e
      rw [gr, hF] at q2
      exact absurd q2 (show ¬ (0 : Int) = 1 by decide)
    rcases go W n with q | ⟨k, hk, q3, q4⟩
    · exact q.1
    · rw [q4] at q2
      exact absurd q2 (show ¬ (5 : Int) = 1 by decide)) (o12 71 (by decide) (by decide) (by decide)) (o12 72 (by decide) (by decide) (by decide)) (o12 73 (by decide) (by decide) (by decide)) (o12 74 (by decide) (by decide) (by decide)) (o12 75 (by decide) (by decide) (by decide)) (o12 76 (by decide) (by decide) (by decide)) (o12 77 (by decide) (by decide) (by decide))
  have x2 : X2 g_q := by
    refine ⟨fun V v1 v2 => ?_, fun V v1 v2 v3 v4 => ?_⟩
    · by_cases n : V = r
      · subst n
        rw [gr, hF]
        show cCp cp = []
        rw [ecp]
        rfl
      · rcases go V n with q | ⟨k, hk, q3, q4⟩
        · rw [q.1] at v1 v2 ⊢
          exact x.1 V v1 v2
        · rw [q4] at v2
          exact absurd v2 (show ¬ (0 : Int) = 2 by decide)
    · obtain ⟨R, r1, r2⟩ := v4
      by_cases n : V = r
      · subst n
        have aw : fAw (g_q V) = V + w := by
          rw [gr, hF]
        by_cases nR : R = V
        · subst nR
          have pq := pa_out hS.1 z1 hu z1
          rw [gr, hF] at r2
          have r2' : fPa (g R) = R + w := r2
          exact absurd ⟨by omega, by omega⟩ pq
        · rcases go R nR with q | ⟨k, hk, q3, q4⟩
          · rw [q.1] at r1 r2
            have pq := pa_out hS.1 z1 hu r1
            exact absurd ⟨by omega, by omega⟩ pq
          · exact ⟨R, r1, r2, Or.inl (by rw [q4]; rfl)⟩
      · rcases go V n with q | ⟨k, hk, q3, q4⟩
        · rw [q.1] at v1 v2 v3 r2 ⊢
          have aq := aw_out hS.1 z1 hu v1 v2
          have hR : ∃ R, fOn (g R) = 1 ∧ fPa (g R) = fAw (g V) := by
            by_cases nR : R = r
            · subst nR
              rw [gr, hF] at r2
              exact ⟨R, z1, r2⟩
            · rcases go R nR with q_q | ⟨k, hk, q3, q4⟩
              · rw [q_q.1] at r1 r2
                exact ⟨R, r1, r2⟩
              · rw [q4] at r2
                have r2' : r + w = fAw (g V) := r2
                exact absurd ⟨by omega, by omega⟩ aq
          obtain ⟨U, u1, u2, u3⟩ := x.2 V v1 v2 v3 hR
          have nU : U ≠ r := nr U (by omega)
          refine ⟨U, ?_⟩
          rw [sm U u1 nU]
          exact ⟨u1, u2, u3⟩
        · rw [q4] at v2
          exact absurd v2 (show ¬ (0 : Int) = 2 by decide)
  refine ⟨ty_q, g_q, ⟨hK, Or.inr ⟨r, ?_, fun W q1 q2 => ?_⟩⟩, x2, t1, Lst_gen (fun W q1 q2 => sm W q1 (nr W (by omega))) (fun l l1 l2 _ _ => ?_)⟩
  · unfold RN Rgs fR
    rw [gr, hF]
    have dp : cDw cp = 0 := by
      rw [ecp]
      exact dw
    refine ⟨z1, rfl, ?_, ?_, Or.inl ?_, ?_, fun q => ?_⟩
    · rw [o12 66 (by decide) (by decide) (by decide)]
      show _ = 2 * (r + cDw cp) + fPb (g r)
      omega
    · rw [o12 64 (by decide) (by decide) (by decide)]
      show _ = r + cDw cp
      omega
    · rw [o12 63 (by decide) (by decide) (by decide), o12 65 (by decide) (by decide) (by decide), z5, z6]
      exact Pos_0 s o1
    · show Rok _ _ _ (cA cp) _ ∧ Rok _ _ _ (cB cp) _ ∧ Rok _ _ _ (cC cp) _
      rw [ecp]
      exact ⟨Rok_0, Rok_0, Rok_0⟩
    · rw [o12 73 (by decide) (by decide) (by decide)] at q
      exact z8 q
  · by_cases n : W = r
    · exact n
    · rcases go W n with q | ⟨k, hk, q3, q4⟩
      · rw [q.1] at q1 q2
        exact u W q1 q2
      · rw [q4] at q2
        exact absurd q2 (show ¬ (5 : Int) = 0 by decide)
  · rw [em]
    exact um_n (by omega)
/-- the frame that has started its branches waits -/
theorem ru_sph {it im om : Int} (h : SF K N ty g A p r) (kv : kV K (fSt (g r)) = 18) (hd : cMd (fCx (g r)) = 2) (ha : opR A A_q it im om p (kV K (fSt (g r)))) : Nxs K N ty g (ldM A p) A_q p := by
  have h_q := h
  obtain ⟨hS, x, ⟨z1, z2, z3, z4, z5, z6, z7, z8⟩, u⟩ := h
  obtain ⟨_, e⟩ := opR_f18 ha kv
  obtain ⟨c1, c2⟩ := gone_c (A := A) (p := p)
  rw [← e] at c1 c2
  obtain ⟨a1, a2, a3, a4, a5, a6⟩ := hS.1.1 r z1
  have hu : fSu (g r) = 2 := by
    by_cases u0 : fSu (g r) = 0
    · exact absurd hd (a4.2.2.2.1 u0)
    · by_cases u1 : fSu (g r) = 1
      · have := (a4.2.2.1 u1).2.1
        omega
      · have b0 := a1.2.2.2.2.2.2.2.2.2.2.2.1
        have b2 := a1.2.2.2.2.2.2.2.2.2.2.2.2
        omega
  have em := ldM_f (p := p) (c2 59 (by decide))
  have S := a4.2.2.2.2.2.2
  refine Nxs_gone (ty_q := ty) (f := ws (g r) 6 (fCh (g r)) (fSt (g r)) (fCx (g r))) h_q ?_ (Oky_e em) (c2 71 (by decide)) (c2 72 (by decide)) (c2 73 (by decide)) (c2 74 (by decide)) (c2 75 (by decide)) (c2 76 (by decide)) (c2 77 (by decide)) (fun _ => ⟨show (6 : Int) ≠ 1 by decide, show (6 : Int) ≠ 0 by decide, rfl⟩) (fun _ _ => ⟨hu, x.1 r z1 hu, rfl, rfl⟩) c1 (fun _ _ => rfl) (fun l _ _ _ _ => by rw [em])
  rw [em]
  exact MI_pha hS.1 z1 hu (Or.inr (Or.inr rfl)) a4.1 rfl hd rfl (fun y hy => hy) (a6 hu).2.1 ⟨S.1, S.2.1, S.2.2.1⟩ (fun _ _ _ => rfl) (Chs_u hS.1.2.2 (fun x => Att_0 z2 (by omega)))
end
