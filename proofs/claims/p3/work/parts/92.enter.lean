/-! a PAR is entered -/
def kf (aw pb r : Int) (k : Int × Int × Cx) : Fm := (1, 0, 5, pb, 0, aw, 0, r - k.1 - 3 - cD k.2.2, r - k.1 + cZ k.2.2, k.2.1, k.2.2, 0, k.2.2)
def kdf (aw pb r : Int) (ks : List (Int × Int × Cx)) : Int → Fm := fun W => match ks.find? (fun k => decide (r - k.1 = W)) with
  | some k => kf aw pb r k
  | none => fo
theorem kdf_o {aw pb r : Int} {ks : List (Int × Int × Cx)} {W : Int} (h : fOn (kdf aw pb r ks W) = 1) : ∃ k ∈ ks, W = r - k.1 ∧ kdf aw pb r ks W = kf aw pb r k := by
  unfold kdf at h ⊢
  cases e : ks.find? (fun k => decide (r - k.1 = W)) with
  | none =>
    rw [e] at h
    exact absurd h (show ¬ fOn fo = 1 by decide)
  | some k =>
    have h1 := List.find?_some e
    have h2 := List.mem_of_find?_eq_some e
    exact ⟨k, h2, (of_decide_eq_true h1).symm, rfl⟩
theorem kdf_i {aw pb r : Int} {ks : List (Int × Int × Cx)} (hp : ∀ k ∈ ks, ∀ e ∈ ks, k.1 = e.1 → k = e) {k : Int × Int × Cx} (hk : k ∈ ks) : kdf aw pb r ks (r - k.1) = kf aw pb r k := by
  unfold kdf
  cases e : ks.find? (fun k_q => decide (r - k_q.1 = r - k.1)) with
  | none =>
    have := List.find?_eq_none.mp e k hk
    exact absurd (decide_eq_true (show r - k.1 = r - k.1 from rfl)) this
  | some k_q =>
    have h1 := List.find?_some e
    have h2 := List.mem_of_find?_eq_some e
    have h3 : r - k_q.1 = r - k.1 := of_decide_eq_true h1
    have := hp k_q h2 k hk (by omega)
    rw [this]
theorem MI_par {K : Kd} {N : Int} {m ty : Int → Int} {g : Int → Fm} {r j w b : Int} {c0 : Cx} {ks : List (Int × Int × Cx)} {cp : Cx} (h : MI K N m ty g) (hr : fOn (g r) = 1) (hu : fSu (g r) = 0) (hx : fSx (g r) = 0) (hd : cMd (fCx (g r)) = 0) (hdw : cDw (fCx (g r)) = 0)
    (w1 : 1 ≤ w) (w2 : w + 3 ≤ cZ (fCx (g r))) (qa : ∃ q ∈ cCp (fCx (g r)), qK q = 7 ∧ qO q = w ∧ qU q = kP K b) (qb : ∃ q ∈ cCp (fCx (g r)), qK q = 7 ∧ qO q = w + 1 ∧ qU q = (ks.length : Int))
    (wk0 : Wkr c0 (a0 (fCx (g r)))) (ab : Abv c0) (ov : ∀ q ∈ cCp c0, qK q = 5 ∨ ¬ Ov w 3 (qO q) (wN q)) (kk : Kds c0 w ks) (ecp : cp = sM (sC (a0 (fCx (g r))) []) (2, ks.map (fun k => (k.1, k.2.1)), [w]))
    (G0 : Gd K N (fun _ _ => False) b c0) (G1 : Gd K N (fun _ _ => False) (j + 1) cp) (Gk : ∀ k ∈ ks, Gd K N (fun _ _ => False) k.2.1 k.2.2) :
    ∃ ty_q, (∀ x, x < 16 → ty_q x = ty x) ∧ MI K N (um m (r + w + 2) (2 * r + fPb (g r))) ty_q (gk g r (fOn (g r), 2, 0, fPb (g r), fCh (g r), fPa (g r), r + w, fLo (g r), fHi (g r), j + 1, cp, b, c0) (kdf (r + w) (fPb (g r)) r ks)) := by
  obtain ⟨a1, a2, a3, a4, a5, a6⟩ := h.1 r hr
  have hf0 : fQ (g r) = cCp (fCx (g r)) := if_neg (by omega)
  rw [hf0] at a3
  obtain ⟨k1c, hsub, e1, e2, e3⟩ := Wkr_a wk0 a3
  have H := a1
  obtain ⟨b1, b2, b3, b4, b5, b6, b7, b8, b9, b10, b11, b12, b13⟩ := a1
  have eD : cD c0 = cD (fCx (g r)) := congrArg (fun t : Hd => t.2.2.2.1) e1
  have eZ : cZ c0 = cZ (fCx (g r)) := congrArg (fun t : Hd => t.2.2.1) e1
  generalize hf1 : ((fOn (g r), 2, 0, fPb (g r), fCh (g r), fPa (g r), r + w, fLo (g r), fHi (g r), j + 1, cp, b, c0) : Fm) = f1
  have hdist : ∀ k ∈ ks, ∀ e ∈ ks, k.1 = e.1 → k = e := fun k hk e he q => by
    have zk := (kk.1 k hk)
    have ze := (kk.1 e he)
    rcases pw_or kk.2 hk he with p | p | p
    · exact p
    · have := p.1
      omega
    · have := p.1
      omega
  have kd1 := fun W (q : fOn (kdf (r + w) (fPb (g r)) r ks W) = 1) => kdf_o q
  have kd2 := fun k (hk : k ∈ ks) => kdf_i (aw := r + w) (pb := fPb (g r)) (r := r) hdist hk
  generalize hkd : kdf (r + w) (fPb (g r)) r ks = kd at kd1 kd2 ⊢
  have geo : ∀ k ∈ ks, fLo (g r) ≤ r - k.1 - 3 - cD k.2.2 ∧ r - k.1 + cZ k.2.2 ≤ r - 3 ∧ 1 ≤ cZ k.2.2 ∧ 0 ≤ cD k.2.2 ∧ 4 ≤ k.1 := fun k hk => by
    obtain ⟨z1, z2, z3, z4, z5, z6, z7, z8, z9⟩ := kk.1 k hk
    omega
  have vv : um m (r + w + 2) (2 * r + fPb (g r)) (r + w + 2) = 2 * r + fPb (g r) := um_e
  have hmo : ∀ x, x ≠ r + w + 2 → um m (r + w + 2) (2 * r + fPb (g r)) x = m x := fun x q => um_n q
  generalize hm' : um m (r + w + 2) (2 * r + fPb (g r)) = m_q at vv hmo ⊢
  have hty : ∃ ty_q : Int → Int, (ty_q (r + w) = 6 ∧ ty_q (r + w + 1) = 5 ∧ ty_q (r + w + 2) = 6) ∧ (∀ k ∈ ks, ∀ x, r - k.1 - 3 ≤ x → x ≤ r - k.1 → ty_q x = 6) ∧ (∀ x, r - 3 ≤ x → ¬ (r + w ≤ x ∧ x ≤ r + w + 2) → ty_q x = ty x) ∧ (∀ x, x < fLo (g r) → ty_q x = ty x) ∧ ∀ x, ty_q x = 2 → ty x = 2 := by
    refine ⟨fun x => if x = r + w ∨ x = r + w + 2 then 6 else if x = r + w + 1 then 5 else if fLo (g r) ≤ x ∧ x < r - 3 then 6 else ty x, ⟨if_pos (Or.inl rfl), ?_, if_pos (Or.inr rfl)⟩, fun k hk x x1 x2 => ?_, fun x x1 x2 => ?_, fun x x1 => ?_, fun x q => ?_⟩
    · show (if r + w + 1 = r + w ∨ r + w + 1 = r + w + 2 then 6 else if r + w + 1 = r + w + 1 then 5 else if fLo (g r) ≤ r + w + 1 ∧ r + w + 1 < r - 3 then 6 else ty (r + w + 1)) = 5
      rw [if_neg (by omega), if_pos rfl]
    · have := geo k hk
      show (if x = r + w ∨ x = r + w + 2 then 6 else if x = r + w + 1 then 5 else if fLo (g r) ≤ x ∧ x < r - 3 then 6 else ty x) = 6
      rw [if_neg (by omega), if_neg (by omega), if_pos (by omega)]
    · show (if x = r + w ∨ x = r + w + 2 then 6 else if x = r + w + 1 then 5 else if fLo (g r) ≤ x ∧ x < r - 3 then 6 else ty x) = ty x
      rw [if_neg (by omega), if_neg (by omega), if_neg (by omega)]
    · show (if x = r + w ∨ x = r + w + 2 then 6 else if x = r + w + 1 then 5 else if fLo (g r) ≤ x ∧ x < r - 3 then 6 else ty x) = ty x
      rw [if_neg (by omega), if_neg (by omega), if_neg (by omega)]
    · have q_q : (if x = r + w ∨ x = r + w + 2 then 6 else if x = r + w + 1 then 5 else if fLo (g r) ≤ x ∧ x < r - 3 then 6 else ty x) = 2 := q
      split at q_q
      · omega
      · split at q_q
        · omega
        · split at q_q
          · omega
          · exact q_q
  obtain ⟨ty_q, ⟨T1, T2, T3⟩, T4, T5, T6, T7⟩ := hty
  have abn : ∀ {t x u : Int}, Cl m r (cCp c0) t x u → ¬ (fLo (g r) ≤ x ∧ x ≤ r) := fun {t x u} q => Abv_n b1 (by omega) ab k1c q
  have fre : Fre c0 w 3 := ⟨Or.inl ⟨w1, by omega⟩, ov⟩
  have nof : ∀ {t x u : Int}, Cl m r (cCp c0) t x u → ¬ (r + w ≤ x ∧ x < r + w + 3) := fun {t x u} q => Cl_f fre (by rw [eZ]; exact k1c) (by omega) (by omega) b1 q
  have S1 : Sam m ty m_q ty_q r (r - 3) (cCp c0) := ⟨fun x x1 x2 => absurd x1 (by omega), fun k x u q => by
    have n1 := abn q
    have n2 := nof q
    refine ⟨?_, fun _ _ => hmo x (by omega)⟩
    by_cases z : x < fLo (g r)
    · exact T6 x z
    · exact T5 x (by omega) (by omega), fun x hx => T6 x (by omega)⟩
  have P1 := Sam_p S1 k1c
  have k1m := Cok_m S1 k1c
  have q1 : fQ f1 = cCp c0 := by
    rw [← hf1]
    exact if_pos rfl
  have q2 : ∀ k, fQ (kf (r + w) (fPb (g r)) r k) = cCp k.2.2 := fun k => if_neg (show ¬ (0 : Int) = 2 by decide)
  have offk : ∀ V, fOn (g V) = 1 → V ≠ r → ¬ fOn (kd V) = 1 := fun V v1 hn q => by
    obtain ⟨k, hk, e, _⟩ := kd1 V q
    have gg := geo k hk
    obtain ⟨c1', c2', c3', c4', c5', c6', c7'⟩ := (h.1 V v1).1
    rcases h.2.1 r V hr v1 (fun q => hn q.symm) with p | p | p
    · rcases p.1 with p | p <;> omega
    · exact p.2.2.1 hu
    · have := p.2.1
      omega
  have hgo : ∀ V, fOn (g V) = 1 → fSu (g V) ≠ 0 → gk g r f1 kd V = g V := fun V v1 v2 => gk_n (fun e => v2 (e ▸ hu)) (offk V v1 (fun e => v2 (e ▸ hu)))
  have md0 : cMd c0 = 0 := (congrArg (fun q : Mo => q.1) e3).trans hd
  have ecx : cp.1 = (fCx (g r)).1 := by
    rw [ecp]
    rfl
  have clk : ∀ k ∈ ks, ∀ t x u, Cl m_q (r - k.1) (cCp k.2.2) t x u → ∃ v, sbt v u ∧ Cl m_q r (cCp c0) t x v := fun k hk t x u ⟨q, hq, c⟩ => Prt_c ((kk.1 k hk).2.2.2.2.2.2.2.2 q hq).2 c
  have abn' : ∀ {t x u : Int}, Cl m_q r (cCp c0) t x u → ¬ (fLo (g r) ≤ x ∧ x ≤ r) := fun {t x u} q => abn ((Cl_m P1).mp q)
  have hc : Chg (fLo (g r)) (fHi (g r)) m ty m_q ty_q := fun x x1 => ⟨by
    by_cases z : x < fLo (g r)
    · exact T6 x z
    · exact T5 x (by omega) (by omega), fun _ => hmo x (by omega)⟩
  have awn : ∀ V, fOn (g V) = 1 → V ≠ r → fSu (g V) = 2 → fAw (g V) ≠ r + w := fun V v1 v2 v3 e => by
    have tv := (h.1 V v1).2.1.2.2.2.2.2 v3
    have hv := (h.1 V v1).1
    have := hv.2.2.1
    exact Own_n H hv (h.2.1 r V hr v1 (fun q => v2 q.symm)) (x := r + w) (by omega) (by omega) (by omega) (by omega)
  have pan : ∀ V, fOn (g V) = 1 → fPa (g V) ≠ r + w := fun V v1 e => by
    have bk := (h.1 V v1).2.2.2.2.1
    by_cases q : cEk (fCx (g V)) = 2
    · obtain ⟨_, U, u1, u2, u3, _⟩ := bk.2.1 q
      have : U ≠ r := fun q => by
        rw [q] at u2
        omega
      exact awn U u1 this u2 (u3.trans e)
    · have := bk.2.2 q
      omega
  refine ⟨ty_q, fun x hx => T6 x (by omega), MI_add h hr hu (by omega) hc (by rw [← hf1]; exact ⟨hr, rfl, rfl, rfl⟩) (by rw [← hf1]; exact (show (2 : Int) ≠ 0 by decide)) ?_ (fun W k => ?_) (fun W W_q k k_q hn => ?_) (fun k x u c => ?_) (fun W k t x u c => ?_) (fun x hx2 => ?_)⟩
  · refine ⟨?_, ?_, ?_, ?_, ?_, ?_⟩
    · rw [← hf1]
      unfold Hok
      show 16 ≤ fLo (g r) ∧ fLo (g r) + 3 + cp.1.2.2.2.1 ≤ r ∧ r + cp.1.2.2.1 ≤ fHi (g r) ∧ fHi (g r) ≤ 4016 ∧ 1 ≤ cp.1.2.2.1 ∧ 0 ≤ cp.1.2.2.2.1 ∧ (cp.1.1 = 1 → fHi (g r) = r + cp.1.2.2.1 + 4) ∧ (cp.1.2.2.2.2 = 0 ∨ (cp.1.1 = 1 ∧ cp.1.2.2.2.2 = cp.1.2.2.1 + 3 ∧ (2 : Int) = 0)) ∧ 0 ≤ fPb (g r) ∧ fPb (g r) ≤ 1 ∧ ((2 : Int) = 2 → c0.1 = cp.1) ∧ (0 : Int) ≤ 2 ∧ (2 : Int) ≤ 2
      rw [ecx]
      exact ⟨b1, b2, b3, b4, b5, b6, b7, Or.inl hdw, b9, b10, fun _ => e1, by omega, by omega⟩
    · obtain ⟨t1, t2, t3, t4, t5, t6⟩ := a2
      rw [← hf1]
      unfold Tok
      show ty_q (r - 3) = 6 ∧ ty_q (r - 2) = 6 ∧ ty_q (r - 1) = 6 ∧ ty_q r = 6 ∧ (cp.1.1 = 1 → ty_q (r + cp.1.2.2.1) = 6 ∧ ty_q (r + cp.1.2.2.1 + 1) = 6 ∧ ty_q (r + cp.1.2.2.1 + 2) = 6 ∧ ty_q (r + cp.1.2.2.1 + 3) = 6) ∧ ((2 : Int) = 2 → r + 1 ≤ r + w ∧ r + w + 3 ≤ r + cp.1.2.2.1 ∧ ty_q (r + w) = 6 ∧ ty_q (r + w + 1) = 5 ∧ ty_q (r + w + 2) = 6)
      rw [ecx]
      refine ⟨(T5 _ (by omega) (by omega)).trans t1, (T5 _ (by omega) (by omega)).trans t2, (T5 _ (by omega) (by omega)).trans t3, (T5 _ (by omega) (by omega)).trans t4, fun q => ?_, fun _ => ⟨by omega, ?_, T1, T2, T3⟩⟩
      · obtain ⟨u1, u2, u3, u4⟩ := t5 q
        show ty_q (r + cZ (fCx (g r))) = 6 ∧ ty_q (r + cZ (fCx (g r)) + 1) = 6 ∧ ty_q (r + cZ (fCx (g r)) + 2) = 6 ∧ ty_q (r + cZ (fCx (g r)) + 3) = 6
        exact ⟨(T5 _ (by omega) (by omega)).trans u1, (T5 _ (by omega) (by omega)).trans u2, (T5 _ (by omega) (by omega)).trans u3, (T5 _ (by omega) (by omega)).trans u4⟩
      · show r + w + 3 ≤ r + cZ (fCx (g r))
        omega
    · rw [q1, ← hf1]
      show Cok m_q ty_q r (fPb (g r)) (fLo (g r)) (fHi (g r)) cp.1.2.2.1 (cCp c0)
      rw [ecx]
      exact k1m
    · rw [← hf1]
      obtain ⟨qa1, qa2, qa3, qa4, qa5⟩ := qa
      have va := (a3.2.1 qa1 qa2).2.2.2.1 qa3
      rw [qa4, qa5] at va
      have md2 : cMd cp = 2 := by
        rw [ecp]
        rfl
      have ews : cWs cp = [w] := by
        rw [ecp]
        rfl
      have eR : cA cp = r0 ∧ cB cp = r0 ∧ cC cp = r0 := by
        rw [ecp]
        exact ⟨rfl, rfl, rfl⟩
      refine ⟨G1, fun _ => ⟨G0, (hmo _ (by show r + w ≠ r + w + 2; omega)).trans va, vv, ab, md0, md2, ?_, e2⟩, fun q => absurd q (show ¬ (2 : Int) = 1 by decide), fun q => absurd q (show ¬ (2 : Int) = 0 by decide), fun q => absurd q (show ¬ cMd cp = 1 by omega), show 0 ≤ cMd cp ∧ cMd cp ≤ 2 by omega, ?_, ?_, ?_, fun k => absurd k (show ¬ ((0 : Int) = 2 ∨ (0 : Int) = 3 ∨ (0 : Int) = 4 ∨ (0 : Int) = 5) by decide), fun k => absurd k (show ¬ ((0 : Int) = 2 ∨ (0 : Int) = 3) by decide), fun k => absurd k (show ¬ ((0 : Int) = 2 ∨ (0 : Int) = 3 ∨ (0 : Int) = 4) by decide), fun k => absurd k (show ¬ (0 : Int) = 4 by decide), fun k => absurd k (show ¬ (0 : Int) = 3 by decide), fun k => absurd k (show ¬ (0 : Int) = 2 by decide), fun k => absurd k (show ¬ (0 : Int) = 3 by decide), fun k => absurd k (show ¬ (0 : Int) = 5 by decide)⟩
      · show cWs cp = [r + w - r]
        rw [ews, show r + w - r = w by omega]
      · show Sup (cCp cp) (cA cp)
        rw [eR.1]
        exact Sup_0
      · show Sup (cCp cp) (cB cp)
        rw [eR.2.1]
        exact Sup_0
      · show Sup (cCp cp) (cC cp)
        rw [eR.2.2]
        exact Sup_0
    · refine Bck_f (f0 := g r) (by rw [← hf1]; exact ecx) (by rw [← hf1]) (by rw [← hf1]) (by rw [← hf1]) (by rw [← hf1]) (Bck_g hgo (fun q => hmo _ (by omega)) a5)
    · intro _
      have hfa : fAw f1 = r + w := by rw [← hf1]
      have hfl : fLo f1 = fLo (g r) := by rw [← hf1]
      have hfp : cPe (fCx f1) = ks.map (fun k => (k.1, k.2.1)) := by
        rw [← hf1]
        show cPe cp = _
        rw [ecp]
        rfl
      rw [hfa, hfl, hfp]
      refine ⟨fun e he => ?_, ?_, ?_, fun V v1 v2 v3 => ?_⟩
      · obtain ⟨k, hk, rfl⟩ := List.mem_map.mp he
        have gg := geo k hk
        show fOn (gk g r f1 kd (r - k.1)) = 1 ∧ fSx (gk g r f1 kd (r - k.1)) = 5 ∧ fSt (gk g r f1 kd (r - k.1)) = k.2.1 ∧ fPa (gk g r f1 kd (r - k.1)) = r + w
        have ek := kd2 k hk
        rw [gk_k (by omega) (by rw [ek]; rfl), ek]
        exact ⟨rfl, rfl, rfl, rfl⟩
      · rw [List.pairwise_map]
        refine List.Pairwise.imp_of_mem (fun {a e} ha he q => ?_) kk.2
        have ga := geo a ha
        have ge := geo e he
        have := q.1
        show a.1 ≠ e.1
        omega
      · obtain ⟨qb1, qb2, qb3, qb4, qb5⟩ := qb
        have vb := (a3.2.1 qb1 qb2).2.2.2.1 qb3
        rw [qb4, qb5] at vb
        rw [show r + w + 1 = r + (w + 1) by omega, hmo _ (by omega), vb]
        have := cnt_le (g := gk g r f1 kd) (a := r + w) 4016 (ks.map (fun k => r - k.1)) (fun W u1 u2 u3 u4 => ?_)
        · rw [List.length_map] at this
          exact this
        · by_cases e : W = r
          · subst e
            rw [gk_r, ← hf1] at u4
            exact absurd u4 (pan W hr)
          · by_cases q : fOn (kd W) = 1
            · obtain ⟨k, hk, e_q, _⟩ := kd1 W q
              exact List.mem_map.mpr ⟨k, hk, e_q.symm⟩
            · rw [gk_n e q] at u3 u4
              exact absurd u4 (pan W u3)
      · by_cases e : V = r
        · subst e
          rw [gk_r, ← hf1] at v3
          have : fHi (g V) ≤ V - 3 := v3
          omega
        · by_cases q : fOn (kd V) = 1
          · obtain ⟨k, hk, e_q, e''⟩ := kd1 V q
            refine ⟨V, ?_⟩
            rw [gk_k e q, e'']
            exact ⟨rfl, rfl, Int.le_refl _, Int.le_refl _⟩
          · exfalso
            rw [gk_n e q] at v1 v2 v3
            obtain ⟨c1', c2', c3', c4', c5', c6', c7'⟩ := (h.1 V v1).1
            rcases h.2.1 r V hr v1 (fun q => e q.symm) with p | p | p
            · rcases p.1 with p | p <;> omega
            · exact p.2.2.1 hu
            · have := p.2.1
              omega
  · obtain ⟨k_q, hk, eW, ek⟩ := kd1 W k
    rw [ek]
    have gg := geo k_q hk
    obtain ⟨z1, z2, z3, z4, z5, z6, z7, z8, z9⟩ := kk.1 k_q hk
    have eR : k_q.2.2.2.2.1 = (r0, r0, r0) := congrArg (fun t : (Rt × Rt × Rt) × Mo => t.1) z8
    have eM : k_q.2.2.2.2.2 = (0, [], []) := congrArg (fun t : (Rt × Rt × Rt) × Mo => t.2) z8
    have eA : cA k_q.2.2 = r0 := congrArg (fun t : Rt × Rt × Rt => t.1) eR
    have eB : cB k_q.2.2 = r0 := congrArg (fun t : Rt × Rt × Rt => t.2.1) eR
    have eC : cC k_q.2.2 = r0 := congrArg (fun t : Rt × Rt × Rt => t.2.2) eR
    have md2 : cMd k_q.2.2 = 0 := congrArg (fun q : Mo => q.1) eM
    have sup : ∀ q : Rt, q = r0 → Sup (cCp k_q.2.2) q := fun q e => e ▸ Sup_0
    have abk : Abv k_q.2.2 := fun q hq => by
      obtain ⟨_, q0, hq0, e, a⟩ := z9 q hq
      obtain ⟨y1, y2, y3⟩ := ab q0 hq0
      refine ⟨by omega, by omega, fun q5 => ?_⟩
      have := y3 (by omega)
      rcases a with a | a | a | a | a <;> omega
    refine ⟨⟨gg.1, gg.2.1⟩, ⟨?_, ?_, ?_, ?_, ?_, ?_⟩, Or.inr ⟨by rw [← hf1], by rw [← hf1]; rfl⟩⟩
    · unfold Hok
      show 16 ≤ r - k_q.1 - 3 - cD k_q.2.2 ∧ r - k_q.1 - 3 - cD k_q.2.2 + 3 + cD k_q.2.2 ≤ W ∧ W + cZ k_q.2.2 ≤ r - k_q.1 + cZ k_q.2.2 ∧ r - k_q.1 + cZ k_q.2.2 ≤ 4016 ∧ 1 ≤ cZ k_q.2.2 ∧ 0 ≤ cD k_q.2.2 ∧ (cEk k_q.2.2 = 1 → _) ∧ (cDw k_q.2.2 = 0 ∨ _) ∧ 0 ≤ fPb (g r) ∧ fPb (g r) ≤ 1 ∧ ((0 : Int) = 2 → _) ∧ (0 : Int) ≤ 0 ∧ (0 : Int) ≤ 2
      exact ⟨by omega, by omega, by omega, by omega, z4, z5, fun q => absurd q (by omega), Or.inl z3, b9, b10, fun q => absurd q (by decide), by omega, by omega⟩
    · unfold Tok
      show ty_q (W - 3) = 6 ∧ ty_q (W - 2) = 6 ∧ ty_q (W - 1) = 6 ∧ ty_q W = 6 ∧ (cEk k_q.2.2 = 1 → _) ∧ ((0 : Int) = 2 → _)
      exact ⟨T4 k_q hk _ (by omega) (by omega), T4 k_q hk _ (by omega) (by omega), T4 k_q hk _ (by omega) (by omega), T4 k_q hk _ (by omega) (by omega), fun q => absurd q (by omega), fun q => absurd q (by decide)⟩
    · rw [q2, eW]
      exact Prt_k b1 (by omega) ab k1m z9 (show fLo (g r) ≤ r - k_q.1 - 3 - cD k_q.2.2 by omega) (show r - k_q.1 + cZ k_q.2.2 ≤ r by omega) (by omega)
    · exact ⟨Gk k_q hk, fun q => absurd q (show ¬ (0 : Int) = 2 by decide), fun q => absurd q (show ¬ (0 : Int) = 1 by decide), fun _ => show cMd k_q.2.2 ≠ 2 by omega, fun q => absurd q (show ¬ cMd k_q.2.2 = 1 by omega), show 0 ≤ cMd k_q.2.2 ∧ cMd k_q.2.2 ≤ 2 by omega, sup _ eA, sup _ eB, sup _ eC, fun _ => ⟨rfl, eR⟩, fun k => absurd k (show ¬ ((5 : Int) = 2 ∨ (5 : Int) = 3) by decide), fun k => absurd k (show ¬ ((5 : Int) = 2 ∨ (5 : Int) = 3 ∨ (5 : Int) = 4) by decide), fun k => absurd k (show ¬ (5 : Int) = 4 by decide), fun k => absurd k (show ¬ (5 : Int) = 3 by decide), fun k => absurd k (show ¬ (5 : Int) = 2 by decide), fun k => absurd k (show ¬ (5 : Int) = 3 by decide), fun _ => ⟨z1, md2, z3, abk⟩⟩
    · refine ⟨fun q => absurd q (show ¬ cEk k_q.2.2 = 1 by omega), fun _ => ⟨?_, r, ?_⟩, fun q => absurd z1 q⟩
      · show r + w = W + cPd k_q.2.2
        omega
      · rw [gk_r, ← hf1]
        exact ⟨hr, rfl, rfl, gg.1, gg.2.1⟩
    · exact fun q => absurd q (show ¬ (0 : Int) = 2 by decide)
  · obtain ⟨k1, hk1, eW, ek⟩ := kd1 W k
    obtain ⟨k2, hk2, eW', ek'⟩ := kd1 W_q k_q
    rw [ek, ek', eW, eW']
    have g1 := geo k1 hk1
    have g2 := geo k2 hk2
    have z1 := (kk.1 k1 hk1).2.2.2.2.2.2.2.2
    have z2 := (kk.1 k2 hk2).2.2.2.2.2.2.2.2
    have frn : (fHi (kf (r + w) (fPb (g r)) r k1) ≤ fLo (kf (r + w) (fPb (g r)) r k2) ∨ fHi (kf (r + w) (fPb (g r)) r k2) ≤ fLo (kf (r + w) (fPb (g r)) r k1)) ∧ ∀ q ∈ cCp k1.2.2, ∀ s ∈ cCp k2.2.2, ∀ {x u u_q}, Cw m_q (r - k1.1) q 2 x u → Cw m_q (r - k2.1) s 2 x u_q → NC u u_q := by
      show (r - k1.1 + cZ k1.2.2 ≤ r - k2.1 - 3 - cD k2.2.2 ∨ r - k2.1 + cZ k2.2.2 ≤ r - k1.1 - 3 - cD k1.2.2) ∧ _
      rcases pw_or kk.2 hk1 hk2 with p | p | p
      · subst p
        exact absurd (eW.trans eW'.symm) hn
      · have := p.1
        exact ⟨Or.inr (by omega), fun q hq s hs {x u u_q} c c_q => Frn_n k1m (z1 q hq).2 (z2 s hs).2 (p.2 q hq s hs) c c_q⟩
      · have := p.1
        refine ⟨Or.inl (by omega), fun q hq s hs {x u u_q} c c_q => ?_⟩
        have t := Frn_n k1m (z2 s hs).2 (z1 q hq).2 (p.2 s hs q hq) c_q c
        unfold NC at t ⊢
        omega
    refine Or.inl ⟨frn.1, fun t x u c => ?_, fun t x u c => ?_, fun x u u_q ⟨q, hq, c⟩ ⟨s, hs, c_q⟩ => ?_⟩
    · rw [q2] at c
      obtain ⟨v, _, c⟩ := clk k1 hk1 t x u c
      have := abn' c
      show ¬ (r - k2.1 - 3 - cD k2.2.2 ≤ x ∧ x < r - k2.1 + cZ k2.2.2)
      omega
    · rw [q2] at c
      obtain ⟨v, _, c⟩ := clk k2 hk2 t x u c
      have := abn' c
      show ¬ (r - k1.1 - 3 - cD k1.2.2 ≤ x ∧ x < r - k1.1 + cZ k1.2.2)
      omega
    · rw [q2] at hq hs
      exact frn.2 q hq s hs c c_q
  · rw [q1] at c
    have c := (Cl_m P1).mp c
    have := abn c
    rw [hf0]
    exact ⟨⟨u, sbt_r, Cl_s hsub c⟩, by omega⟩
  · obtain ⟨k_q, hk, eW, ek⟩ := kd1 W k
    rw [ek, q2, eW] at c
    rw [q1]
    exact Or.inl (clk k_q hk t x u c)
  · have hx3 := T7 x hx2
    have em : m_q x = m x := hmo x (fun e => by
      subst e
      omega)
    rcases h.2.2 x hx3 with b | ⟨W, b⟩
    · exact Or.inl (em.trans b)
    · have hn : W ≠ r := fun e => by
        subst e
        exact Att_0 hx (by omega) b
      exact Or.inr ⟨W, Att_m b (h.1 W b.1) (Sam_c h hr b.1 hn hu hc).1 em (gk_n hn (offk W b.1 hn))⟩
