/-! EACH RULE AS A STEP: stores -/
theorem ld_um {A : Nat → Nat → Int} {p a v : Int} (hp : 0 ≤ p) (h0 : 0 ≤ a) (h1 : a ≤ 4015) : ldM (stM A p a v) p = um (ldM A p) a v := funext (fun y => by
  by_cases e : y = a
  · subst e
    rw [ld_eq hp h0 h1, um_e]
  · rw [ld_ne hp hp (Or.inr (fun q => e q.symm)), um_n e])
theorem fi_fm {A : Nat → Nat → Int} {p a c : Int} (hp : 0 ≤ p) (h0 : 0 ≤ a) : ∀ n : Nat, a + (n : Int) ≤ 4016 → ldM (fiM A p a c n) p = fm (ldM A p) a (n : Int) c
  | 0, _ => funext (fun y => by
    show ldM A p y = if a ≤ y ∧ y < a + ((0 : Nat) : Int) then c else ldM A p y
    rw [if_neg (by omega)])
  | n + 1, h => by
    show ldM (stM (fiM A p a c n) p (i32 (a + (n : Int))).toInt c) p = _
    rw [i32_to (by omega) (by omega), ld_um hp (by omega) (by omega), fi_fm hp h0 n (by omega)]
    funext y
    unfold um fm
    by_cases e : y = a + (n : Int)
    · rw [if_pos e, if_pos (by omega)]
    · rw [if_neg e]
      by_cases q : a ≤ y ∧ y < a + (n : Int)
      · rw [if_pos q, if_pos (by omega)]
      · rw [if_neg q, if_neg (by omega)]
section
variable {K : Kd} {N : Int} {ty : Int → Int} {g : Int → Fm} {A A_q : Nat → Nat → Int} {p r : Int}
theorem SF_cok (h : SF K N ty g A p r) (hu : fSu (g r) = 0) : Cok (ldM A p) ty r (fPb (g r)) (fLo (g r)) (fHi (g r)) (cZ (fCx (g r))) (cCp (fCx (g r))) := by
  have c := (h.1.1.1 r h.2.2.1.1).2.2.1
  rw [show fQ (g r) = cCp (fCx (g r)) from if_neg (by omega)] at c
  exact c
/-- where a word may be written -/
theorem New_a {o : Int} {l : List Cp} (h : SF K N ty g A p r) (hu : fSu (g r) = 0) (hn : New (fCx (g r)) o l) : 16 ≤ r + o ∧ r + o < 4016 ∧ (ty (r + o) = 1 ∨ (fLo (g r) ≤ r + o ∧ r + o < fHi (g r))) ∧ ∀ o', Kpt (cCp (fCx (g r))) o' → r + o' ≠ r + o := by
  have c := SF_cok h hu
  have H := (h.1.1.1 r h.2.2.1.1).1
  have L1 := H.1
  have L4 := H.2.2.2.1
  rcases hn with ⟨⟨q, hq, q1, q2, q3⟩, _⟩ | ⟨hf, _⟩
  · obtain ⟨c1, c2, c3, c4⟩ := c.1 1 (r + o) 0 ⟨q, hq, Or.inl ⟨q1, rfl, by omega, by omega⟩⟩
    refine ⟨?_, c3, Or.inl c1, fun o' k e => ?_⟩
    · rcases c4 with c4 | c4
      · exact c4
      · exact absurd c4.1 (by decide)
    · have t := (Kpt_t h.1.1 h.2.1 h.2.2.1.1 k).1
      rw [e] at t
      omega
  · obtain ⟨f1, f2, f3, f4⟩ := Fre_r hf H (by omega)
    refine ⟨by omega, by omega, Or.inr ⟨by omega, by omega⟩, fun o' k e => ?_⟩
    obtain ⟨q, hq, ho, hk⟩ := k
    have z := hf.2 q hq
    have w1 : wN q = 1 := by
      unfold wN
      rw [if_neg (by omega), if_neg (by omega)]
    rcases z with z | z
    · omega
    · rw [w1] at z
      exact z ⟨by omega, by omega⟩
theorem ru_stl {l : List Cp} (s : Sby K N) (hp : 0 ≤ p) (h : SF K N ty g A p r) (k : kF K (fSt (g r)) = 13) (dw : cDw (fCx (g r)) = 0) (hd : cMd (fCx (g r)) = 0) (hn : New (fCx (g r)) (kV K (fSt (g r))) l) (o1 : Gd K N (fun _ _ => False) (fSt (g r) + 1) (sC (sR (fCx (g r)) (cB (fCx (g r))) (cC (fCx (g r))) (cC (fCx (g r)))) l)) (ha : acR A A_q p (kF K (fSt (g r))) (kV K (fSt (g r)))) : Nxs K N ty g (ldM A p) A_q p := by
  have hu := SF_lf h (by omega)
  have q := SF_rw h dw
  obtain ⟨w, v, a, A1, _, hw, hA, ev, s1, e⟩ := acR_f13 ha k
  obtain ⟨n1, n2, n3, n4⟩ := New_a h hu hn
  have h_q := h
  obtain ⟨hS, x, ⟨z1, z2, z3, z4, z5, z6, z7, z8⟩, u⟩ := h
  have e2 : v = r + kV K (fSt (g r)) := by
    rw [ev, i32_to (by omega) (by omega)]
    omega
  obtain ⟨c1, c2, c4⟩ := take_c (A := A1) (p := p)
  rw [← e] at c1 c2 c4
  have o12 : ∀ q, q ≠ 59 → A1 q = A q := fun q q1 => by
    rw [s1, stM_ne q1]
  have em : ldM A_q p = um (ldM A p) (r + kV K (fSt (g r))) a := by
    rw [ldM_f (p := p) (c4 59 (by decide) (by decide)), s1, e2]
    exact ld_um hp (by omega) (by omega)
  obtain ⟨ty_q, t1, hM⟩ := MI_stl (v := a) hS.1 z1 hu z2 hd hn (by rw [← hA]; exact z7.1) o1
  rw [← em] at hM
  have ne : ∀ y, ldM A_q p y ≠ ldM A p y → y = r + kV K (fSt (g r)) := fun y hy => by
    by_cases q : y = r + kV K (fSt (g r))
    · exact q
    · rw [em, um_n q] at hy
      exact absurd rfl hy
  have rk : ∀ {t : Rt} {v : Int}, Sup (cCp (fCx (g r))) t → Rok (ldM A p) r (fPb (g r)) t v → Rok (ldM A_q p) r (fPb (g r)) t v := fun hs k => Rok_m (fun q => by
    rw [em, um_n (n4 _ (hs q))]) k
  have S := SF_sup h_q
  refine Nxs_own h_q hM (Oky_m hS.1 x z1 hu (fun y hy => ?_)) ((c4 71 (by decide) (by decide)).trans (o12 71 (by decide))) ((c4 72 (by decide) (by decide)).trans (o12 72 (by decide))) ((c4 73 (by decide) (by decide)).trans (o12 73 (by decide))) ((c4 74 (by decide) (by decide)).trans (o12 74 (by decide))) ((c4 75 (by decide) (by decide)).trans (o12 75 (by decide))) ((c4 76 (by decide) (by decide)).trans (o12 76 (by decide))) ((c4 77 (by decide) (by decide)).trans (o12 77 (by decide))) z1 z2 rfl rfl (fun q => ?_) ?_ ?_ (Or.inl ?_) ⟨?_, ?_, ?_⟩ t1 (fun l l1 l2 _ _ => ?_)
  · rw [ne y hy]
    rcases n3 with n3 | n3
    · exact Or.inl n3
    · exact Or.inr (Or.inr (Or.inr n3))
  · have q_q : fSu (g r) = 2 := q
    omega
  · rw [c4 66 (by decide) (by decide), o12 66 (by decide), z3]
    rfl
  · rw [c4 64 (by decide) (by decide), o12 64 (by decide), z4]
    rfl
  · rw [c4 63 (by decide) (by decide), o12 63 (by decide), c4 65 (by decide) (by decide), o12 65 (by decide), z5, z6]
    exact Pos_0 s o1
  · rw [c1, o12 61 (by decide)]
    exact rk S.2.1 z7.2.1
  · rw [c2, o12 62 (by decide)]
    exact rk S.2.2 z7.2.2
  · rw [c4 62 (by decide) (by decide), o12 62 (by decide)]
    exact rk S.2.2 z7.2.2
  · rw [em]
    exact um_n (by omega)
theorem ru_stn (s : Sby K N) (hp : 0 ≤ p) (hI : Ib A) (h : SF K N ty g A p r) (k : kF K (fSt (g r)) = 14) (kv : kV K (fSt (g r)) = 0) (hd : cMd (fCx (g r)) = 0) (hn : Dtr (cCp (fCx (g r))) (cA (fCx (g r))) 1) (o1 : Gd K N (fun _ _ => False) (fSt (g r) + 1) (sR (fCx (g r)) (cC (fCx (g r))) (cC (fCx (g r))) (cC (fCx (g r))))) (ha : acR A A_q p (kF K (fSt (g r))) (kV K (fSt (g r)))) : Nxs K N ty g (ldM A p) A_q p := by
  have hu := SF_lf h (by omega)
  obtain ⟨a, b, v, A1, A2, _, hA, hB, ev, s1, t, e⟩ := acR_f14 ha k
  have S := SF_sup h
  have cok := SF_cok h hu
  have h_q := h
  obtain ⟨hS, x, ⟨z1, z2, z3, z4, z5, z6, z7, z8⟩, u⟩ := h
  have iA := hI 60 p.toNat (by decide) (by decide)
  have e2 : v = a := by
    rw [ev, kv, i32_to (by omega) (by omega)]
    omega
  obtain ⟨w, cl⟩ := Dtr_c (v := a) cok hn (by rw [← hA]; exact z7.1)
  obtain ⟨k1, k2, k3, k4⟩ := cok.1 _ _ _ cl
  have k5 : 16 ≤ a := by
    rcases k4 with k4 | k4
    · exact k4
    · exact absurd k4.1 (by decide)
  obtain ⟨c1, c2, c4⟩ := take_c (A := A2) (p := p)
  rw [← e] at c1 c2 c4
  obtain ⟨d1, d2, d4⟩ := take_c (A := A1) (p := p)
  rw [← t] at d1 d2 d4
  have o12 : ∀ q, q ≠ 59 → q ≠ 60 → q ≠ 61 → A_q q = A q := fun q q1 q2 q3 => by
    rw [c4 q q2 q3, d4 q q2 q3, s1, stM_ne q1]
  have em : ldM A_q p = um (ldM A p) a b := by
    rw [ldM_f (p := p) (c4 59 (by decide) (by decide)), ldM_f (p := p) (d4 59 (by decide) (by decide)), s1, e2]
    exact ld_um hp (by omega) (by omega)
  have hM : MI K N (ldM A_q p) ty (ug g r (mv (g r) (fSt (g r) + 1) (sR (fCx (g r)) (cC (fCx (g r))) (cC (fCx (g r))) (cC (fCx (g r)))))) := by
    rw [em]
    exact MI_reg (MI_dat hS.1 z1 (by omega) (by omega) k1) z1 hu z2 o1 rfl (Or.inl rfl) rfl ⟨S.2.2, S.2.2, S.2.2⟩ (fun y _ q => absurd q (by omega))
  have ne : ∀ y, ldM A_q p y ≠ ldM A p y → y = a := fun y hy => by
    by_cases q : y = a
    · exact q
    · rw [em, um_n q] at hy
      exact absurd rfl hy
  have rk : ∀ {t : Rt} {v : Int}, Sup (cCp (fCx (g r))) t → Rok (ldM A p) r (fPb (g r)) t v → Rok (ldM A_q p) r (fPb (g r)) t v := fun hs k => Rok_m (fun q => by
    have t := (Kpt_t hS.1 x z1 (hs q)).1
    rw [em, um_n (fun w => by rw [w] at t; omega)]) k
  have rc : Rok (ldM A_q p) r (fPb (g r)) (cC (fCx (g r))) (A 62 p.toNat) := rk S.2.2 z7.2.2
  refine Nxs_own h_q hM (Oky_m hS.1 x z1 hu (fun y hy => Or.inl (by rw [ne y hy]; exact k1))) (o12 71 (by decide) (by decide) (by decide)) (o12 72 (by decide) (by decide) (by decide)) (o12 73 (by decide) (by decide) (by decide)) (o12 74 (by decide) (by decide) (by decide)) (o12 75 (by decide) (by decide) (by decide)) (o12 76 (by decide) (by decide) (by decide)) (o12 77 (by decide) (by decide) (by decide)) z1 z2 rfl rfl (fun q => ?_) ?_ ?_ (Or.inl ?_) ⟨?_, ?_, ?_⟩ (fun _ _ => rfl) (fun l l1 l2 _ _ => ?_)
  · have q_q : fSu (g r) = 2 := q
    omega
  · rw [o12 66 (by decide) (by decide) (by decide), z3]
    rfl
  · rw [o12 64 (by decide) (by decide) (by decide), z4]
    rfl
  · rw [o12 63 (by decide) (by decide) (by decide), o12 65 (by decide) (by decide) (by decide), z5, z6]
    exact Pos_0 s o1
  · rw [c1, d2, s1, stM_ne (by decide)]
    exact rc
  · rw [c2, d4 62 (by decide) (by decide), s1, stM_ne (by decide)]
    exact rc
  · rw [o12 62 (by decide) (by decide) (by decide)]
    exact rc
  · rw [em]
    exact um_n (by omega)
theorem ru_fil {it im om : Int} {S : Sc} (s : Sby K N) (hp : 0 ≤ p) (h : SF K N ty g A p r) (kv : kV K (fSt (g r)) = 14) (hd : cMd (fCx (g r)) = 0)
    (ht : ∃ o n x, cA (fCx (g r)) = (2, o, 1) ∧ cB (fCx (g r)) = (5, n, 0) ∧ cC (fCx (g r)) = (5, x, 0) ∧ 1 ≤ o ∧ 1 ≤ n ∧ Fre (fCx (g r)) o n ∧ (S = [(fSt (g r) + 1, sC (a0 (fCx (g r))) ((1, o, n, 0, r0) :: cCp (fCx (g r))))] ∨ (x = -1 ∧ S = [(fSt (g r) + 1, sC (a0 (fCx (g r))) ((2, o, n, 12, r0) :: cCp (fCx (g r))))])))
    (hs : ∀ q ∈ S, Gd K N (fun _ _ => False) q.1 q.2) (ha : opR A A_q it im om p (kV K (fSt (g r)))) : Nxs K N ty g (ldM A p) A_q p := by
  have hu := SF_lf h (by omega)
  have h_q := h
  obtain ⟨hS, x2, ⟨z1, z2, z3, z4, z5, z6, z7, z8⟩, u⟩ := h
  obtain ⟨a, b, c, A1, A2, A3, _, hA, hB, hC, hf, e1, e2, e⟩ := opR_f14 ha kv
  obtain ⟨o, n, x, ca, cb, cc, ho, hn, fr, hS2⟩ := ht
  have H := (hS.1.1 r z1).1
  have L1 := H.1
  have L4 := H.2.2.2.1
  obtain ⟨f1, f2, f3, f4⟩ := Fre_r fr H hn
  obtain ⟨R1, R2, R3⟩ := z7
  rw [ca] at R1
  rw [cb] at R2
  rw [cc] at R3
  have q1 := R1.2.1 rfl (by show -2000000 ≤ r + o; omega) (by show r + o + 1 ≤ 2000000; omega)
  have q1' : r + o ≤ A 60 p.toNat ∧ A 60 p.toNat < r + o + 1 := q1
  have q2 : A 61 p.toNat = n := R2.2.2.2.1 rfl
  have q3 : A 62 p.toNat = x := R3.2.2.2.1 rfl
  have ea : a = r + o := by omega
  have eb : b = n := by omega
  have ec : c = x := by omega
  subst ea eb ec
  have o12 : ∀ q, q ≠ 59 → q ≠ 60 → q ≠ 61 → q ≠ 62 → A_q q = A q := fun q q1 q2 q3 q4 => by
    rw [e, uA_ne q4, e2, uA_ne q3, e1, uA_ne q2, hf, fi_k q1]
  have em : ldM A_q p = fm (ldM A p) (r + o) b c := by
    have e59 : A_q 59 = fiM A p (r + o) c b.toNat 59 := by
      rw [e, uA_ne (by decide), e2, uA_ne (by decide), e1, uA_ne (by decide), hf]
    rw [ldM_f (p := p) e59, fi_fm hp (by omega) b.toNat (by omega), show ((b.toNat : Nat) : Int) = b by omega]
  have go : ∀ (kk uu : Int), (kk = 1 ∨ (kk = 2 ∧ c = -1)) → Gd K N (fun _ _ => False) (fSt (g r) + 1) (sC (a0 (fCx (g r))) ((kk, o, b, uu, r0) :: cCp (fCx (g r)))) → Nxs K N ty g (ldM A p) A_q p := fun kk uu hk o1 => by
    have hM := MI_fil (e := sC (a0 (fCx (g r))) ((kk, o, b, uu, r0) :: cCp (fCx (g r)))) hS.1 z1 hu z2 hd hn ho fr hk o1 rfl rfl ⟨s0, s0, s0⟩ rfl
    rw [← em] at hM
    refine Nxs_own h_q hM (Oky_m hS.1 x2 z1 hu (fun y hy => ?_)) (o12 71 (by decide) (by decide) (by decide) (by decide)) (o12 72 (by decide) (by decide) (by decide) (by decide)) (o12 73 (by decide) (by decide) (by decide) (by decide)) (o12 74 (by decide) (by decide) (by decide) (by decide)) (o12 75 (by decide) (by decide) (by decide) (by decide)) (o12 76 (by decide) (by decide) (by decide) (by decide)) (o12 77 (by decide) (by decide) (by decide) (by decide)) z1 z2 rfl rfl (fun q => ?_) ?_ ?_ (Or.inl ?_) ⟨Rok_0, Rok_0, Rok_0⟩ (fun y hy => ut_o (by omega)) (fun l l1 l2 _ _ => ?_)
    · by_cases q : r + o ≤ y ∧ y < r + o + b
      · exact Or.inr (Or.inr (Or.inr ⟨by omega, by omega⟩))
      · rw [em] at hy
        exact absurd (if_neg q) hy
    · have q_q : fSu (g r) = 2 := q
      omega
    · rw [o12 66 (by decide) (by decide) (by decide) (by decide), z3]
      rfl
    · rw [o12 64 (by decide) (by decide) (by decide) (by decide), z4]
      rfl
    · rw [o12 63 (by decide) (by decide) (by decide) (by decide), o12 65 (by decide) (by decide) (by decide) (by decide), z5, z6]
      exact Pos_0 s o1
    · rw [em]
      exact if_neg (by omega)
  rcases hS2 with hS2 | ⟨hx, hS2⟩
  · exact go 1 0 (Or.inl rfl) (Gd_1 hs hS2)
  · exact go 2 12 (Or.inr ⟨rfl, hx⟩) (Gd_1 hs hS2)
theorem ru_ajw {S : Sc} (s : Sby K N) (h : SF K N ty g A p r) (k : kF K (fSt (g r)) = 11) (ek : cEk (fCx (g r)) = 1) (hd : cMd (fCx (g r)) = 0)
    (ht : (cDw (fCx (g r)) = cZ (fCx (g r)) + 3 ∧ kV K (fSt (g r)) = -(cZ (fCx (g r)) + 3) ∧ S = [(fSt (g r) + 1, sW (fCx (g r)) 0)]) ∨ (cDw (fCx (g r)) = 0 ∧ kV K (fSt (g r)) = cZ (fCx (g r)) + 3 ∧ S = [(fSt (g r) + 1, sW (sC (a0 (fCx (g r))) []) (cZ (fCx (g r)) + 3))]))
    (hs : ∀ q ∈ S, Gd K N (fun _ _ => False) q.1 q.2) (ha : acR A A_q p (kF K (fSt (g r))) (kV K (fSt (g r)))) : Nxs K N ty g (ldM A p) A_q p := by
  have hu := SF_lf h (by omega)
  have h_q := h
  obtain ⟨hS, x2, ⟨z1, z2, z3, z4, z5, z6, z7, z8⟩, u⟩ := h
  obtain ⟨w, n, v, b, A1, _, hw, hr, ev, hb, e1, e⟩ := acR_f11 ha k
  have H := (hS.1.1 r z1).1
  obtain ⟨b1, b2, b3, b4, b5, b6, b7, b8, b9, b10, b11, b12, b13⟩ := H
  have b7' := b7 ek
  have z3' : A 66 p.toNat = 2 * (r + cDw (fCx (g r))) + fPb (g r) := z3
  have z4' : A 64 p.toNat = r + cDw (fCx (g r)) := z4
  have o12 : ∀ q, q ≠ 64 → q ≠ 66 → A_q q = A q := fun q q1 q2 => by
    rw [e, uA_ne q2, e1, uA_ne q1]
  have em := ldM_f (p := p) (o12 59 (by decide) (by decide))
  have go : ∀ (w_q : Int) (l : List Cp) (R : Rt × Rt × Rt), ((l = cCp (fCx (g r)) ∧ R = (fCx (g r)).2.2.1) ∨ (l = [] ∧ R = (r0, r0, r0))) → (w_q = 0 ∨ w_q = cZ (fCx (g r)) + 3) → v = r + w_q → Gd K N (fun _ _ => False) (fSt (g r) + 1) ((cEk (fCx (g r)), cPd (fCx (g r)), cZ (fCx (g r)), cD (fCx (g r)), w_q), l, R, (fCx (g r)).2.2.2) → Nxs K N ty g (ldM A p) A_q p := fun w_q l R hl hw' hv o1 => by
    have hM := MI_ajw hS.1 z1 hu z2 hd ek hl hw' o1
    rw [← em] at hM
    have e64 : A_q 64 p.toNat = r + w_q := by
      rw [e, uA_ne (by decide), e1, uA_eq, hv]
    have e66 : A_q 66 p.toNat = 2 * (r + w_q) + fPb (g r) := by
      rw [e, uA_eq, i32_to (by omega) (by omega)]
      omega
    refine Nxs_own h_q hM (Oky_e em) (o12 71 (by decide) (by decide)) (o12 72 (by decide) (by decide)) (o12 73 (by decide) (by decide)) (o12 74 (by decide) (by decide)) (o12 75 (by decide) (by decide)) (o12 76 (by decide) (by decide)) (o12 77 (by decide) (by decide)) z1 z2 rfl rfl (fun q => ?_) e66 e64 (Or.inl ?_) ?_ (fun _ _ => rfl) (fun l _ _ _ _ => by rw [em])
    · have q_q : fSu (g r) = 2 := q
      omega
    · rw [o12 63 (by decide) (by decide), o12 65 (by decide) (by decide), z5, z6]
      exact Pos_0 s o1
    · rw [em, o12 60 (by decide) (by decide), o12 61 (by decide) (by decide), o12 62 (by decide) (by decide)]
      rcases hl with ⟨_, hR⟩ | ⟨_, hR⟩
      · subst hR
        exact z7
      · subst hR
        exact ⟨Rok_0, Rok_0, Rok_0⟩
  have vb : v = r + cDw (fCx (g r)) + kV K (fSt (g r)) := by
    rw [ev, i32_to (by omega) (by omega)]
    omega
  rcases ht with ⟨t1, t2, t3⟩ | ⟨t1, t2, t3⟩
  · exact go 0 (cCp (fCx (g r))) ((fCx (g r)).2.2.1) (Or.inl ⟨rfl, rfl⟩) (Or.inl rfl) (by omega) (Gd_1 hs t3)
  · exact go (cZ (fCx (g r)) + 3) [] (r0, r0, r0) (Or.inr ⟨rfl, rfl⟩) (Or.inr rfl) (by omega) (Gd_1 hs t3)
end
