/-! EACH RULE AS A STEP: ALT -/
/-- places of the code -/
def Kr (K : Kd) (N : Int) : Prop := ∀ j, 0 ≤ j → j ≤ N → 0 ≤ kP K j ∧ kP K j ≤ 6000
theorem ctx_1 {c : Cx} (h : cMd c = 1) : sM (a0 c) (1, cPe c, cWs c) = a0 c := by
  have e : c.2.2.2 = (1, cPe c, cWs c) := by
    show (cMd c, cPe c, cWs c) = (1, cPe c, cWs c)
    rw [h]
  show (c.1, c.2.1, (r0, r0, r0), ((1, cPe c, cWs c) : Mo)) = (c.1, c.2.1, (r0, r0, r0), c.2.2.2)
  rw [e]
section
variable {K : Kd} {N : Int} {ty : Int → Int} {g : Int → Fm} {A A_q : Nat → Nat → Int} {p r : Int}
/-- it goes on, its registers free; only its own first words and channels are written -/
theorem st_go {e : Cx} {j : Int} (s : Sby K N) (h : SF K N ty g A p r) (hu : fSu (g r) = 0) (o1 : Gd K N (fun _ _ => False) j e) (he : e.1 = (fCx (g r)).1) (heR : e.2.2.1 = (r0, r0, r0)) (hM : MI K N (ldM A_q p) ty (ug g r (ws (g r) 0 (fCh (g r)) j e))) (c : ∀ y, ldM A_q p y ≠ ldM A p y → (r - 3 ≤ y ∧ y ≤ r) ∨ ty y = 2) (o : ∀ k, k ≠ 59 → k ≠ 60 → k ≠ 61 → k ≠ 62 → k ≠ 63 → k < 78 → A_q k = A k) (hP : Psx K (ws (g r) 0 (fCh (g r)) j e) (A_q 63 p.toNat) 0)
    (hl : ∀ l, 0 ≤ l → l ≤ 11 → ty (-1 - l) / 8 % 2 = 0 → ldM A_q p l = ldM A p l) : Nxs K N ty g (ldM A p) A_q p := by
  have h_q := h
  obtain ⟨hS, x, ⟨z1, z2, z3, z4, z5, z6, z7, z8⟩, u⟩ := h
  obtain ⟨b1, b2, b3, b4, b5, b6, b7⟩ := (hS.1.1 r z1).1
  have dw : cDw e = cDw (fCx (g r)) := congrArg (fun t : Hd => t.2.2.2.2) he
  refine Nxs_own h_q hM (Oky_m hS.1 x z1 hu (fun y hy => ?_)) (o 71 (by decide) (by decide) (by decide) (by decide) (by decide) (by decide)) (o 72 (by decide) (by decide) (by decide) (by decide) (by decide) (by decide)) (o 73 (by decide) (by decide) (by decide) (by decide) (by decide) (by decide)) (o 74 (by decide) (by decide) (by decide) (by decide) (by decide) (by decide)) (o 75 (by decide) (by decide) (by decide) (by decide) (by decide) (by decide)) (o 76 (by decide) (by decide) (by decide) (by decide) (by decide) (by decide)) (o 77 (by decide) (by decide) (by decide) (by decide) (by decide) (by decide)) z1 rfl rfl rfl (fun q => ?_) ?_ ?_ ?_ ?_ (fun _ _ => rfl) (fun l l1 l2 l3 _ => hl l l1 l2 l3)
  · rcases c y hy with q | q
    · exact Or.inr (Or.inr (Or.inr (by omega)))
    · exact Or.inr (Or.inl q)
  · have q_q : fSu (g r) = 2 := q
    omega
  · rw [o 66 (by decide) (by decide) (by decide) (by decide) (by decide) (by decide), z3]
    show 2 * (r + cDw (fCx (g r))) + fPb (g r) = 2 * (r + cDw e) + fPb (g r)
    rw [dw]
  · rw [o 64 (by decide) (by decide) (by decide) (by decide) (by decide) (by decide), z4]
    show r + cDw (fCx (g r)) = r + cDw e
    rw [dw]
  · rw [o 65 (by decide) (by decide) (by decide) (by decide) (by decide) (by decide), z6]
    exact hP
  · show Rok _ _ _ e.2.2.1.1 _ ∧ Rok _ _ _ e.2.2.1.2.1 _ ∧ Rok _ _ _ e.2.2.1.2.2 _
    rw [heR]
    exact ⟨Rok_0, Rok_0, Rok_0⟩
/-- within an ALT -/
theorem st_asm {j : Int} {pe : List (Int × Int)} {wy : List Int} (s : Sby K N) (h : SF K N ty g A p r) (hd : cMd (fCx (g r)) = 1) (dw : cDw (fCx (g r)) = 0) (ej : j = fSt (g r) + 1) (o1 : Gd K N (fun _ _ => False) j (sM (a0 (fCx (g r))) (1, pe, wy))) (hm : ∀ y, ¬ (r - 3 ≤ y ∧ y ≤ r) → ldM A_q p y = ldM A p y) (m3 : ldM A_q p (r - 3) ≠ 0 ∧ ldM A_q p (r - 3) ≠ 2) (m0 : ldM A_q p r = -1 ∨ ldM A_q p r ∈ wy)
    (hp : ∀ y ∈ pe, (∃ q ∈ cCp (fCx (g r)), qK q = 8 ∧ qO q = y.2 ∧ qU q / 8 % 2 = 1) ∧ ∃ q ∈ cCp (fCx (g r)), qK q = 6 ∧ qO q = y.1) (hq : ∀ z ∈ cPe (fCx (g r)), ldM A p (r + z.1) ≠ 0 → ldM A p (ldM A p (r + z.2)) = 2 * r + fPb (g r) → z ∈ pe) (o : ∀ k, k ≠ 59 → k ≠ 60 → k ≠ 61 → k ≠ 62 → k < 78 → A_q k = A k) : Nxs K N ty g (ldM A p) A_q p := by
  have hu := SF_lf h (by omega)
  have h_q := h
  have rb := SF_b h
  obtain ⟨hS, x, ⟨z1, z2, z3, z4, z5, z6, z7, z8⟩, u⟩ := h
  have hM := MI_asm hS.1 z1 hu z2 hd dw (Or.inl rfl) o1 hm ⟨m3.1, fun w => absurd w m3.2⟩ m0 hp hq
  refine st_go s h_q hu o1 rfl rfl hM (fun y hy => Or.inl ?_) (fun k k1 k2 k3 k4 _ k6 => o k k1 k2 k3 k4 k6) (Or.inl ?_) (fun l l1 l2 _ => hm l (by omega))
  · by_cases q : r - 3 ≤ y ∧ y ≤ r
    · exact q
    · exact absurd (hm y q) hy
  · rw [o 63 (by decide) (by decide) (by decide) (by decide) (by decide), z5, ← ej]
    exact Pos_0 s o1
/-- what is known within an ALT -/
theorem SF_alt (h : SF K N ty g A p r) (hd : cMd (fCx (g r)) = 1) : (ldM A p (r - 3) ≠ 0 ∧ ldM A p (r - 3) ≠ 2) ∧ (ldM A p r = -1 ∨ ldM A p r ∈ cWs (fCx (g r))) ∧ ∀ y ∈ cPe (fCx (g r)), (∃ q ∈ cCp (fCx (g r)), qK q = 8 ∧ qO q = y.2 ∧ qU q / 8 % 2 = 1) ∧ ∃ q ∈ cCp (fCx (g r)), qK q = 6 ∧ qO q = y.1 := by
  have w := (h.1.1.1 r h.2.2.1.1).2.2.2.1.2.2.2.2.1 hd
  have z2 := h.2.2.1.2.1
  refine ⟨⟨w.1.1, fun q => ?_⟩, w.2.1, w.2.2⟩
  have := w.1.2 q
  omega
theorem take2 {A1 A2 : Nat → Nat → Int} (t1 : A1 = takeM A p) (t2 : A2 = takeM A1 p) : ∀ k, k ≠ 60 → k ≠ 61 → A2 k = A k := fun k k1 k2 => by
  rw [t2, take_c.2.2 k k1 k2, t1, take_c.2.2 k k1 k2]
theorem ru_alt {it im om : Int} (s : Sby K N) (hp : 0 ≤ p) (h : SF K N ty g A p r) (kv : kV K (fSt (g r)) = 22) (dw : cDw (fCx (g r)) = 0) (hd : cMd (fCx (g r)) = 0) (o1 : Gd K N (fun _ _ => False) (fSt (g r) + 1) (sM (a0 (fCx (g r))) (1, [], []))) (ha : opR A A_q it im om p (kV K (fSt (g r)))) : Nxs K N ty g (ldM A p) A_q p := by
  have hu := SF_lf h (by omega)
  have q := SF_rw h dw
  have rb := SF_b h
  obtain ⟨a, b, _, hA, hB, sp⟩ := opR_f20 ha (by omega)
  obtain ⟨w, A1, _, hw, s1, s2⟩ := spR_f22 sp kv
  rw [q.1] at hw
  subst hw
  have h_q := h
  obtain ⟨hS, x, ⟨z1, z2, z3, z4, z5, z6, z7, z8⟩, u⟩ := h
  have em : ldM A_q p = um (um (ldM A p) (r - 3) 1) r (-1) := by
    rw [s2, ld_um hp (by omega) (by omega), s1, ld_um hp (by omega) (by omega)]
  have hm : ∀ y, ¬ (r - 3 ≤ y ∧ y ≤ r) → ldM A_q p y = ldM A p y := fun y hy => by
    rw [em, um_n (by omega), um_n (by omega)]
  have o : ∀ k, k ≠ 59 → A_q k = A k := fun k k1 => by
    rw [s2, stM_ne k1, s1, stM_ne k1]
  have hM := MI_alt (m_q := ldM A_q p) hS.1 z1 hu z2 hd o1 hm (by rw [em, um_n (by omega), um_e]) (by rw [em, um_e])
  refine st_go s h_q hu o1 rfl rfl hM (fun y hy => Or.inl ?_) (fun k k1 _ _ _ _ _ => o k k1) (Or.inl ?_) (fun l l1 l2 _ => hm l (by omega))
  · by_cases q : r - 3 ≤ y ∧ y ≤ r
    · exact q
    · exact absurd (hm y q) hy
  · rw [o 63 (by decide), z5]
    exact Pos_0 s o1
theorem ru_enc {it im om gg hh : Int} {q1 q2 : Cp} (s : Sby K N) (hp : 0 ≤ p) (h : SF K N ty g A p r) (kv : kV K (fSt (g r)) = 23) (dw : cDw (fCx (g r)) = 0) (hd : cMd (fCx (g r)) = 1) (hq1 : q1 ∈ cCp (fCx (g r))) (k8 : qK q1 = 8) (ko : qO q1 = hh) (ku : qU q1 / 8 % 2 = 1) (hq2 : q2 ∈ cCp (fCx (g r))) (k6 : qK q2 = 6) (ko2 : qO q2 = gg) (ca : cA (fCx (g r)) = (3, hh, 1)) (cb : cB (fCx (g r)) = (3, gg, 1))
    (o1 : Gd K N (fun _ _ => False) (fSt (g r) + 1) (sM (a0 (fCx (g r))) (1, (gg, hh) :: cPe (fCx (g r)), cWs (fCx (g r))))) (ha : opR A A_q it im om p (kV K (fSt (g r)))) : Nxs K N ty g (ldM A p) A_q p := by
  have hu := SF_lf h (by omega)
  have q := SF_rw h dw
  have rb := SF_b h
  have cok := SF_cok h hu
  obtain ⟨l1, l2, l3⟩ := SF_alt h hd
  obtain ⟨R1, R2, R3⟩ := h.2.2.1.2.2.2.2.2.2.1
  have z1 := h.2.2.1.1
  have z2 := h.2.2.1.2.1
  obtain ⟨a, b, _, hA, hB, sp⟩ := opR_f20 ha (by omega)
  rw [ca] at R1
  rw [cb] at R2
  have ea : ldM A p (r + hh) ≤ A 60 p.toNat ∧ A 60 p.toNat < ldM A p (r + hh) + 1 := R1.2.2.1 rfl (Or.inl rfl)
  have eb : ldM A p (r + gg) ≤ A 61 p.toNat ∧ A 61 p.toNat < ldM A p (r + gg) + 1 := R2.2.2.1 rfl (Or.inl rfl)
  have ea' : ldM A p (r + hh) = a := by omega
  have eb' : ldM A p (r + gg) = b := by omega
  have cl : Cl (ldM A p) r (cCp (fCx (g r))) 2 a (qU q1) := ⟨q1, hq1, Or.inr (Or.inr (Or.inr (Or.inr (Or.inr (Or.inl ⟨Or.inr (Or.inl k8), rfl, by rw [ko]; exact ea'.symm, rfl⟩)))))⟩
  obtain ⟨ta, a1, a2, a3⟩ := cok.1 _ _ _ cl
  have hpe : ∀ y ∈ (gg, hh) :: cPe (fCx (g r)), (∃ q ∈ cCp (fCx (g r)), qK q = 8 ∧ qO q = y.2 ∧ qU q / 8 % 2 = 1) ∧ ∃ q ∈ cCp (fCx (g r)), qK q = 6 ∧ qO q = y.1 := fun y hy => by
    rcases List.mem_cons.mp hy with e | hy
    · rw [e]
      exact ⟨⟨q1, hq1, k8, ko, ku⟩, q2, hq2, k6, ko2⟩
    · exact l3 y hy
  have same : ∀ B : Nat → Nat → Int, A_q = B → (∀ k, k ≠ 60 → k ≠ 61 → B k = A k) → Nxs K N ty g (ldM A p) A_q p := fun B e o => by
    have em : ldM A_q p = ldM A p := by
      rw [e]
      exact ldM_f (o 59 (by decide) (by decide))
    exact st_asm s h hd dw rfl o1 (fun y _ => by rw [em]) (by rw [em]; exact l1) (by rw [em]; exact l2) hpe (fun z hz _ _ => List.mem_cons_of_mem _ hz) (fun k _ k2 k3 _ _ => by rw [e]; exact o k k2 k3)
  rcases spR_f23 sp kv with ⟨_, _, t1⟩ | ⟨A1, _, hb, t1, k⟩
  · exact same A_q rfl (fun k k1 k2 => by rw [t1]; exact take_c.2.2 k k1 k2)
  · have oA : ∀ k, k ≠ 60 → k ≠ 61 → A1 k = A k := fun k k1 k2 => by
      rw [t1]
      exact take_c.2.2 k k1 k2
    have e1 := ldM_f (p := p) (oA 59 (by decide) (by decide))
    have tell : A_q = stM A1 p (A1 64 p.toNat - 3) 3 → Nxs K N ty g (ldM A p) A_q p := fun e => by
      rw [oA 64 (by decide) (by decide), q.1] at e
      have em : ldM A_q p = um (ldM A p) (r - 3) 3 := by
        rw [e, ld_um hp (by omega) (by omega), e1]
      refine st_asm s h hd dw rfl o1 (fun y hy => by rw [em, um_n (by omega)]) (by rw [em, um_e]; exact ⟨by decide, by decide⟩) (by rw [em, um_n (by omega)]; exact l2) hpe (fun z hz _ _ => List.mem_cons_of_mem _ hz) (fun k k1 k2 k3 _ _ => by rw [e, stM_ne k1, oA k k2 k3])
    rcases k with ⟨_, _, _, e⟩ | ⟨_, ⟨k1, e⟩ | ⟨_, _, e⟩ | ⟨_, _, e⟩⟩
    · exact tell e
    · rw [oA 66 (by decide) (by decide), q.2.1] at e
      have em : ldM A_q p = um (ldM A p) a (2 * r + fPb (g r)) := by
        rw [e, ld_um hp (by omega) (by omega), e1]
      have hM := MI_enb (m_q := ldM A_q p) (x := a) (z0 := (gg, hh)) h.1.1 z1 hu z2 hd dw o1 (hpe (gg, hh) List.mem_cons_self) (fun y hy => by rw [em, um_n hy]) (by rw [em, um_e]) ea' ta (by show ldM A p (r + gg) ≠ 0; omega)
      have oo : ∀ k, k ≠ 59 → k ≠ 60 → k ≠ 61 → A_q k = A k := fun k k1 k2 k3 => by
        rw [e, stM_ne k1, oA k k2 k3]
      refine st_go s h hu o1 rfl rfl hM (fun y hy => Or.inr ?_) (fun k k1 k2 k3 _ _ _ => oo k k1 k2 k3) (Or.inl ?_) (fun l n1 n2 n3 => ?_)
      · by_cases w : y = a
        · rw [w]
          exact ta
        · rw [em, um_n w] at hy
          exact absurd rfl hy
      · rw [oo 63 (by decide) (by decide) (by decide), h.2.2.1.2.2.2.2.1]
        exact Pos_0 s o1
      · rw [em]
        refine um_n (fun w => ?_)
        subst w
        rcases a3 with a3 | a3
        · omega
        · have := a3.2.2 ku
          omega
    · exact same A1 e oA
    · exact tell e
theorem ru_ens {it im om : Int} (s : Sby K N) (hp : 0 ≤ p) (h : SF K N ty g A p r) (kv : kV K (fSt (g r)) = 24) (dw : cDw (fCx (g r)) = 0) (hd : cMd (fCx (g r)) = 1) (o1 : Gd K N (fun _ _ => False) (fSt (g r) + 1) (a0 (fCx (g r)))) (ha : opR A A_q it im om p (kV K (fSt (g r)))) : Nxs K N ty g (ldM A p) A_q p := by
  have q := SF_rw h dw
  have rb := SF_b h
  obtain ⟨l1, l2, l3⟩ := SF_alt h hd
  rw [← ctx_1 hd] at o1
  obtain ⟨a, b, _, hA, hB, sp⟩ := opR_f20 ha (by omega)
  rcases spR_f24 sp kv with ⟨_, _, e⟩ | ⟨w, _, hw, _, e⟩
  · subst e
    exact st_asm s h hd dw rfl o1 (fun _ _ => rfl) l1 l2 l3 (fun z hz _ _ => hz) (fun _ _ _ _ _ _ => rfl)
  · rw [q.1] at hw
    subst hw
    have em : ldM A_q p = um (ldM A p) (r - 3) 3 := by
      rw [e, ld_um hp (by omega) (by omega)]
    exact st_asm s h hd dw rfl o1 (fun y hy => by rw [em, um_n (by omega)]) (by rw [em, um_e]; exact ⟨by decide, by decide⟩) (by rw [em, um_n (by omega)]; exact l2) l3 (fun z hz _ _ => hz) (fun k k1 _ _ _ _ => by rw [e, stM_ne k1])
theorem ru_awt {it im om : Int} (s : Sby K N) (hp : 0 ≤ p) (h : SF K N ty g A p r) (kv : kV K (fSt (g r)) = 25) (dw : cDw (fCx (g r)) = 0) (hd : cMd (fCx (g r)) = 1) (o1 : Gd K N (fun _ _ => False) (fSt (g r) + 1) (a0 (fCx (g r)))) (ha : opR A A_q it im om p (kV K (fSt (g r)))) : Nxs K N ty g (ldM A p) A_q p := by
  have hu := SF_lf h (by omega)
  have q := SF_rw h dw
  have rb := SF_b h
  obtain ⟨l1, l2, l3⟩ := SF_alt h hd
  rw [← ctx_1 hd] at o1
  obtain ⟨a, b, _, hA, hB, sp⟩ := opR_f20 ha (by omega)
  rcases spR_f25 sp kv with ⟨w, v, _, hw, l, z, e⟩ | ⟨w, v, A1, _, hw, l, z, s1, e⟩
  · subst e
    exact st_asm s h hd dw rfl o1 (fun _ _ => rfl) l1 l2 l3 (fun z hz _ _ => hz) (fun _ _ _ _ _ _ => rfl)
  · rw [q.1] at hw
    subst hw
    have h_q := h
    obtain ⟨hS, x, ⟨z1, z2, z3, z4, z5, z6, z7, z8⟩, u⟩ := h
    obtain ⟨b1, b2, b3, b4, b5, b6, b7⟩ := (hS.1.1 r z1).1
    have oA : ∀ k, k ≠ 59 → A1 k = A k := fun k k1 => by
      rw [s1, stM_ne k1]
    have ew : waitM A1 p = goneM (stM A1 p (r - 1) (kP K (fSt (g r) + 1))) p := by
      unfold waitM
      rw [oA 64 (by decide), oA 63 (by decide), q.1, z5]
    rw [ew] at e
    obtain ⟨f1, f2⟩ := gone_c (A := stM A1 p (r - 1) (kP K (fSt (g r) + 1))) (p := p)
    rw [← e] at f1 f2
    have o4 : ∀ k, k ≠ 59 → k ≠ 66 → A_q k = A k := fun k k1 k2 => by
      rw [f2 k k2, stM_ne k1, oA k k1]
    have em : ldM A_q p = um (um (ldM A p) (r - 3) 2) (r - 1) (kP K (fSt (g r) + 1)) := by
      rw [ldM_f (p := p) (f2 59 (by decide)), ld_um hp (by omega) (by omega), s1, ld_um hp (by omega) (by omega)]
    have hm : ∀ y, ¬ (r - 3 ≤ y ∧ y ≤ r) → ldM A_q p y = ldM A p y := fun y hy => by
      rw [em, um_n (by omega), um_n (by omega)]
    have hM := MI_asm (m_q := ldM A_q p) (sx := 4) hS.1 z1 hu z2 hd dw (Or.inr ⟨rfl, by rw [em, um_e]⟩) o1 hm (by rw [em, um_n (by omega), um_e]; exact ⟨by decide, fun _ => rfl⟩) (by rw [em, um_n (by omega), um_n (by omega)]; exact l2) l3 (fun z hz _ _ => hz)
    refine Nxs_gone h_q hM (Oky_m hS.1 x z1 hu (fun y hy => Or.inr (Or.inr (Or.inr ?_)))) (o4 71 (by decide) (by decide)) (o4 72 (by decide) (by decide)) (o4 73 (by decide) (by decide)) (o4 74 (by decide) (by decide)) (o4 75 (by decide) (by decide)) (o4 76 (by decide) (by decide)) (o4 77 (by decide) (by decide)) (fun _ => ⟨show (4 : Int) ≠ 1 by decide, show (4 : Int) ≠ 0 by decide, rfl⟩) (fun w _ => ?_) f1 (fun _ _ => rfl) (fun l n1 n2 _ _ => hm l (by omega))
    · by_cases w : r - 3 ≤ y ∧ y ≤ r
      · omega
      · exact absurd (hm y w) hy
    · have w_q : fSu (g r) = 2 := w
      omega
theorem ru_dsc {it im om gg hh xx : Int} {l : List (Int × Int)} (s : Sby K N) (hp : 0 ≤ p) (h : SF K N ty g A p r) (kv : kV K (fSt (g r)) = 26) (dw : cDw (fCx (g r)) = 0) (hd : cMd (fCx (g r)) = 1) (ca : cA (fCx (g r)) = (3, hh, 1)) (cb : cB (fCx (g r)) = (3, gg, 1)) (cc : cC (fCx (g r)) = (5, xx, 0)) (q8 : ∃ q ∈ cCp (fCx (g r)), qK q = 8 ∧ qO q = hh ∧ qU q / 8 % 2 = 1) (y1 : ∀ e ∈ cPe (fCx (g r)), e = (gg, hh) ∨ e ∈ l) (y2 : ∀ e ∈ l, e ∈ cPe (fCx (g r)))
    (o1 : Gd K N (fun _ _ => False) (fSt (g r) + 1) (sM (a0 (fCx (g r))) (1, l, xx :: cWs (fCx (g r))))) (ha : opR A A_q it im om p (kV K (fSt (g r)))) : Nxs K N ty g (ldM A p) A_q p := by
  have hu := SF_lf h (by omega)
  have q := SF_rw h dw
  have rb := SF_b h
  have cok := SF_cok h hu
  obtain ⟨l1, l2, l3⟩ := SF_alt h hd
  obtain ⟨R1, R2, R3⟩ := h.2.2.1.2.2.2.2.2.2.1
  have z1 := h.2.2.1.1
  have z2 := h.2.2.1.2.1
  obtain ⟨a, b, _, hA, hB, sp⟩ := opR_f20 ha (by omega)
  rw [ca] at R1
  rw [cb] at R2
  rw [cc] at R3
  have ea : ldM A p (r + hh) ≤ A 60 p.toNat ∧ A 60 p.toNat < ldM A p (r + hh) + 1 := R1.2.2.1 rfl (Or.inl rfl)
  have eb : ldM A p (r + gg) ≤ A 61 p.toNat ∧ A 61 p.toNat < ldM A p (r + gg) + 1 := R2.2.2.1 rfl (Or.inl rfl)
  have ec : A 62 p.toNat = xx := R3.2.2.2.1 rfl
  have ea' : ldM A p (r + hh) = a := by omega
  have eb' : ldM A p (r + gg) = b := by omega
  obtain ⟨q1, hq1, k8, ko, ku⟩ := q8
  have cl : Cl (ldM A p) r (cCp (fCx (g r))) 2 a (qU q1) := ⟨q1, hq1, Or.inr (Or.inr (Or.inr (Or.inr (Or.inr (Or.inl ⟨Or.inr (Or.inl k8), rfl, by rw [ko]; exact ea'.symm, rfl⟩)))))⟩
  obtain ⟨ta, a1, a2, a3⟩ := cok.1 _ _ _ cl
  have nar : a ≠ r := fun w => by
    have t := (h.1.1.1 r z1).2.1.2.2.2.1
    rw [← w] at t
    omega
  have hpe := fun y hy => l3 y (y2 y hy)
  have m0' : ldM A p r = -1 ∨ ldM A p r ∈ xx :: cWs (fCx (g r)) := by
    rcases l2 with w | w
    · exact Or.inl w
    · exact Or.inr (List.mem_cons_of_mem _ w)
  rcases spR_f26 sp kv with ⟨A1, A2, _, hb, t1, t2, t3⟩ | ⟨c, A1, A2, A3, _, hb, hc, t1, t2, t3, k⟩
  · have oo : ∀ k, k ≠ 60 → k ≠ 61 → A_q k = A k := fun k k1 k2 => by
      rw [t3, take_c.2.2 k k1 k2, take2 t1 t2 k k1 k2]
    have em := ldM_f (p := p) (oo 59 (by decide) (by decide))
    refine st_asm s h hd dw rfl o1 (fun _ _ => by rw [em]) (by rw [em]; exact l1) (by rw [em]; exact m0') hpe (fun z hz n1 _ => ?_) (fun k _ k2 k3 _ _ => oo k k2 k3)
    rcases y1 z hz with w | w
    · rw [w] at n1
      exact absurd (eb'.trans hb) n1
    · exact w
  · have o3 : ∀ k, k ≠ 60 → k ≠ 61 → A3 k = A k := fun k k1 k2 => by
      rw [t3, take_c.2.2 k k1 k2, take2 t1 t2 k k1 k2]
    have e3 := ldM_f (p := p) (o3 59 (by decide) (by decide))
    have ex : c = xx := by omega
    subst ex
    obtain ⟨A4, kk, dk, dn⟩ := k
    rw [o3 64 (by decide) (by decide), q.1] at dn
    unfold dsK at dk
    rw [e3, o3 66 (by decide) (by decide), q.2.1] at dk
    rcases dk with ⟨w1, w2, _⟩ | ⟨w1, w2, _⟩
    · have o4 : ∀ k, k ≠ 59 → k ≠ 60 → k ≠ 61 → A4 k = A k := fun k k1 k2 k3 => by
        rw [w2, stM_ne k1, o3 k k2 k3]
      have e4 : ldM A4 p = um (ldM A p) a (-1) := by
        rw [w2, ld_um hp (by omega) (by omega), e3]
      have fin : (∀ k, k ≠ 59 → k ≠ 60 → k ≠ 61 → A_q k = A k) → (∀ y, y ≠ a → y ≠ r → ldM A_q p y = ldM A p y) → ldM A_q p a = -1 → (ldM A_q p r = -1 ∨ ldM A_q p r ∈ c :: cWs (fCx (g r))) → Nxs K N ty g (ldM A p) A_q p := fun oo hm mx m0 => by
        have hM := MI_dis (m_q := ldM A_q p) (x := a) h.1.1 z1 hu z2 hd dw o1 hm ta mx m0 y2 (fun z hz n => by
          rcases y1 z hz with w | w
          · rw [w] at n
            exact absurd ea' n
          · exact w)
        refine st_go s h hu o1 rfl rfl hM (fun y hy => ?_) (fun k k1 k2 k3 _ _ _ => oo k k1 k2 k3) (Or.inl ?_) (fun l n1 n2 n3 => ?_)
        · by_cases w : y = a
          · rw [w]
            exact Or.inr ta
          · by_cases w_q : y = r
            · exact Or.inl (by omega)
            · exact absurd (hm y w w_q) hy
        · rw [oo 63 (by decide) (by decide) (by decide), h.2.2.1.2.2.2.2.1]
          exact Pos_0 s o1
        · refine hm l (fun w => ?_) (by omega)
          subst w
          rcases a3 with a3 | a3
          · omega
          · have := a3.2.2 ku
            omega
      rcases dn with ⟨_, _, e⟩ | ⟨_, e⟩
      · have em : ldM A_q p = um (um (ldM A p) a (-1)) r c := by
          rw [e, ld_um hp (by omega) (by omega), e4]
        refine fin (fun k k1 k2 k3 => by rw [e, stM_ne k1, o4 k k1 k2 k3]) (fun y n1 n2 => by rw [em, um_n n2, um_n n1]) (by rw [em, um_n nar, um_e]) (Or.inr ?_)
        rw [em, um_e]
        exact List.mem_cons_self
      · subst e
        exact fin o4 (fun y n1 _ => by rw [e4, um_n n1]) (by rw [e4, um_e]) (by rw [e4, um_n (fun w => nar w.symm)]; exact m0')
    · subst w2
      have hqq : ∀ z ∈ cPe (fCx (g r)), ldM A p (r + z.1) ≠ 0 → ldM A p (ldM A p (r + z.2)) = 2 * r + fPb (g r) → z ∈ l := fun z hz _ n2 => by
        rcases y1 z hz with w | w
        · rw [w] at n2
          have n2' : ldM A p (ldM A p (r + hh)) = 2 * r + fPb (g r) := n2
          rw [ea'] at n2'
          exact absurd n2' w1
        · exact w
      rcases dn with ⟨_, _, e⟩ | ⟨_, e⟩
      · have em : ldM A_q p = um (ldM A p) r c := by
          rw [e, ld_um hp (by omega) (by omega), e3]
        refine st_asm s h hd dw rfl o1 (fun y hy => by rw [em, um_n (by omega)]) (by rw [em, um_n (by omega)]; exact l1) (Or.inr ?_) hpe hqq (fun k k1 k2 k3 _ _ => by rw [e, stM_ne k1, o3 k k2 k3])
        rw [em, um_e]
        exact List.mem_cons_self
      · subst e
        exact st_asm s h hd dw rfl o1 (fun _ _ => by rw [e3]) (by rw [e3]; exact l1) (by rw [e3]; exact m0') hpe hqq (fun k _ k2 k3 _ _ => o3 k k2 k3)
theorem ru_dss {it im om xx : Int} (s : Sby K N) (hp : 0 ≤ p) (h : SF K N ty g A p r) (kv : kV K (fSt (g r)) = 27) (dw : cDw (fCx (g r)) = 0) (hd : cMd (fCx (g r)) = 1) (cb : cB (fCx (g r)) = (5, xx, 0)) (o1 : Gd K N (fun _ _ => False) (fSt (g r) + 1) (sM (a0 (fCx (g r))) (1, cPe (fCx (g r)), xx :: cWs (fCx (g r))))) (ha : opR A A_q it im om p (kV K (fSt (g r)))) : Nxs K N ty g (ldM A p) A_q p := by
  have q := SF_rw h dw
  have rb := SF_b h
  obtain ⟨l1, l2, l3⟩ := SF_alt h hd
  obtain ⟨R1, R2, R3⟩ := h.2.2.1.2.2.2.2.2.2.1
  obtain ⟨a, b, _, hA, hB, sp⟩ := opR_f20 ha (by omega)
  rw [cb] at R2
  have eb : A 61 p.toNat = xx := R2.2.2.2.1 rfl
  have m0' : ldM A p r = -1 ∨ ldM A p r ∈ xx :: cWs (fCx (g r)) := by
    rcases l2 with w | w
    · exact Or.inl w
    · exact Or.inr (List.mem_cons_of_mem _ w)
  rcases spR_f27 sp kv with ⟨A1, _, t1, t2⟩ | ⟨w, v, A1, A2, _, hw, t1, t2, l, z, e⟩
  · have oo := take2 t1 t2
    have em := ldM_f (p := p) (oo 59 (by decide) (by decide))
    exact st_asm s h hd dw rfl o1 (fun _ _ => by rw [em]) (by rw [em]; exact l1) (by rw [em]; exact m0') l3 (fun z hz _ _ => hz) (fun k _ k2 k3 _ _ => oo k k2 k3)
  · rw [q.1] at hw
    subst hw
    have oo := take2 t1 t2
    have em : ldM A_q p = um (ldM A p) r b := by
      rw [e, ld_um hp (by omega) (by omega), ldM_f (p := p) (oo 59 (by decide) (by decide))]
    refine st_asm s h hd dw rfl o1 (fun y hy => by rw [em, um_n (by omega)]) (by rw [em, um_n (by omega)]; exact l1) (Or.inr ?_) l3 (fun z hz _ _ => hz) (fun k k1 k2 k3 _ _ => by rw [e, stM_ne k1, oo k k2 k3])
    rw [em, um_e, show b = xx by omega]
    exact List.mem_cons_self
theorem ru_aen {it im om : Int} {S : Sc} (s : Sby K N) (kb : Kb K) (kr : Kr K N) (hp : 0 ≤ p) (h : SF K N ty g A p r) (j0 : 0 ≤ fSt (g r)) (j1 : fSt (g r) < N) (k15 : kF K (fSt (g r)) = 15) (kv : kV K (fSt (g r)) = 28) (dw : cDw (fCx (g r)) = 0) (hd : cMd (fCx (g r)) = 1) (pe : cPe (fCx (g r)) = []) (y1 : (fSt (g r) + 1, sM (a0 (fCx (g r))) (0, [], [])) ∈ S) (y2 : ∀ x ∈ cWs (fCx (g r)), ∃ t, kP K t = kP K (fSt (g r) + 1) + x ∧ (t, sM (a0 (fCx (g r))) (0, [], [])) ∈ S)
    (hs : ∀ q ∈ S, Gd K N (fun _ _ => False) q.1 q.2) (ha : opR A A_q it im om p (kV K (fSt (g r)))) : Nxs K N ty g (ldM A p) A_q p := by
  have hu := SF_lf h (by omega)
  have q := SF_rw h dw
  have rb := SF_b h
  obtain ⟨l1, l2, l3⟩ := SF_alt h hd
  obtain ⟨a, b, _, hA, hB, sp⟩ := opR_f20 ha (by omega)
  obtain ⟨w, i, v, A1, _, hw, hi, s1, l, e⟩ := spR_f28 sp kv
  have h_q := h
  obtain ⟨hS, x, ⟨z1, z2, z3, z4, z5, z6, z7, z8⟩, u⟩ := h
  rw [q.1] at hw
  subst hw
  rw [z5] at hi
  subst hi
  have em : ldM A_q p = um (ldM A p) (r - 3) 0 := by
    have e59 : A_q 59 = A1 59 := by
      rw [e, uA_ne (by decide)]
    rw [ldM_f (p := p) e59, s1, ld_um hp (by omega) (by omega)]
  have hm : ∀ y, ¬ (r - 3 ≤ y ∧ y ≤ r) → ldM A_q p y = ldM A p y := fun y hy => by
    rw [em, um_n (by omega)]
  have ev : v = ldM A p r := by
    rw [l, s1, ld_um hp (by omega) (by omega), um_n (by omega)]
  have oo : ∀ k, k ≠ 59 → k ≠ 63 → A_q k = A k := fun k k1 k2 => by
    rw [e, uA_ne k2, s1, stM_ne k1]
  have e63 : A_q 63 p.toNat = (i32 (kP K (fSt (g r) + 1) + v)).toInt := by
    rw [e, uA_eq]
  have ch : ∀ y, ldM A_q p y ≠ ldM A p y → (r - 3 ≤ y ∧ y ≤ r) ∨ ty y = 2 := fun y hy => by
    by_cases w : r - 3 ≤ y ∧ y ≤ r
    · exact Or.inl w
    · exact absurd (hm y w) hy
  rcases l2 with l2 | l2
  · have o1 := hs _ y1
    have hM := MI_aen hS.1 z1 hu z2 pe o1 hm
    have k1 := kr (fSt (g r) + 1) (by omega) (by omega)
    refine st_go s h_q hu o1 rfl rfl hM ch (fun k k1 _ _ _ k5 _ => oo k k1 k5) (Or.inr ⟨?_, rfl, rfl, rfl, dw, hu, ?_, ?_, ?_⟩) (fun l n1 n2 _ => hm l (by omega))
    · rw [e63, ev, l2]
      show _ = kP K (fSt (g r) + 1) - 1
      rw [i32_to (by omega) (by omega)]
      omega
    · show kF K (fSt (g r) + 1 - 1) = 15
      rw [show fSt (g r) + 1 - 1 = fSt (g r) by omega]
      exact k15
    · show kV K (fSt (g r) + 1 - 1) = 28
      rw [show fSt (g r) + 1 - 1 = fSt (g r) by omega]
      exact kv
    · show 0 ≤ fSt (g r) + 1 - 1
      omega
  · obtain ⟨t, t1, t2⟩ := y2 _ l2
    have o1 : Gd K N (fun _ _ => False) t (sM (a0 (fCx (g r))) (0, [], [])) := hs _ t2
    have hM := MI_aen hS.1 z1 hu z2 pe o1 hm
    have kt := kb t
    refine st_go s h_q hu o1 rfl rfl hM ch (fun k k1 _ _ _ k5 _ => oo k k1 k5) (Or.inl ?_) (fun l n1 n2 _ => hm l (by omega))
    rw [e63, ev, i32_to (by omega) (by omega), ← t1]
    exact Pos_0 s o1
end
