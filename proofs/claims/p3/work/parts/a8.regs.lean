/-! STEPS THAT CHANGE ONLY REGISTERS -/
theorem come_c {A : Nat → Nat → Int} {p v : Int} : comeM A p v 60 p.toNat = v ∧ comeM A p v 61 p.toNat = A 60 p.toNat ∧ comeM A p v 62 p.toNat = A 61 p.toNat ∧ ∀ k, k ≠ 60 → k ≠ 61 → k ≠ 62 → comeM A p v k = A k := by
  unfold comeM
  refine ⟨uA_eq, ?_, ?_, fun k a b c => ?_⟩
  · rw [uA_ne (by decide), uA_eq]
  · rw [uA_ne (by decide), uA_ne (by decide), uA_eq]
  · rw [uA_ne a, uA_ne b, uA_ne c]
theorem take_c {A : Nat → Nat → Int} {p : Int} : takeM A p 60 p.toNat = A 61 p.toNat ∧ takeM A p 61 p.toNat = A 62 p.toNat ∧ ∀ k, k ≠ 60 → k ≠ 61 → takeM A p k = A k := by
  unfold takeM
  refine ⟨?_, uA_eq, fun k a b => ?_⟩
  · rw [uA_ne (by decide), uA_eq]
  · rw [uA_ne b, uA_ne a]
theorem two_c {A : Nat → Nat → Int} {p v : Int} : twoM A p v 60 p.toNat = v ∧ twoM A p v 61 p.toNat = A 62 p.toNat ∧ twoM A p v 62 p.toNat = A 62 p.toNat ∧ ∀ k, k ≠ 60 → k ≠ 61 → k ≠ 62 → twoM A p v k = A k := by
  unfold twoM
  obtain ⟨c1, c2, c3, c4⟩ := come_c (A := takeM (takeM A p) p) (p := p) (v := v)
  obtain ⟨t1, t2, t3⟩ := take_c (A := takeM A p) (p := p)
  obtain ⟨s1, s2, s3⟩ := take_c (A := A) (p := p)
  refine ⟨c1, ?_, ?_, fun k a b c => ?_⟩
  · rw [c2, t1, s2]
  · rw [c3, t2, s3 62 (by decide) (by decide)]
  · rw [c4 k a b c, t3 k a b, s3 k a b]
theorem ldM_f {A A_q : Nat → Nat → Int} {p : Int} (h : A_q 59 = A 59) : ldM A_q p = ldM A p := funext (fun a => ldM_k h)
/-- another step, other registers: of a leaf, or of one that starts branches -/
theorem MI_rg2 {K : Kd} {N : Int} {m ty : Int → Int} {g : Int → Fm} {r j : Int} {e : Cx} (h : MI K N m ty g) (hr : fOn (g r) = 1) (hx : fSx (g r) = 0) (o1 : Gd K N (fun _ _ => False) j e) (o2 : e.1 = (fCx (g r)).1) (o3 : cCp e = cCp (fCx (g r))) (o7 : e.2.2.2 = (fCx (g r)).2.2.2) (o8 : Sup (cCp e) (cA e) ∧ Sup (cCp e) (cB e) ∧ Sup (cCp e) (cC e)) : MI K N m ty (ug g r (mv (g r) j e)) := by
  obtain ⟨a1, a2, a3, a4, a5, a6⟩ := h.1 r hr
  have b0 := a1.2.2.2.2.2.2.2.2.2.2.2.1
  have b2 := a1.2.2.2.2.2.2.2.2.2.2.2.2
  have md : cMd e = cMd (fCx (g r)) := congrArg (fun q : Mo => q.1) o7
  have pe : cPe e = cPe (fCx (g r)) := congrArg (fun q : Mo => q.2.1) o7
  have wz : cWs e = cWs (fCx (g r)) := congrArg (fun q : Mo => q.2.2) o7
  by_cases u1 : fSu (g r) = 1
  · have := (a4.2.2.1 u1).2.2.1
    omega
  · by_cases u2 : fSu (g r) = 2
    · have q := (a4.2.1 u2).2.2.2.2.2.1
      have es : mv (g r) j e = ws (g r) 0 (fCh (g r)) j e := by
        unfold mv ws
        rw [hx]
      rw [es]
      refine MI_pha h hr u2 (Or.inl rfl) o1 o2 (by rw [md]; exact q) wz (fun y hy => pe ▸ hy) (by rw [pe]; exact (a6 u2).2.1) o8 (fun x _ _ => rfl) (Chs_u h.2.2 (fun x => Att_0 hx (by omega)))
    · exact MI_reg h hr (by omega) hx o1 o2 (Or.inl o3) o7 o8 (fun y hy q => by rw [o3]; exact (a4.2.2.2.2.1 q).2.2 y hy)
/-- the registers change, and where it goes on -/
theorem Nxs_reg {K : Kd} {N : Int} {ty : Int → Int} {g : Int → Fm} {A A_q : Nat → Nat → Int} {p r j : Int} {e : Cx} (s : Sby K N) (h : SF K N ty g A p r) (hA : ∀ k, k ≠ 60 → k ≠ 61 → k ≠ 62 → k ≠ 63 → k < 78 → A_q k = A k) (e63 : A_q 63 p.toNat = kP K j)
    (o1 : Gd K N (fun _ _ => False) j e) (o2 : e.1 = (fCx (g r)).1) (o3 : cCp e = cCp (fCx (g r))) (o7 : e.2.2.2 = (fCx (g r)).2.2.2) (o8 : Sup (cCp e) (cA e) ∧ Sup (cCp e) (cB e) ∧ Sup (cCp e) (cC e))
    (hG : Rok (ldM A p) r (fPb (g r)) (cA e) (A_q 60 p.toNat) ∧ Rok (ldM A p) r (fPb (g r)) (cB e) (A_q 61 p.toNat) ∧ Rok (ldM A p) r (fPb (g r)) (cC e) (A_q 62 p.toNat)) : Nxs K N ty g (ldM A p) A_q p := by
  have h_q := h
  obtain ⟨hS, x, ⟨s1, s2, s3, s4, s5, s6, s7, s8⟩, u⟩ := h
  have e59 := hA 59 (by decide) (by decide) (by decide) (by decide) (by decide)
  have em := ldM_f (p := p) e59
  have dw : cDw e = cDw (fCx (g r)) := congrArg (fun t : Hd => t.2.2.2.2) o2
  refine Nxs_own (ty_q := ty) (f := mv (g r) j e) h_q (by rw [em]; exact MI_rg2 hS.1 s1 s2 o1 o2 o3 o7 o8) (Oky_e em) (hA 71 (by decide) (by decide) (by decide) (by decide) (by decide)) (hA 72 (by decide) (by decide) (by decide) (by decide) (by decide)) (hA 73 (by decide) (by decide) (by decide) (by decide) (by decide)) (hA 74 (by decide) (by decide) (by decide) (by decide) (by decide)) (hA 75 (by decide) (by decide) (by decide) (by decide) (by decide)) (hA 76 (by decide) (by decide) (by decide) (by decide) (by decide)) (hA 77 (by decide) (by decide) (by decide) (by decide) (by decide)) s1 s2 rfl rfl (fun q => ⟨q, ?_, rfl⟩) ?_ ?_ (Or.inl ?_) ?_ (fun _ _ => rfl) (fun l _ _ _ _ => by rw [em])
  · show cCp e = []
    rw [o3]
    exact x.1 r s1 q
  · rw [hA 66 (by decide) (by decide) (by decide) (by decide) (by decide), s3]
    show 2 * (r + cDw (fCx (g r))) + fPb (g r) = 2 * (r + cDw e) + fPb (g r)
    rw [dw]
  · rw [hA 64 (by decide) (by decide) (by decide) (by decide) (by decide), s4]
    show r + cDw (fCx (g r)) = r + cDw e
    rw [dw]
  · rw [hA 65 (by decide) (by decide) (by decide) (by decide) (by decide), e63, s6]
    exact Pos_0 s o1
  · rw [em]
    exact hG
/-- the same with less known; and the rule of its step -/
theorem SF_rul {K : Kd} {N : Int} {ty : Int → Int} {g : Int → Fm} {A : Nat → Nat → Int} {p r : Int} (h : SF K N ty g A p r) : ∃ (e : Cx) (S : Sc), 0 ≤ fSt (g r) ∧ fSt (g r) < N ∧ SF K N ty (ug g r (mv (g r) (fSt (g r)) e)) A p r ∧ Lst ty (ldM A p) g (ldM A p) (ug g r (mv (g r) (fSt (g r)) e)) ∧ Rul K (fSt (g r)) e S ∧ ∀ q ∈ S, Gd K N (fun _ _ => False) q.1 q.2 := by
  obtain ⟨hS, x, ⟨s1, s2, s3, s4, s5, s6, s7, s8⟩, u⟩ := h
  obtain ⟨a1, a2, a3, a4, a5, a6⟩ := hS.1.1 r s1
  rcases Gd_o a4.1 with ⟨_, _, q⟩ | ⟨j0, j1, e, S, w, R, hs⟩
  · exact q.elim
  obtain ⟨w1, w2, w3, w4, w5, w6, w7, w8, w9, w10⟩ := id w
  have md : cMd e = cMd (fCx (g r)) := congrArg (fun q : Mo => q.1) w6
  have pe : cPe e = cPe (fCx (g r)) := congrArg (fun q : Mo => q.2.1) w6
  have wz : cWs e = cWs (fCx (g r)) := congrArg (fun q : Mo => q.2.2) w6
  have dw : cDw e = cDw (fCx (g r)) := congrArg (fun t : Hd => t.2.2.2.2) w1
  have ge : Gd K N (fun _ _ => False) (fSt (g r)) e := Gs_d ⟨j0, j1, e, S, ⟨rfl, Or.inl rfl, Or.inl rfl, Or.inl rfl, Or.inl rfl, rfl, w7, w8, w9, fun y hy m => w10 y (pe ▸ hy) (md.symm.trans m)⟩, R, hs⟩
  have hm : MI K N (ldM A p) ty (ug g r (mv (g r) (fSt (g r)) e)) := by
    by_cases u2 : fSu (g r) = 2
    · have c0 := x.1 r s1 u2
      refine MI_rg2 hS.1 s1 s2 ge w1 ?_ w6 ⟨w7, w8, w9⟩
      rcases w2 with w2 | w2
      · exact w2
      · rw [c0] at w2 ⊢
        exact List.eq_nil_iff_forall_not_mem.mpr (fun q hq => absurd (w2.1 q hq) List.not_mem_nil)
    · by_cases u1 : fSu (g r) = 1
      · have := (a4.2.2.1 u1).2.2.1
        omega
      · have b0 := a1.2.2.2.2.2.2.2.2.2.2.2.1
        have b2 := a1.2.2.2.2.2.2.2.2.2.2.2.2
        exact MI_reg hS.1 s1 (by omega) s2 ge w1 w2 w6 ⟨w7, w8, w9⟩ w10
  have fr : fR (ug g r (mv (g r) (fSt (g r)) e)) r = fR g r := by
    show r + cDw (fCx (ug g r (mv (g r) (fSt (g r)) e) r)) = r + cDw (fCx (g r))
    rw [ug_e]
    show r + cDw e = _
    rw [dw]
  have rk : ∀ {a b : Rt} {v : Int}, (b = a ∨ b = r0) → Rok (ldM A p) r (fPb (g r)) a v → Rok (ldM A p) r (fPb (g r)) b v := fun q k => by
    rcases q with q | q
    · rw [q]
      exact k
    · rw [q]
      exact Rok_0
  refine ⟨e, S, j0, j1, ⟨SK_own hS s2 hm (Oky_e rfl) rfl rfl rfl rfl rfl rfl rfl (fun _ => ?_), X2_own x s1 s2 (fun _ => rfl) (fun q _ => ⟨q, ?_, rfl, rfl⟩), ?_, fun W v1 v2 => ?_⟩, Lst_own (by omega) (fun _ _ _ _ _ => rfl), R, hs⟩
  · show fSx (g r) ≠ 1
    omega
  · show cCp e = []
    have c0 := x.1 r s1 q
    rcases w2 with w2 | w2
    · exact w2.trans c0
    · rw [c0] at w2
      exact List.eq_nil_iff_forall_not_mem.mpr (fun q hq => absurd (w2.1 q hq) List.not_mem_nil)
  · unfold Rgs
    rw [fr, ug_e]
    exact ⟨s1, s2, s3, s4, s5, s6, ⟨rk w3 s7.1, rk w4 s7.2.1, rk w5 s7.2.2⟩, s8⟩
  · by_cases n : W = r
    · exact n
    · rw [ug_n n] at v1 v2
      exact u W v1 v2
