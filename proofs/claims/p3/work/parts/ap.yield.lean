/-! A LOW PROCESS GIVES WAY -/
theorem yd_o {A : Nat → Nat → Int} {p : Int} {k : Nat} (h : k < 71) : ydM A p k = svM A p k := by
  unfold ydM
  rw [uA_ne (by omega), uA_ne (by omega), uA_ne (by omega), uA_ne (by omega), uA_ne (by omega), uA_ne (by omega), uA_ne (by omega), sdM_k (by omega)]
theorem yd_7 {A : Nat → Nat → Int} {p : Int} : ydM A p 73 p.toNat = 1 ∧ ydM A p 74 p.toNat = A 60 p.toNat ∧ ydM A p 75 p.toNat = A 61 p.toNat ∧ ydM A p 76 p.toNat = A 62 p.toNat ∧ ydM A p 77 p.toNat = A 65 p.toNat := by
  refine ⟨?_, ?_, ?_, ?_, ?_⟩ <;> unfold ydM
  · rw [uA_ne (by decide), uA_ne (by decide), uA_ne (by decide), uA_ne (by decide), uA_eq]
  · rw [uA_ne (by decide), uA_ne (by decide), uA_ne (by decide), uA_eq]
  · rw [uA_ne (by decide), uA_ne (by decide), uA_eq]
  · rw [uA_ne (by decide), uA_eq]
  · rw [uA_eq]
theorem yd_71 {A : Nat → Nat → Int} {p : Int} : ydM A p 71 = uA (sdM (svM A p) (2 * p + 1) 0 (A 72 (2 * p + 1).toNat)) 71 (1100 * (2 * p + 1)).toNat (A 66 p.toNat) 71 := by
  unfold ydM
  rw [uA_ne (by decide), uA_ne (by decide), uA_ne (by decide), uA_ne (by decide), uA_ne (by decide), uA_ne (by decide)]
theorem sv_k {A : Nat → Nat → Int} {p : Int} {k : Nat} (h : k ≠ 59) : svM A p k = A k := stM_ne h
theorem yd_71f {A : Nat → Nat → Int} {p : Int} : rw0 (ydM A p) (2 * p + 1) 0 = A 66 p.toNat := by
  show ydM A p 71 (1100 * (2 * p + 1) + 0).toNat = _
  rw [yd_71, Int.add_zero, uA_eq]
theorem yd_71s {A : Nat → Nat → Int} {p i : Int} (hp : 0 ≤ p) (h0 : 0 ≤ i) (h1 : i < A 72 (2 * p + 1).toNat) : rw0 (ydM A p) (2 * p + 1) (i + 1) = rw0 A (2 * p + 1) i := by
  show ydM A p 71 (1100 * (2 * p + 1) + (i + 1)).toNat = A 71 (1100 * (2 * p + 1) + i).toNat
  rw [yd_71, uA_ni (by omega)]
  unfold sdM
  rw [if_pos ⟨rfl, by omega, by omega⟩, sv_k (by decide), show (1100 * (2 * p + 1) + (i + 1)).toNat - 1 = (1100 * (2 * p + 1) + i).toNat by omega]
theorem yd_71o {A : Nat → Nat → Int} {p : Int} {n : Nat} (h : (n : Int) < 1100 * (2 * p + 1)) : ydM A p 71 n = A 71 n := by
  rw [yd_71, uA_ni (by omega)]
  unfold sdM
  rw [if_neg (by omega), sv_k (by decide)]
theorem yd_nx {K : Kd} {N : Int} {ty : Int → Int} {g : Int → Fm} {A A_q : Nat → Nat → Int} {p : Int} (s : Sby K N) (hp : 0 ≤ p) (h : SI K N ty g A p) (x : X2 g) (hy : yR A A_q p) : Nxs K N ty g (ldM A p) A_q p := by
  rcases hy with ⟨_, e⟩ | ⟨y1, y2, y3, hd⟩
  · subst e
    exact ⟨ty, g, h, x, fun _ _ => rfl, fun _ _ _ _ _ d => d⟩
  · obtain ⟨hS, ⟨q1, _⟩ | ⟨r, ⟨z1, z2, z3, z4, z5, z6, z7⟩, u⟩⟩ := h
    · exact absurd q1 y1
    have hM := hS.1
    obtain ⟨a1, a2, a3, a4, a5, a6⟩ := hM.1 r z1
    have fi := fR_in hM z1
    have f6 := fR_6 hM z1
    have b9 := a1.2.2.2.2.2.2.2.2.1
    have b10 := a1.2.2.2.2.2.2.2.2.2.1
    have pb : fPb (g r) = 1 := by omega
    have em : ldM (svM A p) p = um (ldM A p) (fR g r - 1) (A 63 p.toNat) := by
      unfold svM
      rw [z4]
      exact ld_um hp (by omega) (by omega)
    have mo : ∀ y, y ≠ fR g r - 1 → ldM (svM A p) p y = ldM A p y := fun y hy => by
      rw [em, um_n hy]
    have hM1 : MI K N (ldM (svM A p) p) ty g := MI_sav hM z1 z2 mo
    have ok : Oky (ldM A p) (ldM (svM A p) p) g r := by
      by_cases su : fSu (g r) = 0
      · exact Oky_m hM x z1 su (fun y hy => by
          by_cases w : y = fR g r - 1
          · exact Or.inr (Or.inr (Or.inr (by omega)))
          · exact absurd (mo y w) hy)
      · have dw : cDw (fCx (g r)) = 0 := by
          rcases a1.2.2.2.2.2.2.2.1 with w | w
          · exact w
          · exact absurd w.2.2 su
        have fr : fR g r = r := by
          show r + cDw (fCx (g r)) = r
          omega
        exact Oky_u hM x z1 (fun y hy => by
          by_cases w : y = fR g r - 1
          · subst w
            exact Or.inr (Or.inr (Or.inr ⟨f6.1, by omega, by omega⟩))
          · exact absurd (mo y w) hy)
    have k1 : SK K N ty g (svM A p) p := by
      have w := SK_own (f := g r) (A_q := svM A p) hS z2 (by rw [ug_i]; exact hM1) ok (sv_k (by decide)) (sv_k (by decide)) (sv_k (by decide)) (sv_k (by decide)) (sv_k (by decide)) (sv_k (by decide)) (sv_k (by decide)) (fun _ => by omega)
      rw [ug_i] at w
      exact w
    have k0 : A 73 p.toNat = 0 := by
      by_cases w : A 73 p.toNat = 0
      · exact w
      · have := z7 w
        omega
    obtain ⟨c73, c74, c75, c76, c77⟩ := yd_7 (A := A) (p := p)
    have l1 := Rdy_le hM (by decide) (by decide) hS.2.2.1
    obtain ⟨k2, k3⟩ := SK_asd (A_q := ydM A p) k1 z1 z2 pb (by rw [sv_k (by decide)]; exact k0) (by rw [c73]; decide) u (yd_o (by decide)) (by rw [yd_72, sv_k (by decide)]) (by rw [yd_72o (by omega), sv_k (by decide)]) (fun i i0 i1 => by
      rw [sv_k (by decide)] at i1
      rw [yd_71s hp i0 i1]
      show _ = svM A p 71 _
      rw [sv_k (by decide)]) (by rw [yd_71f, z3, pb]) (fun i i0 i1 => by
      show ydM A p 71 _ = svM A p 71 _
      rw [yd_71o (by omega), sv_k (by decide)]) (by
      rw [em, um_e, c77]
      exact z5) (by
      rw [c74, c75, c76]
      exact Rgs_m hM z1 (fun o kp => by
        have t := (Kpt_t hM x z1 kp).1
        exact mo _ (fun w => by rw [w] at t; omega)) z6)
    have x2 : X2 (ug g r (ws (g r) 1 (fCh (g r)) (fSt (g r)) (fCx (g r)))) := X2_own x z1 z2 (fun _ => rfl) (fun q _ => ⟨q, x.1 r z1 q, rfl, rfl⟩)
    refine Nxs_t (m1 := ldM (ydM A p) p) (Lst_own (by omega) (fun l l1 l2 _ _ => ?_)) (SX_dsp s k2 x2 k3 hp hd)
    rw [ldM_f (p := p) (yd_o (A := A) (p := p) (k := 59) (by decide))]
    exact mo l (by omega)
