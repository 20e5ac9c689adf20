/-! THE CALLS THAT RUN THE MACHINE -/
theorem Wk_ib {G : Nat → Int} {A : Nat → Nat → Int} (h : Wk G A) : Ib A := fun k n k1 k2 => by
  have w : k = 59 ∨ k = 60 ∨ k = 61 := by omega
  rcases w with w | w | w <;> subst w
  · exact h.2 59 n
  · exact h.2 60 n
  · exact h.2 61 n
theorem GS_cm {A : Nat → Nat → Int} (h : GS A) (q : Int) (q0 : 0 ≤ q) (q1 : q ≤ 5) : Cm A q := by
  obtain ⟨K, N, ty, g, hc, _⟩ := h
  have c := (hc q q0 q1).2.1
  have b := SI_gb c
  have r0 := Rdy_le c.1.1 (by decide) (by decide) c.1.2.1
  have r1 := Rdy_le c.1.1 (by decide) (by decide) c.1.2.2.1
  exact ⟨b.1, by omega, b.2.2.1, by omega, b.2.2.2.2⟩
/-- the machine, and where its links lead -/
def GZ (lk : Int) (A : Nat → Nat → Int) : Prop := GS A ∧ ∀ l : Int, 0 ≤ l → l < lk → (0 ≤ A 34 l.toNat ∧ A 34 l.toNat ≤ 5) ∧ 0 ≤ A 35 l.toNat ∧ A 35 l.toNat ≤ 5
theorem GZ_n {lk : Int} {A A_q : Nat → Nat → Int} (h : GZ lk A) (e34 : A_q 34 = A 34) (e35 : A_q 35 = A 35) (g : GS A_q) : GZ lk A_q := ⟨g, fun l l0 l1 => by rw [e34, e35]; exact h.2 l l0 l1⟩
theorem c_oneByte_g {X : jX} {dd : Nat} {c0 c1 : jC} {G : Nat → Int} {A : Nat → Nat → Int} {T : jH} {p : Int} {lk it im om : Int} (hd : 9 ≤ dd) (hW : Wk G A) (e_lk : G 52 = lk) (e_it : G 111 = it) (e_im : G 110 = im) (e_om : G 113 = om) (h_p : (-2147483648 : Int) ≤ p ∧ p ≤ 2147483647) (p_0 : 0 ≤ p) (p_1 : p ≤ 5) (p_2 : 0 ≤ it) (p_3 : it ≤ im) (p_4 : im ≤ 200) (p_5 : 0 ≤ om) (p_6 : om ≤ 2000000000) (p_7 : GZ (lk) A) : wk X dd 379 [.ref 66, .int (i32 p)] (rV c0 c1 G A T) (fun o V_q => ∃ (G_q : Nat → Int) (A_q : Nat → Nat → Int) (r : Int) (om2 : Int) (it2 : Int), V_q = rV c0 c1 G_q A_q T ∧ o = .inl (some (.int (i32 r))) ∧ Wk G_q A_q ∧ Fr [111, 113] [59, 60, 61, 62, 63, 64, 65, 66, 67, 68, 69, 70, 71, 72, 73, 74, 75, 76, 77, 79, 80, 81, 82, 83, 84, 85] G A G_q A_q ∧ ((0 : Int) ≤ r ∧ r ≤ 1) ∧ G_q 113 = om2 ∧ G_q 111 = it2 ∧ (om ≤ om2) ∧ (om2 ≤ om + 1) ∧ (it ≤ it2) ∧ (it2 ≤ im) ∧ (GZ (lk) A_q) ∧ True) := by
  have hib : Ib A := Wk_ib hW
  obtain ⟨hgb, hhob⟩ := GS_hob (it := it) (im := im) (om := om) p_0 p_1 hib p_7.1
  obtain ⟨g1, g2, g3, g4, g5⟩ := hgb
  refine wk_mono (fun o V_q h => ?_) (c_oneByte hd hW rfl rfl rfl rfl e_it e_im e_om rfl rfl rfl rfl h_p p_0 p_1 g1 g2 g3 g4 g5 p_2 p_3 p_4 p_5 p_6 hhob)
  obtain ⟨G_q, A_q, r, om2, it2, h1, h2, h3, h4, h5, h6, h7, h8⟩ := h
  rcases h8 with ⟨_, _, w2, w3, w4⟩ | ⟨_, w1, w2, w3, w4, w5⟩
  · exact ⟨G_q, A_q, r, om2, it2, h1, h2, h3, h4, h5, h6, h7, by omega, by omega, by omega, by omega, by rw [w4]; exact p_7, trivial⟩
  · exact ⟨G_q, A_q, r, om2, it2, h1, h2, h3, h4, h5, h6, h7, w1, w2, w3, w4, GZ_n p_7 (h4.2 34 rfl) (h4.2 35 rfl) (GS_by p_0 p_1 hib p_7.1 w5), trivial⟩
theorem c_beatOf_g {X : jX} {dd : Nat} {c0 c1 : jC} {G : Nat → Int} {A : Nat → Nat → Int} {T : jH} {l : Int} {lk fr to1 : Int} (hd : 6 ≤ dd) (hW : Wk G A) (e_lk : G 52 = lk) (e_fr : A 34 (l).toNat = fr) (e_to1 : A 35 (l).toNat = to1) (h_l : (-2147483648 : Int) ≤ l ∧ l ≤ 2147483647) (p_0 : 0 ≤ l) (p_1 : l ≤ 11) (p_2 : 0 ≤ fr) (p_3 : fr ≤ 5) (p_4 : 0 ≤ to1) (p_5 : to1 ≤ 5) (p_6 : GZ (lk) A) : wk X dd 393 [.ref 66, .int (i32 l)] (rV c0 c1 G A T) (fun o V_q => ∃ (G_q : Nat → Int) (A_q : Nat → Nat → Int) (r : Int), V_q = rV c0 c1 G_q A_q T ∧ o = .inl (some (.int (i32 r))) ∧ Wk G_q A_q ∧ Fr [121] [59, 60, 61, 62, 63, 64, 65, 66, 70, 71, 72, 73, 74, 75, 76, 77, 80, 82, 83, 84, 85] G A G_q A_q ∧ ((0 : Int) ≤ r ∧ r ≤ 1) ∧ (GZ (lk) A_q) ∧ True) := by
  refine wk_mono (fun o V_q h => ?_) (c_beatOf hd hW e_fr e_to1 rfl rfl rfl rfl rfl rfl h_l p_0 p_1 p_2 p_3 p_4 p_5 (GS_cm p_6.1))
  obtain ⟨G_q, A_q, r, h1, h2, h3, h4, h5, h6, _⟩ := h
  exact ⟨G_q, A_q, r, h1, h2, h3, h4, h5, GZ_n p_6 (h4.2 34 rfl) (h4.2 35 rfl) (GS_bt p_0 p_1 (by rw [e_to1]; exact ⟨p_4, p_5⟩) p_6.1 h6), trivial⟩
set_option maxRecDepth 20000 in
set_option maxHeartbeats 4000000 in
theorem c_isCore2 {X : jX} {dd : Nat} {c0 c1 : jC} {G : Nat → Int} {A : Nat → Nat → Int} {T : jH} {p : Int} {bp : Int} (hd : 2 ≤ dd) (hW : Wk G A) (e_bp : A 36 (p).toNat = bp) (h_p : (-2147483648 : Int) ≤ p ∧ p ≤ 2147483647) : wk X dd 398 [.ref 66, .int (i32 p)] (rV c0 c1 G A T) (fun o V_q => ∃ (r : Int), V_q = rV c0 c1 G A T ∧ o = .inl (some (.int (i32 r))) ∧ ((0 : Int) ≤ r ∧ r ≤ 1) ∧ ((r = 1 ∧ (0 ≤ p) ∧ (p ≤ 5) ∧ (0 < bp)) ∨ (r = 0 ∧ (p < 0 ∨ 5 < p ∨ bp ≤ 0)))) := by
  obtain ⟨d, rfl⟩ : ∃ d, dd = d + 1 := ⟨dd - 1, by omega⟩
  refine wk_of (e := jm398) rfl (Nat.le_of_ble_eq_true rfl) ?_
  show wj X d jm398 (0, [(0, .ref 66), (1, .int (i32 (p)))], [], rV c0 c1 G A T) _
  have b_bp : (-2147483648 : Int) ≤ bp ∧ bp ≤ 2147483647 := e_bp ▸ hW.2 36 _
  refine jx_ld (pc_q := 1) (l_q := [(0, .ref 66), (1, .int (i32 (p)))]) (st_q := [.int (i32 (p))]) rfl (jl_iloadn rfl) ?_
  refine jx_ar (pc_q := 2) (st_q := [.int (i32 (0)), .int (i32 (p))]) rfl rfl rfl rfl ?_
  refine jx_ar (pc_q := 3) (st_q := [.int (i32 (5)), .int (i32 (0)), .int (i32 (p))]) rfl rfl rfl rfl ?_
  refine jx_st (pc_q := 6) (as := [.int (i32 (p)), .int (i32 (0)), .int (i32 (5))]) (st := []) rfl rfl ⟨rfl, Nat.le_of_ble_eq_true rfl⟩ rfl rfl rfl (c_in (dd := d) (hd := by omega) (v := p) (a := 0) (b := 5)   (h_v := ⟨(Int.le_trans (by decide : (-2147483648 : Int) ≤ -2147483648) h_p.1), (Int.le_trans h_p.2 (by decide : (2147483647 : Int) ≤ 2147483647))⟩) (h_a := ⟨(by decide), (by decide)⟩) (h_b := ⟨(by decide), (by decide)⟩)  ) (fun o V_q hq => ?_)
  obtain ⟨r1, rfl, rfl, b2, q3⟩ := hq
  refine .inr ⟨_, rfl, ?_⟩
  rcases q3 with ⟨rfl, a4, a5⟩ | ⟨rfl, a6⟩
  · have _q : True := trivial
    refine jx_if_eq (pc_q := 9) (tg := 35) rfl rfl rfl (by decide) (by decide) (fun h7 => ?_) (fun h7 => ?_)
    · have _q := h7
      exact absurd h7 (by omega)
    · have _q := h7
      refine jx_ld (pc_q := 10) (l_q := [(0, .ref 66), (1, .int (i32 (p)))]) (st_q := [.ref 66]) rfl (jl_aloadn rfl) ?_
      refine jr_get (pc_q := 13) (i := 55) (v := .ref 103) rfl rfl (by decide) rfl rfl ?_
      refine jx_ld (pc_q := 14) (l_q := [(0, .ref 66), (1, .int (i32 (p)))]) (st_q := [.int (i32 (p)), .ref 103]) rfl (jl_iloadn rfl) ?_
      refine jx_ar (pc_q := 15) (st_q := [.int (i32 (0)), .int (i32 (p)), .ref 103]) rfl rfl rfl rfl ?_
      refine jx_ar (pc_q := 16) (st_q := [.int (i32 (5)), .int (i32 (0)), .int (i32 (p)), .ref 103]) rfl rfl rfl rfl ?_
      refine jx_st (pc_q := 19) (as := [.int (i32 (p)), .int (i32 (0)), .int (i32 (5))]) (st := [.ref 103]) rfl rfl ⟨rfl, Nat.le_of_ble_eq_true rfl⟩ rfl rfl rfl (c_in (dd := d) (hd := by omega) (v := p) (a := 0) (b := 5)   (h_v := ⟨(Int.le_trans (by decide : (-2147483648 : Int) ≤ -2147483648) h_p.1), (Int.le_trans h_p.2 (by decide : (2147483647 : Int) ≤ 2147483647))⟩) (h_a := ⟨(by decide), (by decide)⟩) (h_b := ⟨(by decide), (by decide)⟩)  ) (fun o V_q hq => ?_)
      obtain ⟨r8, rfl, rfl, b9, q10⟩ := hq
      refine .inr ⟨_, rfl, ?_⟩
      rcases q10 with ⟨rfl, a11, a12⟩ | ⟨rfl, a13⟩
      · have _q : True := trivial
        refine jx_if_eq (pc_q := 22) (tg := 26) rfl rfl rfl (by decide) (by decide) (fun h14 => ?_) (fun h14 => ?_)
        · have _q := h14
          exact absurd h14 (by omega)
        · have _q := h14
          refine jx_ld (pc_q := 23) (l_q := [(0, .ref 66), (1, .int (i32 (p)))]) (st_q := [.int (i32 (p)), .ref 103]) rfl (jl_iloadn rfl) ?_
          refine jx_go (tg := 27) rfl rfl ?_
          refine jr_ldv (pc_q := 28) (i := 36) (m := 6) (z := p) (y := bp) rfl (by decide) rfl (by decide) (by omega) (by omega) rfl (show A 36 (p).toNat = bp from (e_bp)) ?_
          refine jx_if_le (pc_q := 31) (tg := 35) rfl rfl rfl (Int.le_trans (by decide : (-2147483648 : Int) ≤ -2147483648) b_bp.1) (Int.le_trans b_bp.2 (by decide : (2147483647 : Int) ≤ 2147483647)) (fun h15 => ?_) (fun h15 => ?_)
          · have _q := h15
            refine jx_ar (pc_q := 36) (st_q := [.int (i32 (0))]) rfl rfl rfl rfl ?_
            refine jx_rt (v := some (.int (i32 (0)))) rfl rfl rfl rfl rfl (by first | rfl | exact jRet_b (by omega)) ?_
            exact ⟨_, rfl, rfl, by omega, by first | exact Or.inl (⟨by omega, by omega, by omega, by omega⟩) | exact Or.inr ((⟨by omega, by omega⟩))⟩
          · have _q := h15
            refine jx_ar (pc_q := 32) (st_q := [.int (i32 (1))]) rfl rfl rfl rfl ?_
            refine jx_go (tg := 36) rfl rfl ?_
            refine jx_rt (v := some (.int (i32 (1)))) rfl rfl rfl rfl rfl (by first | rfl | exact jRet_b (by omega)) ?_
            exact ⟨_, rfl, rfl, by omega, by first | exact Or.inl (⟨by omega, by omega, by omega, by omega⟩) | exact Or.inr ((⟨by omega, by omega⟩))⟩
      · have _q : True := trivial
        refine jx_if_eq (pc_q := 22) (tg := 26) rfl rfl rfl (by decide) (by decide) (fun h16 => ?_) (fun h16 => ?_)
        · have _q := h16
          refine jx_ar (pc_q := 27) (st_q := [.int (i32 (0)), .ref 103]) rfl rfl rfl rfl ?_
          have b17 : (-2147483648 : Int) ≤ A 36 ((0 : Int)).toNat ∧ A 36 ((0 : Int)).toNat ≤ 2147483647 := hW.2 36 _
          refine jr_ldv (pc_q := 28) (i := 36) (m := 6) (z := (0 : Int)) (y := A 36 ((0 : Int)).toNat) rfl (by decide) rfl (by decide) (by omega) (by omega) rfl (show A 36 ((0 : Int)).toNat = A 36 ((0 : Int)).toNat from rfl) ?_
          refine jx_if_le (pc_q := 31) (tg := 35) rfl rfl rfl (Int.le_trans (by decide : (-2147483648 : Int) ≤ -2147483648) b17.1) (Int.le_trans b17.2 (by decide : (2147483647 : Int) ≤ 2147483647)) (fun h18 => ?_) (fun h18 => ?_)
          · have _q := h18
            refine jx_ar (pc_q := 36) (st_q := [.int (i32 (0))]) rfl rfl rfl rfl ?_
            refine jx_rt (v := some (.int (i32 (0)))) rfl rfl rfl rfl rfl (by first | rfl | exact jRet_b (by omega)) ?_
            exact ⟨_, rfl, rfl, by omega, by first | exact Or.inl (⟨by omega, by omega, by omega, by omega⟩) | exact Or.inr ((⟨by omega, by omega⟩))⟩
          · have _q := h18
            refine jx_ar (pc_q := 32) (st_q := [.int (i32 (1))]) rfl rfl rfl rfl ?_
            refine jx_go (tg := 36) rfl rfl ?_
            refine jx_rt (v := some (.int (i32 (1)))) rfl rfl rfl rfl rfl (by first | rfl | exact jRet_b (by omega)) ?_
            exact ⟨_, rfl, rfl, by omega, by first | exact Or.inl (⟨by omega, by omega, by omega, by omega⟩) | exact Or.inr ((⟨by omega, by omega⟩))⟩
        · have _q := h16
          exact absurd h16 (by omega)
  · have _q : True := trivial
    refine jx_if_eq (pc_q := 9) (tg := 35) rfl rfl rfl (by decide) (by decide) (fun h19 => ?_) (fun h19 => ?_)
    · have _q := h19
      refine jx_ar (pc_q := 36) (st_q := [.int (i32 (0))]) rfl rfl rfl rfl ?_
      refine jx_rt (v := some (.int (i32 (0)))) rfl rfl rfl rfl rfl (by first | rfl | exact jRet_b (by omega)) ?_
      exact ⟨_, rfl, rfl, by omega, by first | exact Or.inl (⟨by omega, by omega, by omega, by omega⟩) | exact Or.inr ((⟨by omega, by omega⟩))⟩
    · have _q := h19
      exact absurd h19 (by omega)
set_option maxRecDepth 20000 in
set_option maxHeartbeats 4000000 in
theorem c_oneBeat_at_14 {X : jX} {d : Nat} {c0 c1 : jC} {G : Nat → Int} {A : Nat → Nat → Int} {T : jH} {lk : Int} (hd : 7 ≤ d + 1) (hW : Wk G A) (e_lk : G 52 = lk) (p_0 : GZ (lk) A) : ∀ (m : Nat) (L : jL) (Gx : Nat → Int) (Ax : Nat → Nat → Int) (n l : Int), (lk - l).toNat = m → jGet L 0 = some (.ref 66) → jGet L 1 = some (.int (i32 n)) → jGet L 2 = some (.int (i32 l)) → Wk Gx Ax → Fr [120, 121] [59, 60, 61, 62, 63, 64, 65, 66, 70, 71, 72, 73, 74, 75, 76, 77, 80, 82, 83, 84, 85] G A Gx Ax → ((-2147483648 : Int) ≤ n ∧ n ≤ 2147483647) → ((-2147483648 : Int) ≤ l ∧ l ≤ 2147483647) → (0 ≤ l) → (l ≤ lk) → (0 ≤ n) → (n ≤ l) → (GZ (lk) Ax) → wj X d jm394 (14, L, [], rV c0 c1 Gx Ax T) (fun o V_q => ∃ (G_q : Nat → Int) (A_q : Nat → Nat → Int) (r : Int), V_q = rV c0 c1 G_q A_q T ∧ o = .inl (some (.int (i32 r))) ∧ Wk G_q A_q ∧ Fr [120, 121] [59, 60, 61, 62, 63, 64, 65, 66, 70, 71, 72, 73, 74, 75, 76, 77, 80, 82, 83, 84, 85] G A G_q A_q ∧ ((-2147483648 : Int) ≤ r ∧ r ≤ 2147483647) ∧ (0 ≤ r) ∧ (r ≤ 12) ∧ (GZ (lk) A_q) ∧ True) := by
  have hF0 : Fr [120, 121] [59, 60, 61, 62, 63, 64, 65, 66, 70, 71, 72, 73, 74, 75, 76, 77, 80, 82, 83, 84, 85] G A G A := Fr_rf
  have b_lk : (0 : Int) ≤ lk ∧ lk ≤ 12 := e_lk ▸ hW.1 52
  intro m
  induction m using Nat.strongRecOn with
  | ind m ih14 =>
    intro L Gx Ax n l hm gL_0 gL_1 gL_2 hWx hFx rx_n rx_l iv_0 iv_1 iv_2 iv_3 iv_4
    refine jx_ld (pc_q := 15) (l_q := L) (st_q := [.int (i32 (l))]) rfl (jl_iloadn gL_2) ?_
    refine jx_ld (pc_q := 16) (l_q := L) (st_q := [.ref 66, .int (i32 (l))]) rfl (jl_aloadn gL_0) ?_
    refine jr_get (pc_q := 19) (i := 52) (v := .int (i32 (lk))) rfl rfl (by decide) (rFv_eq (by decide) (show Gx 52 = lk from ((hFx.1 52 rfl).trans (e_lk)))) rfl ?_
    refine jx_icmp_ge (pc_q := 22) (tg := 44) rfl rfl rfl (Int.le_trans (by decide : (-2147483648 : Int) ≤ -2147483648) rx_l.1) (Int.le_trans rx_l.2 (by decide : (2147483647 : Int) ≤ 2147483647)) (Int.le_trans (by decide : (-2147483648 : Int) ≤ 0) b_lk.1) (Int.le_trans b_lk.2 (by decide : (12 : Int) ≤ 2147483647)) (fun h1 => ?_) (fun h1 => ?_)
    · have _q := h1
      refine jx_ld (pc_q := 45) (l_q := L) (st_q := [.int (i32 (n))]) rfl (jl_iloadn gL_1) ?_
      refine jx_rt (v := some (.int (i32 (n)))) rfl rfl rfl rfl rfl rfl ?_
      exact ⟨_, _, _, rfl, rfl, hWx, hFx, by omega, by omega, by omega, iv_4, trivial⟩
    · have _q := h1
      have hlk := (iv_4).2 l (by omega) (by omega); rw [hFx.2 34 rfl, hFx.2 35 rfl] at hlk
      refine jx_ld (pc_q := 23) (l_q := L) (st_q := [.ref 66]) rfl (jl_aloadn gL_0) ?_
      refine jx_ld (pc_q := 24) (l_q := L) (st_q := [.int (i32 (l)), .ref 66]) rfl (jl_iloadn gL_2) ?_
      have b2 : (-2147483648 : Int) ≤ A 34 (l).toNat ∧ A 34 (l).toNat ≤ 2147483647 := hW.2 34 _
      have b3 : (-2147483648 : Int) ≤ A 35 (l).toNat ∧ A 35 (l).toNat ≤ 2147483647 := hW.2 35 _
      refine jx_vr (pc_q := 27) (as := [.int (i32 (l))]) (st := []) rfl rfl rfl rfl ⟨rfl, rfl, Nat.le_of_ble_eq_true rfl⟩ rfl rfl (c_beatOf_g (dd := d) (hd := by omega) (hW := hWx) (l := l) (lk := lk) (e_lk := show Gx 52 = lk from ((hFx.1 52 rfl).trans (e_lk))) (fr := A 34 (l).toNat) (e_fr := show Ax 34 (l).toNat = A 34 (l).toNat from (congrFun (hFx.2 34 rfl) _)) (to1 := A 35 (l).toNat) (e_to1 := show Ax 35 (l).toNat = A 35 (l).toNat from (congrFun (hFx.2 35 rfl) _))  (h_l := ⟨(Int.le_trans (by decide : (-2147483648 : Int) ≤ -2147483648) rx_l.1), (Int.le_trans rx_l.2 (by decide : (2147483647 : Int) ≤ 2147483647))⟩)  (p_0 := by omega) (p_1 := by omega) (p_2 := by omega) (p_3 := by omega) (p_4 := by omega) (p_5 := by omega) (p_6 := iv_4)) (fun o V_q hq => ?_)
      obtain ⟨G4, A5, r6, rfl, rfl, hW7, hF8, b9, p10, -⟩ := hq
      have hF12 := Fr_tr hFx hF8 (Fr_sub (by decide)) (Fr_sub (by decide))
      refine .inr ⟨_, rfl, ?_⟩
      refine jx_if_eq (pc_q := 30) (tg := 36) rfl rfl rfl (Int.le_trans (by decide : (-2147483648 : Int) ≤ 0) b9.1) (Int.le_trans b9.2 (by decide : (1 : Int) ≤ 2147483647)) (fun h13 => ?_) (fun h13 => ?_)
      · have _q := h13
        refine jx_ld (pc_q := 37) (l_q := L) (st_q := [.int (i32 (n))]) rfl (jl_iloadn gL_1) ?_
        refine jx_ld (pc_q := 38) (l_q := jSto1 L 1 (.int (i32 (n)))) (st_q := []) rfl rfl ?_
        obtain ⟨L14, eL14⟩ : ∃ q, q = jSto1 L 1 (.int (i32 (n))) := ⟨_, rfl⟩
        rw [← eL14]
        have gL14_0 : jGet L14 0 = some (.ref 66) := eL14 ▸ jg_ne (by decide) gL_0 rfl
        have gL14_2 : jGet L14 2 = some (.int (i32 (l))) := eL14 ▸ jg_ne (by decide) gL_2 rfl
        have gL14_1 : jGet L14 1 = some (.int (i32 (n))) := eL14 ▸ jg_eq
        refine jx_inc (pc_q := 41) (l_q := jSto1 L14 2 (.int (i32 ((l + (1)))))) (x := l) rfl gL14_2 (by decide) rfl rfl ?_
        obtain ⟨L15, eL15⟩ : ∃ q, q = jSto1 L14 2 (.int (i32 ((l + (1))))) := ⟨_, rfl⟩
        rw [← eL15]
        have gL15_0 : jGet L15 0 = some (.ref 66) := eL15 ▸ jg_ne (by decide) gL14_0 rfl
        have gL15_1 : jGet L15 1 = some (.int (i32 (n))) := eL15 ▸ jg_ne (by decide) gL14_1 rfl
        have gL15_2 : jGet L15 2 = some (.int (i32 ((l + (1))))) := eL15 ▸ jg_eq
        refine jx_go (tg := 14) rfl rfl ?_
        exact ih14 _ (by omega) L15 G4 A5 (n) ((l + (1))) rfl gL15_0 gL15_1 gL15_2 hW7 hF12 (by omega) (by omega) (by omega) (by omega) (by omega) (by omega) (p10)
      · have _q := h13
        refine jx_ld (pc_q := 31) (l_q := L) (st_q := [.int (i32 (n))]) rfl (jl_iloadn gL_1) ?_
        refine jx_ar (pc_q := 32) (st_q := [.int (i32 (1)), .int (i32 (n))]) rfl rfl rfl rfl ?_
        refine jx_add (pc_q := 33) rfl rfl ?_
        refine jx_go (tg := 37) rfl rfl ?_
        refine jx_ld (pc_q := 38) (l_q := jSto1 L 1 (.int (i32 ((n + 1))))) (st_q := []) rfl rfl ?_
        obtain ⟨L16, eL16⟩ : ∃ q, q = jSto1 L 1 (.int (i32 ((n + 1)))) := ⟨_, rfl⟩
        rw [← eL16]
        have gL16_0 : jGet L16 0 = some (.ref 66) := eL16 ▸ jg_ne (by decide) gL_0 rfl
        have gL16_2 : jGet L16 2 = some (.int (i32 (l))) := eL16 ▸ jg_ne (by decide) gL_2 rfl
        have gL16_1 : jGet L16 1 = some (.int (i32 ((n + 1)))) := eL16 ▸ jg_eq
        refine jx_inc (pc_q := 41) (l_q := jSto1 L16 2 (.int (i32 ((l + (1)))))) (x := l) rfl gL16_2 (by decide) rfl rfl ?_
        obtain ⟨L17, eL17⟩ : ∃ q, q = jSto1 L16 2 (.int (i32 ((l + (1))))) := ⟨_, rfl⟩
        rw [← eL17]
        have gL17_0 : jGet L17 0 = some (.ref 66) := eL17 ▸ jg_ne (by decide) gL16_0 rfl
        have gL17_1 : jGet L17 1 = some (.int (i32 ((n + 1)))) := eL17 ▸ jg_ne (by decide) gL16_1 rfl
        have gL17_2 : jGet L17 2 = some (.int (i32 ((l + (1))))) := eL17 ▸ jg_eq
        refine jx_go (tg := 14) rfl rfl ?_
        exact ih14 _ (by omega) L17 G4 A5 ((n + 1)) ((l + (1))) rfl gL17_0 gL17_1 gL17_2 hW7 hF12 (by omega) (by omega) (by omega) (by omega) (by omega) (by omega) (p10)
set_option maxRecDepth 20000 in
set_option maxHeartbeats 4000000 in
theorem c_oneBeat {X : jX} {dd : Nat} {c0 c1 : jC} {G : Nat → Int} {A : Nat → Nat → Int} {T : jH} {lk : Int} (hd : 7 ≤ dd) (hW : Wk G A) (e_lk : G 52 = lk) (p_0 : GZ (lk) A) : wk X dd 394 [.ref 66] (rV c0 c1 G A T) (fun o V_q => ∃ (G_q : Nat → Int) (A_q : Nat → Nat → Int) (r : Int), V_q = rV c0 c1 G_q A_q T ∧ o = .inl (some (.int (i32 r))) ∧ Wk G_q A_q ∧ Fr [120, 121] [59, 60, 61, 62, 63, 64, 65, 66, 70, 71, 72, 73, 74, 75, 76, 77, 80, 82, 83, 84, 85] G A G_q A_q ∧ ((-2147483648 : Int) ≤ r ∧ r ≤ 2147483647) ∧ (0 ≤ r) ∧ (r ≤ 12) ∧ (GZ (lk) A_q) ∧ True) := by
  obtain ⟨d, rfl⟩ : ∃ d, dd = d + 1 := ⟨dd - 1, by omega⟩
  refine wk_of (e := jm394) rfl (Nat.le_of_ble_eq_true rfl) ?_
  show wj X d jm394 (0, [(0, .ref 66)], [], rV c0 c1 G A T) _
  have hF0 : Fr [120, 121] [59, 60, 61, 62, 63, 64, 65, 66, 70, 71, 72, 73, 74, 75, 76, 77, 80, 82, 83, 84, 85] G A G A := Fr_rf
  have b_lk : (0 : Int) ≤ lk ∧ lk ≤ 12 := e_lk ▸ hW.1 52
  refine jx_ld (pc_q := 1) (l_q := [(0, .ref 66)]) (st_q := [.ref 66]) rfl (jl_aloadn rfl) ?_
  refine jx_ar (pc_q := 2) (st_q := [.ref 66, .ref 66]) rfl rfl rfl rfl ?_
  have b18 : (-2147483648 : Int) ≤ G 120 ∧ G 120 ≤ 2147483647 := hW.1 120
  refine jr_get (pc_q := 5) (i := 120) (v := .int (i32 (G 120))) rfl rfl (by decide) rfl rfl ?_
  refine jx_ar (pc_q := 6) (st_q := [.int (i32 (1)), .int (i32 (G 120)), .ref 66]) rfl rfl rfl rfl ?_
  refine jx_add (pc_q := 7) rfl rfl ?_
  obtain ⟨v19, ev19⟩ : ∃ z, z = (i32 (G 120 + 1)).toInt := ⟨_, rfl⟩; have fv19 : i32 (G 120 + 1) = i32 v19 := (by rw [ev19]; exact (i32_of _).symm); rw [fv19]; have rv19 : (-2147483648 : Int) ≤ v19 ∧ v19 ≤ 2147483647 := ev19 ▸ i32_rg _
  refine jr_put (pc_q := 10) (i := 120) (z := v19) rfl rfl (by decide) rfl rfl rfl rfl rfl rfl ?_
  have hW20 : Wk (uG G 120 (v19)) A := Wk_g hW (show (-2147483648 : Int) ≤ v19 by omega) (show v19 ≤ (2147483647 : Int) by omega)
  have hF21 := Fr_g (z := v19) (i := 120) hF0 (by decide)
  refine jx_ar (pc_q := 11) (st_q := [.int (i32 (0))]) rfl rfl rfl rfl ?_
  refine jx_ld (pc_q := 12) (l_q := jSto1 [(0, .ref 66)] 1 (.int (i32 (0)))) (st_q := []) rfl rfl ?_
  obtain ⟨L22, eL22⟩ : ∃ q, q = jSto1 [(0, .ref 66)] 1 (.int (i32 (0))) := ⟨_, rfl⟩
  rw [← eL22]
  have gL22_0 : jGet L22 0 = some (.ref 66) := eL22 ▸ jg_ne (by decide) (rfl : jGet [(0, .ref 66)] 0 = some (.ref 66)) rfl
  have gL22_1 : jGet L22 1 = some (.int (i32 (0))) := eL22 ▸ jg_eq
  refine jx_ar (pc_q := 13) (st_q := [.int (i32 (0))]) rfl rfl rfl rfl ?_
  refine jx_ld (pc_q := 14) (l_q := jSto1 L22 2 (.int (i32 (0)))) (st_q := []) rfl rfl ?_
  obtain ⟨L23, eL23⟩ : ∃ q, q = jSto1 L22 2 (.int (i32 (0))) := ⟨_, rfl⟩
  rw [← eL23]
  have gL23_0 : jGet L23 0 = some (.ref 66) := eL23 ▸ jg_ne (by decide) gL22_0 rfl
  have gL23_1 : jGet L23 1 = some (.int (i32 (0))) := eL23 ▸ jg_ne (by decide) gL22_1 rfl
  have gL23_2 : jGet L23 2 = some (.int (i32 (0))) := eL23 ▸ jg_eq
  exact c_oneBeat_at_14 (X := X) (d := d) (c0 := c0) (c1 := c1) (G := G) (A := A) (T := T) (lk := lk) (hd := hd) (hW := hW) (e_lk := e_lk) (p_0 := p_0) _ L23 (uG G 120 (v19)) A (0) (0) rfl gL23_0 gL23_1 gL23_2 hW20 hF21 (by omega) (by omega) (by omega) (by omega) (by omega) (by omega) (p_0)
set_option maxRecDepth 20000 in
set_option maxHeartbeats 4000000 in
theorem c_find2_at_88 {X : jX} {d : Nat} {c0 c1 : jC} {G : Nat → Int} {A : Nat → Nat → Int} {T : jH} {lk : Int} (hd : 1 ≤ d + 1) (hW : Wk G A) (e_lk : G 52 = lk) : ∀ (m : Nat) (L : jL) (so l : Int), (lk - l).toNat = m → jGet L 0 = some (.ref 66) → jGet L 2 = some (.int (i32 so)) → jGet L 3 = some (.int (i32 l)) → ((-2147483648 : Int) ≤ so ∧ so ≤ 2147483647) → ((-2147483648 : Int) ≤ l ∧ l ≤ 2147483647) → (0 ≤ so) → (so ≤ 1) → (0 ≤ l) → (l ≤ lk) → wj X d jm395 (88, L, [], rV c0 c1 G A T) (fun o V_q => ∃ (r : Int), V_q = rV c0 c1 G A T ∧ o = .inl (some (.int (i32 r))) ∧ ((-2147483648 : Int) ≤ r ∧ r ≤ 2147483647) ∧ (0 ≤ r) ∧ (r ≤ 3) ∧ True) := by
  have b_lk : (0 : Int) ≤ lk ∧ lk ≤ 12 := e_lk ▸ hW.1 52
  intro m
  induction m using Nat.strongRecOn with
  | ind m ih88 =>
    intro L so l hm gL_0 gL_2 gL_3 rx_so rx_l iv_0 iv_1 iv_2 iv_3
    refine jx_ld (pc_q := 89) (l_q := L) (st_q := [.int (i32 (l))]) rfl (jl_iloadn gL_3) ?_
    refine jx_ld (pc_q := 90) (l_q := L) (st_q := [.ref 66, .int (i32 (l))]) rfl (jl_aloadn gL_0) ?_
    refine jr_get (pc_q := 93) (i := 52) (v := .int (i32 (lk))) rfl rfl (by decide) (rFv_eq (by decide) (show G 52 = lk from (e_lk))) rfl ?_
    refine jx_icmp_ge (pc_q := 96) (tg := 139) rfl rfl rfl (Int.le_trans (by decide : (-2147483648 : Int) ≤ -2147483648) rx_l.1) (Int.le_trans rx_l.2 (by decide : (2147483647 : Int) ≤ 2147483647)) (Int.le_trans (by decide : (-2147483648 : Int) ≤ 0) b_lk.1) (Int.le_trans b_lk.2 (by decide : (12 : Int) ≤ 2147483647)) (fun h1 => ?_) (fun h1 => ?_)
    · have _q := h1
      refine jx_ld (pc_q := 140) (l_q := L) (st_q := [.int (i32 (so))]) rfl (jl_iloadn gL_2) ?_
      refine jx_if_eq (pc_q := 143) (tg := 147) rfl rfl rfl (Int.le_trans (by decide : (-2147483648 : Int) ≤ -2147483648) rx_so.1) (Int.le_trans rx_so.2 (by decide : (2147483647 : Int) ≤ 2147483647)) (fun h2 => ?_) (fun h2 => ?_)
      · have _q := h2
        refine jx_ar (pc_q := 148) (st_q := [.int (i32 (2))]) rfl rfl rfl rfl ?_
        refine jx_rt (v := some (.int (i32 (2)))) rfl rfl rfl rfl rfl rfl ?_
        exact ⟨_, rfl, rfl, by omega, by omega, by omega, trivial⟩
      · have _q := h2
        refine jx_ar (pc_q := 144) (st_q := [.int (i32 (0))]) rfl rfl rfl rfl ?_
        refine jx_go (tg := 148) rfl rfl ?_
        refine jx_rt (v := some (.int (i32 (0)))) rfl rfl rfl rfl rfl rfl ?_
        exact ⟨_, rfl, rfl, by omega, by omega, by omega, trivial⟩
    · have _q := h1
      refine jx_ld (pc_q := 97) (l_q := L) (st_q := [.int (i32 (so))]) rfl (jl_iloadn gL_2) ?_
      refine jx_if_ne (pc_q := 100) (tg := 127) rfl rfl rfl (Int.le_trans (by decide : (-2147483648 : Int) ≤ -2147483648) rx_so.1) (Int.le_trans rx_so.2 (by decide : (2147483647 : Int) ≤ 2147483647)) (fun h3 => ?_) (fun h3 => ?_)
      · have _q := h3
        refine jx_ar (pc_q := 128) (st_q := [.int (i32 (1))]) rfl rfl rfl rfl ?_
        refine jx_go (tg := 132) rfl rfl ?_
        refine jx_ld (pc_q := 133) (l_q := jSto1 L 2 (.int (i32 (1)))) (st_q := []) rfl rfl ?_
        obtain ⟨L4, eL4⟩ : ∃ q, q = jSto1 L 2 (.int (i32 (1))) := ⟨_, rfl⟩
        rw [← eL4]
        have gL4_0 : jGet L4 0 = some (.ref 66) := eL4 ▸ jg_ne (by decide) gL_0 rfl
        have gL4_3 : jGet L4 3 = some (.int (i32 (l))) := eL4 ▸ jg_ne (by decide) gL_3 rfl
        have gL4_2 : jGet L4 2 = some (.int (i32 (1))) := eL4 ▸ jg_eq
        refine jx_inc (pc_q := 136) (l_q := jSto1 L4 3 (.int (i32 ((l + (1)))))) (x := l) rfl gL4_3 (by decide) rfl rfl ?_
        obtain ⟨L5, eL5⟩ : ∃ q, q = jSto1 L4 3 (.int (i32 ((l + (1))))) := ⟨_, rfl⟩
        rw [← eL5]
        have gL5_0 : jGet L5 0 = some (.ref 66) := eL5 ▸ jg_ne (by decide) gL4_0 rfl
        have gL5_2 : jGet L5 2 = some (.int (i32 (1))) := eL5 ▸ jg_ne (by decide) gL4_2 rfl
        have gL5_3 : jGet L5 3 = some (.int (i32 ((l + (1))))) := eL5 ▸ jg_eq
        refine jx_go (tg := 88) rfl rfl ?_
        exact ih88 _ (by omega) L5 (1) ((l + (1))) rfl gL5_0 gL5_2 gL5_3 (by omega) (by omega) (by omega) (by omega) (by omega) (by omega)
      · have _q := h3
        refine jx_ld (pc_q := 101) (l_q := L) (st_q := [.ref 66]) rfl (jl_aloadn gL_0) ?_
        refine jr_get (pc_q := 104) (i := 118) (v := .ref 151) rfl rfl (by decide) rfl rfl ?_
        refine jx_ld (pc_q := 105) (l_q := L) (st_q := [.int (i32 (l)), .ref 151]) rfl (jl_iloadn gL_3) ?_
        have b6 : (0 : Int) ≤ A 84 (l).toNat ∧ A 84 (l).toNat ≤ 1 := hW.2 84 _
        refine jr_lbv (pc_q := 106) (i := 84) (m := 12) (z := l) (y := A 84 (l).toNat) rfl (by decide) rfl (by decide) (by omega) (by omega) rfl (show A 84 (l).toNat = A 84 (l).toNat from rfl) ?_
        refine jx_if_ne (pc_q := 109) (tg := 127) rfl rfl rfl (Int.le_trans (by decide : (-2147483648 : Int) ≤ 0) b6.1) (Int.le_trans b6.2 (by decide : (1 : Int) ≤ 2147483647)) (fun h7 => ?_) (fun h7 => ?_)
        · have _q := h7
          refine jx_ar (pc_q := 128) (st_q := [.int (i32 (1))]) rfl rfl rfl rfl ?_
          refine jx_go (tg := 132) rfl rfl ?_
          refine jx_ld (pc_q := 133) (l_q := jSto1 L 2 (.int (i32 (1)))) (st_q := []) rfl rfl ?_
          obtain ⟨L8, eL8⟩ : ∃ q, q = jSto1 L 2 (.int (i32 (1))) := ⟨_, rfl⟩
          rw [← eL8]
          have gL8_0 : jGet L8 0 = some (.ref 66) := eL8 ▸ jg_ne (by decide) gL_0 rfl
          have gL8_3 : jGet L8 3 = some (.int (i32 (l))) := eL8 ▸ jg_ne (by decide) gL_3 rfl
          have gL8_2 : jGet L8 2 = some (.int (i32 (1))) := eL8 ▸ jg_eq
          refine jx_inc (pc_q := 136) (l_q := jSto1 L8 3 (.int (i32 ((l + (1)))))) (x := l) rfl gL8_3 (by decide) rfl rfl ?_
          obtain ⟨L9, eL9⟩ : ∃ q, q = jSto1 L8 3 (.int (i32 ((l + (1))))) := ⟨_, rfl⟩
          rw [← eL9]
          have gL9_0 : jGet L9 0 = some (.ref 66) := eL9 ▸ jg_ne (by decide) gL8_0 rfl
          have gL9_2 : jGet L9 2 = some (.int (i32 (1))) := eL9 ▸ jg_ne (by decide) gL8_2 rfl
          have gL9_3 : jGet L9 3 = some (.int (i32 ((l + (1))))) := eL9 ▸ jg_eq
          refine jx_go (tg := 88) rfl rfl ?_
          exact ih88 _ (by omega) L9 (1) ((l + (1))) rfl gL9_0 gL9_2 gL9_3 (by omega) (by omega) (by omega) (by omega) (by omega) (by omega)
        · have _q := h7
          refine jx_ld (pc_q := 110) (l_q := L) (st_q := [.ref 66]) rfl (jl_aloadn gL_0) ?_
          refine jr_get (pc_q := 113) (i := 114) (v := .ref 147) rfl rfl (by decide) rfl rfl ?_
          refine jx_ld (pc_q := 114) (l_q := L) (st_q := [.int (i32 (l)), .ref 147]) rfl (jl_iloadn gL_3) ?_
          have b10 : (0 : Int) ≤ A 80 (l).toNat ∧ A 80 (l).toNat ≤ 1 := hW.2 80 _
          refine jr_lbv (pc_q := 115) (i := 80) (m := 12) (z := l) (y := A 80 (l).toNat) rfl (by decide) rfl (by decide) (by omega) (by omega) rfl (show A 80 (l).toNat = A 80 (l).toNat from rfl) ?_
          refine jx_if_eq (pc_q := 118) (tg := 131) rfl rfl rfl (Int.le_trans (by decide : (-2147483648 : Int) ≤ 0) b10.1) (Int.le_trans b10.2 (by decide : (1 : Int) ≤ 2147483647)) (fun h11 => ?_) (fun h11 => ?_)
          · have _q := h11
            refine jx_ar (pc_q := 132) (st_q := [.int (i32 (0))]) rfl rfl rfl rfl ?_
            refine jx_ld (pc_q := 133) (l_q := jSto1 L 2 (.int (i32 (0)))) (st_q := []) rfl rfl ?_
            obtain ⟨L12, eL12⟩ : ∃ q, q = jSto1 L 2 (.int (i32 (0))) := ⟨_, rfl⟩
            rw [← eL12]
            have gL12_0 : jGet L12 0 = some (.ref 66) := eL12 ▸ jg_ne (by decide) gL_0 rfl
            have gL12_3 : jGet L12 3 = some (.int (i32 (l))) := eL12 ▸ jg_ne (by decide) gL_3 rfl
            have gL12_2 : jGet L12 2 = some (.int (i32 (0))) := eL12 ▸ jg_eq
            refine jx_inc (pc_q := 136) (l_q := jSto1 L12 3 (.int (i32 ((l + (1)))))) (x := l) rfl gL12_3 (by decide) rfl rfl ?_
            obtain ⟨L13, eL13⟩ : ∃ q, q = jSto1 L12 3 (.int (i32 ((l + (1))))) := ⟨_, rfl⟩
            rw [← eL13]
            have gL13_0 : jGet L13 0 = some (.ref 66) := eL13 ▸ jg_ne (by decide) gL12_0 rfl
            have gL13_2 : jGet L13 2 = some (.int (i32 (0))) := eL13 ▸ jg_ne (by decide) gL12_2 rfl
            have gL13_3 : jGet L13 3 = some (.int (i32 ((l + (1))))) := eL13 ▸ jg_eq
            refine jx_go (tg := 88) rfl rfl ?_
            exact ih88 _ (by omega) L13 (0) ((l + (1))) rfl gL13_0 gL13_2 gL13_3 (by omega) (by omega) (by omega) (by omega) (by omega) (by omega)
          · have _q := h11
            refine jx_ld (pc_q := 119) (l_q := L) (st_q := [.ref 66]) rfl (jl_aloadn gL_0) ?_
            refine jr_get (pc_q := 122) (i := 119) (v := .ref 152) rfl rfl (by decide) rfl rfl ?_
            refine jx_ld (pc_q := 123) (l_q := L) (st_q := [.int (i32 (l)), .ref 152]) rfl (jl_iloadn gL_3) ?_
            have b14 : (0 : Int) ≤ A 85 (l).toNat ∧ A 85 (l).toNat ≤ 1 := hW.2 85 _
            refine jr_lbv (pc_q := 124) (i := 85) (m := 12) (z := l) (y := A 85 (l).toNat) rfl (by decide) rfl (by decide) (by omega) (by omega) rfl (show A 85 (l).toNat = A 85 (l).toNat from rfl) ?_
            refine jx_if_eq (pc_q := 127) (tg := 131) rfl rfl rfl (Int.le_trans (by decide : (-2147483648 : Int) ≤ 0) b14.1) (Int.le_trans b14.2 (by decide : (1 : Int) ≤ 2147483647)) (fun h15 => ?_) (fun h15 => ?_)
            · have _q := h15
              refine jx_ar (pc_q := 132) (st_q := [.int (i32 (0))]) rfl rfl rfl rfl ?_
              refine jx_ld (pc_q := 133) (l_q := jSto1 L 2 (.int (i32 (0)))) (st_q := []) rfl rfl ?_
              obtain ⟨L16, eL16⟩ : ∃ q, q = jSto1 L 2 (.int (i32 (0))) := ⟨_, rfl⟩
              rw [← eL16]
              have gL16_0 : jGet L16 0 = some (.ref 66) := eL16 ▸ jg_ne (by decide) gL_0 rfl
              have gL16_3 : jGet L16 3 = some (.int (i32 (l))) := eL16 ▸ jg_ne (by decide) gL_3 rfl
              have gL16_2 : jGet L16 2 = some (.int (i32 (0))) := eL16 ▸ jg_eq
              refine jx_inc (pc_q := 136) (l_q := jSto1 L16 3 (.int (i32 ((l + (1)))))) (x := l) rfl gL16_3 (by decide) rfl rfl ?_
              obtain ⟨L17, eL17⟩ : ∃ q, q = jSto1 L16 3 (.int (i32 ((l + (1))))) := ⟨_, rfl⟩
              rw [← eL17]
              have gL17_0 : jGet L17 0 = some (.ref 66) := eL17 ▸ jg_ne (by decide) gL16_0 rfl
              have gL17_2 : jGet L17 2 = some (.int (i32 (0))) := eL17 ▸ jg_ne (by decide) gL16_2 rfl
              have gL17_3 : jGet L17 3 = some (.int (i32 ((l + (1))))) := eL17 ▸ jg_eq
              refine jx_go (tg := 88) rfl rfl ?_
              exact ih88 _ (by omega) L17 (0) ((l + (1))) rfl gL17_0 gL17_2 gL17_3 (by omega) (by omega) (by omega) (by omega) (by omega) (by omega)
            · have _q := h15
              refine jx_ar (pc_q := 128) (st_q := [.int (i32 (1))]) rfl rfl rfl rfl ?_
              refine jx_go (tg := 132) rfl rfl ?_
              refine jx_ld (pc_q := 133) (l_q := jSto1 L 2 (.int (i32 (1)))) (st_q := []) rfl rfl ?_
              obtain ⟨L18, eL18⟩ : ∃ q, q = jSto1 L 2 (.int (i32 (1))) := ⟨_, rfl⟩
              rw [← eL18]
              have gL18_0 : jGet L18 0 = some (.ref 66) := eL18 ▸ jg_ne (by decide) gL_0 rfl
              have gL18_3 : jGet L18 3 = some (.int (i32 (l))) := eL18 ▸ jg_ne (by decide) gL_3 rfl
              have gL18_2 : jGet L18 2 = some (.int (i32 (1))) := eL18 ▸ jg_eq
              refine jx_inc (pc_q := 136) (l_q := jSto1 L18 3 (.int (i32 ((l + (1)))))) (x := l) rfl gL18_3 (by decide) rfl rfl ?_
              obtain ⟨L19, eL19⟩ : ∃ q, q = jSto1 L18 3 (.int (i32 ((l + (1))))) := ⟨_, rfl⟩
              rw [← eL19]
              have gL19_0 : jGet L19 0 = some (.ref 66) := eL19 ▸ jg_ne (by decide) gL18_0 rfl
              have gL19_2 : jGet L19 2 = some (.int (i32 (1))) := eL19 ▸ jg_ne (by decide) gL18_2 rfl
              have gL19_3 : jGet L19 3 = some (.int (i32 ((l + (1))))) := eL19 ▸ jg_eq
              refine jx_go (tg := 88) rfl rfl ?_
              exact ih88 _ (by omega) L19 (1) ((l + (1))) rfl gL19_0 gL19_2 gL19_3 (by omega) (by omega) (by omega) (by omega) (by omega) (by omega)
set_option maxRecDepth 20000 in
set_option maxHeartbeats 4000000 in
theorem c_find2_at_6 {X : jX} {d : Nat} {c0 c1 : jC} {G : Nat → Int} {A : Nat → Nat → Int} {T : jH} {lk : Int} (hd : 1 ≤ d + 1) (hW : Wk G A) (e_lk : G 52 = lk) : ∀ (m : Nat) (L : jL) (al so p : Int), (6 - p).toNat = m → jGet L 0 = some (.ref 66) → jGet L 1 = some (.int (i32 al)) → jGet L 2 = some (.int (i32 so)) → jGet L 3 = some (.int (i32 p)) → ((-2147483648 : Int) ≤ al ∧ al ≤ 2147483647) → ((-2147483648 : Int) ≤ so ∧ so ≤ 2147483647) → ((-2147483648 : Int) ≤ p ∧ p ≤ 2147483647) → (0 ≤ al) → (al ≤ 1) → (0 ≤ so) → (so ≤ 1) → (0 ≤ p) → (p ≤ 6) → wj X d jm395 (6, L, [], rV c0 c1 G A T) (fun o V_q => ∃ (r : Int), V_q = rV c0 c1 G A T ∧ o = .inl (some (.int (i32 r))) ∧ ((-2147483648 : Int) ≤ r ∧ r ≤ 2147483647) ∧ (0 ≤ r) ∧ (r ≤ 3) ∧ True) := by
  have b_lk : (0 : Int) ≤ lk ∧ lk ≤ 12 := e_lk ▸ hW.1 52
  intro m
  induction m using Nat.strongRecOn with
  | ind m ih6 =>
    intro L al so p hm gL_0 gL_1 gL_2 gL_3 rx_al rx_so rx_p iv_0 iv_1 iv_2 iv_3 iv_4 iv_5
    refine jx_ld (pc_q := 7) (l_q := L) (st_q := [.int (i32 (p))]) rfl (jl_iloadn gL_3) ?_
    refine jx_ar (pc_q := 9) (st_q := [.int (i32 (6)), .int (i32 (p))]) rfl rfl rfl rfl ?_
    refine jx_icmp_ge (pc_q := 12) (tg := 80) rfl rfl rfl (Int.le_trans (by decide : (-2147483648 : Int) ≤ -2147483648) rx_p.1) (Int.le_trans rx_p.2 (by decide : (2147483647 : Int) ≤ 2147483647)) (by decide) (by decide) (fun h20 => ?_) (fun h20 => ?_)
    · have _q := h20
      refine jx_ld (pc_q := 81) (l_q := L) (st_q := [.int (i32 (al))]) rfl (jl_iloadn gL_1) ?_
      refine jx_if_eq (pc_q := 84) (tg := 86) rfl rfl rfl (Int.le_trans (by decide : (-2147483648 : Int) ≤ -2147483648) rx_al.1) (Int.le_trans rx_al.2 (by decide : (2147483647 : Int) ≤ 2147483647)) (fun h21 => ?_) (fun h21 => ?_)
      · have _q := h21
        refine jx_ar (pc_q := 87) (st_q := [.int (i32 (0))]) rfl rfl rfl rfl ?_
        refine jx_ld (pc_q := 88) (l_q := jSto1 L 3 (.int (i32 (0)))) (st_q := []) rfl rfl ?_
        obtain ⟨L22, eL22⟩ : ∃ q, q = jSto1 L 3 (.int (i32 (0))) := ⟨_, rfl⟩
        rw [← eL22]
        have gL22_0 : jGet L22 0 = some (.ref 66) := eL22 ▸ jg_ne (by decide) gL_0 rfl
        have gL22_1 : jGet L22 1 = some (.int (i32 (al))) := eL22 ▸ jg_ne (by decide) gL_1 rfl
        have gL22_2 : jGet L22 2 = some (.int (i32 (so))) := eL22 ▸ jg_ne (by decide) gL_2 rfl
        have gL22_3 : jGet L22 3 = some (.int (i32 (0))) := eL22 ▸ jg_eq
        exact c_find2_at_88 (X := X) (d := d) (c0 := c0) (c1 := c1) (G := G) (A := A) (T := T) (lk := lk) (hd := hd) (hW := hW) (e_lk := e_lk) _ L22 (so) (0) rfl gL22_0 gL22_2 gL22_3 (by omega) (by omega) (by omega) (by omega) (by omega) (by omega)
      · have _q := h21
        refine jx_ar (pc_q := 85) (st_q := [.int (i32 (1))]) rfl rfl rfl rfl ?_
        refine jx_rt (v := some (.int (i32 (1)))) rfl rfl rfl rfl rfl rfl ?_
        exact ⟨_, rfl, rfl, by omega, by omega, by omega, trivial⟩
    · have _q := h20
      refine jx_ld (pc_q := 13) (l_q := L) (st_q := [.ref 66]) rfl (jl_aloadn gL_0) ?_
      refine jr_get (pc_q := 16) (i := 55) (v := .ref 103) rfl rfl (by decide) rfl rfl ?_
      refine jx_ld (pc_q := 17) (l_q := L) (st_q := [.int (i32 (p)), .ref 103]) rfl (jl_iloadn gL_3) ?_
      have b23 : (-2147483648 : Int) ≤ A 36 (p).toNat ∧ A 36 (p).toNat ≤ 2147483647 := hW.2 36 _
      refine jr_ldv (pc_q := 18) (i := 36) (m := 6) (z := p) (y := A 36 (p).toNat) rfl (by decide) rfl (by decide) (by omega) (by omega) rfl (show A 36 (p).toNat = A 36 (p).toNat from rfl) ?_
      refine jx_if_ne (pc_q := 21) (tg := 24) rfl rfl rfl (Int.le_trans (by decide : (-2147483648 : Int) ≤ -2147483648) b23.1) (Int.le_trans b23.2 (by decide : (2147483647 : Int) ≤ 2147483647)) (fun h24 => ?_) (fun h24 => ?_)
      · have _q := h24
        refine jx_ld (pc_q := 25) (l_q := L) (st_q := [.ref 66]) rfl (jl_aloadn gL_0) ?_
        refine jr_get (pc_q := 28) (i := 98) (v := .ref 134) rfl rfl (by decide) rfl rfl ?_
        refine jx_ld (pc_q := 29) (l_q := L) (st_q := [.int (i32 (p)), .ref 134]) rfl (jl_iloadn gL_3) ?_
        have b25 : (0 : Int) ≤ A 67 (p).toNat ∧ A 67 (p).toNat ≤ 1 := hW.2 67 _
        refine jr_lbv (pc_q := 30) (i := 67) (m := 6) (z := p) (y := A 67 (p).toNat) rfl (by decide) rfl (by decide) (by omega) (by omega) rfl (show A 67 (p).toNat = A 67 (p).toNat from rfl) ?_
        refine jx_if_eq (pc_q := 33) (tg := 35) rfl rfl rfl (Int.le_trans (by decide : (-2147483648 : Int) ≤ 0) b25.1) (Int.le_trans b25.2 (by decide : (1 : Int) ≤ 2147483647)) (fun h26 => ?_) (fun h26 => ?_)
        · have _q := h26
          refine jx_ld (pc_q := 36) (l_q := L) (st_q := [.int (i32 (al))]) rfl (jl_iloadn gL_1) ?_
          refine jx_if_eq (pc_q := 39) (tg := 52) rfl rfl rfl (Int.le_trans (by decide : (-2147483648 : Int) ≤ -2147483648) rx_al.1) (Int.le_trans rx_al.2 (by decide : (2147483647 : Int) ≤ 2147483647)) (fun h27 => ?_) (fun h27 => ?_)
          · have _q := h27
            refine jx_ar (pc_q := 53) (st_q := [.int (i32 (0))]) rfl rfl rfl rfl ?_
            refine jx_ld (pc_q := 54) (l_q := jSto1 L 1 (.int (i32 (0)))) (st_q := []) rfl rfl ?_
            obtain ⟨L28, eL28⟩ : ∃ q, q = jSto1 L 1 (.int (i32 (0))) := ⟨_, rfl⟩
            rw [← eL28]
            have gL28_0 : jGet L28 0 = some (.ref 66) := eL28 ▸ jg_ne (by decide) gL_0 rfl
            have gL28_2 : jGet L28 2 = some (.int (i32 (so))) := eL28 ▸ jg_ne (by decide) gL_2 rfl
            have gL28_3 : jGet L28 3 = some (.int (i32 (p))) := eL28 ▸ jg_ne (by decide) gL_3 rfl
            have gL28_1 : jGet L28 1 = some (.int (i32 (0))) := eL28 ▸ jg_eq
            refine jx_ld (pc_q := 55) (l_q := L28) (st_q := [.int (i32 (so))]) rfl (jl_iloadn gL28_2) ?_
            refine jx_if_ne (pc_q := 58) (tg := 68) rfl rfl rfl (Int.le_trans (by decide : (-2147483648 : Int) ≤ -2147483648) rx_so.1) (Int.le_trans rx_so.2 (by decide : (2147483647 : Int) ≤ 2147483647)) (fun h29 => ?_) (fun h29 => ?_)
            · have _q := h29
              refine jx_ar (pc_q := 69) (st_q := [.int (i32 (1))]) rfl rfl rfl rfl ?_
              refine jx_go (tg := 73) rfl rfl ?_
              refine jx_ld (pc_q := 74) (l_q := jSto1 L28 2 (.int (i32 (1)))) (st_q := []) rfl rfl ?_
              obtain ⟨L30, eL30⟩ : ∃ q, q = jSto1 L28 2 (.int (i32 (1))) := ⟨_, rfl⟩
              rw [← eL30]
              have gL30_0 : jGet L30 0 = some (.ref 66) := eL30 ▸ jg_ne (by decide) gL28_0 rfl
              have gL30_3 : jGet L30 3 = some (.int (i32 (p))) := eL30 ▸ jg_ne (by decide) gL28_3 rfl
              have gL30_1 : jGet L30 1 = some (.int (i32 (0))) := eL30 ▸ jg_ne (by decide) gL28_1 rfl
              have gL30_2 : jGet L30 2 = some (.int (i32 (1))) := eL30 ▸ jg_eq
              refine jx_inc (pc_q := 77) (l_q := jSto1 L30 3 (.int (i32 ((p + (1)))))) (x := p) rfl gL30_3 (by decide) rfl rfl ?_
              obtain ⟨L31, eL31⟩ : ∃ q, q = jSto1 L30 3 (.int (i32 ((p + (1))))) := ⟨_, rfl⟩
              rw [← eL31]
              have gL31_0 : jGet L31 0 = some (.ref 66) := eL31 ▸ jg_ne (by decide) gL30_0 rfl
              have gL31_1 : jGet L31 1 = some (.int (i32 (0))) := eL31 ▸ jg_ne (by decide) gL30_1 rfl
              have gL31_2 : jGet L31 2 = some (.int (i32 (1))) := eL31 ▸ jg_ne (by decide) gL30_2 rfl
              have gL31_3 : jGet L31 3 = some (.int (i32 ((p + (1))))) := eL31 ▸ jg_eq
              refine jx_go (tg := 6) rfl rfl ?_
              exact ih6 _ (by omega) L31 (0) (1) ((p + (1))) rfl gL31_0 gL31_1 gL31_2 gL31_3 (by omega) (by omega) (by omega) (by omega) (by omega) (by omega) (by omega) (by omega) (by omega)
            · have _q := h29
              refine jx_ld (pc_q := 59) (l_q := L28) (st_q := [.ref 66]) rfl (jl_aloadn gL28_0) ?_
              refine jr_get (pc_q := 62) (i := 97) (v := .ref 133) rfl rfl (by decide) rfl rfl ?_
              refine jx_ld (pc_q := 63) (l_q := L28) (st_q := [.int (i32 (p)), .ref 133]) rfl (jl_iloadn gL28_3) ?_
              have b32 : (-2147483648 : Int) ≤ A 66 (p).toNat ∧ A 66 (p).toNat ≤ 2147483647 := hW.2 66 _
              refine jr_ldv (pc_q := 64) (i := 66) (m := 6) (z := p) (y := A 66 (p).toNat) rfl (by decide) rfl (by decide) (by omega) (by omega) rfl (show A 66 (p).toNat = A 66 (p).toNat from rfl) ?_
              refine jx_ar (pc_q := 65) (st_q := [.int (i32 (-1)), .int (i32 (A 66 (p).toNat))]) rfl rfl rfl rfl ?_
              refine jx_icmp_eq (pc_q := 68) (tg := 72) rfl rfl rfl (Int.le_trans (by decide : (-2147483648 : Int) ≤ -2147483648) b32.1) (Int.le_trans b32.2 (by decide : (2147483647 : Int) ≤ 2147483647)) (by decide) (by decide) (fun h33 => ?_) (fun h33 => ?_)
              · have _q := h33
                refine jx_ar (pc_q := 73) (st_q := [.int (i32 (0))]) rfl rfl rfl rfl ?_
                refine jx_ld (pc_q := 74) (l_q := jSto1 L28 2 (.int (i32 (0)))) (st_q := []) rfl rfl ?_
                obtain ⟨L34, eL34⟩ : ∃ q, q = jSto1 L28 2 (.int (i32 (0))) := ⟨_, rfl⟩
                rw [← eL34]
                have gL34_0 : jGet L34 0 = some (.ref 66) := eL34 ▸ jg_ne (by decide) gL28_0 rfl
                have gL34_3 : jGet L34 3 = some (.int (i32 (p))) := eL34 ▸ jg_ne (by decide) gL28_3 rfl
                have gL34_1 : jGet L34 1 = some (.int (i32 (0))) := eL34 ▸ jg_ne (by decide) gL28_1 rfl
                have gL34_2 : jGet L34 2 = some (.int (i32 (0))) := eL34 ▸ jg_eq
                refine jx_inc (pc_q := 77) (l_q := jSto1 L34 3 (.int (i32 ((p + (1)))))) (x := p) rfl gL34_3 (by decide) rfl rfl ?_
                obtain ⟨L35, eL35⟩ : ∃ q, q = jSto1 L34 3 (.int (i32 ((p + (1))))) := ⟨_, rfl⟩
                rw [← eL35]
                have gL35_0 : jGet L35 0 = some (.ref 66) := eL35 ▸ jg_ne (by decide) gL34_0 rfl
                have gL35_1 : jGet L35 1 = some (.int (i32 (0))) := eL35 ▸ jg_ne (by decide) gL34_1 rfl
                have gL35_2 : jGet L35 2 = some (.int (i32 (0))) := eL35 ▸ jg_ne (by decide) gL34_2 rfl
                have gL35_3 : jGet L35 3 = some (.int (i32 ((p + (1))))) := eL35 ▸ jg_eq
                refine jx_go (tg := 6) rfl rfl ?_
                exact ih6 _ (by omega) L35 (0) (0) ((p + (1))) rfl gL35_0 gL35_1 gL35_2 gL35_3 (by omega) (by omega) (by omega) (by omega) (by omega) (by omega) (by omega) (by omega) (by omega)
              · have _q := h33
                refine jx_ar (pc_q := 69) (st_q := [.int (i32 (1))]) rfl rfl rfl rfl ?_
                refine jx_go (tg := 73) rfl rfl ?_
                refine jx_ld (pc_q := 74) (l_q := jSto1 L28 2 (.int (i32 (1)))) (st_q := []) rfl rfl ?_
                obtain ⟨L36, eL36⟩ : ∃ q, q = jSto1 L28 2 (.int (i32 (1))) := ⟨_, rfl⟩
                rw [← eL36]
                have gL36_0 : jGet L36 0 = some (.ref 66) := eL36 ▸ jg_ne (by decide) gL28_0 rfl
                have gL36_3 : jGet L36 3 = some (.int (i32 (p))) := eL36 ▸ jg_ne (by decide) gL28_3 rfl
                have gL36_1 : jGet L36 1 = some (.int (i32 (0))) := eL36 ▸ jg_ne (by decide) gL28_1 rfl
                have gL36_2 : jGet L36 2 = some (.int (i32 (1))) := eL36 ▸ jg_eq
                refine jx_inc (pc_q := 77) (l_q := jSto1 L36 3 (.int (i32 ((p + (1)))))) (x := p) rfl gL36_3 (by decide) rfl rfl ?_
                obtain ⟨L37, eL37⟩ : ∃ q, q = jSto1 L36 3 (.int (i32 ((p + (1))))) := ⟨_, rfl⟩
                rw [← eL37]
                have gL37_0 : jGet L37 0 = some (.ref 66) := eL37 ▸ jg_ne (by decide) gL36_0 rfl
                have gL37_1 : jGet L37 1 = some (.int (i32 (0))) := eL37 ▸ jg_ne (by decide) gL36_1 rfl
                have gL37_2 : jGet L37 2 = some (.int (i32 (1))) := eL37 ▸ jg_ne (by decide) gL36_2 rfl
                have gL37_3 : jGet L37 3 = some (.int (i32 ((p + (1))))) := eL37 ▸ jg_eq
                refine jx_go (tg := 6) rfl rfl ?_
                exact ih6 _ (by omega) L37 (0) (1) ((p + (1))) rfl gL37_0 gL37_1 gL37_2 gL37_3 (by omega) (by omega) (by omega) (by omega) (by omega) (by omega) (by omega) (by omega) (by omega)
          · have _q := h27
            refine jx_ld (pc_q := 40) (l_q := L) (st_q := [.ref 66]) rfl (jl_aloadn gL_0) ?_
            refine jr_get (pc_q := 43) (i := 99) (v := .ref 135) rfl rfl (by decide) rfl rfl ?_
            refine jx_ld (pc_q := 44) (l_q := L) (st_q := [.int (i32 (p)), .ref 135]) rfl (jl_iloadn gL_3) ?_
            have b38 : (0 : Int) ≤ A 68 (p).toNat ∧ A 68 (p).toNat ≤ 1 := hW.2 68 _
            refine jr_lbv (pc_q := 45) (i := 68) (m := 6) (z := p) (y := A 68 (p).toNat) rfl (by decide) rfl (by decide) (by omega) (by omega) rfl (show A 68 (p).toNat = A 68 (p).toNat from rfl) ?_
            refine jx_if_eq (pc_q := 48) (tg := 52) rfl rfl rfl (Int.le_trans (by decide : (-2147483648 : Int) ≤ 0) b38.1) (Int.le_trans b38.2 (by decide : (1 : Int) ≤ 2147483647)) (fun h39 => ?_) (fun h39 => ?_)
            · have _q := h39
              refine jx_ar (pc_q := 53) (st_q := [.int (i32 (0))]) rfl rfl rfl rfl ?_
              refine jx_ld (pc_q := 54) (l_q := jSto1 L 1 (.int (i32 (0)))) (st_q := []) rfl rfl ?_
              obtain ⟨L40, eL40⟩ : ∃ q, q = jSto1 L 1 (.int (i32 (0))) := ⟨_, rfl⟩
              rw [← eL40]
              have gL40_0 : jGet L40 0 = some (.ref 66) := eL40 ▸ jg_ne (by decide) gL_0 rfl
              have gL40_2 : jGet L40 2 = some (.int (i32 (so))) := eL40 ▸ jg_ne (by decide) gL_2 rfl
              have gL40_3 : jGet L40 3 = some (.int (i32 (p))) := eL40 ▸ jg_ne (by decide) gL_3 rfl
              have gL40_1 : jGet L40 1 = some (.int (i32 (0))) := eL40 ▸ jg_eq
              refine jx_ld (pc_q := 55) (l_q := L40) (st_q := [.int (i32 (so))]) rfl (jl_iloadn gL40_2) ?_
              refine jx_if_ne (pc_q := 58) (tg := 68) rfl rfl rfl (Int.le_trans (by decide : (-2147483648 : Int) ≤ -2147483648) rx_so.1) (Int.le_trans rx_so.2 (by decide : (2147483647 : Int) ≤ 2147483647)) (fun h41 => ?_) (fun h41 => ?_)
              · have _q := h41
                refine jx_ar (pc_q := 69) (st_q := [.int (i32 (1))]) rfl rfl rfl rfl ?_
                refine jx_go (tg := 73) rfl rfl ?_
                refine jx_ld (pc_q := 74) (l_q := jSto1 L40 2 (.int (i32 (1)))) (st_q := []) rfl rfl ?_
                obtain ⟨L42, eL42⟩ : ∃ q, q = jSto1 L40 2 (.int (i32 (1))) := ⟨_, rfl⟩
                rw [← eL42]
                have gL42_0 : jGet L42 0 = some (.ref 66) := eL42 ▸ jg_ne (by decide) gL40_0 rfl
                have gL42_3 : jGet L42 3 = some (.int (i32 (p))) := eL42 ▸ jg_ne (by decide) gL40_3 rfl
                have gL42_1 : jGet L42 1 = some (.int (i32 (0))) := eL42 ▸ jg_ne (by decide) gL40_1 rfl
                have gL42_2 : jGet L42 2 = some (.int (i32 (1))) := eL42 ▸ jg_eq
                refine jx_inc (pc_q := 77) (l_q := jSto1 L42 3 (.int (i32 ((p + (1)))))) (x := p) rfl gL42_3 (by decide) rfl rfl ?_
                obtain ⟨L43, eL43⟩ : ∃ q, q = jSto1 L42 3 (.int (i32 ((p + (1))))) := ⟨_, rfl⟩
                rw [← eL43]
                have gL43_0 : jGet L43 0 = some (.ref 66) := eL43 ▸ jg_ne (by decide) gL42_0 rfl
                have gL43_1 : jGet L43 1 = some (.int (i32 (0))) := eL43 ▸ jg_ne (by decide) gL42_1 rfl
                have gL43_2 : jGet L43 2 = some (.int (i32 (1))) := eL43 ▸ jg_ne (by decide) gL42_2 rfl
                have gL43_3 : jGet L43 3 = some (.int (i32 ((p + (1))))) := eL43 ▸ jg_eq
                refine jx_go (tg := 6) rfl rfl ?_
                exact ih6 _ (by omega) L43 (0) (1) ((p + (1))) rfl gL43_0 gL43_1 gL43_2 gL43_3 (by omega) (by omega) (by omega) (by omega) (by omega) (by omega) (by omega) (by omega) (by omega)
              · have _q := h41
                refine jx_ld (pc_q := 59) (l_q := L40) (st_q := [.ref 66]) rfl (jl_aloadn gL40_0) ?_
                refine jr_get (pc_q := 62) (i := 97) (v := .ref 133) rfl rfl (by decide) rfl rfl ?_
                refine jx_ld (pc_q := 63) (l_q := L40) (st_q := [.int (i32 (p)), .ref 133]) rfl (jl_iloadn gL40_3) ?_
                have b44 : (-2147483648 : Int) ≤ A 66 (p).toNat ∧ A 66 (p).toNat ≤ 2147483647 := hW.2 66 _
                refine jr_ldv (pc_q := 64) (i := 66) (m := 6) (z := p) (y := A 66 (p).toNat) rfl (by decide) rfl (by decide) (by omega) (by omega) rfl (show A 66 (p).toNat = A 66 (p).toNat from rfl) ?_
                refine jx_ar (pc_q := 65) (st_q := [.int (i32 (-1)), .int (i32 (A 66 (p).toNat))]) rfl rfl rfl rfl ?_
                refine jx_icmp_eq (pc_q := 68) (tg := 72) rfl rfl rfl (Int.le_trans (by decide : (-2147483648 : Int) ≤ -2147483648) b44.1) (Int.le_trans b44.2 (by decide : (2147483647 : Int) ≤ 2147483647)) (by decide) (by decide) (fun h45 => ?_) (fun h45 => ?_)
                · have _q := h45
                  refine jx_ar (pc_q := 73) (st_q := [.int (i32 (0))]) rfl rfl rfl rfl ?_
                  refine jx_ld (pc_q := 74) (l_q := jSto1 L40 2 (.int (i32 (0)))) (st_q := []) rfl rfl ?_
                  obtain ⟨L46, eL46⟩ : ∃ q, q = jSto1 L40 2 (.int (i32 (0))) := ⟨_, rfl⟩
                  rw [← eL46]
                  have gL46_0 : jGet L46 0 = some (.ref 66) := eL46 ▸ jg_ne (by decide) gL40_0 rfl
                  have gL46_3 : jGet L46 3 = some (.int (i32 (p))) := eL46 ▸ jg_ne (by decide) gL40_3 rfl
                  have gL46_1 : jGet L46 1 = some (.int (i32 (0))) := eL46 ▸ jg_ne (by decide) gL40_1 rfl
                  have gL46_2 : jGet L46 2 = some (.int (i32 (0))) := eL46 ▸ jg_eq
                  refine jx_inc (pc_q := 77) (l_q := jSto1 L46 3 (.int (i32 ((p + (1)))))) (x := p) rfl gL46_3 (by decide) rfl rfl ?_
                  obtain ⟨L47, eL47⟩ : ∃ q, q = jSto1 L46 3 (.int (i32 ((p + (1))))) := ⟨_, rfl⟩
                  rw [← eL47]
                  have gL47_0 : jGet L47 0 = some (.ref 66) := eL47 ▸ jg_ne (by decide) gL46_0 rfl
                  have gL47_1 : jGet L47 1 = some (.int (i32 (0))) := eL47 ▸ jg_ne (by decide) gL46_1 rfl
                  have gL47_2 : jGet L47 2 = some (.int (i32 (0))) := eL47 ▸ jg_ne (by decide) gL46_2 rfl
                  have gL47_3 : jGet L47 3 = some (.int (i32 ((p + (1))))) := eL47 ▸ jg_eq
                  refine jx_go (tg := 6) rfl rfl ?_
                  exact ih6 _ (by omega) L47 (0) (0) ((p + (1))) rfl gL47_0 gL47_1 gL47_2 gL47_3 (by omega) (by omega) (by omega) (by omega) (by omega) (by omega) (by omega) (by omega) (by omega)
                · have _q := h45
                  refine jx_ar (pc_q := 69) (st_q := [.int (i32 (1))]) rfl rfl rfl rfl ?_
                  refine jx_go (tg := 73) rfl rfl ?_
                  refine jx_ld (pc_q := 74) (l_q := jSto1 L40 2 (.int (i32 (1)))) (st_q := []) rfl rfl ?_
                  obtain ⟨L48, eL48⟩ : ∃ q, q = jSto1 L40 2 (.int (i32 (1))) := ⟨_, rfl⟩
                  rw [← eL48]
                  have gL48_0 : jGet L48 0 = some (.ref 66) := eL48 ▸ jg_ne (by decide) gL40_0 rfl
                  have gL48_3 : jGet L48 3 = some (.int (i32 (p))) := eL48 ▸ jg_ne (by decide) gL40_3 rfl
                  have gL48_1 : jGet L48 1 = some (.int (i32 (0))) := eL48 ▸ jg_ne (by decide) gL40_1 rfl
                  have gL48_2 : jGet L48 2 = some (.int (i32 (1))) := eL48 ▸ jg_eq
                  refine jx_inc (pc_q := 77) (l_q := jSto1 L48 3 (.int (i32 ((p + (1)))))) (x := p) rfl gL48_3 (by decide) rfl rfl ?_
                  obtain ⟨L49, eL49⟩ : ∃ q, q = jSto1 L48 3 (.int (i32 ((p + (1))))) := ⟨_, rfl⟩
                  rw [← eL49]
                  have gL49_0 : jGet L49 0 = some (.ref 66) := eL49 ▸ jg_ne (by decide) gL48_0 rfl
                  have gL49_1 : jGet L49 1 = some (.int (i32 (0))) := eL49 ▸ jg_ne (by decide) gL48_1 rfl
                  have gL49_2 : jGet L49 2 = some (.int (i32 (1))) := eL49 ▸ jg_ne (by decide) gL48_2 rfl
                  have gL49_3 : jGet L49 3 = some (.int (i32 ((p + (1))))) := eL49 ▸ jg_eq
                  refine jx_go (tg := 6) rfl rfl ?_
                  exact ih6 _ (by omega) L49 (0) (1) ((p + (1))) rfl gL49_0 gL49_1 gL49_2 gL49_3 (by omega) (by omega) (by omega) (by omega) (by omega) (by omega) (by omega) (by omega) (by omega)
            · have _q := h39
              refine jx_ar (pc_q := 49) (st_q := [.int (i32 (1))]) rfl rfl rfl rfl ?_
              refine jx_go (tg := 53) rfl rfl ?_
              refine jx_ld (pc_q := 54) (l_q := jSto1 L 1 (.int (i32 (1)))) (st_q := []) rfl rfl ?_
              obtain ⟨L50, eL50⟩ : ∃ q, q = jSto1 L 1 (.int (i32 (1))) := ⟨_, rfl⟩
              rw [← eL50]
              have gL50_0 : jGet L50 0 = some (.ref 66) := eL50 ▸ jg_ne (by decide) gL_0 rfl
              have gL50_2 : jGet L50 2 = some (.int (i32 (so))) := eL50 ▸ jg_ne (by decide) gL_2 rfl
              have gL50_3 : jGet L50 3 = some (.int (i32 (p))) := eL50 ▸ jg_ne (by decide) gL_3 rfl
              have gL50_1 : jGet L50 1 = some (.int (i32 (1))) := eL50 ▸ jg_eq
              refine jx_ld (pc_q := 55) (l_q := L50) (st_q := [.int (i32 (so))]) rfl (jl_iloadn gL50_2) ?_
              refine jx_if_ne (pc_q := 58) (tg := 68) rfl rfl rfl (Int.le_trans (by decide : (-2147483648 : Int) ≤ -2147483648) rx_so.1) (Int.le_trans rx_so.2 (by decide : (2147483647 : Int) ≤ 2147483647)) (fun h51 => ?_) (fun h51 => ?_)
              · have _q := h51
                refine jx_ar (pc_q := 69) (st_q := [.int (i32 (1))]) rfl rfl rfl rfl ?_
                refine jx_go (tg := 73) rfl rfl ?_
                refine jx_ld (pc_q := 74) (l_q := jSto1 L50 2 (.int (i32 (1)))) (st_q := []) rfl rfl ?_
                obtain ⟨L52, eL52⟩ : ∃ q, q = jSto1 L50 2 (.int (i32 (1))) := ⟨_, rfl⟩
                rw [← eL52]
                have gL52_0 : jGet L52 0 = some (.ref 66) := eL52 ▸ jg_ne (by decide) gL50_0 rfl
                have gL52_3 : jGet L52 3 = some (.int (i32 (p))) := eL52 ▸ jg_ne (by decide) gL50_3 rfl
                have gL52_1 : jGet L52 1 = some (.int (i32 (1))) := eL52 ▸ jg_ne (by decide) gL50_1 rfl
                have gL52_2 : jGet L52 2 = some (.int (i32 (1))) := eL52 ▸ jg_eq
                refine jx_inc (pc_q := 77) (l_q := jSto1 L52 3 (.int (i32 ((p + (1)))))) (x := p) rfl gL52_3 (by decide) rfl rfl ?_
                obtain ⟨L53, eL53⟩ : ∃ q, q = jSto1 L52 3 (.int (i32 ((p + (1))))) := ⟨_, rfl⟩
                rw [← eL53]
                have gL53_0 : jGet L53 0 = some (.ref 66) := eL53 ▸ jg_ne (by decide) gL52_0 rfl
                have gL53_1 : jGet L53 1 = some (.int (i32 (1))) := eL53 ▸ jg_ne (by decide) gL52_1 rfl
                have gL53_2 : jGet L53 2 = some (.int (i32 (1))) := eL53 ▸ jg_ne (by decide) gL52_2 rfl
                have gL53_3 : jGet L53 3 = some (.int (i32 ((p + (1))))) := eL53 ▸ jg_eq
                refine jx_go (tg := 6) rfl rfl ?_
                exact ih6 _ (by omega) L53 (1) (1) ((p + (1))) rfl gL53_0 gL53_1 gL53_2 gL53_3 (by omega) (by omega) (by omega) (by omega) (by omega) (by omega) (by omega) (by omega) (by omega)
              · have _q := h51
                refine jx_ld (pc_q := 59) (l_q := L50) (st_q := [.ref 66]) rfl (jl_aloadn gL50_0) ?_
                refine jr_get (pc_q := 62) (i := 97) (v := .ref 133) rfl rfl (by decide) rfl rfl ?_
                refine jx_ld (pc_q := 63) (l_q := L50) (st_q := [.int (i32 (p)), .ref 133]) rfl (jl_iloadn gL50_3) ?_
                have b54 : (-2147483648 : Int) ≤ A 66 (p).toNat ∧ A 66 (p).toNat ≤ 2147483647 := hW.2 66 _
                refine jr_ldv (pc_q := 64) (i := 66) (m := 6) (z := p) (y := A 66 (p).toNat) rfl (by decide) rfl (by decide) (by omega) (by omega) rfl (show A 66 (p).toNat = A 66 (p).toNat from rfl) ?_
                refine jx_ar (pc_q := 65) (st_q := [.int (i32 (-1)), .int (i32 (A 66 (p).toNat))]) rfl rfl rfl rfl ?_
                refine jx_icmp_eq (pc_q := 68) (tg := 72) rfl rfl rfl (Int.le_trans (by decide : (-2147483648 : Int) ≤ -2147483648) b54.1) (Int.le_trans b54.2 (by decide : (2147483647 : Int) ≤ 2147483647)) (by decide) (by decide) (fun h55 => ?_) (fun h55 => ?_)
                · have _q := h55
                  refine jx_ar (pc_q := 73) (st_q := [.int (i32 (0))]) rfl rfl rfl rfl ?_
                  refine jx_ld (pc_q := 74) (l_q := jSto1 L50 2 (.int (i32 (0)))) (st_q := []) rfl rfl ?_
                  obtain ⟨L56, eL56⟩ : ∃ q, q = jSto1 L50 2 (.int (i32 (0))) := ⟨_, rfl⟩
                  rw [← eL56]
                  have gL56_0 : jGet L56 0 = some (.ref 66) := eL56 ▸ jg_ne (by decide) gL50_0 rfl
                  have gL56_3 : jGet L56 3 = some (.int (i32 (p))) := eL56 ▸ jg_ne (by decide) gL50_3 rfl
                  have gL56_1 : jGet L56 1 = some (.int (i32 (1))) := eL56 ▸ jg_ne (by decide) gL50_1 rfl
                  have gL56_2 : jGet L56 2 = some (.int (i32 (0))) := eL56 ▸ jg_eq
                  refine jx_inc (pc_q := 77) (l_q := jSto1 L56 3 (.int (i32 ((p + (1)))))) (x := p) rfl gL56_3 (by decide) rfl rfl ?_
                  obtain ⟨L57, eL57⟩ : ∃ q, q = jSto1 L56 3 (.int (i32 ((p + (1))))) := ⟨_, rfl⟩
                  rw [← eL57]
                  have gL57_0 : jGet L57 0 = some (.ref 66) := eL57 ▸ jg_ne (by decide) gL56_0 rfl
                  have gL57_1 : jGet L57 1 = some (.int (i32 (1))) := eL57 ▸ jg_ne (by decide) gL56_1 rfl
                  have gL57_2 : jGet L57 2 = some (.int (i32 (0))) := eL57 ▸ jg_ne (by decide) gL56_2 rfl
                  have gL57_3 : jGet L57 3 = some (.int (i32 ((p + (1))))) := eL57 ▸ jg_eq
                  refine jx_go (tg := 6) rfl rfl ?_
                  exact ih6 _ (by omega) L57 (1) (0) ((p + (1))) rfl gL57_0 gL57_1 gL57_2 gL57_3 (by omega) (by omega) (by omega) (by omega) (by omega) (by omega) (by omega) (by omega) (by omega)
                · have _q := h55
                  refine jx_ar (pc_q := 69) (st_q := [.int (i32 (1))]) rfl rfl rfl rfl ?_
                  refine jx_go (tg := 73) rfl rfl ?_
                  refine jx_ld (pc_q := 74) (l_q := jSto1 L50 2 (.int (i32 (1)))) (st_q := []) rfl rfl ?_
                  obtain ⟨L58, eL58⟩ : ∃ q, q = jSto1 L50 2 (.int (i32 (1))) := ⟨_, rfl⟩
                  rw [← eL58]
                  have gL58_0 : jGet L58 0 = some (.ref 66) := eL58 ▸ jg_ne (by decide) gL50_0 rfl
                  have gL58_3 : jGet L58 3 = some (.int (i32 (p))) := eL58 ▸ jg_ne (by decide) gL50_3 rfl
                  have gL58_1 : jGet L58 1 = some (.int (i32 (1))) := eL58 ▸ jg_ne (by decide) gL50_1 rfl
                  have gL58_2 : jGet L58 2 = some (.int (i32 (1))) := eL58 ▸ jg_eq
                  refine jx_inc (pc_q := 77) (l_q := jSto1 L58 3 (.int (i32 ((p + (1)))))) (x := p) rfl gL58_3 (by decide) rfl rfl ?_
                  obtain ⟨L59, eL59⟩ : ∃ q, q = jSto1 L58 3 (.int (i32 ((p + (1))))) := ⟨_, rfl⟩
                  rw [← eL59]
                  have gL59_0 : jGet L59 0 = some (.ref 66) := eL59 ▸ jg_ne (by decide) gL58_0 rfl
                  have gL59_1 : jGet L59 1 = some (.int (i32 (1))) := eL59 ▸ jg_ne (by decide) gL58_1 rfl
                  have gL59_2 : jGet L59 2 = some (.int (i32 (1))) := eL59 ▸ jg_ne (by decide) gL58_2 rfl
                  have gL59_3 : jGet L59 3 = some (.int (i32 ((p + (1))))) := eL59 ▸ jg_eq
                  refine jx_go (tg := 6) rfl rfl ?_
                  exact ih6 _ (by omega) L59 (1) (1) ((p + (1))) rfl gL59_0 gL59_1 gL59_2 gL59_3 (by omega) (by omega) (by omega) (by omega) (by omega) (by omega) (by omega) (by omega) (by omega)
        · have _q := h26
          refine jx_ar (pc_q := 34) (st_q := [.int (i32 (3))]) rfl rfl rfl rfl ?_
          refine jx_rt (v := some (.int (i32 (3)))) rfl rfl rfl rfl rfl rfl ?_
          exact ⟨_, rfl, rfl, by omega, by omega, by omega, trivial⟩
      · have _q := h24
        refine jx_go (tg := 74) rfl rfl ?_
        refine jx_inc (pc_q := 77) (l_q := jSto1 L 3 (.int (i32 ((p + (1)))))) (x := p) rfl gL_3 (by decide) rfl rfl ?_
        obtain ⟨L60, eL60⟩ : ∃ q, q = jSto1 L 3 (.int (i32 ((p + (1))))) := ⟨_, rfl⟩
        rw [← eL60]
        have gL60_0 : jGet L60 0 = some (.ref 66) := eL60 ▸ jg_ne (by decide) gL_0 rfl
        have gL60_1 : jGet L60 1 = some (.int (i32 (al))) := eL60 ▸ jg_ne (by decide) gL_1 rfl
        have gL60_2 : jGet L60 2 = some (.int (i32 (so))) := eL60 ▸ jg_ne (by decide) gL_2 rfl
        have gL60_3 : jGet L60 3 = some (.int (i32 ((p + (1))))) := eL60 ▸ jg_eq
        refine jx_go (tg := 6) rfl rfl ?_
        exact ih6 _ (by omega) L60 (al) (so) ((p + (1))) rfl gL60_0 gL60_1 gL60_2 gL60_3 (by omega) (by omega) (by omega) (by omega) (by omega) (by omega) (by omega) (by omega) (by omega)
set_option maxRecDepth 20000 in
set_option maxHeartbeats 4000000 in
theorem c_find2 {X : jX} {dd : Nat} {c0 c1 : jC} {G : Nat → Int} {A : Nat → Nat → Int} {T : jH} {lk : Int} (hd : 1 ≤ dd) (hW : Wk G A) (e_lk : G 52 = lk) : wk X dd 395 [.ref 66] (rV c0 c1 G A T) (fun o V_q => ∃ (r : Int), V_q = rV c0 c1 G A T ∧ o = .inl (some (.int (i32 r))) ∧ ((-2147483648 : Int) ≤ r ∧ r ≤ 2147483647) ∧ (0 ≤ r) ∧ (r ≤ 3) ∧ True) := by
  obtain ⟨d, rfl⟩ : ∃ d, dd = d + 1 := ⟨dd - 1, by omega⟩
  refine wk_of (e := jm395) rfl (Nat.le_of_ble_eq_true rfl) ?_
  show wj X d jm395 (0, [(0, .ref 66)], [], rV c0 c1 G A T) _
  have b_lk : (0 : Int) ≤ lk ∧ lk ≤ 12 := e_lk ▸ hW.1 52
  refine jx_ar (pc_q := 1) (st_q := [.int (i32 (1))]) rfl rfl rfl rfl ?_
  refine jx_ld (pc_q := 2) (l_q := jSto1 [(0, .ref 66)] 1 (.int (i32 (1)))) (st_q := []) rfl rfl ?_
  obtain ⟨L61, eL61⟩ : ∃ q, q = jSto1 [(0, .ref 66)] 1 (.int (i32 (1))) := ⟨_, rfl⟩
  rw [← eL61]
  have gL61_0 : jGet L61 0 = some (.ref 66) := eL61 ▸ jg_ne (by decide) (rfl : jGet [(0, .ref 66)] 0 = some (.ref 66)) rfl
  have gL61_1 : jGet L61 1 = some (.int (i32 (1))) := eL61 ▸ jg_eq
  refine jx_ar (pc_q := 3) (st_q := [.int (i32 (0))]) rfl rfl rfl rfl ?_
  refine jx_ld (pc_q := 4) (l_q := jSto1 L61 2 (.int (i32 (0)))) (st_q := []) rfl rfl ?_
  obtain ⟨L62, eL62⟩ : ∃ q, q = jSto1 L61 2 (.int (i32 (0))) := ⟨_, rfl⟩
  rw [← eL62]
  have gL62_0 : jGet L62 0 = some (.ref 66) := eL62 ▸ jg_ne (by decide) gL61_0 rfl
  have gL62_1 : jGet L62 1 = some (.int (i32 (1))) := eL62 ▸ jg_ne (by decide) gL61_1 rfl
  have gL62_2 : jGet L62 2 = some (.int (i32 (0))) := eL62 ▸ jg_eq
  refine jx_ar (pc_q := 5) (st_q := [.int (i32 (0))]) rfl rfl rfl rfl ?_
  refine jx_ld (pc_q := 6) (l_q := jSto1 L62 3 (.int (i32 (0)))) (st_q := []) rfl rfl ?_
  obtain ⟨L63, eL63⟩ : ∃ q, q = jSto1 L62 3 (.int (i32 (0))) := ⟨_, rfl⟩
  rw [← eL63]
  have gL63_0 : jGet L63 0 = some (.ref 66) := eL63 ▸ jg_ne (by decide) gL62_0 rfl
  have gL63_1 : jGet L63 1 = some (.int (i32 (1))) := eL63 ▸ jg_ne (by decide) gL62_1 rfl
  have gL63_2 : jGet L63 2 = some (.int (i32 (0))) := eL63 ▸ jg_ne (by decide) gL62_2 rfl
  have gL63_3 : jGet L63 3 = some (.int (i32 (0))) := eL63 ▸ jg_eq
  exact c_find2_at_6 (X := X) (d := d) (c0 := c0) (c1 := c1) (G := G) (A := A) (T := T) (lk := lk) (hd := hd) (hW := hW) (e_lk := e_lk) _ L63 (1) (0) (0) rfl gL63_0 gL63_1 gL63_2 gL63_3 (by omega) (by omega) (by omega) (by omega) (by omega) (by omega) (by omega) (by omega) (by omega)
set_option maxRecDepth 20000 in
set_option maxHeartbeats 4000000 in
theorem c_run_at_74 {X : jX} {d : Nat} {c0 c1 : jC} {G : Nat → Int} {A : Nat → Nat → Int} {T : jH} {p n : Int} {pg lk it im om bp : Int} (hd : 10 ≤ d + 1) (hW : Wk G A) (e_pg : G 58 = pg) (e_lk : G 52 = lk) (e_it : G 111 = it) (e_im : G 110 = im) (e_om : G 113 = om) (e_bp : A 36 (p).toNat = bp) (h_p : (-2147483648 : Int) ≤ p ∧ p ≤ 2147483647) (h_n : (-2147483648 : Int) ≤ n ∧ n ≤ 2147483647) (p_0 : 0 ≤ it) (p_1 : it ≤ im) (p_2 : im ≤ 200) (p_3 : 0 ≤ om) (p_4 : om ≤ 1900000000) (p_5 : (pg) = 1 → GZ (lk) A) : ∀ (m : Nat) (L : jL) (Gx : Nat → Int) (Ax : Nat → Nat → Int) (k om1 it1 : Int), (n - k).toNat = m → jGet L 0 = some (.ref 66) → jGet L 1 = some (.int (i32 (p))) → jGet L 2 = some (.int (i32 (n))) → jGet L 3 = some (.int (i32 k)) → Wk Gx Ax → Fr [0, 111, 113] [59, 60, 61, 62, 63, 64, 65, 66, 67, 68, 69, 70, 71, 72, 73, 74, 75, 76, 77, 79, 80, 81, 82, 83, 84, 85] G A Gx Ax → Gx 113 = om1 → Gx 111 = it1 → ((-2147483648 : Int) ≤ k ∧ k ≤ 2147483647) → (0 ≤ p) → (p ≤ 5) → (0 ≤ k) → (k ≤ n) → (n ≤ 5000) → (om1 ≤ om + k) → (pg = 1) → (om ≤ om1) → (0 ≤ it1) → (it ≤ it1) → (it1 ≤ im) → (GZ (lk) Ax) → wj X d jm399 (74, L, [], rV c0 c1 Gx Ax T) (fun o V_q => ∃ (G_q : Nat → Int) (A_q : Nat → Nat → Int) (r : Int) (om2 : Int) (it2 : Int), V_q = rV c0 c1 G_q A_q T ∧ o = .inl (some (.int (i32 r))) ∧ Wk G_q A_q ∧ Fr [0, 111, 113] [59, 60, 61, 62, 63, 64, 65, 66, 67, 68, 69, 70, 71, 72, 73, 74, 75, 76, 77, 79, 80, 81, 82, 83, 84, 85] G A G_q A_q ∧ ((-2147483648 : Int) ≤ r ∧ r ≤ 2147483647) ∧ G_q 113 = om2 ∧ G_q 111 = it2 ∧ (om ≤ om2) ∧ (om2 ≤ om + 30000) ∧ (it ≤ it2) ∧ (it2 ≤ im) ∧ ((pg) = 1 → GZ (lk) A_q) ∧ True) := by
  have hF0 : Fr [0, 111, 113] [59, 60, 61, 62, 63, 64, 65, 66, 67, 68, 69, 70, 71, 72, 73, 74, 75, 76, 77, 79, 80, 81, 82, 83, 84, 85] G A G A := Fr_rf
  have b_pg : (0 : Int) ≤ pg ∧ pg ≤ 1 := e_pg ▸ hW.1 58
  have b_lk : (0 : Int) ≤ lk ∧ lk ≤ 12 := e_lk ▸ hW.1 52
  have b_it : (-2147483648 : Int) ≤ it ∧ it ≤ 2147483647 := e_it ▸ hW.1 111
  have b_im : (-2147483648 : Int) ≤ im ∧ im ≤ 2147483647 := e_im ▸ hW.1 110
  have b_om : (-2147483648 : Int) ≤ om ∧ om ≤ 2147483647 := e_om ▸ hW.1 113
  have b_bp : (-2147483648 : Int) ≤ bp ∧ bp ≤ 2147483647 := e_bp ▸ hW.2 36 _
  intro m
  induction m using Nat.strongRecOn with
  | ind m ih74 =>
    intro L Gx Ax k om1 it1 hm gL_0 gL_1 gL_2 gL_3 hWx hFx ex_om1 ex_it1 rx_k iv_0 iv_1 iv_2 iv_3 iv_4 iv_5 iv_6 iv_7 iv_8 iv_9 iv_10 iv_11
    have b_om1 : (-2147483648 : Int) ≤ om1 ∧ om1 ≤ 2147483647 := ex_om1 ▸ hWx.1 113
    have b_it1 : (-2147483648 : Int) ≤ it1 ∧ it1 ≤ 2147483647 := ex_it1 ▸ hWx.1 111
    refine jx_ld (pc_q := 75) (l_q := L) (st_q := [.int (i32 (k))]) rfl (jl_iloadn gL_3) ?_
    refine jx_ld (pc_q := 76) (l_q := L) (st_q := [.int (i32 (n)), .int (i32 (k))]) rfl (jl_iloadn gL_2) ?_
    refine jx_icmp_ge (pc_q := 79) (tg := 93) rfl rfl rfl (Int.le_trans (by decide : (-2147483648 : Int) ≤ -2147483648) rx_k.1) (Int.le_trans rx_k.2 (by decide : (2147483647 : Int) ≤ 2147483647)) (Int.le_trans (by decide : (-2147483648 : Int) ≤ -2147483648) h_n.1) (Int.le_trans h_n.2 (by decide : (2147483647 : Int) ≤ 2147483647)) (fun h1 => ?_) (fun h1 => ?_)
    · have _q := h1
      refine jx_ld (pc_q := 94) (l_q := L) (st_q := [.int (i32 (k))]) rfl (jl_iloadn gL_3) ?_
      refine jx_rt (v := some (.int (i32 (k)))) rfl rfl rfl rfl rfl rfl ?_
      exact ⟨_, _, _, om1, it1, rfl, rfl, hWx, hFx, by omega, (ex_om1), (ex_it1), by omega, by omega, by omega, by omega, (fun _ => iv_11), trivial⟩
    · have _q := h1
      refine jx_ld (pc_q := 80) (l_q := L) (st_q := [.ref 66]) rfl (jl_aloadn gL_0) ?_
      refine jx_ld (pc_q := 81) (l_q := L) (st_q := [.int (i32 (p)), .ref 66]) rfl (jl_iloadn gL_1) ?_
      refine jx_vr (pc_q := 84) (as := [.int (i32 (p))]) (st := []) rfl rfl rfl rfl ⟨rfl, rfl, Nat.le_of_ble_eq_true rfl⟩ rfl rfl (c_oneByte_g (dd := d) (hd := by omega) (hW := hWx) (p := p) (lk := lk) (e_lk := show Gx 52 = lk from ((hFx.1 52 rfl).trans (e_lk))) (it := it1) (e_it := show Gx 111 = it1 from (ex_it1)) (im := im) (e_im := show Gx 110 = im from ((hFx.1 110 rfl).trans (e_im))) (om := om1) (e_om := show Gx 113 = om1 from (ex_om1))  (h_p := ⟨(Int.le_trans (by decide : (-2147483648 : Int) ≤ -2147483648) h_p.1), (Int.le_trans h_p.2 (by decide : (2147483647 : Int) ≤ 2147483647))⟩)  (p_0 := by omega) (p_1 := by omega) (p_2 := by omega) (p_3 := by omega) (p_4 := by omega) (p_5 := by omega) (p_6 := by omega) (p_7 := iv_11)) (fun o V_q hq => ?_)
      obtain ⟨G2, A3, r4, om2_5, it2_6, rfl, rfl, hW7, hF8, b9, e10, e11, p12, p13, p14, p15, p16, -⟩ := hq
      have hF18 := Fr_tr hFx hF8 (Fr_sub (by decide)) (Fr_sub (by decide))
      have bom2_5 : (-2147483648 : Int) ≤ om2_5 ∧ om2_5 ≤ 2147483647 := e10 ▸ hW7.1 113
      have bit2_6 : (-2147483648 : Int) ≤ it2_6 ∧ it2_6 ≤ 2147483647 := e11 ▸ hW7.1 111
      refine .inr ⟨_, rfl, ?_⟩
      refine jx_if_eq (pc_q := 87) (tg := 93) rfl rfl rfl (Int.le_trans (by decide : (-2147483648 : Int) ≤ 0) b9.1) (Int.le_trans b9.2 (by decide : (1 : Int) ≤ 2147483647)) (fun h19 => ?_) (fun h19 => ?_)
      · have _q := h19
        refine jx_ld (pc_q := 94) (l_q := L) (st_q := [.int (i32 (k))]) rfl (jl_iloadn gL_3) ?_
        refine jx_rt (v := some (.int (i32 (k)))) rfl rfl rfl rfl rfl rfl ?_
        exact ⟨_, _, _, om2_5, it2_6, rfl, rfl, hW7, hF18, by omega, (e10), (e11), by omega, by omega, by omega, by omega, (fun _ => p16), trivial⟩
      · have _q := h19
        refine jx_inc (pc_q := 90) (l_q := jSto1 L 3 (.int (i32 ((k + (1)))))) (x := k) rfl gL_3 (by decide) rfl rfl ?_
        obtain ⟨L20, eL20⟩ : ∃ q, q = jSto1 L 3 (.int (i32 ((k + (1))))) := ⟨_, rfl⟩
        rw [← eL20]
        have gL20_0 : jGet L20 0 = some (.ref 66) := eL20 ▸ jg_ne (by decide) gL_0 rfl
        have gL20_1 : jGet L20 1 = some (.int (i32 (p))) := eL20 ▸ jg_ne (by decide) gL_1 rfl
        have gL20_2 : jGet L20 2 = some (.int (i32 (n))) := eL20 ▸ jg_ne (by decide) gL_2 rfl
        have gL20_3 : jGet L20 3 = some (.int (i32 ((k + (1))))) := eL20 ▸ jg_eq
        refine jx_go (tg := 74) rfl rfl ?_
        exact ih74 _ (by omega) L20 G2 A3 ((k + (1))) (om2_5) (it2_6) rfl gL20_0 gL20_1 gL20_2 gL20_3 hW7 hF18 ((e10)) ((e11)) (by omega) (by omega) (by omega) (by omega) (by omega) (by omega) (by omega) (by omega) (by omega) (by omega) (by omega) (by omega) (p16)
set_option maxRecDepth 20000 in
set_option maxHeartbeats 4000000 in
theorem c_run {X : jX} {dd : Nat} {c0 c1 : jC} {G : Nat → Int} {A : Nat → Nat → Int} {T : jH} {p n : Int} {pg lk it im om bp : Int} (hd : 10 ≤ dd) (hW : Wk G A) (e_pg : G 58 = pg) (e_lk : G 52 = lk) (e_it : G 111 = it) (e_im : G 110 = im) (e_om : G 113 = om) (e_bp : A 36 (p).toNat = bp) (h_p : (-2147483648 : Int) ≤ p ∧ p ≤ 2147483647) (h_n : (-2147483648 : Int) ≤ n ∧ n ≤ 2147483647) (p_0 : 0 ≤ it) (p_1 : it ≤ im) (p_2 : im ≤ 200) (p_3 : 0 ≤ om) (p_4 : om ≤ 1900000000) (p_5 : (pg) = 1 → GZ (lk) A) : wk X dd 399 [.ref 66, .int (i32 p), .int (i32 n)] (rV c0 c1 G A T) (fun o V_q => ∃ (G_q : Nat → Int) (A_q : Nat → Nat → Int) (r : Int) (om2 : Int) (it2 : Int), V_q = rV c0 c1 G_q A_q T ∧ o = .inl (some (.int (i32 r))) ∧ Wk G_q A_q ∧ Fr [0, 111, 113] [59, 60, 61, 62, 63, 64, 65, 66, 67, 68, 69, 70, 71, 72, 73, 74, 75, 76, 77, 79, 80, 81, 82, 83, 84, 85] G A G_q A_q ∧ ((-2147483648 : Int) ≤ r ∧ r ≤ 2147483647) ∧ G_q 113 = om2 ∧ G_q 111 = it2 ∧ (om ≤ om2) ∧ (om2 ≤ om + 30000) ∧ (it ≤ it2) ∧ (it2 ≤ im) ∧ ((pg) = 1 → GZ (lk) A_q) ∧ True) := by
  obtain ⟨d, rfl⟩ : ∃ d, dd = d + 1 := ⟨dd - 1, by omega⟩
  refine wk_of (e := jm399) rfl (Nat.le_of_ble_eq_true rfl) ?_
  show wj X d jm399 (0, [(0, .ref 66), (1, .int (i32 (p))), (2, .int (i32 (n)))], [], rV c0 c1 G A T) _
  have hF0 : Fr [0, 111, 113] [59, 60, 61, 62, 63, 64, 65, 66, 67, 68, 69, 70, 71, 72, 73, 74, 75, 76, 77, 79, 80, 81, 82, 83, 84, 85] G A G A := Fr_rf
  have b_pg : (0 : Int) ≤ pg ∧ pg ≤ 1 := e_pg ▸ hW.1 58
  have b_lk : (0 : Int) ≤ lk ∧ lk ≤ 12 := e_lk ▸ hW.1 52
  have b_it : (-2147483648 : Int) ≤ it ∧ it ≤ 2147483647 := e_it ▸ hW.1 111
  have b_im : (-2147483648 : Int) ≤ im ∧ im ≤ 2147483647 := e_im ▸ hW.1 110
  have b_om : (-2147483648 : Int) ≤ om ∧ om ≤ 2147483647 := e_om ▸ hW.1 113
  have b_bp : (-2147483648 : Int) ≤ bp ∧ bp ≤ 2147483647 := e_bp ▸ hW.2 36 _
  refine jx_ld (pc_q := 1) (l_q := [(0, .ref 66), (1, .int (i32 (p))), (2, .int (i32 (n)))]) (st_q := [.ref 66]) rfl (jl_aloadn rfl) ?_
  refine jx_ld (pc_q := 2) (l_q := [(0, .ref 66), (1, .int (i32 (p))), (2, .int (i32 (n)))]) (st_q := [.ref 66, .ref 66]) rfl (jl_aloadn rfl) ?_
  refine jr_get (pc_q := 5) (i := 58) (v := .int (i32 (pg))) rfl rfl (by decide) (rFv_eq (by decide) (show G 58 = pg from (e_pg))) rfl ?_
  refine jx_if_ne (pc_q := 8) (tg := 12) rfl rfl rfl (Int.le_trans (by decide : (-2147483648 : Int) ≤ 0) b_pg.1) (Int.le_trans b_pg.2 (by decide : (1 : Int) ≤ 2147483647)) (fun h21 => ?_) (fun h21 => ?_)
  · have _q := h21
    refine jx_ar (pc_q := 13) (st_q := [.int (i32 (0)), .ref 66]) rfl rfl rfl rfl ?_
    refine jx_ld (pc_q := 14) (l_q := [(0, .ref 66), (1, .int (i32 (p))), (2, .int (i32 (n)))]) (st_q := [.ref 66, .int (i32 (0)), .ref 66]) rfl (jl_aloadn rfl) ?_
    refine jr_get (pc_q := 17) (i := 58) (v := .int (i32 (pg))) rfl rfl (by decide) (rFv_eq (by decide) (show G 58 = pg from (e_pg))) rfl ?_
    refine jx_if_eq (pc_q := 20) (tg := 32) rfl rfl rfl (Int.le_trans (by decide : (-2147483648 : Int) ≤ 0) b_pg.1) (Int.le_trans b_pg.2 (by decide : (1 : Int) ≤ 2147483647)) (fun h22 => ?_) (fun h22 => ?_)
    · have _q := h22
      refine jx_ar (pc_q := 33) (st_q := [.int (i32 (0)), .int (i32 (0)), .ref 66]) rfl rfl rfl rfl ?_
      refine jx_ld (pc_q := 34) (l_q := [(0, .ref 66), (1, .int (i32 (p))), (2, .int (i32 (n)))]) (st_q := [.ref 66, .int (i32 (0)), .int (i32 (0)), .ref 66]) rfl (jl_aloadn rfl) ?_
      refine jr_get (pc_q := 37) (i := 58) (v := .int (i32 (pg))) rfl rfl (by decide) (rFv_eq (by decide) (show G 58 = pg from (e_pg))) rfl ?_
      refine jx_if_eq (pc_q := 40) (tg := 63) rfl rfl rfl (Int.le_trans (by decide : (-2147483648 : Int) ≤ 0) b_pg.1) (Int.le_trans b_pg.2 (by decide : (1 : Int) ≤ 2147483647)) (fun h23 => ?_) (fun h23 => ?_)
      · have _q := h23
        refine jx_ar (pc_q := 64) (st_q := [.int (i32 (0)), .int (i32 (0)), .int (i32 (0)), .ref 66]) rfl rfl rfl rfl ?_
        refine jx_vr (pc_q := 67) (as := [.int (i32 (0)), .int (i32 (0)), .int (i32 (0))]) (st := []) rfl rfl rfl rfl ⟨rfl, rfl, Nat.le_of_ble_eq_true rfl⟩ rfl rfl (c_refuse (dd := d) (hd := by omega) (hW := hW) (a := 0) (b := 0) (c := 0)   (h_a := ⟨(by decide), (by decide)⟩) (h_b := ⟨(by decide), (by decide)⟩) (h_c := ⟨(by decide), (by decide)⟩)  ) (fun o V_q hq => ?_)
        obtain ⟨G24, A25, r26, th2_27, rfl, rfl, hW28, hF29, b30, e31, q32⟩ := hq
        have hF33 := Fr_tr hF0 hF29 (Fr_sub (by decide)) (Fr_sub (by decide))
        have sf34 : (pg) = 1 → GZ (lk) A25 := (show A25 = A from funext (fun k => hF29.2 k rfl)) ▸ p_5
        have bth2_27 : (0 : Int) ≤ th2_27 ∧ th2_27 ≤ 4 := e31 ▸ hW28.1 0
        refine .inr ⟨_, rfl, ?_⟩
        rcases q32 with ⟨rfl, a35, a36⟩ | ⟨rfl, a37, a38, a39⟩ | ⟨rfl, a40, a41, a42, a43⟩ | ⟨rfl, a44, a45, a46, a47⟩
        · have _q : True := trivial
          exfalso
          omega
        · have _q : True := trivial
          exfalso
          omega
        · have _q : True := trivial
          exfalso
          omega
        · have _q : True := trivial
          refine jx_if_eq (pc_q := 70) (tg := 72) rfl rfl rfl (by decide) (by decide) (fun h48 => ?_) (fun h48 => ?_)
          · have _q := h48
            refine jx_ar (pc_q := 73) (st_q := [.int (i32 (0))]) rfl rfl rfl rfl ?_
            refine jx_ld (pc_q := 74) (l_q := jSto1 [(0, .ref 66), (1, .int (i32 (p))), (2, .int (i32 (n)))] 3 (.int (i32 (0)))) (st_q := []) rfl rfl ?_
            obtain ⟨L49, eL49⟩ : ∃ q, q = jSto1 [(0, .ref 66), (1, .int (i32 (p))), (2, .int (i32 (n)))] 3 (.int (i32 (0))) := ⟨_, rfl⟩
            rw [← eL49]
            have gL49_0 : jGet L49 0 = some (.ref 66) := eL49 ▸ jg_ne (by decide) (rfl : jGet [(0, .ref 66), (1, .int (i32 (p))), (2, .int (i32 (n)))] 0 = some (.ref 66)) rfl
            have gL49_1 : jGet L49 1 = some (.int (i32 (p))) := eL49 ▸ jg_ne (by decide) (rfl : jGet [(0, .ref 66), (1, .int (i32 (p))), (2, .int (i32 (n)))] 1 = some (.int (i32 (p)))) rfl
            have gL49_2 : jGet L49 2 = some (.int (i32 (n))) := eL49 ▸ jg_ne (by decide) (rfl : jGet [(0, .ref 66), (1, .int (i32 (p))), (2, .int (i32 (n)))] 2 = some (.int (i32 (n)))) rfl
            have gL49_3 : jGet L49 3 = some (.int (i32 (0))) := eL49 ▸ jg_eq
            exact c_run_at_74 (X := X) (d := d) (c0 := c0) (c1 := c1) (G := G) (A := A) (T := T) (p := p) (n := n) (pg := pg) (lk := lk) (it := it) (im := im) (om := om) (bp := bp) (hd := hd) (hW := hW) (e_pg := e_pg) (e_lk := e_lk) (e_it := e_it) (e_im := e_im) (e_om := e_om) (e_bp := e_bp) (h_p := h_p) (h_n := h_n) (p_0 := p_0) (p_1 := p_1) (p_2 := p_2) (p_3 := p_3) (p_4 := p_4) (p_5 := p_5) _ L49 G24 A25 (0) (om) (it) rfl gL49_0 gL49_1 gL49_2 gL49_3 hW28 hF33 (((hF29.1 113 rfl).trans (e_om))) (((hF29.1 111 rfl).trans (e_it))) (by omega) (by omega) (by omega) (by omega) (by omega) (by omega) (by omega) (by omega) (by omega) (by omega) (by omega) (by omega) ((sf34 (by omega)))
          · have _q := h48
            exact absurd h48 (by omega)
      · have _q := h23
        refine jx_ld (pc_q := 41) (l_q := [(0, .ref 66), (1, .int (i32 (p))), (2, .int (i32 (n)))]) (st_q := [.ref 66, .int (i32 (0)), .int (i32 (0)), .ref 66]) rfl (jl_aloadn rfl) ?_
        refine jx_ld (pc_q := 42) (l_q := [(0, .ref 66), (1, .int (i32 (p))), (2, .int (i32 (n)))]) (st_q := [.int (i32 (p)), .ref 66, .int (i32 (0)), .int (i32 (0)), .ref 66]) rfl (jl_iloadn rfl) ?_
        refine jx_vr (pc_q := 45) (as := [.int (i32 (p))]) (st := [.int (i32 (0)), .int (i32 (0)), .ref 66]) rfl rfl rfl rfl ⟨rfl, rfl, Nat.le_of_ble_eq_true rfl⟩ rfl rfl (c_isCore2 (dd := d) (hd := by omega) (hW := hW) (p := p) (bp := bp) (e_bp := show A 36 (p).toNat = bp from (e_bp))  (h_p := ⟨(Int.le_trans (by decide : (-2147483648 : Int) ≤ -2147483648) h_p.1), (Int.le_trans h_p.2 (by decide : (2147483647 : Int) ≤ 2147483647))⟩)  ) (fun o V_q hq => ?_)
        obtain ⟨r50, rfl, rfl, b51, q52⟩ := hq
        refine .inr ⟨_, rfl, ?_⟩
        rcases q52 with ⟨rfl, a53, a54, a55⟩ | ⟨rfl, a56⟩
        · have _q : True := trivial
          refine jx_if_eq (pc_q := 48) (tg := 63) rfl rfl rfl (by decide) (by decide) (fun h57 => ?_) (fun h57 => ?_)
          · have _q := h57
            exact absurd h57 (by omega)
          · have _q := h57
            refine jx_ld (pc_q := 49) (l_q := [(0, .ref 66), (1, .int (i32 (p))), (2, .int (i32 (n)))]) (st_q := [.int (i32 (n)), .int (i32 (0)), .int (i32 (0)), .ref 66]) rfl (jl_iloadn rfl) ?_
            refine jx_ar (pc_q := 50) (st_q := [.int (i32 (0)), .int (i32 (n)), .int (i32 (0)), .int (i32 (0)), .ref 66]) rfl rfl rfl rfl ?_
            refine jx_ar (pc_q := 53) (st_q := [.int (i32 (5000)), .int (i32 (0)), .int (i32 (n)), .int (i32 (0)), .int (i32 (0)), .ref 66]) rfl rfl rfl rfl ?_
            refine jx_st (pc_q := 56) (as := [.int (i32 (n)), .int (i32 (0)), .int (i32 (5000))]) (st := [.int (i32 (0)), .int (i32 (0)), .ref 66]) rfl rfl ⟨rfl, Nat.le_of_ble_eq_true rfl⟩ rfl rfl rfl (c_in (dd := d) (hd := by omega) (v := n) (a := 0) (b := 5000)   (h_v := ⟨(Int.le_trans (by decide : (-2147483648 : Int) ≤ -2147483648) h_n.1), (Int.le_trans h_n.2 (by decide : (2147483647 : Int) ≤ 2147483647))⟩) (h_a := ⟨(by decide), (by decide)⟩) (h_b := ⟨(by decide), (by decide)⟩)  ) (fun o V_q hq => ?_)
            obtain ⟨r58, rfl, rfl, b59, q60⟩ := hq
            refine .inr ⟨_, rfl, ?_⟩
            rcases q60 with ⟨rfl, a61, a62⟩ | ⟨rfl, a63⟩
            · have _q : True := trivial
              refine jx_if_ne (pc_q := 59) (tg := 63) rfl rfl rfl (by decide) (by decide) (fun h64 => ?_) (fun h64 => ?_)
              · have _q := h64
                refine jx_ar (pc_q := 64) (st_q := [.int (i32 (0)), .int (i32 (0)), .int (i32 (0)), .ref 66]) rfl rfl rfl rfl ?_
                refine jx_vr (pc_q := 67) (as := [.int (i32 (0)), .int (i32 (0)), .int (i32 (0))]) (st := []) rfl rfl rfl rfl ⟨rfl, rfl, Nat.le_of_ble_eq_true rfl⟩ rfl rfl (c_refuse (dd := d) (hd := by omega) (hW := hW) (a := 0) (b := 0) (c := 0)   (h_a := ⟨(by decide), (by decide)⟩) (h_b := ⟨(by decide), (by decide)⟩) (h_c := ⟨(by decide), (by decide)⟩)  ) (fun o V_q hq => ?_)
                obtain ⟨G65, A66, r67, th2_68, rfl, rfl, hW69, hF70, b71, e72, q73⟩ := hq
                have hF74 := Fr_tr hF0 hF70 (Fr_sub (by decide)) (Fr_sub (by decide))
                have sf75 : (pg) = 1 → GZ (lk) A66 := (show A66 = A from funext (fun k => hF70.2 k rfl)) ▸ p_5
                have bth2_68 : (0 : Int) ≤ th2_68 ∧ th2_68 ≤ 4 := e72 ▸ hW69.1 0
                refine .inr ⟨_, rfl, ?_⟩
                rcases q73 with ⟨rfl, a76, a77⟩ | ⟨rfl, a78, a79, a80⟩ | ⟨rfl, a81, a82, a83, a84⟩ | ⟨rfl, a85, a86, a87, a88⟩
                · have _q : True := trivial
                  exfalso
                  omega
                · have _q : True := trivial
                  exfalso
                  omega
                · have _q : True := trivial
                  exfalso
                  omega
                · have _q : True := trivial
                  refine jx_if_eq (pc_q := 70) (tg := 72) rfl rfl rfl (by decide) (by decide) (fun h89 => ?_) (fun h89 => ?_)
                  · have _q := h89
                    refine jx_ar (pc_q := 73) (st_q := [.int (i32 (0))]) rfl rfl rfl rfl ?_
                    refine jx_ld (pc_q := 74) (l_q := jSto1 [(0, .ref 66), (1, .int (i32 (p))), (2, .int (i32 (n)))] 3 (.int (i32 (0)))) (st_q := []) rfl rfl ?_
                    obtain ⟨L90, eL90⟩ : ∃ q, q = jSto1 [(0, .ref 66), (1, .int (i32 (p))), (2, .int (i32 (n)))] 3 (.int (i32 (0))) := ⟨_, rfl⟩
                    rw [← eL90]
                    have gL90_0 : jGet L90 0 = some (.ref 66) := eL90 ▸ jg_ne (by decide) (rfl : jGet [(0, .ref 66), (1, .int (i32 (p))), (2, .int (i32 (n)))] 0 = some (.ref 66)) rfl
                    have gL90_1 : jGet L90 1 = some (.int (i32 (p))) := eL90 ▸ jg_ne (by decide) (rfl : jGet [(0, .ref 66), (1, .int (i32 (p))), (2, .int (i32 (n)))] 1 = some (.int (i32 (p)))) rfl
                    have gL90_2 : jGet L90 2 = some (.int (i32 (n))) := eL90 ▸ jg_ne (by decide) (rfl : jGet [(0, .ref 66), (1, .int (i32 (p))), (2, .int (i32 (n)))] 2 = some (.int (i32 (n)))) rfl
                    have gL90_3 : jGet L90 3 = some (.int (i32 (0))) := eL90 ▸ jg_eq
                    exact c_run_at_74 (X := X) (d := d) (c0 := c0) (c1 := c1) (G := G) (A := A) (T := T) (p := p) (n := n) (pg := pg) (lk := lk) (it := it) (im := im) (om := om) (bp := bp) (hd := hd) (hW := hW) (e_pg := e_pg) (e_lk := e_lk) (e_it := e_it) (e_im := e_im) (e_om := e_om) (e_bp := e_bp) (h_p := h_p) (h_n := h_n) (p_0 := p_0) (p_1 := p_1) (p_2 := p_2) (p_3 := p_3) (p_4 := p_4) (p_5 := p_5) _ L90 G65 A66 (0) (om) (it) rfl gL90_0 gL90_1 gL90_2 gL90_3 hW69 hF74 (((hF70.1 113 rfl).trans (e_om))) (((hF70.1 111 rfl).trans (e_it))) (by omega) (by omega) (by omega) (by omega) (by omega) (by omega) (by omega) (by omega) (by omega) (by omega) (by omega) (by omega) ((sf75 (by omega)))
                  · have _q := h89
                    exact absurd h89 (by omega)
              · have _q := h64
                exact absurd h64 (by omega)
            · have _q : True := trivial
              refine jx_if_ne (pc_q := 59) (tg := 63) rfl rfl rfl (by decide) (by decide) (fun h91 => ?_) (fun h91 => ?_)
              · have _q := h91
                exact absurd h91 (by omega)
              · have _q := h91
                refine jx_ar (pc_q := 60) (st_q := [.int (i32 (1)), .int (i32 (0)), .int (i32 (0)), .ref 66]) rfl rfl rfl rfl ?_
                refine jx_go (tg := 64) rfl rfl ?_
                refine jx_vr (pc_q := 67) (as := [.int (i32 (0)), .int (i32 (0)), .int (i32 (1))]) (st := []) rfl rfl rfl rfl ⟨rfl, rfl, Nat.le_of_ble_eq_true rfl⟩ rfl rfl (c_refuse (dd := d) (hd := by omega) (hW := hW) (a := 0) (b := 0) (c := 1)   (h_a := ⟨(by decide), (by decide)⟩) (h_b := ⟨(by decide), (by decide)⟩) (h_c := ⟨(by decide), (by decide)⟩)  ) (fun o V_q hq => ?_)
                obtain ⟨G92, A93, r94, th2_95, rfl, rfl, hW96, hF97, b98, e99, q100⟩ := hq
                have hF101 := Fr_tr hF0 hF97 (Fr_sub (by decide)) (Fr_sub (by decide))
                have sf102 : (pg) = 1 → GZ (lk) A93 := (show A93 = A from funext (fun k => hF97.2 k rfl)) ▸ p_5
                have bth2_95 : (0 : Int) ≤ th2_95 ∧ th2_95 ≤ 4 := e99 ▸ hW96.1 0
                refine .inr ⟨_, rfl, ?_⟩
                rcases q100 with ⟨rfl, a103, a104⟩ | ⟨rfl, a105, a106, a107⟩ | ⟨rfl, a108, a109, a110, a111⟩ | ⟨rfl, a112, a113, a114, a115⟩
                · have _q : True := trivial
                  exfalso
                  omega
                · have _q : True := trivial
                  exfalso
                  omega
                · have _q : True := trivial
                  refine jx_if_eq (pc_q := 70) (tg := 72) rfl rfl rfl (by decide) (by decide) (fun h116 => ?_) (fun h116 => ?_)
                  · have _q := h116
                    exact absurd h116 (by omega)
                  · have _q := h116
                    refine jx_ar (pc_q := 71) (st_q := [.int (i32 (0))]) rfl rfl rfl rfl ?_
                    refine jx_rt (v := some (.int (i32 (0)))) rfl rfl rfl rfl rfl rfl ?_
                    exact ⟨_, _, _, om, it, rfl, rfl, hW96, hF101, by omega, ((hF97.1 113 rfl).trans (e_om)), ((hF97.1 111 rfl).trans (e_it)), by omega, by omega, by omega, by omega, sf102, trivial⟩
                · have _q : True := trivial
                  exfalso
                  omega
        · have _q : True := trivial
          refine jx_if_eq (pc_q := 48) (tg := 63) rfl rfl rfl (by decide) (by decide) (fun h117 => ?_) (fun h117 => ?_)
          · have _q := h117
            refine jx_ar (pc_q := 64) (st_q := [.int (i32 (0)), .int (i32 (0)), .int (i32 (0)), .ref 66]) rfl rfl rfl rfl ?_
            refine jx_vr (pc_q := 67) (as := [.int (i32 (0)), .int (i32 (0)), .int (i32 (0))]) (st := []) rfl rfl rfl rfl ⟨rfl, rfl, Nat.le_of_ble_eq_true rfl⟩ rfl rfl (c_refuse (dd := d) (hd := by omega) (hW := hW) (a := 0) (b := 0) (c := 0)   (h_a := ⟨(by decide), (by decide)⟩) (h_b := ⟨(by decide), (by decide)⟩) (h_c := ⟨(by decide), (by decide)⟩)  ) (fun o V_q hq => ?_)
            obtain ⟨G118, A119, r120, th2_121, rfl, rfl, hW122, hF123, b124, e125, q126⟩ := hq
            have hF127 := Fr_tr hF0 hF123 (Fr_sub (by decide)) (Fr_sub (by decide))
            have sf128 : (pg) = 1 → GZ (lk) A119 := (show A119 = A from funext (fun k => hF123.2 k rfl)) ▸ p_5
            have bth2_121 : (0 : Int) ≤ th2_121 ∧ th2_121 ≤ 4 := e125 ▸ hW122.1 0
            refine .inr ⟨_, rfl, ?_⟩
            rcases q126 with ⟨rfl, a129, a130⟩ | ⟨rfl, a131, a132, a133⟩ | ⟨rfl, a134, a135, a136, a137⟩ | ⟨rfl, a138, a139, a140, a141⟩
            · have _q : True := trivial
              exfalso
              omega
            · have _q : True := trivial
              exfalso
              omega
            · have _q : True := trivial
              exfalso
              omega
            · have _q : True := trivial
              refine jx_if_eq (pc_q := 70) (tg := 72) rfl rfl rfl (by decide) (by decide) (fun h142 => ?_) (fun h142 => ?_)
              · have _q := h142
                refine jx_ar (pc_q := 73) (st_q := [.int (i32 (0))]) rfl rfl rfl rfl ?_
                refine jx_ld (pc_q := 74) (l_q := jSto1 [(0, .ref 66), (1, .int (i32 (p))), (2, .int (i32 (n)))] 3 (.int (i32 (0)))) (st_q := []) rfl rfl ?_
                obtain ⟨L143, eL143⟩ : ∃ q, q = jSto1 [(0, .ref 66), (1, .int (i32 (p))), (2, .int (i32 (n)))] 3 (.int (i32 (0))) := ⟨_, rfl⟩
                rw [← eL143]
                have gL143_0 : jGet L143 0 = some (.ref 66) := eL143 ▸ jg_ne (by decide) (rfl : jGet [(0, .ref 66), (1, .int (i32 (p))), (2, .int (i32 (n)))] 0 = some (.ref 66)) rfl
                have gL143_1 : jGet L143 1 = some (.int (i32 (p))) := eL143 ▸ jg_ne (by decide) (rfl : jGet [(0, .ref 66), (1, .int (i32 (p))), (2, .int (i32 (n)))] 1 = some (.int (i32 (p)))) rfl
                have gL143_2 : jGet L143 2 = some (.int (i32 (n))) := eL143 ▸ jg_ne (by decide) (rfl : jGet [(0, .ref 66), (1, .int (i32 (p))), (2, .int (i32 (n)))] 2 = some (.int (i32 (n)))) rfl
                have gL143_3 : jGet L143 3 = some (.int (i32 (0))) := eL143 ▸ jg_eq
                exact c_run_at_74 (X := X) (d := d) (c0 := c0) (c1 := c1) (G := G) (A := A) (T := T) (p := p) (n := n) (pg := pg) (lk := lk) (it := it) (im := im) (om := om) (bp := bp) (hd := hd) (hW := hW) (e_pg := e_pg) (e_lk := e_lk) (e_it := e_it) (e_im := e_im) (e_om := e_om) (e_bp := e_bp) (h_p := h_p) (h_n := h_n) (p_0 := p_0) (p_1 := p_1) (p_2 := p_2) (p_3 := p_3) (p_4 := p_4) (p_5 := p_5) _ L143 G118 A119 (0) (om) (it) rfl gL143_0 gL143_1 gL143_2 gL143_3 hW122 hF127 (((hF123.1 113 rfl).trans (e_om))) (((hF123.1 111 rfl).trans (e_it))) (by omega) (by omega) (by omega) (by omega) (by omega) (by omega) (by omega) (by omega) (by omega) (by omega) (by omega) (by omega) ((sf128 (by omega)))
              · have _q := h142
                exact absurd h142 (by omega)
          · have _q := h117
            exact absurd h117 (by omega)
    · have _q := h22
      refine jx_ld (pc_q := 21) (l_q := [(0, .ref 66), (1, .int (i32 (p))), (2, .int (i32 (n)))]) (st_q := [.ref 66, .int (i32 (0)), .ref 66]) rfl (jl_aloadn rfl) ?_
      refine jx_ld (pc_q := 22) (l_q := [(0, .ref 66), (1, .int (i32 (p))), (2, .int (i32 (n)))]) (st_q := [.int (i32 (p)), .ref 66, .int (i32 (0)), .ref 66]) rfl (jl_iloadn rfl) ?_
      refine jx_vr (pc_q := 25) (as := [.int (i32 (p))]) (st := [.int (i32 (0)), .ref 66]) rfl rfl rfl rfl ⟨rfl, rfl, Nat.le_of_ble_eq_true rfl⟩ rfl rfl (c_isCore2 (dd := d) (hd := by omega) (hW := hW) (p := p) (bp := bp) (e_bp := show A 36 (p).toNat = bp from (e_bp))  (h_p := ⟨(Int.le_trans (by decide : (-2147483648 : Int) ≤ -2147483648) h_p.1), (Int.le_trans h_p.2 (by decide : (2147483647 : Int) ≤ 2147483647))⟩)  ) (fun o V_q hq => ?_)
      obtain ⟨r144, rfl, rfl, b145, q146⟩ := hq
      refine .inr ⟨_, rfl, ?_⟩
      rcases q146 with ⟨rfl, a147, a148, a149⟩ | ⟨rfl, a150⟩
      · have _q : True := trivial
        refine jx_if_ne (pc_q := 28) (tg := 32) rfl rfl rfl (by decide) (by decide) (fun h151 => ?_) (fun h151 => ?_)
        · have _q := h151
          refine jx_ar (pc_q := 33) (st_q := [.int (i32 (0)), .int (i32 (0)), .ref 66]) rfl rfl rfl rfl ?_
          refine jx_ld (pc_q := 34) (l_q := [(0, .ref 66), (1, .int (i32 (p))), (2, .int (i32 (n)))]) (st_q := [.ref 66, .int (i32 (0)), .int (i32 (0)), .ref 66]) rfl (jl_aloadn rfl) ?_
          refine jr_get (pc_q := 37) (i := 58) (v := .int (i32 (pg))) rfl rfl (by decide) (rFv_eq (by decide) (show G 58 = pg from (e_pg))) rfl ?_
          refine jx_if_eq (pc_q := 40) (tg := 63) rfl rfl rfl (Int.le_trans (by decide : (-2147483648 : Int) ≤ 0) b_pg.1) (Int.le_trans b_pg.2 (by decide : (1 : Int) ≤ 2147483647)) (fun h152 => ?_) (fun h152 => ?_)
          · have _q := h152
            refine jx_ar (pc_q := 64) (st_q := [.int (i32 (0)), .int (i32 (0)), .int (i32 (0)), .ref 66]) rfl rfl rfl rfl ?_
            refine jx_vr (pc_q := 67) (as := [.int (i32 (0)), .int (i32 (0)), .int (i32 (0))]) (st := []) rfl rfl rfl rfl ⟨rfl, rfl, Nat.le_of_ble_eq_true rfl⟩ rfl rfl (c_refuse (dd := d) (hd := by omega) (hW := hW) (a := 0) (b := 0) (c := 0)   (h_a := ⟨(by decide), (by decide)⟩) (h_b := ⟨(by decide), (by decide)⟩) (h_c := ⟨(by decide), (by decide)⟩)  ) (fun o V_q hq => ?_)
            obtain ⟨G153, A154, r155, th2_156, rfl, rfl, hW157, hF158, b159, e160, q161⟩ := hq
            have hF162 := Fr_tr hF0 hF158 (Fr_sub (by decide)) (Fr_sub (by decide))
            have sf163 : (pg) = 1 → GZ (lk) A154 := (show A154 = A from funext (fun k => hF158.2 k rfl)) ▸ p_5
            have bth2_156 : (0 : Int) ≤ th2_156 ∧ th2_156 ≤ 4 := e160 ▸ hW157.1 0
            refine .inr ⟨_, rfl, ?_⟩
            rcases q161 with ⟨rfl, a164, a165⟩ | ⟨rfl, a166, a167, a168⟩ | ⟨rfl, a169, a170, a171, a172⟩ | ⟨rfl, a173, a174, a175, a176⟩
            · have _q : True := trivial
              exfalso
              omega
            · have _q : True := trivial
              exfalso
              omega
            · have _q : True := trivial
              exfalso
              omega
            · have _q : True := trivial
              refine jx_if_eq (pc_q := 70) (tg := 72) rfl rfl rfl (by decide) (by decide) (fun h177 => ?_) (fun h177 => ?_)
              · have _q := h177
                refine jx_ar (pc_q := 73) (st_q := [.int (i32 (0))]) rfl rfl rfl rfl ?_
                refine jx_ld (pc_q := 74) (l_q := jSto1 [(0, .ref 66), (1, .int (i32 (p))), (2, .int (i32 (n)))] 3 (.int (i32 (0)))) (st_q := []) rfl rfl ?_
                obtain ⟨L178, eL178⟩ : ∃ q, q = jSto1 [(0, .ref 66), (1, .int (i32 (p))), (2, .int (i32 (n)))] 3 (.int (i32 (0))) := ⟨_, rfl⟩
                rw [← eL178]
                have gL178_0 : jGet L178 0 = some (.ref 66) := eL178 ▸ jg_ne (by decide) (rfl : jGet [(0, .ref 66), (1, .int (i32 (p))), (2, .int (i32 (n)))] 0 = some (.ref 66)) rfl
                have gL178_1 : jGet L178 1 = some (.int (i32 (p))) := eL178 ▸ jg_ne (by decide) (rfl : jGet [(0, .ref 66), (1, .int (i32 (p))), (2, .int (i32 (n)))] 1 = some (.int (i32 (p)))) rfl
                have gL178_2 : jGet L178 2 = some (.int (i32 (n))) := eL178 ▸ jg_ne (by decide) (rfl : jGet [(0, .ref 66), (1, .int (i32 (p))), (2, .int (i32 (n)))] 2 = some (.int (i32 (n)))) rfl
                have gL178_3 : jGet L178 3 = some (.int (i32 (0))) := eL178 ▸ jg_eq
                exact c_run_at_74 (X := X) (d := d) (c0 := c0) (c1 := c1) (G := G) (A := A) (T := T) (p := p) (n := n) (pg := pg) (lk := lk) (it := it) (im := im) (om := om) (bp := bp) (hd := hd) (hW := hW) (e_pg := e_pg) (e_lk := e_lk) (e_it := e_it) (e_im := e_im) (e_om := e_om) (e_bp := e_bp) (h_p := h_p) (h_n := h_n) (p_0 := p_0) (p_1 := p_1) (p_2 := p_2) (p_3 := p_3) (p_4 := p_4) (p_5 := p_5) _ L178 G153 A154 (0) (om) (it) rfl gL178_0 gL178_1 gL178_2 gL178_3 hW157 hF162 (((hF158.1 113 rfl).trans (e_om))) (((hF158.1 111 rfl).trans (e_it))) (by omega) (by omega) (by omega) (by omega) (by omega) (by omega) (by omega) (by omega) (by omega) (by omega) (by omega) (by omega) ((sf163 (by omega)))
              · have _q := h177
                exact absurd h177 (by omega)
          · have _q := h152
            refine jx_ld (pc_q := 41) (l_q := [(0, .ref 66), (1, .int (i32 (p))), (2, .int (i32 (n)))]) (st_q := [.ref 66, .int (i32 (0)), .int (i32 (0)), .ref 66]) rfl (jl_aloadn rfl) ?_
            refine jx_ld (pc_q := 42) (l_q := [(0, .ref 66), (1, .int (i32 (p))), (2, .int (i32 (n)))]) (st_q := [.int (i32 (p)), .ref 66, .int (i32 (0)), .int (i32 (0)), .ref 66]) rfl (jl_iloadn rfl) ?_
            refine jx_vr (pc_q := 45) (as := [.int (i32 (p))]) (st := [.int (i32 (0)), .int (i32 (0)), .ref 66]) rfl rfl rfl rfl ⟨rfl, rfl, Nat.le_of_ble_eq_true rfl⟩ rfl rfl (c_isCore2 (dd := d) (hd := by omega) (hW := hW) (p := p) (bp := bp) (e_bp := show A 36 (p).toNat = bp from (e_bp))  (h_p := ⟨(Int.le_trans (by decide : (-2147483648 : Int) ≤ -2147483648) h_p.1), (Int.le_trans h_p.2 (by decide : (2147483647 : Int) ≤ 2147483647))⟩)  ) (fun o V_q hq => ?_)
            obtain ⟨r179, rfl, rfl, b180, q181⟩ := hq
            refine .inr ⟨_, rfl, ?_⟩
            rcases q181 with ⟨rfl, a182, a183, a184⟩ | ⟨rfl, a185⟩
            · have _q : True := trivial
              refine jx_if_eq (pc_q := 48) (tg := 63) rfl rfl rfl (by decide) (by decide) (fun h186 => ?_) (fun h186 => ?_)
              · have _q := h186
                exact absurd h186 (by omega)
              · have _q := h186
                refine jx_ld (pc_q := 49) (l_q := [(0, .ref 66), (1, .int (i32 (p))), (2, .int (i32 (n)))]) (st_q := [.int (i32 (n)), .int (i32 (0)), .int (i32 (0)), .ref 66]) rfl (jl_iloadn rfl) ?_
                refine jx_ar (pc_q := 50) (st_q := [.int (i32 (0)), .int (i32 (n)), .int (i32 (0)), .int (i32 (0)), .ref 66]) rfl rfl rfl rfl ?_
                refine jx_ar (pc_q := 53) (st_q := [.int (i32 (5000)), .int (i32 (0)), .int (i32 (n)), .int (i32 (0)), .int (i32 (0)), .ref 66]) rfl rfl rfl rfl ?_
                refine jx_st (pc_q := 56) (as := [.int (i32 (n)), .int (i32 (0)), .int (i32 (5000))]) (st := [.int (i32 (0)), .int (i32 (0)), .ref 66]) rfl rfl ⟨rfl, Nat.le_of_ble_eq_true rfl⟩ rfl rfl rfl (c_in (dd := d) (hd := by omega) (v := n) (a := 0) (b := 5000)   (h_v := ⟨(Int.le_trans (by decide : (-2147483648 : Int) ≤ -2147483648) h_n.1), (Int.le_trans h_n.2 (by decide : (2147483647 : Int) ≤ 2147483647))⟩) (h_a := ⟨(by decide), (by decide)⟩) (h_b := ⟨(by decide), (by decide)⟩)  ) (fun o V_q hq => ?_)
                obtain ⟨r187, rfl, rfl, b188, q189⟩ := hq
                refine .inr ⟨_, rfl, ?_⟩
                rcases q189 with ⟨rfl, a190, a191⟩ | ⟨rfl, a192⟩
                · have _q : True := trivial
                  refine jx_if_ne (pc_q := 59) (tg := 63) rfl rfl rfl (by decide) (by decide) (fun h193 => ?_) (fun h193 => ?_)
                  · have _q := h193
                    refine jx_ar (pc_q := 64) (st_q := [.int (i32 (0)), .int (i32 (0)), .int (i32 (0)), .ref 66]) rfl rfl rfl rfl ?_
                    refine jx_vr (pc_q := 67) (as := [.int (i32 (0)), .int (i32 (0)), .int (i32 (0))]) (st := []) rfl rfl rfl rfl ⟨rfl, rfl, Nat.le_of_ble_eq_true rfl⟩ rfl rfl (c_refuse (dd := d) (hd := by omega) (hW := hW) (a := 0) (b := 0) (c := 0)   (h_a := ⟨(by decide), (by decide)⟩) (h_b := ⟨(by decide), (by decide)⟩) (h_c := ⟨(by decide), (by decide)⟩)  ) (fun o V_q hq => ?_)
                    obtain ⟨G194, A195, r196, th2_197, rfl, rfl, hW198, hF199, b200, e201, q202⟩ := hq
                    have hF203 := Fr_tr hF0 hF199 (Fr_sub (by decide)) (Fr_sub (by decide))
                    have sf204 : (pg) = 1 → GZ (lk) A195 := (show A195 = A from funext (fun k => hF199.2 k rfl)) ▸ p_5
                    have bth2_197 : (0 : Int) ≤ th2_197 ∧ th2_197 ≤ 4 := e201 ▸ hW198.1 0
                    refine .inr ⟨_, rfl, ?_⟩
                    rcases q202 with ⟨rfl, a205, a206⟩ | ⟨rfl, a207, a208, a209⟩ | ⟨rfl, a210, a211, a212, a213⟩ | ⟨rfl, a214, a215, a216, a217⟩
                    · have _q : True := trivial
                      exfalso
                      omega
                    · have _q : True := trivial
                      exfalso
                      omega
                    · have _q : True := trivial
                      exfalso
                      omega
                    · have _q : True := trivial
                      refine jx_if_eq (pc_q := 70) (tg := 72) rfl rfl rfl (by decide) (by decide) (fun h218 => ?_) (fun h218 => ?_)
                      · have _q := h218
                        refine jx_ar (pc_q := 73) (st_q := [.int (i32 (0))]) rfl rfl rfl rfl ?_
                        refine jx_ld (pc_q := 74) (l_q := jSto1 [(0, .ref 66), (1, .int (i32 (p))), (2, .int (i32 (n)))] 3 (.int (i32 (0)))) (st_q := []) rfl rfl ?_
                        obtain ⟨L219, eL219⟩ : ∃ q, q = jSto1 [(0, .ref 66), (1, .int (i32 (p))), (2, .int (i32 (n)))] 3 (.int (i32 (0))) := ⟨_, rfl⟩
                        rw [← eL219]
                        have gL219_0 : jGet L219 0 = some (.ref 66) := eL219 ▸ jg_ne (by decide) (rfl : jGet [(0, .ref 66), (1, .int (i32 (p))), (2, .int (i32 (n)))] 0 = some (.ref 66)) rfl
                        have gL219_1 : jGet L219 1 = some (.int (i32 (p))) := eL219 ▸ jg_ne (by decide) (rfl : jGet [(0, .ref 66), (1, .int (i32 (p))), (2, .int (i32 (n)))] 1 = some (.int (i32 (p)))) rfl
                        have gL219_2 : jGet L219 2 = some (.int (i32 (n))) := eL219 ▸ jg_ne (by decide) (rfl : jGet [(0, .ref 66), (1, .int (i32 (p))), (2, .int (i32 (n)))] 2 = some (.int (i32 (n)))) rfl
                        have gL219_3 : jGet L219 3 = some (.int (i32 (0))) := eL219 ▸ jg_eq
                        exact c_run_at_74 (X := X) (d := d) (c0 := c0) (c1 := c1) (G := G) (A := A) (T := T) (p := p) (n := n) (pg := pg) (lk := lk) (it := it) (im := im) (om := om) (bp := bp) (hd := hd) (hW := hW) (e_pg := e_pg) (e_lk := e_lk) (e_it := e_it) (e_im := e_im) (e_om := e_om) (e_bp := e_bp) (h_p := h_p) (h_n := h_n) (p_0 := p_0) (p_1 := p_1) (p_2 := p_2) (p_3 := p_3) (p_4 := p_4) (p_5 := p_5) _ L219 G194 A195 (0) (om) (it) rfl gL219_0 gL219_1 gL219_2 gL219_3 hW198 hF203 (((hF199.1 113 rfl).trans (e_om))) (((hF199.1 111 rfl).trans (e_it))) (by omega) (by omega) (by omega) (by omega) (by omega) (by omega) (by omega) (by omega) (by omega) (by omega) (by omega) (by omega) ((sf204 (by omega)))
                      · have _q := h218
                        exact absurd h218 (by omega)
                  · have _q := h193
                    exact absurd h193 (by omega)
                · have _q : True := trivial
                  refine jx_if_ne (pc_q := 59) (tg := 63) rfl rfl rfl (by decide) (by decide) (fun h220 => ?_) (fun h220 => ?_)
                  · have _q := h220
                    exact absurd h220 (by omega)
                  · have _q := h220
                    refine jx_ar (pc_q := 60) (st_q := [.int (i32 (1)), .int (i32 (0)), .int (i32 (0)), .ref 66]) rfl rfl rfl rfl ?_
                    refine jx_go (tg := 64) rfl rfl ?_
                    refine jx_vr (pc_q := 67) (as := [.int (i32 (0)), .int (i32 (0)), .int (i32 (1))]) (st := []) rfl rfl rfl rfl ⟨rfl, rfl, Nat.le_of_ble_eq_true rfl⟩ rfl rfl (c_refuse (dd := d) (hd := by omega) (hW := hW) (a := 0) (b := 0) (c := 1)   (h_a := ⟨(by decide), (by decide)⟩) (h_b := ⟨(by decide), (by decide)⟩) (h_c := ⟨(by decide), (by decide)⟩)  ) (fun o V_q hq => ?_)
                    obtain ⟨G221, A222, r223, th2_224, rfl, rfl, hW225, hF226, b227, e228, q229⟩ := hq
                    have hF230 := Fr_tr hF0 hF226 (Fr_sub (by decide)) (Fr_sub (by decide))
                    have sf231 : (pg) = 1 → GZ (lk) A222 := (show A222 = A from funext (fun k => hF226.2 k rfl)) ▸ p_5
                    have bth2_224 : (0 : Int) ≤ th2_224 ∧ th2_224 ≤ 4 := e228 ▸ hW225.1 0
                    refine .inr ⟨_, rfl, ?_⟩
                    rcases q229 with ⟨rfl, a232, a233⟩ | ⟨rfl, a234, a235, a236⟩ | ⟨rfl, a237, a238, a239, a240⟩ | ⟨rfl, a241, a242, a243, a244⟩
                    · have _q : True := trivial
                      exfalso
                      omega
                    · have _q : True := trivial
                      exfalso
                      omega
                    · have _q : True := trivial
                      refine jx_if_eq (pc_q := 70) (tg := 72) rfl rfl rfl (by decide) (by decide) (fun h245 => ?_) (fun h245 => ?_)
                      · have _q := h245
                        exact absurd h245 (by omega)
                      · have _q := h245
                        refine jx_ar (pc_q := 71) (st_q := [.int (i32 (0))]) rfl rfl rfl rfl ?_
                        refine jx_rt (v := some (.int (i32 (0)))) rfl rfl rfl rfl rfl rfl ?_
                        exact ⟨_, _, _, om, it, rfl, rfl, hW225, hF230, by omega, ((hF226.1 113 rfl).trans (e_om)), ((hF226.1 111 rfl).trans (e_it)), by omega, by omega, by omega, by omega, sf231, trivial⟩
                    · have _q : True := trivial
                      exfalso
                      omega
            · have _q : True := trivial
              refine jx_if_eq (pc_q := 48) (tg := 63) rfl rfl rfl (by decide) (by decide) (fun h246 => ?_) (fun h246 => ?_)
              · have _q := h246
                refine jx_ar (pc_q := 64) (st_q := [.int (i32 (0)), .int (i32 (0)), .int (i32 (0)), .ref 66]) rfl rfl rfl rfl ?_
                refine jx_vr (pc_q := 67) (as := [.int (i32 (0)), .int (i32 (0)), .int (i32 (0))]) (st := []) rfl rfl rfl rfl ⟨rfl, rfl, Nat.le_of_ble_eq_true rfl⟩ rfl rfl (c_refuse (dd := d) (hd := by omega) (hW := hW) (a := 0) (b := 0) (c := 0)   (h_a := ⟨(by decide), (by decide)⟩) (h_b := ⟨(by decide), (by decide)⟩) (h_c := ⟨(by decide), (by decide)⟩)  ) (fun o V_q hq => ?_)
                obtain ⟨G247, A248, r249, th2_250, rfl, rfl, hW251, hF252, b253, e254, q255⟩ := hq
                have hF256 := Fr_tr hF0 hF252 (Fr_sub (by decide)) (Fr_sub (by decide))
                have sf257 : (pg) = 1 → GZ (lk) A248 := (show A248 = A from funext (fun k => hF252.2 k rfl)) ▸ p_5
                have bth2_250 : (0 : Int) ≤ th2_250 ∧ th2_250 ≤ 4 := e254 ▸ hW251.1 0
                refine .inr ⟨_, rfl, ?_⟩
                rcases q255 with ⟨rfl, a258, a259⟩ | ⟨rfl, a260, a261, a262⟩ | ⟨rfl, a263, a264, a265, a266⟩ | ⟨rfl, a267, a268, a269, a270⟩
                · have _q : True := trivial
                  exfalso
                  omega
                · have _q : True := trivial
                  exfalso
                  omega
                · have _q : True := trivial
                  exfalso
                  omega
                · have _q : True := trivial
                  refine jx_if_eq (pc_q := 70) (tg := 72) rfl rfl rfl (by decide) (by decide) (fun h271 => ?_) (fun h271 => ?_)
                  · have _q := h271
                    refine jx_ar (pc_q := 73) (st_q := [.int (i32 (0))]) rfl rfl rfl rfl ?_
                    refine jx_ld (pc_q := 74) (l_q := jSto1 [(0, .ref 66), (1, .int (i32 (p))), (2, .int (i32 (n)))] 3 (.int (i32 (0)))) (st_q := []) rfl rfl ?_
                    obtain ⟨L272, eL272⟩ : ∃ q, q = jSto1 [(0, .ref 66), (1, .int (i32 (p))), (2, .int (i32 (n)))] 3 (.int (i32 (0))) := ⟨_, rfl⟩
                    rw [← eL272]
                    have gL272_0 : jGet L272 0 = some (.ref 66) := eL272 ▸ jg_ne (by decide) (rfl : jGet [(0, .ref 66), (1, .int (i32 (p))), (2, .int (i32 (n)))] 0 = some (.ref 66)) rfl
                    have gL272_1 : jGet L272 1 = some (.int (i32 (p))) := eL272 ▸ jg_ne (by decide) (rfl : jGet [(0, .ref 66), (1, .int (i32 (p))), (2, .int (i32 (n)))] 1 = some (.int (i32 (p)))) rfl
                    have gL272_2 : jGet L272 2 = some (.int (i32 (n))) := eL272 ▸ jg_ne (by decide) (rfl : jGet [(0, .ref 66), (1, .int (i32 (p))), (2, .int (i32 (n)))] 2 = some (.int (i32 (n)))) rfl
                    have gL272_3 : jGet L272 3 = some (.int (i32 (0))) := eL272 ▸ jg_eq
                    exact c_run_at_74 (X := X) (d := d) (c0 := c0) (c1 := c1) (G := G) (A := A) (T := T) (p := p) (n := n) (pg := pg) (lk := lk) (it := it) (im := im) (om := om) (bp := bp) (hd := hd) (hW := hW) (e_pg := e_pg) (e_lk := e_lk) (e_it := e_it) (e_im := e_im) (e_om := e_om) (e_bp := e_bp) (h_p := h_p) (h_n := h_n) (p_0 := p_0) (p_1 := p_1) (p_2 := p_2) (p_3 := p_3) (p_4 := p_4) (p_5 := p_5) _ L272 G247 A248 (0) (om) (it) rfl gL272_0 gL272_1 gL272_2 gL272_3 hW251 hF256 (((hF252.1 113 rfl).trans (e_om))) (((hF252.1 111 rfl).trans (e_it))) (by omega) (by omega) (by omega) (by omega) (by omega) (by omega) (by omega) (by omega) (by omega) (by omega) (by omega) (by omega) ((sf257 (by omega)))
                  · have _q := h271
                    exact absurd h271 (by omega)
              · have _q := h246
                exact absurd h246 (by omega)
        · have _q := h151
          exact absurd h151 (by omega)
      · have _q : True := trivial
        refine jx_if_ne (pc_q := 28) (tg := 32) rfl rfl rfl (by decide) (by decide) (fun h273 => ?_) (fun h273 => ?_)
        · have _q := h273
          exact absurd h273 (by omega)
        · have _q := h273
          refine jx_ar (pc_q := 29) (st_q := [.int (i32 (1)), .int (i32 (0)), .ref 66]) rfl rfl rfl rfl ?_
          refine jx_go (tg := 33) rfl rfl ?_
          refine jx_ld (pc_q := 34) (l_q := [(0, .ref 66), (1, .int (i32 (p))), (2, .int (i32 (n)))]) (st_q := [.ref 66, .int (i32 (1)), .int (i32 (0)), .ref 66]) rfl (jl_aloadn rfl) ?_
          refine jr_get (pc_q := 37) (i := 58) (v := .int (i32 (pg))) rfl rfl (by decide) (rFv_eq (by decide) (show G 58 = pg from (e_pg))) rfl ?_
          refine jx_if_eq (pc_q := 40) (tg := 63) rfl rfl rfl (Int.le_trans (by decide : (-2147483648 : Int) ≤ 0) b_pg.1) (Int.le_trans b_pg.2 (by decide : (1 : Int) ≤ 2147483647)) (fun h274 => ?_) (fun h274 => ?_)
          · have _q := h274
            refine jx_ar (pc_q := 64) (st_q := [.int (i32 (0)), .int (i32 (1)), .int (i32 (0)), .ref 66]) rfl rfl rfl rfl ?_
            refine jx_vr (pc_q := 67) (as := [.int (i32 (0)), .int (i32 (1)), .int (i32 (0))]) (st := []) rfl rfl rfl rfl ⟨rfl, rfl, Nat.le_of_ble_eq_true rfl⟩ rfl rfl (c_refuse (dd := d) (hd := by omega) (hW := hW) (a := 0) (b := 1) (c := 0)   (h_a := ⟨(by decide), (by decide)⟩) (h_b := ⟨(by decide), (by decide)⟩) (h_c := ⟨(by decide), (by decide)⟩)  ) (fun o V_q hq => ?_)
            obtain ⟨G275, A276, r277, th2_278, rfl, rfl, hW279, hF280, b281, e282, q283⟩ := hq
            have hF284 := Fr_tr hF0 hF280 (Fr_sub (by decide)) (Fr_sub (by decide))
            have sf285 : (pg) = 1 → GZ (lk) A276 := (show A276 = A from funext (fun k => hF280.2 k rfl)) ▸ p_5
            have bth2_278 : (0 : Int) ≤ th2_278 ∧ th2_278 ≤ 4 := e282 ▸ hW279.1 0
            refine .inr ⟨_, rfl, ?_⟩
            rcases q283 with ⟨rfl, a286, a287⟩ | ⟨rfl, a288, a289, a290⟩ | ⟨rfl, a291, a292, a293, a294⟩ | ⟨rfl, a295, a296, a297, a298⟩
            · have _q : True := trivial
              exfalso
              omega
            · have _q : True := trivial
              refine jx_if_eq (pc_q := 70) (tg := 72) rfl rfl rfl (by decide) (by decide) (fun h299 => ?_) (fun h299 => ?_)
              · have _q := h299
                exact absurd h299 (by omega)
              · have _q := h299
                refine jx_ar (pc_q := 71) (st_q := [.int (i32 (0))]) rfl rfl rfl rfl ?_
                refine jx_rt (v := some (.int (i32 (0)))) rfl rfl rfl rfl rfl rfl ?_
                exact ⟨_, _, _, om, it, rfl, rfl, hW279, hF284, by omega, ((hF280.1 113 rfl).trans (e_om)), ((hF280.1 111 rfl).trans (e_it)), by omega, by omega, by omega, by omega, sf285, trivial⟩
            · have _q : True := trivial
              exfalso
              omega
            · have _q : True := trivial
              exfalso
              omega
          · have _q := h274
            refine jx_ld (pc_q := 41) (l_q := [(0, .ref 66), (1, .int (i32 (p))), (2, .int (i32 (n)))]) (st_q := [.ref 66, .int (i32 (1)), .int (i32 (0)), .ref 66]) rfl (jl_aloadn rfl) ?_
            refine jx_ld (pc_q := 42) (l_q := [(0, .ref 66), (1, .int (i32 (p))), (2, .int (i32 (n)))]) (st_q := [.int (i32 (p)), .ref 66, .int (i32 (1)), .int (i32 (0)), .ref 66]) rfl (jl_iloadn rfl) ?_
            refine jx_vr (pc_q := 45) (as := [.int (i32 (p))]) (st := [.int (i32 (1)), .int (i32 (0)), .ref 66]) rfl rfl rfl rfl ⟨rfl, rfl, Nat.le_of_ble_eq_true rfl⟩ rfl rfl (c_isCore2 (dd := d) (hd := by omega) (hW := hW) (p := p) (bp := bp) (e_bp := show A 36 (p).toNat = bp from (e_bp))  (h_p := ⟨(Int.le_trans (by decide : (-2147483648 : Int) ≤ -2147483648) h_p.1), (Int.le_trans h_p.2 (by decide : (2147483647 : Int) ≤ 2147483647))⟩)  ) (fun o V_q hq => ?_)
            obtain ⟨r300, rfl, rfl, b301, q302⟩ := hq
            refine .inr ⟨_, rfl, ?_⟩
            rcases q302 with ⟨rfl, a303, a304, a305⟩ | ⟨rfl, a306⟩
            · have _q : True := trivial
              refine jx_if_eq (pc_q := 48) (tg := 63) rfl rfl rfl (by decide) (by decide) (fun h307 => ?_) (fun h307 => ?_)
              · have _q := h307
                exact absurd h307 (by omega)
              · have _q := h307
                refine jx_ld (pc_q := 49) (l_q := [(0, .ref 66), (1, .int (i32 (p))), (2, .int (i32 (n)))]) (st_q := [.int (i32 (n)), .int (i32 (1)), .int (i32 (0)), .ref 66]) rfl (jl_iloadn rfl) ?_
                refine jx_ar (pc_q := 50) (st_q := [.int (i32 (0)), .int (i32 (n)), .int (i32 (1)), .int (i32 (0)), .ref 66]) rfl rfl rfl rfl ?_
                refine jx_ar (pc_q := 53) (st_q := [.int (i32 (5000)), .int (i32 (0)), .int (i32 (n)), .int (i32 (1)), .int (i32 (0)), .ref 66]) rfl rfl rfl rfl ?_
                refine jx_st (pc_q := 56) (as := [.int (i32 (n)), .int (i32 (0)), .int (i32 (5000))]) (st := [.int (i32 (1)), .int (i32 (0)), .ref 66]) rfl rfl ⟨rfl, Nat.le_of_ble_eq_true rfl⟩ rfl rfl rfl (c_in (dd := d) (hd := by omega) (v := n) (a := 0) (b := 5000)   (h_v := ⟨(Int.le_trans (by decide : (-2147483648 : Int) ≤ -2147483648) h_n.1), (Int.le_trans h_n.2 (by decide : (2147483647 : Int) ≤ 2147483647))⟩) (h_a := ⟨(by decide), (by decide)⟩) (h_b := ⟨(by decide), (by decide)⟩)  ) (fun o V_q hq => ?_)
                obtain ⟨r308, rfl, rfl, b309, q310⟩ := hq
                refine .inr ⟨_, rfl, ?_⟩
                rcases q310 with ⟨rfl, a311, a312⟩ | ⟨rfl, a313⟩
                · have _q : True := trivial
                  refine jx_if_ne (pc_q := 59) (tg := 63) rfl rfl rfl (by decide) (by decide) (fun h314 => ?_) (fun h314 => ?_)
                  · have _q := h314
                    refine jx_ar (pc_q := 64) (st_q := [.int (i32 (0)), .int (i32 (1)), .int (i32 (0)), .ref 66]) rfl rfl rfl rfl ?_
                    refine jx_vr (pc_q := 67) (as := [.int (i32 (0)), .int (i32 (1)), .int (i32 (0))]) (st := []) rfl rfl rfl rfl ⟨rfl, rfl, Nat.le_of_ble_eq_true rfl⟩ rfl rfl (c_refuse (dd := d) (hd := by omega) (hW := hW) (a := 0) (b := 1) (c := 0)   (h_a := ⟨(by decide), (by decide)⟩) (h_b := ⟨(by decide), (by decide)⟩) (h_c := ⟨(by decide), (by decide)⟩)  ) (fun o V_q hq => ?_)
                    obtain ⟨G315, A316, r317, th2_318, rfl, rfl, hW319, hF320, b321, e322, q323⟩ := hq
                    have hF324 := Fr_tr hF0 hF320 (Fr_sub (by decide)) (Fr_sub (by decide))
                    have sf325 : (pg) = 1 → GZ (lk) A316 := (show A316 = A from funext (fun k => hF320.2 k rfl)) ▸ p_5
                    have bth2_318 : (0 : Int) ≤ th2_318 ∧ th2_318 ≤ 4 := e322 ▸ hW319.1 0
                    refine .inr ⟨_, rfl, ?_⟩
                    rcases q323 with ⟨rfl, a326, a327⟩ | ⟨rfl, a328, a329, a330⟩ | ⟨rfl, a331, a332, a333, a334⟩ | ⟨rfl, a335, a336, a337, a338⟩
                    · have _q : True := trivial
                      exfalso
                      omega
                    · have _q : True := trivial
                      refine jx_if_eq (pc_q := 70) (tg := 72) rfl rfl rfl (by decide) (by decide) (fun h339 => ?_) (fun h339 => ?_)
                      · have _q := h339
                        exact absurd h339 (by omega)
                      · have _q := h339
                        refine jx_ar (pc_q := 71) (st_q := [.int (i32 (0))]) rfl rfl rfl rfl ?_
                        refine jx_rt (v := some (.int (i32 (0)))) rfl rfl rfl rfl rfl rfl ?_
                        exact ⟨_, _, _, om, it, rfl, rfl, hW319, hF324, by omega, ((hF320.1 113 rfl).trans (e_om)), ((hF320.1 111 rfl).trans (e_it)), by omega, by omega, by omega, by omega, sf325, trivial⟩
                    · have _q : True := trivial
                      exfalso
                      omega
                    · have _q : True := trivial
                      exfalso
                      omega
                  · have _q := h314
                    exact absurd h314 (by omega)
                · have _q : True := trivial
                  refine jx_if_ne (pc_q := 59) (tg := 63) rfl rfl rfl (by decide) (by decide) (fun h340 => ?_) (fun h340 => ?_)
                  · have _q := h340
                    exact absurd h340 (by omega)
                  · have _q := h340
                    refine jx_ar (pc_q := 60) (st_q := [.int (i32 (1)), .int (i32 (1)), .int (i32 (0)), .ref 66]) rfl rfl rfl rfl ?_
                    refine jx_go (tg := 64) rfl rfl ?_
                    refine jx_vr (pc_q := 67) (as := [.int (i32 (0)), .int (i32 (1)), .int (i32 (1))]) (st := []) rfl rfl rfl rfl ⟨rfl, rfl, Nat.le_of_ble_eq_true rfl⟩ rfl rfl (c_refuse (dd := d) (hd := by omega) (hW := hW) (a := 0) (b := 1) (c := 1)   (h_a := ⟨(by decide), (by decide)⟩) (h_b := ⟨(by decide), (by decide)⟩) (h_c := ⟨(by decide), (by decide)⟩)  ) (fun o V_q hq => ?_)
                    obtain ⟨G341, A342, r343, th2_344, rfl, rfl, hW345, hF346, b347, e348, q349⟩ := hq
                    have hF350 := Fr_tr hF0 hF346 (Fr_sub (by decide)) (Fr_sub (by decide))
                    have sf351 : (pg) = 1 → GZ (lk) A342 := (show A342 = A from funext (fun k => hF346.2 k rfl)) ▸ p_5
                    have bth2_344 : (0 : Int) ≤ th2_344 ∧ th2_344 ≤ 4 := e348 ▸ hW345.1 0
                    refine .inr ⟨_, rfl, ?_⟩
                    rcases q349 with ⟨rfl, a352, a353⟩ | ⟨rfl, a354, a355, a356⟩ | ⟨rfl, a357, a358, a359, a360⟩ | ⟨rfl, a361, a362, a363, a364⟩
                    · have _q : True := trivial
                      exfalso
                      omega
                    · have _q : True := trivial
                      refine jx_if_eq (pc_q := 70) (tg := 72) rfl rfl rfl (by decide) (by decide) (fun h365 => ?_) (fun h365 => ?_)
                      · have _q := h365
                        exact absurd h365 (by omega)
                      · have _q := h365
                        refine jx_ar (pc_q := 71) (st_q := [.int (i32 (0))]) rfl rfl rfl rfl ?_
                        refine jx_rt (v := some (.int (i32 (0)))) rfl rfl rfl rfl rfl rfl ?_
                        exact ⟨_, _, _, om, it, rfl, rfl, hW345, hF350, by omega, ((hF346.1 113 rfl).trans (e_om)), ((hF346.1 111 rfl).trans (e_it)), by omega, by omega, by omega, by omega, sf351, trivial⟩
                    · have _q : True := trivial
                      exfalso
                      omega
                    · have _q : True := trivial
                      exfalso
                      omega
            · have _q : True := trivial
              refine jx_if_eq (pc_q := 48) (tg := 63) rfl rfl rfl (by decide) (by decide) (fun h366 => ?_) (fun h366 => ?_)
              · have _q := h366
                refine jx_ar (pc_q := 64) (st_q := [.int (i32 (0)), .int (i32 (1)), .int (i32 (0)), .ref 66]) rfl rfl rfl rfl ?_
                refine jx_vr (pc_q := 67) (as := [.int (i32 (0)), .int (i32 (1)), .int (i32 (0))]) (st := []) rfl rfl rfl rfl ⟨rfl, rfl, Nat.le_of_ble_eq_true rfl⟩ rfl rfl (c_refuse (dd := d) (hd := by omega) (hW := hW) (a := 0) (b := 1) (c := 0)   (h_a := ⟨(by decide), (by decide)⟩) (h_b := ⟨(by decide), (by decide)⟩) (h_c := ⟨(by decide), (by decide)⟩)  ) (fun o V_q hq => ?_)
                obtain ⟨G367, A368, r369, th2_370, rfl, rfl, hW371, hF372, b373, e374, q375⟩ := hq
                have hF376 := Fr_tr hF0 hF372 (Fr_sub (by decide)) (Fr_sub (by decide))
                have sf377 : (pg) = 1 → GZ (lk) A368 := (show A368 = A from funext (fun k => hF372.2 k rfl)) ▸ p_5
                have bth2_370 : (0 : Int) ≤ th2_370 ∧ th2_370 ≤ 4 := e374 ▸ hW371.1 0
                refine .inr ⟨_, rfl, ?_⟩
                rcases q375 with ⟨rfl, a378, a379⟩ | ⟨rfl, a380, a381, a382⟩ | ⟨rfl, a383, a384, a385, a386⟩ | ⟨rfl, a387, a388, a389, a390⟩
                · have _q : True := trivial
                  exfalso
                  omega
                · have _q : True := trivial
                  refine jx_if_eq (pc_q := 70) (tg := 72) rfl rfl rfl (by decide) (by decide) (fun h391 => ?_) (fun h391 => ?_)
                  · have _q := h391
                    exact absurd h391 (by omega)
                  · have _q := h391
                    refine jx_ar (pc_q := 71) (st_q := [.int (i32 (0))]) rfl rfl rfl rfl ?_
                    refine jx_rt (v := some (.int (i32 (0)))) rfl rfl rfl rfl rfl rfl ?_
                    exact ⟨_, _, _, om, it, rfl, rfl, hW371, hF376, by omega, ((hF372.1 113 rfl).trans (e_om)), ((hF372.1 111 rfl).trans (e_it)), by omega, by omega, by omega, by omega, sf377, trivial⟩
                · have _q : True := trivial
                  exfalso
                  omega
                · have _q : True := trivial
                  exfalso
                  omega
              · have _q := h366
                exact absurd h366 (by omega)
  · have _q := h21
    refine jx_ar (pc_q := 9) (st_q := [.int (i32 (1)), .ref 66]) rfl rfl rfl rfl ?_
    refine jx_go (tg := 13) rfl rfl ?_
    refine jx_ld (pc_q := 14) (l_q := [(0, .ref 66), (1, .int (i32 (p))), (2, .int (i32 (n)))]) (st_q := [.ref 66, .int (i32 (1)), .ref 66]) rfl (jl_aloadn rfl) ?_
    refine jr_get (pc_q := 17) (i := 58) (v := .int (i32 (pg))) rfl rfl (by decide) (rFv_eq (by decide) (show G 58 = pg from (e_pg))) rfl ?_
    refine jx_if_eq (pc_q := 20) (tg := 32) rfl rfl rfl (Int.le_trans (by decide : (-2147483648 : Int) ≤ 0) b_pg.1) (Int.le_trans b_pg.2 (by decide : (1 : Int) ≤ 2147483647)) (fun h392 => ?_) (fun h392 => ?_)
    · have _q := h392
      refine jx_ar (pc_q := 33) (st_q := [.int (i32 (0)), .int (i32 (1)), .ref 66]) rfl rfl rfl rfl ?_
      refine jx_ld (pc_q := 34) (l_q := [(0, .ref 66), (1, .int (i32 (p))), (2, .int (i32 (n)))]) (st_q := [.ref 66, .int (i32 (0)), .int (i32 (1)), .ref 66]) rfl (jl_aloadn rfl) ?_
      refine jr_get (pc_q := 37) (i := 58) (v := .int (i32 (pg))) rfl rfl (by decide) (rFv_eq (by decide) (show G 58 = pg from (e_pg))) rfl ?_
      refine jx_if_eq (pc_q := 40) (tg := 63) rfl rfl rfl (Int.le_trans (by decide : (-2147483648 : Int) ≤ 0) b_pg.1) (Int.le_trans b_pg.2 (by decide : (1 : Int) ≤ 2147483647)) (fun h393 => ?_) (fun h393 => ?_)
      · have _q := h393
        refine jx_ar (pc_q := 64) (st_q := [.int (i32 (0)), .int (i32 (0)), .int (i32 (1)), .ref 66]) rfl rfl rfl rfl ?_
        refine jx_vr (pc_q := 67) (as := [.int (i32 (1)), .int (i32 (0)), .int (i32 (0))]) (st := []) rfl rfl rfl rfl ⟨rfl, rfl, Nat.le_of_ble_eq_true rfl⟩ rfl rfl (c_refuse (dd := d) (hd := by omega) (hW := hW) (a := 1) (b := 0) (c := 0)   (h_a := ⟨(by decide), (by decide)⟩) (h_b := ⟨(by decide), (by decide)⟩) (h_c := ⟨(by decide), (by decide)⟩)  ) (fun o V_q hq => ?_)
        obtain ⟨G394, A395, r396, th2_397, rfl, rfl, hW398, hF399, b400, e401, q402⟩ := hq
        have hF403 := Fr_tr hF0 hF399 (Fr_sub (by decide)) (Fr_sub (by decide))
        have sf404 : (pg) = 1 → GZ (lk) A395 := (show A395 = A from funext (fun k => hF399.2 k rfl)) ▸ p_5
        have bth2_397 : (0 : Int) ≤ th2_397 ∧ th2_397 ≤ 4 := e401 ▸ hW398.1 0
        refine .inr ⟨_, rfl, ?_⟩
        rcases q402 with ⟨rfl, a405, a406⟩ | ⟨rfl, a407, a408, a409⟩ | ⟨rfl, a410, a411, a412, a413⟩ | ⟨rfl, a414, a415, a416, a417⟩
        · have _q : True := trivial
          refine jx_if_eq (pc_q := 70) (tg := 72) rfl rfl rfl (by decide) (by decide) (fun h418 => ?_) (fun h418 => ?_)
          · have _q := h418
            exact absurd h418 (by omega)
          · have _q := h418
            refine jx_ar (pc_q := 71) (st_q := [.int (i32 (0))]) rfl rfl rfl rfl ?_
            refine jx_rt (v := some (.int (i32 (0)))) rfl rfl rfl rfl rfl rfl ?_
            exact ⟨_, _, _, om, it, rfl, rfl, hW398, hF403, by omega, ((hF399.1 113 rfl).trans (e_om)), ((hF399.1 111 rfl).trans (e_it)), by omega, by omega, by omega, by omega, sf404, trivial⟩
        · have _q : True := trivial
          exfalso
          omega
        · have _q : True := trivial
          exfalso
          omega
        · have _q : True := trivial
          exfalso
          omega
      · have _q := h393
        refine jx_ld (pc_q := 41) (l_q := [(0, .ref 66), (1, .int (i32 (p))), (2, .int (i32 (n)))]) (st_q := [.ref 66, .int (i32 (0)), .int (i32 (1)), .ref 66]) rfl (jl_aloadn rfl) ?_
        refine jx_ld (pc_q := 42) (l_q := [(0, .ref 66), (1, .int (i32 (p))), (2, .int (i32 (n)))]) (st_q := [.int (i32 (p)), .ref 66, .int (i32 (0)), .int (i32 (1)), .ref 66]) rfl (jl_iloadn rfl) ?_
        refine jx_vr (pc_q := 45) (as := [.int (i32 (p))]) (st := [.int (i32 (0)), .int (i32 (1)), .ref 66]) rfl rfl rfl rfl ⟨rfl, rfl, Nat.le_of_ble_eq_true rfl⟩ rfl rfl (c_isCore2 (dd := d) (hd := by omega) (hW := hW) (p := p) (bp := bp) (e_bp := show A 36 (p).toNat = bp from (e_bp))  (h_p := ⟨(Int.le_trans (by decide : (-2147483648 : Int) ≤ -2147483648) h_p.1), (Int.le_trans h_p.2 (by decide : (2147483647 : Int) ≤ 2147483647))⟩)  ) (fun o V_q hq => ?_)
        obtain ⟨r419, rfl, rfl, b420, q421⟩ := hq
        refine .inr ⟨_, rfl, ?_⟩
        rcases q421 with ⟨rfl, a422, a423, a424⟩ | ⟨rfl, a425⟩
        · have _q : True := trivial
          refine jx_if_eq (pc_q := 48) (tg := 63) rfl rfl rfl (by decide) (by decide) (fun h426 => ?_) (fun h426 => ?_)
          · have _q := h426
            exact absurd h426 (by omega)
          · have _q := h426
            refine jx_ld (pc_q := 49) (l_q := [(0, .ref 66), (1, .int (i32 (p))), (2, .int (i32 (n)))]) (st_q := [.int (i32 (n)), .int (i32 (0)), .int (i32 (1)), .ref 66]) rfl (jl_iloadn rfl) ?_
            refine jx_ar (pc_q := 50) (st_q := [.int (i32 (0)), .int (i32 (n)), .int (i32 (0)), .int (i32 (1)), .ref 66]) rfl rfl rfl rfl ?_
            refine jx_ar (pc_q := 53) (st_q := [.int (i32 (5000)), .int (i32 (0)), .int (i32 (n)), .int (i32 (0)), .int (i32 (1)), .ref 66]) rfl rfl rfl rfl ?_
            refine jx_st (pc_q := 56) (as := [.int (i32 (n)), .int (i32 (0)), .int (i32 (5000))]) (st := [.int (i32 (0)), .int (i32 (1)), .ref 66]) rfl rfl ⟨rfl, Nat.le_of_ble_eq_true rfl⟩ rfl rfl rfl (c_in (dd := d) (hd := by omega) (v := n) (a := 0) (b := 5000)   (h_v := ⟨(Int.le_trans (by decide : (-2147483648 : Int) ≤ -2147483648) h_n.1), (Int.le_trans h_n.2 (by decide : (2147483647 : Int) ≤ 2147483647))⟩) (h_a := ⟨(by decide), (by decide)⟩) (h_b := ⟨(by decide), (by decide)⟩)  ) (fun o V_q hq => ?_)
            obtain ⟨r427, rfl, rfl, b428, q429⟩ := hq
            refine .inr ⟨_, rfl, ?_⟩
            rcases q429 with ⟨rfl, a430, a431⟩ | ⟨rfl, a432⟩
            · have _q : True := trivial
              refine jx_if_ne (pc_q := 59) (tg := 63) rfl rfl rfl (by decide) (by decide) (fun h433 => ?_) (fun h433 => ?_)
              · have _q := h433
                refine jx_ar (pc_q := 64) (st_q := [.int (i32 (0)), .int (i32 (0)), .int (i32 (1)), .ref 66]) rfl rfl rfl rfl ?_
                refine jx_vr (pc_q := 67) (as := [.int (i32 (1)), .int (i32 (0)), .int (i32 (0))]) (st := []) rfl rfl rfl rfl ⟨rfl, rfl, Nat.le_of_ble_eq_true rfl⟩ rfl rfl (c_refuse (dd := d) (hd := by omega) (hW := hW) (a := 1) (b := 0) (c := 0)   (h_a := ⟨(by decide), (by decide)⟩) (h_b := ⟨(by decide), (by decide)⟩) (h_c := ⟨(by decide), (by decide)⟩)  ) (fun o V_q hq => ?_)
                obtain ⟨G434, A435, r436, th2_437, rfl, rfl, hW438, hF439, b440, e441, q442⟩ := hq
                have hF443 := Fr_tr hF0 hF439 (Fr_sub (by decide)) (Fr_sub (by decide))
                have sf444 : (pg) = 1 → GZ (lk) A435 := (show A435 = A from funext (fun k => hF439.2 k rfl)) ▸ p_5
                have bth2_437 : (0 : Int) ≤ th2_437 ∧ th2_437 ≤ 4 := e441 ▸ hW438.1 0
                refine .inr ⟨_, rfl, ?_⟩
                rcases q442 with ⟨rfl, a445, a446⟩ | ⟨rfl, a447, a448, a449⟩ | ⟨rfl, a450, a451, a452, a453⟩ | ⟨rfl, a454, a455, a456, a457⟩
                · have _q : True := trivial
                  refine jx_if_eq (pc_q := 70) (tg := 72) rfl rfl rfl (by decide) (by decide) (fun h458 => ?_) (fun h458 => ?_)
                  · have _q := h458
                    exact absurd h458 (by omega)
                  · have _q := h458
                    refine jx_ar (pc_q := 71) (st_q := [.int (i32 (0))]) rfl rfl rfl rfl ?_
                    refine jx_rt (v := some (.int (i32 (0)))) rfl rfl rfl rfl rfl rfl ?_
                    exact ⟨_, _, _, om, it, rfl, rfl, hW438, hF443, by omega, ((hF439.1 113 rfl).trans (e_om)), ((hF439.1 111 rfl).trans (e_it)), by omega, by omega, by omega, by omega, sf444, trivial⟩
                · have _q : True := trivial
                  exfalso
                  omega
                · have _q : True := trivial
                  exfalso
                  omega
                · have _q : True := trivial
                  exfalso
                  omega
              · have _q := h433
                exact absurd h433 (by omega)
            · have _q : True := trivial
              refine jx_if_ne (pc_q := 59) (tg := 63) rfl rfl rfl (by decide) (by decide) (fun h459 => ?_) (fun h459 => ?_)
              · have _q := h459
                exact absurd h459 (by omega)
              · have _q := h459
                refine jx_ar (pc_q := 60) (st_q := [.int (i32 (1)), .int (i32 (0)), .int (i32 (1)), .ref 66]) rfl rfl rfl rfl ?_
                refine jx_go (tg := 64) rfl rfl ?_
                refine jx_vr (pc_q := 67) (as := [.int (i32 (1)), .int (i32 (0)), .int (i32 (1))]) (st := []) rfl rfl rfl rfl ⟨rfl, rfl, Nat.le_of_ble_eq_true rfl⟩ rfl rfl (c_refuse (dd := d) (hd := by omega) (hW := hW) (a := 1) (b := 0) (c := 1)   (h_a := ⟨(by decide), (by decide)⟩) (h_b := ⟨(by decide), (by decide)⟩) (h_c := ⟨(by decide), (by decide)⟩)  ) (fun o V_q hq => ?_)
                obtain ⟨G460, A461, r462, th2_463, rfl, rfl, hW464, hF465, b466, e467, q468⟩ := hq
                have hF469 := Fr_tr hF0 hF465 (Fr_sub (by decide)) (Fr_sub (by decide))
                have sf470 : (pg) = 1 → GZ (lk) A461 := (show A461 = A from funext (fun k => hF465.2 k rfl)) ▸ p_5
                have bth2_463 : (0 : Int) ≤ th2_463 ∧ th2_463 ≤ 4 := e467 ▸ hW464.1 0
                refine .inr ⟨_, rfl, ?_⟩
                rcases q468 with ⟨rfl, a471, a472⟩ | ⟨rfl, a473, a474, a475⟩ | ⟨rfl, a476, a477, a478, a479⟩ | ⟨rfl, a480, a481, a482, a483⟩
                · have _q : True := trivial
                  refine jx_if_eq (pc_q := 70) (tg := 72) rfl rfl rfl (by decide) (by decide) (fun h484 => ?_) (fun h484 => ?_)
                  · have _q := h484
                    exact absurd h484 (by omega)
                  · have _q := h484
                    refine jx_ar (pc_q := 71) (st_q := [.int (i32 (0))]) rfl rfl rfl rfl ?_
                    refine jx_rt (v := some (.int (i32 (0)))) rfl rfl rfl rfl rfl rfl ?_
                    exact ⟨_, _, _, om, it, rfl, rfl, hW464, hF469, by omega, ((hF465.1 113 rfl).trans (e_om)), ((hF465.1 111 rfl).trans (e_it)), by omega, by omega, by omega, by omega, sf470, trivial⟩
                · have _q : True := trivial
                  exfalso
                  omega
                · have _q : True := trivial
                  exfalso
                  omega
                · have _q : True := trivial
                  exfalso
                  omega
        · have _q : True := trivial
          refine jx_if_eq (pc_q := 48) (tg := 63) rfl rfl rfl (by decide) (by decide) (fun h485 => ?_) (fun h485 => ?_)
          · have _q := h485
            refine jx_ar (pc_q := 64) (st_q := [.int (i32 (0)), .int (i32 (0)), .int (i32 (1)), .ref 66]) rfl rfl rfl rfl ?_
            refine jx_vr (pc_q := 67) (as := [.int (i32 (1)), .int (i32 (0)), .int (i32 (0))]) (st := []) rfl rfl rfl rfl ⟨rfl, rfl, Nat.le_of_ble_eq_true rfl⟩ rfl rfl (c_refuse (dd := d) (hd := by omega) (hW := hW) (a := 1) (b := 0) (c := 0)   (h_a := ⟨(by decide), (by decide)⟩) (h_b := ⟨(by decide), (by decide)⟩) (h_c := ⟨(by decide), (by decide)⟩)  ) (fun o V_q hq => ?_)
            obtain ⟨G486, A487, r488, th2_489, rfl, rfl, hW490, hF491, b492, e493, q494⟩ := hq
            have hF495 := Fr_tr hF0 hF491 (Fr_sub (by decide)) (Fr_sub (by decide))
            have sf496 : (pg) = 1 → GZ (lk) A487 := (show A487 = A from funext (fun k => hF491.2 k rfl)) ▸ p_5
            have bth2_489 : (0 : Int) ≤ th2_489 ∧ th2_489 ≤ 4 := e493 ▸ hW490.1 0
            refine .inr ⟨_, rfl, ?_⟩
            rcases q494 with ⟨rfl, a497, a498⟩ | ⟨rfl, a499, a500, a501⟩ | ⟨rfl, a502, a503, a504, a505⟩ | ⟨rfl, a506, a507, a508, a509⟩
            · have _q : True := trivial
              refine jx_if_eq (pc_q := 70) (tg := 72) rfl rfl rfl (by decide) (by decide) (fun h510 => ?_) (fun h510 => ?_)
              · have _q := h510
                exact absurd h510 (by omega)
              · have _q := h510
                refine jx_ar (pc_q := 71) (st_q := [.int (i32 (0))]) rfl rfl rfl rfl ?_
                refine jx_rt (v := some (.int (i32 (0)))) rfl rfl rfl rfl rfl rfl ?_
                exact ⟨_, _, _, om, it, rfl, rfl, hW490, hF495, by omega, ((hF491.1 113 rfl).trans (e_om)), ((hF491.1 111 rfl).trans (e_it)), by omega, by omega, by omega, by omega, sf496, trivial⟩
            · have _q : True := trivial
              exfalso
              omega
            · have _q : True := trivial
              exfalso
              omega
            · have _q : True := trivial
              exfalso
              omega
          · have _q := h485
            exact absurd h485 (by omega)
    · have _q := h392
      refine jx_ld (pc_q := 21) (l_q := [(0, .ref 66), (1, .int (i32 (p))), (2, .int (i32 (n)))]) (st_q := [.ref 66, .int (i32 (1)), .ref 66]) rfl (jl_aloadn rfl) ?_
      refine jx_ld (pc_q := 22) (l_q := [(0, .ref 66), (1, .int (i32 (p))), (2, .int (i32 (n)))]) (st_q := [.int (i32 (p)), .ref 66, .int (i32 (1)), .ref 66]) rfl (jl_iloadn rfl) ?_
      refine jx_vr (pc_q := 25) (as := [.int (i32 (p))]) (st := [.int (i32 (1)), .ref 66]) rfl rfl rfl rfl ⟨rfl, rfl, Nat.le_of_ble_eq_true rfl⟩ rfl rfl (c_isCore2 (dd := d) (hd := by omega) (hW := hW) (p := p) (bp := bp) (e_bp := show A 36 (p).toNat = bp from (e_bp))  (h_p := ⟨(Int.le_trans (by decide : (-2147483648 : Int) ≤ -2147483648) h_p.1), (Int.le_trans h_p.2 (by decide : (2147483647 : Int) ≤ 2147483647))⟩)  ) (fun o V_q hq => ?_)
      obtain ⟨r511, rfl, rfl, b512, q513⟩ := hq
      refine .inr ⟨_, rfl, ?_⟩
      rcases q513 with ⟨rfl, a514, a515, a516⟩ | ⟨rfl, a517⟩
      · have _q : True := trivial
        refine jx_if_ne (pc_q := 28) (tg := 32) rfl rfl rfl (by decide) (by decide) (fun h518 => ?_) (fun h518 => ?_)
        · have _q := h518
          refine jx_ar (pc_q := 33) (st_q := [.int (i32 (0)), .int (i32 (1)), .ref 66]) rfl rfl rfl rfl ?_
          refine jx_ld (pc_q := 34) (l_q := [(0, .ref 66), (1, .int (i32 (p))), (2, .int (i32 (n)))]) (st_q := [.ref 66, .int (i32 (0)), .int (i32 (1)), .ref 66]) rfl (jl_aloadn rfl) ?_
          refine jr_get (pc_q := 37) (i := 58) (v := .int (i32 (pg))) rfl rfl (by decide) (rFv_eq (by decide) (show G 58 = pg from (e_pg))) rfl ?_
          refine jx_if_eq (pc_q := 40) (tg := 63) rfl rfl rfl (Int.le_trans (by decide : (-2147483648 : Int) ≤ 0) b_pg.1) (Int.le_trans b_pg.2 (by decide : (1 : Int) ≤ 2147483647)) (fun h519 => ?_) (fun h519 => ?_)
          · have _q := h519
            refine jx_ar (pc_q := 64) (st_q := [.int (i32 (0)), .int (i32 (0)), .int (i32 (1)), .ref 66]) rfl rfl rfl rfl ?_
            refine jx_vr (pc_q := 67) (as := [.int (i32 (1)), .int (i32 (0)), .int (i32 (0))]) (st := []) rfl rfl rfl rfl ⟨rfl, rfl, Nat.le_of_ble_eq_true rfl⟩ rfl rfl (c_refuse (dd := d) (hd := by omega) (hW := hW) (a := 1) (b := 0) (c := 0)   (h_a := ⟨(by decide), (by decide)⟩) (h_b := ⟨(by decide), (by decide)⟩) (h_c := ⟨(by decide), (by decide)⟩)  ) (fun o V_q hq => ?_)
            obtain ⟨G520, A521, r522, th2_523, rfl, rfl, hW524, hF525, b526, e527, q528⟩ := hq
            have hF529 := Fr_tr hF0 hF525 (Fr_sub (by decide)) (Fr_sub (by decide))
            have sf530 : (pg) = 1 → GZ (lk) A521 := (show A521 = A from funext (fun k => hF525.2 k rfl)) ▸ p_5
            have bth2_523 : (0 : Int) ≤ th2_523 ∧ th2_523 ≤ 4 := e527 ▸ hW524.1 0
            refine .inr ⟨_, rfl, ?_⟩
            rcases q528 with ⟨rfl, a531, a532⟩ | ⟨rfl, a533, a534, a535⟩ | ⟨rfl, a536, a537, a538, a539⟩ | ⟨rfl, a540, a541, a542, a543⟩
            · have _q : True := trivial
              refine jx_if_eq (pc_q := 70) (tg := 72) rfl rfl rfl (by decide) (by decide) (fun h544 => ?_) (fun h544 => ?_)
              · have _q := h544
                exact absurd h544 (by omega)
              · have _q := h544
                refine jx_ar (pc_q := 71) (st_q := [.int (i32 (0))]) rfl rfl rfl rfl ?_
                refine jx_rt (v := some (.int (i32 (0)))) rfl rfl rfl rfl rfl rfl ?_
                exact ⟨_, _, _, om, it, rfl, rfl, hW524, hF529, by omega, ((hF525.1 113 rfl).trans (e_om)), ((hF525.1 111 rfl).trans (e_it)), by omega, by omega, by omega, by omega, sf530, trivial⟩
            · have _q : True := trivial
              exfalso
              omega
            · have _q : True := trivial
              exfalso
              omega
            · have _q : True := trivial
              exfalso
              omega
          · have _q := h519
            refine jx_ld (pc_q := 41) (l_q := [(0, .ref 66), (1, .int (i32 (p))), (2, .int (i32 (n)))]) (st_q := [.ref 66, .int (i32 (0)), .int (i32 (1)), .ref 66]) rfl (jl_aloadn rfl) ?_
            refine jx_ld (pc_q := 42) (l_q := [(0, .ref 66), (1, .int (i32 (p))), (2, .int (i32 (n)))]) (st_q := [.int (i32 (p)), .ref 66, .int (i32 (0)), .int (i32 (1)), .ref 66]) rfl (jl_iloadn rfl) ?_
            refine jx_vr (pc_q := 45) (as := [.int (i32 (p))]) (st := [.int (i32 (0)), .int (i32 (1)), .ref 66]) rfl rfl rfl rfl ⟨rfl, rfl, Nat.le_of_ble_eq_true rfl⟩ rfl rfl (c_isCore2 (dd := d) (hd := by omega) (hW := hW) (p := p) (bp := bp) (e_bp := show A 36 (p).toNat = bp from (e_bp))  (h_p := ⟨(Int.le_trans (by decide : (-2147483648 : Int) ≤ -2147483648) h_p.1), (Int.le_trans h_p.2 (by decide : (2147483647 : Int) ≤ 2147483647))⟩)  ) (fun o V_q hq => ?_)
            obtain ⟨r545, rfl, rfl, b546, q547⟩ := hq
            refine .inr ⟨_, rfl, ?_⟩
            rcases q547 with ⟨rfl, a548, a549, a550⟩ | ⟨rfl, a551⟩
            · have _q : True := trivial
              refine jx_if_eq (pc_q := 48) (tg := 63) rfl rfl rfl (by decide) (by decide) (fun h552 => ?_) (fun h552 => ?_)
              · have _q := h552
                exact absurd h552 (by omega)
              · have _q := h552
                refine jx_ld (pc_q := 49) (l_q := [(0, .ref 66), (1, .int (i32 (p))), (2, .int (i32 (n)))]) (st_q := [.int (i32 (n)), .int (i32 (0)), .int (i32 (1)), .ref 66]) rfl (jl_iloadn rfl) ?_
                refine jx_ar (pc_q := 50) (st_q := [.int (i32 (0)), .int (i32 (n)), .int (i32 (0)), .int (i32 (1)), .ref 66]) rfl rfl rfl rfl ?_
                refine jx_ar (pc_q := 53) (st_q := [.int (i32 (5000)), .int (i32 (0)), .int (i32 (n)), .int (i32 (0)), .int (i32 (1)), .ref 66]) rfl rfl rfl rfl ?_
                refine jx_st (pc_q := 56) (as := [.int (i32 (n)), .int (i32 (0)), .int (i32 (5000))]) (st := [.int (i32 (0)), .int (i32 (1)), .ref 66]) rfl rfl ⟨rfl, Nat.le_of_ble_eq_true rfl⟩ rfl rfl rfl (c_in (dd := d) (hd := by omega) (v := n) (a := 0) (b := 5000)   (h_v := ⟨(Int.le_trans (by decide : (-2147483648 : Int) ≤ -2147483648) h_n.1), (Int.le_trans h_n.2 (by decide : (2147483647 : Int) ≤ 2147483647))⟩) (h_a := ⟨(by decide), (by decide)⟩) (h_b := ⟨(by decide), (by decide)⟩)  ) (fun o V_q hq => ?_)
                obtain ⟨r553, rfl, rfl, b554, q555⟩ := hq
                refine .inr ⟨_, rfl, ?_⟩
                rcases q555 with ⟨rfl, a556, a557⟩ | ⟨rfl, a558⟩
                · have _q : True := trivial
                  refine jx_if_ne (pc_q := 59) (tg := 63) rfl rfl rfl (by decide) (by decide) (fun h559 => ?_) (fun h559 => ?_)
                  · have _q := h559
                    refine jx_ar (pc_q := 64) (st_q := [.int (i32 (0)), .int (i32 (0)), .int (i32 (1)), .ref 66]) rfl rfl rfl rfl ?_
                    refine jx_vr (pc_q := 67) (as := [.int (i32 (1)), .int (i32 (0)), .int (i32 (0))]) (st := []) rfl rfl rfl rfl ⟨rfl, rfl, Nat.le_of_ble_eq_true rfl⟩ rfl rfl (c_refuse (dd := d) (hd := by omega) (hW := hW) (a := 1) (b := 0) (c := 0)   (h_a := ⟨(by decide), (by decide)⟩) (h_b := ⟨(by decide), (by decide)⟩) (h_c := ⟨(by decide), (by decide)⟩)  ) (fun o V_q hq => ?_)
                    obtain ⟨G560, A561, r562, th2_563, rfl, rfl, hW564, hF565, b566, e567, q568⟩ := hq
                    have hF569 := Fr_tr hF0 hF565 (Fr_sub (by decide)) (Fr_sub (by decide))
                    have sf570 : (pg) = 1 → GZ (lk) A561 := (show A561 = A from funext (fun k => hF565.2 k rfl)) ▸ p_5
                    have bth2_563 : (0 : Int) ≤ th2_563 ∧ th2_563 ≤ 4 := e567 ▸ hW564.1 0
                    refine .inr ⟨_, rfl, ?_⟩
                    rcases q568 with ⟨rfl, a571, a572⟩ | ⟨rfl, a573, a574, a575⟩ | ⟨rfl, a576, a577, a578, a579⟩ | ⟨rfl, a580, a581, a582, a583⟩
                    · have _q : True := trivial
                      refine jx_if_eq (pc_q := 70) (tg := 72) rfl rfl rfl (by decide) (by decide) (fun h584 => ?_) (fun h584 => ?_)
                      · have _q := h584
                        exact absurd h584 (by omega)
                      · have _q := h584
                        refine jx_ar (pc_q := 71) (st_q := [.int (i32 (0))]) rfl rfl rfl rfl ?_
                        refine jx_rt (v := some (.int (i32 (0)))) rfl rfl rfl rfl rfl rfl ?_
                        exact ⟨_, _, _, om, it, rfl, rfl, hW564, hF569, by omega, ((hF565.1 113 rfl).trans (e_om)), ((hF565.1 111 rfl).trans (e_it)), by omega, by omega, by omega, by omega, sf570, trivial⟩
                    · have _q : True := trivial
                      exfalso
                      omega
                    · have _q : True := trivial
                      exfalso
                      omega
                    · have _q : True := trivial
                      exfalso
                      omega
                  · have _q := h559
                    exact absurd h559 (by omega)
                · have _q : True := trivial
                  refine jx_if_ne (pc_q := 59) (tg := 63) rfl rfl rfl (by decide) (by decide) (fun h585 => ?_) (fun h585 => ?_)
                  · have _q := h585
                    exact absurd h585 (by omega)
                  · have _q := h585
                    refine jx_ar (pc_q := 60) (st_q := [.int (i32 (1)), .int (i32 (0)), .int (i32 (1)), .ref 66]) rfl rfl rfl rfl ?_
                    refine jx_go (tg := 64) rfl rfl ?_
                    refine jx_vr (pc_q := 67) (as := [.int (i32 (1)), .int (i32 (0)), .int (i32 (1))]) (st := []) rfl rfl rfl rfl ⟨rfl, rfl, Nat.le_of_ble_eq_true rfl⟩ rfl rfl (c_refuse (dd := d) (hd := by omega) (hW := hW) (a := 1) (b := 0) (c := 1)   (h_a := ⟨(by decide), (by decide)⟩) (h_b := ⟨(by decide), (by decide)⟩) (h_c := ⟨(by decide), (by decide)⟩)  ) (fun o V_q hq => ?_)
                    obtain ⟨G586, A587, r588, th2_589, rfl, rfl, hW590, hF591, b592, e593, q594⟩ := hq
                    have hF595 := Fr_tr hF0 hF591 (Fr_sub (by decide)) (Fr_sub (by decide))
                    have sf596 : (pg) = 1 → GZ (lk) A587 := (show A587 = A from funext (fun k => hF591.2 k rfl)) ▸ p_5
                    have bth2_589 : (0 : Int) ≤ th2_589 ∧ th2_589 ≤ 4 := e593 ▸ hW590.1 0
                    refine .inr ⟨_, rfl, ?_⟩
                    rcases q594 with ⟨rfl, a597, a598⟩ | ⟨rfl, a599, a600, a601⟩ | ⟨rfl, a602, a603, a604, a605⟩ | ⟨rfl, a606, a607, a608, a609⟩
                    · have _q : True := trivial
                      refine jx_if_eq (pc_q := 70) (tg := 72) rfl rfl rfl (by decide) (by decide) (fun h610 => ?_) (fun h610 => ?_)
                      · have _q := h610
                        exact absurd h610 (by omega)
                      · have _q := h610
                        refine jx_ar (pc_q := 71) (st_q := [.int (i32 (0))]) rfl rfl rfl rfl ?_
                        refine jx_rt (v := some (.int (i32 (0)))) rfl rfl rfl rfl rfl rfl ?_
                        exact ⟨_, _, _, om, it, rfl, rfl, hW590, hF595, by omega, ((hF591.1 113 rfl).trans (e_om)), ((hF591.1 111 rfl).trans (e_it)), by omega, by omega, by omega, by omega, sf596, trivial⟩
                    · have _q : True := trivial
                      exfalso
                      omega
                    · have _q : True := trivial
                      exfalso
                      omega
                    · have _q : True := trivial
                      exfalso
                      omega
            · have _q : True := trivial
              refine jx_if_eq (pc_q := 48) (tg := 63) rfl rfl rfl (by decide) (by decide) (fun h611 => ?_) (fun h611 => ?_)
              · have _q := h611
                refine jx_ar (pc_q := 64) (st_q := [.int (i32 (0)), .int (i32 (0)), .int (i32 (1)), .ref 66]) rfl rfl rfl rfl ?_
                refine jx_vr (pc_q := 67) (as := [.int (i32 (1)), .int (i32 (0)), .int (i32 (0))]) (st := []) rfl rfl rfl rfl ⟨rfl, rfl, Nat.le_of_ble_eq_true rfl⟩ rfl rfl (c_refuse (dd := d) (hd := by omega) (hW := hW) (a := 1) (b := 0) (c := 0)   (h_a := ⟨(by decide), (by decide)⟩) (h_b := ⟨(by decide), (by decide)⟩) (h_c := ⟨(by decide), (by decide)⟩)  ) (fun o V_q hq => ?_)
                obtain ⟨G612, A613, r614, th2_615, rfl, rfl, hW616, hF617, b618, e619, q620⟩ := hq
                have hF621 := Fr_tr hF0 hF617 (Fr_sub (by decide)) (Fr_sub (by decide))
                have sf622 : (pg) = 1 → GZ (lk) A613 := (show A613 = A from funext (fun k => hF617.2 k rfl)) ▸ p_5
                have bth2_615 : (0 : Int) ≤ th2_615 ∧ th2_615 ≤ 4 := e619 ▸ hW616.1 0
                refine .inr ⟨_, rfl, ?_⟩
                rcases q620 with ⟨rfl, a623, a624⟩ | ⟨rfl, a625, a626, a627⟩ | ⟨rfl, a628, a629, a630, a631⟩ | ⟨rfl, a632, a633, a634, a635⟩
                · have _q : True := trivial
                  refine jx_if_eq (pc_q := 70) (tg := 72) rfl rfl rfl (by decide) (by decide) (fun h636 => ?_) (fun h636 => ?_)
                  · have _q := h636
                    exact absurd h636 (by omega)
                  · have _q := h636
                    refine jx_ar (pc_q := 71) (st_q := [.int (i32 (0))]) rfl rfl rfl rfl ?_
                    refine jx_rt (v := some (.int (i32 (0)))) rfl rfl rfl rfl rfl rfl ?_
                    exact ⟨_, _, _, om, it, rfl, rfl, hW616, hF621, by omega, ((hF617.1 113 rfl).trans (e_om)), ((hF617.1 111 rfl).trans (e_it)), by omega, by omega, by omega, by omega, sf622, trivial⟩
                · have _q : True := trivial
                  exfalso
                  omega
                · have _q : True := trivial
                  exfalso
                  omega
                · have _q : True := trivial
                  exfalso
                  omega
              · have _q := h611
                exact absurd h611 (by omega)
        · have _q := h518
          exact absurd h518 (by omega)
      · have _q : True := trivial
        refine jx_if_ne (pc_q := 28) (tg := 32) rfl rfl rfl (by decide) (by decide) (fun h637 => ?_) (fun h637 => ?_)
        · have _q := h637
          exact absurd h637 (by omega)
        · have _q := h637
          refine jx_ar (pc_q := 29) (st_q := [.int (i32 (1)), .int (i32 (1)), .ref 66]) rfl rfl rfl rfl ?_
          refine jx_go (tg := 33) rfl rfl ?_
          refine jx_ld (pc_q := 34) (l_q := [(0, .ref 66), (1, .int (i32 (p))), (2, .int (i32 (n)))]) (st_q := [.ref 66, .int (i32 (1)), .int (i32 (1)), .ref 66]) rfl (jl_aloadn rfl) ?_
          refine jr_get (pc_q := 37) (i := 58) (v := .int (i32 (pg))) rfl rfl (by decide) (rFv_eq (by decide) (show G 58 = pg from (e_pg))) rfl ?_
          refine jx_if_eq (pc_q := 40) (tg := 63) rfl rfl rfl (Int.le_trans (by decide : (-2147483648 : Int) ≤ 0) b_pg.1) (Int.le_trans b_pg.2 (by decide : (1 : Int) ≤ 2147483647)) (fun h638 => ?_) (fun h638 => ?_)
          · have _q := h638
            refine jx_ar (pc_q := 64) (st_q := [.int (i32 (0)), .int (i32 (1)), .int (i32 (1)), .ref 66]) rfl rfl rfl rfl ?_
            refine jx_vr (pc_q := 67) (as := [.int (i32 (1)), .int (i32 (1)), .int (i32 (0))]) (st := []) rfl rfl rfl rfl ⟨rfl, rfl, Nat.le_of_ble_eq_true rfl⟩ rfl rfl (c_refuse (dd := d) (hd := by omega) (hW := hW) (a := 1) (b := 1) (c := 0)   (h_a := ⟨(by decide), (by decide)⟩) (h_b := ⟨(by decide), (by decide)⟩) (h_c := ⟨(by decide), (by decide)⟩)  ) (fun o V_q hq => ?_)
            obtain ⟨G639, A640, r641, th2_642, rfl, rfl, hW643, hF644, b645, e646, q647⟩ := hq
            have hF648 := Fr_tr hF0 hF644 (Fr_sub (by decide)) (Fr_sub (by decide))
            have sf649 : (pg) = 1 → GZ (lk) A640 := (show A640 = A from funext (fun k => hF644.2 k rfl)) ▸ p_5
            have bth2_642 : (0 : Int) ≤ th2_642 ∧ th2_642 ≤ 4 := e646 ▸ hW643.1 0
            refine .inr ⟨_, rfl, ?_⟩
            rcases q647 with ⟨rfl, a650, a651⟩ | ⟨rfl, a652, a653, a654⟩ | ⟨rfl, a655, a656, a657, a658⟩ | ⟨rfl, a659, a660, a661, a662⟩
            · have _q : True := trivial
              refine jx_if_eq (pc_q := 70) (tg := 72) rfl rfl rfl (by decide) (by decide) (fun h663 => ?_) (fun h663 => ?_)
              · have _q := h663
                exact absurd h663 (by omega)
              · have _q := h663
                refine jx_ar (pc_q := 71) (st_q := [.int (i32 (0))]) rfl rfl rfl rfl ?_
                refine jx_rt (v := some (.int (i32 (0)))) rfl rfl rfl rfl rfl rfl ?_
                exact ⟨_, _, _, om, it, rfl, rfl, hW643, hF648, by omega, ((hF644.1 113 rfl).trans (e_om)), ((hF644.1 111 rfl).trans (e_it)), by omega, by omega, by omega, by omega, sf649, trivial⟩
            · have _q : True := trivial
              exfalso
              omega
            · have _q : True := trivial
              exfalso
              omega
            · have _q : True := trivial
              exfalso
              omega
          · have _q := h638
            refine jx_ld (pc_q := 41) (l_q := [(0, .ref 66), (1, .int (i32 (p))), (2, .int (i32 (n)))]) (st_q := [.ref 66, .int (i32 (1)), .int (i32 (1)), .ref 66]) rfl (jl_aloadn rfl) ?_
            refine jx_ld (pc_q := 42) (l_q := [(0, .ref 66), (1, .int (i32 (p))), (2, .int (i32 (n)))]) (st_q := [.int (i32 (p)), .ref 66, .int (i32 (1)), .int (i32 (1)), .ref 66]) rfl (jl_iloadn rfl) ?_
            refine jx_vr (pc_q := 45) (as := [.int (i32 (p))]) (st := [.int (i32 (1)), .int (i32 (1)), .ref 66]) rfl rfl rfl rfl ⟨rfl, rfl, Nat.le_of_ble_eq_true rfl⟩ rfl rfl (c_isCore2 (dd := d) (hd := by omega) (hW := hW) (p := p) (bp := bp) (e_bp := show A 36 (p).toNat = bp from (e_bp))  (h_p := ⟨(Int.le_trans (by decide : (-2147483648 : Int) ≤ -2147483648) h_p.1), (Int.le_trans h_p.2 (by decide : (2147483647 : Int) ≤ 2147483647))⟩)  ) (fun o V_q hq => ?_)
            obtain ⟨r664, rfl, rfl, b665, q666⟩ := hq
            refine .inr ⟨_, rfl, ?_⟩
            rcases q666 with ⟨rfl, a667, a668, a669⟩ | ⟨rfl, a670⟩
            · have _q : True := trivial
              refine jx_if_eq (pc_q := 48) (tg := 63) rfl rfl rfl (by decide) (by decide) (fun h671 => ?_) (fun h671 => ?_)
              · have _q := h671
                exact absurd h671 (by omega)
              · have _q := h671
                refine jx_ld (pc_q := 49) (l_q := [(0, .ref 66), (1, .int (i32 (p))), (2, .int (i32 (n)))]) (st_q := [.int (i32 (n)), .int (i32 (1)), .int (i32 (1)), .ref 66]) rfl (jl_iloadn rfl) ?_
                refine jx_ar (pc_q := 50) (st_q := [.int (i32 (0)), .int (i32 (n)), .int (i32 (1)), .int (i32 (1)), .ref 66]) rfl rfl rfl rfl ?_
                refine jx_ar (pc_q := 53) (st_q := [.int (i32 (5000)), .int (i32 (0)), .int (i32 (n)), .int (i32 (1)), .int (i32 (1)), .ref 66]) rfl rfl rfl rfl ?_
                refine jx_st (pc_q := 56) (as := [.int (i32 (n)), .int (i32 (0)), .int (i32 (5000))]) (st := [.int (i32 (1)), .int (i32 (1)), .ref 66]) rfl rfl ⟨rfl, Nat.le_of_ble_eq_true rfl⟩ rfl rfl rfl (c_in (dd := d) (hd := by omega) (v := n) (a := 0) (b := 5000)   (h_v := ⟨(Int.le_trans (by decide : (-2147483648 : Int) ≤ -2147483648) h_n.1), (Int.le_trans h_n.2 (by decide : (2147483647 : Int) ≤ 2147483647))⟩) (h_a := ⟨(by decide), (by decide)⟩) (h_b := ⟨(by decide), (by decide)⟩)  ) (fun o V_q hq => ?_)
                obtain ⟨r672, rfl, rfl, b673, q674⟩ := hq
                refine .inr ⟨_, rfl, ?_⟩
                rcases q674 with ⟨rfl, a675, a676⟩ | ⟨rfl, a677⟩
                · have _q : True := trivial
                  refine jx_if_ne (pc_q := 59) (tg := 63) rfl rfl rfl (by decide) (by decide) (fun h678 => ?_) (fun h678 => ?_)
                  · have _q := h678
                    refine jx_ar (pc_q := 64) (st_q := [.int (i32 (0)), .int (i32 (1)), .int (i32 (1)), .ref 66]) rfl rfl rfl rfl ?_
                    refine jx_vr (pc_q := 67) (as := [.int (i32 (1)), .int (i32 (1)), .int (i32 (0))]) (st := []) rfl rfl rfl rfl ⟨rfl, rfl, Nat.le_of_ble_eq_true rfl⟩ rfl rfl (c_refuse (dd := d) (hd := by omega) (hW := hW) (a := 1) (b := 1) (c := 0)   (h_a := ⟨(by decide), (by decide)⟩) (h_b := ⟨(by decide), (by decide)⟩) (h_c := ⟨(by decide), (by decide)⟩)  ) (fun o V_q hq => ?_)
                    obtain ⟨G679, A680, r681, th2_682, rfl, rfl, hW683, hF684, b685, e686, q687⟩ := hq
                    have hF688 := Fr_tr hF0 hF684 (Fr_sub (by decide)) (Fr_sub (by decide))
                    have sf689 : (pg) = 1 → GZ (lk) A680 := (show A680 = A from funext (fun k => hF684.2 k rfl)) ▸ p_5
                    have bth2_682 : (0 : Int) ≤ th2_682 ∧ th2_682 ≤ 4 := e686 ▸ hW683.1 0
                    refine .inr ⟨_, rfl, ?_⟩
                    rcases q687 with ⟨rfl, a690, a691⟩ | ⟨rfl, a692, a693, a694⟩ | ⟨rfl, a695, a696, a697, a698⟩ | ⟨rfl, a699, a700, a701, a702⟩
                    · have _q : True := trivial
                      refine jx_if_eq (pc_q := 70) (tg := 72) rfl rfl rfl (by decide) (by decide) (fun h703 => ?_) (fun h703 => ?_)
                      · have _q := h703
                        exact absurd h703 (by omega)
                      · have _q := h703
                        refine jx_ar (pc_q := 71) (st_q := [.int (i32 (0))]) rfl rfl rfl rfl ?_
                        refine jx_rt (v := some (.int (i32 (0)))) rfl rfl rfl rfl rfl rfl ?_
                        exact ⟨_, _, _, om, it, rfl, rfl, hW683, hF688, by omega, ((hF684.1 113 rfl).trans (e_om)), ((hF684.1 111 rfl).trans (e_it)), by omega, by omega, by omega, by omega, sf689, trivial⟩
                    · have _q : True := trivial
                      exfalso
                      omega
                    · have _q : True := trivial
                      exfalso
                      omega
                    · have _q : True := trivial
                      exfalso
                      omega
                  · have _q := h678
                    exact absurd h678 (by omega)
                · have _q : True := trivial
                  refine jx_if_ne (pc_q := 59) (tg := 63) rfl rfl rfl (by decide) (by decide) (fun h704 => ?_) (fun h704 => ?_)
                  · have _q := h704
                    exact absurd h704 (by omega)
                  · have _q := h704
                    refine jx_ar (pc_q := 60) (st_q := [.int (i32 (1)), .int (i32 (1)), .int (i32 (1)), .ref 66]) rfl rfl rfl rfl ?_
                    refine jx_go (tg := 64) rfl rfl ?_
                    refine jx_vr (pc_q := 67) (as := [.int (i32 (1)), .int (i32 (1)), .int (i32 (1))]) (st := []) rfl rfl rfl rfl ⟨rfl, rfl, Nat.le_of_ble_eq_true rfl⟩ rfl rfl (c_refuse (dd := d) (hd := by omega) (hW := hW) (a := 1) (b := 1) (c := 1)   (h_a := ⟨(by decide), (by decide)⟩) (h_b := ⟨(by decide), (by decide)⟩) (h_c := ⟨(by decide), (by decide)⟩)  ) (fun o V_q hq => ?_)
                    obtain ⟨G705, A706, r707, th2_708, rfl, rfl, hW709, hF710, b711, e712, q713⟩ := hq
                    have hF714 := Fr_tr hF0 hF710 (Fr_sub (by decide)) (Fr_sub (by decide))
                    have sf715 : (pg) = 1 → GZ (lk) A706 := (show A706 = A from funext (fun k => hF710.2 k rfl)) ▸ p_5
                    have bth2_708 : (0 : Int) ≤ th2_708 ∧ th2_708 ≤ 4 := e712 ▸ hW709.1 0
                    refine .inr ⟨_, rfl, ?_⟩
                    rcases q713 with ⟨rfl, a716, a717⟩ | ⟨rfl, a718, a719, a720⟩ | ⟨rfl, a721, a722, a723, a724⟩ | ⟨rfl, a725, a726, a727, a728⟩
                    · have _q : True := trivial
                      refine jx_if_eq (pc_q := 70) (tg := 72) rfl rfl rfl (by decide) (by decide) (fun h729 => ?_) (fun h729 => ?_)
                      · have _q := h729
                        exact absurd h729 (by omega)
                      · have _q := h729
                        refine jx_ar (pc_q := 71) (st_q := [.int (i32 (0))]) rfl rfl rfl rfl ?_
                        refine jx_rt (v := some (.int (i32 (0)))) rfl rfl rfl rfl rfl rfl ?_
                        exact ⟨_, _, _, om, it, rfl, rfl, hW709, hF714, by omega, ((hF710.1 113 rfl).trans (e_om)), ((hF710.1 111 rfl).trans (e_it)), by omega, by omega, by omega, by omega, sf715, trivial⟩
                    · have _q : True := trivial
                      exfalso
                      omega
                    · have _q : True := trivial
                      exfalso
                      omega
                    · have _q : True := trivial
                      exfalso
                      omega
            · have _q : True := trivial
              refine jx_if_eq (pc_q := 48) (tg := 63) rfl rfl rfl (by decide) (by decide) (fun h730 => ?_) (fun h730 => ?_)
              · have _q := h730
                refine jx_ar (pc_q := 64) (st_q := [.int (i32 (0)), .int (i32 (1)), .int (i32 (1)), .ref 66]) rfl rfl rfl rfl ?_
                refine jx_vr (pc_q := 67) (as := [.int (i32 (1)), .int (i32 (1)), .int (i32 (0))]) (st := []) rfl rfl rfl rfl ⟨rfl, rfl, Nat.le_of_ble_eq_true rfl⟩ rfl rfl (c_refuse (dd := d) (hd := by omega) (hW := hW) (a := 1) (b := 1) (c := 0)   (h_a := ⟨(by decide), (by decide)⟩) (h_b := ⟨(by decide), (by decide)⟩) (h_c := ⟨(by decide), (by decide)⟩)  ) (fun o V_q hq => ?_)
                obtain ⟨G731, A732, r733, th2_734, rfl, rfl, hW735, hF736, b737, e738, q739⟩ := hq
                have hF740 := Fr_tr hF0 hF736 (Fr_sub (by decide)) (Fr_sub (by decide))
                have sf741 : (pg) = 1 → GZ (lk) A732 := (show A732 = A from funext (fun k => hF736.2 k rfl)) ▸ p_5
                have bth2_734 : (0 : Int) ≤ th2_734 ∧ th2_734 ≤ 4 := e738 ▸ hW735.1 0
                refine .inr ⟨_, rfl, ?_⟩
                rcases q739 with ⟨rfl, a742, a743⟩ | ⟨rfl, a744, a745, a746⟩ | ⟨rfl, a747, a748, a749, a750⟩ | ⟨rfl, a751, a752, a753, a754⟩
                · have _q : True := trivial
                  refine jx_if_eq (pc_q := 70) (tg := 72) rfl rfl rfl (by decide) (by decide) (fun h755 => ?_) (fun h755 => ?_)
                  · have _q := h755
                    exact absurd h755 (by omega)
                  · have _q := h755
                    refine jx_ar (pc_q := 71) (st_q := [.int (i32 (0))]) rfl rfl rfl rfl ?_
                    refine jx_rt (v := some (.int (i32 (0)))) rfl rfl rfl rfl rfl rfl ?_
                    exact ⟨_, _, _, om, it, rfl, rfl, hW735, hF740, by omega, ((hF736.1 113 rfl).trans (e_om)), ((hF736.1 111 rfl).trans (e_it)), by omega, by omega, by omega, by omega, sf741, trivial⟩
                · have _q : True := trivial
                  exfalso
                  omega
                · have _q : True := trivial
                  exfalso
                  omega
                · have _q : True := trivial
                  exfalso
                  omega
              · have _q := h730
                exact absurd h730 (by omega)
set_option maxRecDepth 20000 in
set_option maxHeartbeats 4000000 in
theorem c_beat_at_49 {X : jX} {d : Nat} {c0 c1 : jC} {G : Nat → Int} {A : Nat → Nat → Int} {T : jH} {n : Int} {pg lk : Int} (hd : 8 ≤ d + 1) (hW : Wk G A) (e_pg : G 58 = pg) (e_lk : G 52 = lk) (h_n : (-2147483648 : Int) ≤ n ∧ n ≤ 2147483647) (p_0 : (pg) = 1 → GZ (lk) A) : ∀ (m : Nat) (L : jL) (Gx : Nat → Int) (Ax : Nat → Nat → Int) (went k : Int), (n - k).toNat = m → jGet L 0 = some (.ref 66) → jGet L 1 = some (.int (i32 (n))) → jGet L 2 = some (.int (i32 went)) → jGet L 3 = some (.int (i32 k)) → Wk Gx Ax → Fr [0, 120, 121] [59, 60, 61, 62, 63, 64, 65, 66, 70, 71, 72, 73, 74, 75, 76, 77, 80, 82, 83, 84, 85] G A Gx Ax → ((-2147483648 : Int) ≤ went ∧ went ≤ 2147483647) → ((-2147483648 : Int) ≤ k ∧ k ≤ 2147483647) → (pg = 1) → (0 ≤ k) → (k ≤ n) → (n ≤ 1000) → (0 ≤ went) → (went ≤ 12 * k) → (GZ (lk) Ax) → wj X d jm400 (49, L, [], rV c0 c1 Gx Ax T) (fun o V_q => ∃ (G_q : Nat → Int) (A_q : Nat → Nat → Int) (r : Int), V_q = rV c0 c1 G_q A_q T ∧ o = .inl (some (.int (i32 r))) ∧ Wk G_q A_q ∧ Fr [0, 120, 121] [59, 60, 61, 62, 63, 64, 65, 66, 70, 71, 72, 73, 74, 75, 76, 77, 80, 82, 83, 84, 85] G A G_q A_q ∧ ((-2147483648 : Int) ≤ r ∧ r ≤ 2147483647) ∧ ((pg) = 1 → GZ (lk) A_q) ∧ True) := by
  have hF0 : Fr [0, 120, 121] [59, 60, 61, 62, 63, 64, 65, 66, 70, 71, 72, 73, 74, 75, 76, 77, 80, 82, 83, 84, 85] G A G A := Fr_rf
  have b_pg : (0 : Int) ≤ pg ∧ pg ≤ 1 := e_pg ▸ hW.1 58
  have b_lk : (0 : Int) ≤ lk ∧ lk ≤ 12 := e_lk ▸ hW.1 52
  intro m
  induction m using Nat.strongRecOn with
  | ind m ih49 =>
    intro L Gx Ax went k hm gL_0 gL_1 gL_2 gL_3 hWx hFx rx_went rx_k iv_0 iv_1 iv_2 iv_3 iv_4 iv_5 iv_6
    refine jx_ld (pc_q := 50) (l_q := L) (st_q := [.int (i32 (k))]) rfl (jl_iloadn gL_3) ?_
    refine jx_ld (pc_q := 51) (l_q := L) (st_q := [.int (i32 (n)), .int (i32 (k))]) rfl (jl_iloadn gL_1) ?_
    refine jx_icmp_ge (pc_q := 54) (tg := 67) rfl rfl rfl (Int.le_trans (by decide : (-2147483648 : Int) ≤ -2147483648) rx_k.1) (Int.le_trans rx_k.2 (by decide : (2147483647 : Int) ≤ 2147483647)) (Int.le_trans (by decide : (-2147483648 : Int) ≤ -2147483648) h_n.1) (Int.le_trans h_n.2 (by decide : (2147483647 : Int) ≤ 2147483647)) (fun h1 => ?_) (fun h1 => ?_)
    · have _q := h1
      refine jx_ld (pc_q := 68) (l_q := L) (st_q := [.int (i32 (went))]) rfl (jl_iloadn gL_2) ?_
      refine jx_rt (v := some (.int (i32 (went)))) rfl rfl rfl rfl rfl rfl ?_
      exact ⟨_, _, _, rfl, rfl, hWx, hFx, by omega, (fun _ => iv_6), trivial⟩
    · have _q := h1
      refine jx_ld (pc_q := 55) (l_q := L) (st_q := [.int (i32 (went))]) rfl (jl_iloadn gL_2) ?_
      refine jx_ld (pc_q := 56) (l_q := L) (st_q := [.ref 66, .int (i32 (went))]) rfl (jl_aloadn gL_0) ?_
      refine jx_vr (pc_q := 59) (as := []) (st := [.int (i32 (went))]) rfl rfl rfl rfl ⟨rfl, rfl, Nat.le_of_ble_eq_true rfl⟩ rfl rfl (c_oneBeat (dd := d) (hd := by omega) (hW := hWx)  (lk := lk) (e_lk := show Gx 52 = lk from ((hFx.1 52 rfl).trans (e_lk)))    (p_0 := iv_6)) (fun o V_q hq => ?_)
      obtain ⟨G2, A3, r4, rfl, rfl, hW5, hF6, b7, p8, p9, p10, -⟩ := hq
      have hF12 := Fr_tr hFx hF6 (Fr_sub (by decide)) (Fr_sub (by decide))
      refine .inr ⟨_, rfl, ?_⟩
      refine jx_add (pc_q := 60) rfl rfl ?_
      refine jx_ld (pc_q := 61) (l_q := jSto1 L 2 (.int (i32 ((went + r4))))) (st_q := []) rfl rfl ?_
      obtain ⟨L13, eL13⟩ : ∃ q, q = jSto1 L 2 (.int (i32 ((went + r4)))) := ⟨_, rfl⟩
      rw [← eL13]
      have gL13_0 : jGet L13 0 = some (.ref 66) := eL13 ▸ jg_ne (by decide) gL_0 rfl
      have gL13_1 : jGet L13 1 = some (.int (i32 (n))) := eL13 ▸ jg_ne (by decide) gL_1 rfl
      have gL13_3 : jGet L13 3 = some (.int (i32 (k))) := eL13 ▸ jg_ne (by decide) gL_3 rfl
      have gL13_2 : jGet L13 2 = some (.int (i32 ((went + r4)))) := eL13 ▸ jg_eq
      refine jx_inc (pc_q := 64) (l_q := jSto1 L13 3 (.int (i32 ((k + (1)))))) (x := k) rfl gL13_3 (by decide) rfl rfl ?_
      obtain ⟨L14, eL14⟩ : ∃ q, q = jSto1 L13 3 (.int (i32 ((k + (1))))) := ⟨_, rfl⟩
      rw [← eL14]
      have gL14_0 : jGet L14 0 = some (.ref 66) := eL14 ▸ jg_ne (by decide) gL13_0 rfl
      have gL14_1 : jGet L14 1 = some (.int (i32 (n))) := eL14 ▸ jg_ne (by decide) gL13_1 rfl
      have gL14_2 : jGet L14 2 = some (.int (i32 ((went + r4)))) := eL14 ▸ jg_ne (by decide) gL13_2 rfl
      have gL14_3 : jGet L14 3 = some (.int (i32 ((k + (1))))) := eL14 ▸ jg_eq
      refine jx_go (tg := 49) rfl rfl ?_
      exact ih49 _ (by omega) L14 G2 A3 ((went + r4)) ((k + (1))) rfl gL14_0 gL14_1 gL14_2 gL14_3 hW5 hF12 (by omega) (by omega) (by omega) (by omega) (by omega) (by omega) (by omega) (by omega) (p10)
set_option maxRecDepth 20000 in
set_option maxHeartbeats 4000000 in
theorem c_beat {X : jX} {dd : Nat} {c0 c1 : jC} {G : Nat → Int} {A : Nat → Nat → Int} {T : jH} {n : Int} {pg lk : Int} (hd : 8 ≤ dd) (hW : Wk G A) (e_pg : G 58 = pg) (e_lk : G 52 = lk) (h_n : (-2147483648 : Int) ≤ n ∧ n ≤ 2147483647) (p_0 : (pg) = 1 → GZ (lk) A) : wk X dd 400 [.ref 66, .int (i32 n)] (rV c0 c1 G A T) (fun o V_q => ∃ (G_q : Nat → Int) (A_q : Nat → Nat → Int) (r : Int), V_q = rV c0 c1 G_q A_q T ∧ o = .inl (some (.int (i32 r))) ∧ Wk G_q A_q ∧ Fr [0, 120, 121] [59, 60, 61, 62, 63, 64, 65, 66, 70, 71, 72, 73, 74, 75, 76, 77, 80, 82, 83, 84, 85] G A G_q A_q ∧ ((-2147483648 : Int) ≤ r ∧ r ≤ 2147483647) ∧ ((pg) = 1 → GZ (lk) A_q) ∧ True) := by
  obtain ⟨d, rfl⟩ : ∃ d, dd = d + 1 := ⟨dd - 1, by omega⟩
  refine wk_of (e := jm400) rfl (Nat.le_of_ble_eq_true rfl) ?_
  show wj X d jm400 (0, [(0, .ref 66), (1, .int (i32 (n)))], [], rV c0 c1 G A T) _
  have hF0 : Fr [0, 120, 121] [59, 60, 61, 62, 63, 64, 65, 66, 70, 71, 72, 73, 74, 75, 76, 77, 80, 82, 83, 84, 85] G A G A := Fr_rf
  have b_pg : (0 : Int) ≤ pg ∧ pg ≤ 1 := e_pg ▸ hW.1 58
  have b_lk : (0 : Int) ≤ lk ∧ lk ≤ 12 := e_lk ▸ hW.1 52
  refine jx_ld (pc_q := 1) (l_q := [(0, .ref 66), (1, .int (i32 (n)))]) (st_q := [.ref 66]) rfl (jl_aloadn rfl) ?_
  refine jx_ld (pc_q := 2) (l_q := [(0, .ref 66), (1, .int (i32 (n)))]) (st_q := [.ref 66, .ref 66]) rfl (jl_aloadn rfl) ?_
  refine jr_get (pc_q := 5) (i := 58) (v := .int (i32 (pg))) rfl rfl (by decide) (rFv_eq (by decide) (show G 58 = pg from (e_pg))) rfl ?_
  refine jx_if_ne (pc_q := 8) (tg := 12) rfl rfl rfl (Int.le_trans (by decide : (-2147483648 : Int) ≤ 0) b_pg.1) (Int.le_trans b_pg.2 (by decide : (1 : Int) ≤ 2147483647)) (fun h15 => ?_) (fun h15 => ?_)
  · have _q := h15
    refine jx_ar (pc_q := 13) (st_q := [.int (i32 (0)), .ref 66]) rfl rfl rfl rfl ?_
    refine jx_ld (pc_q := 14) (l_q := [(0, .ref 66), (1, .int (i32 (n)))]) (st_q := [.ref 66, .int (i32 (0)), .ref 66]) rfl (jl_aloadn rfl) ?_
    refine jr_get (pc_q := 17) (i := 58) (v := .int (i32 (pg))) rfl rfl (by decide) (rFv_eq (by decide) (show G 58 = pg from (e_pg))) rfl ?_
    refine jx_if_eq (pc_q := 20) (tg := 35) rfl rfl rfl (Int.le_trans (by decide : (-2147483648 : Int) ≤ 0) b_pg.1) (Int.le_trans b_pg.2 (by decide : (1 : Int) ≤ 2147483647)) (fun h16 => ?_) (fun h16 => ?_)
    · have _q := h16
      refine jx_ar (pc_q := 36) (st_q := [.int (i32 (0)), .int (i32 (0)), .ref 66]) rfl rfl rfl rfl ?_
      refine jx_ar (pc_q := 37) (st_q := [.int (i32 (0)), .int (i32 (0)), .int (i32 (0)), .ref 66]) rfl rfl rfl rfl ?_
      refine jx_vr (pc_q := 40) (as := [.int (i32 (0)), .int (i32 (0)), .int (i32 (0))]) (st := []) rfl rfl rfl rfl ⟨rfl, rfl, Nat.le_of_ble_eq_true rfl⟩ rfl rfl (c_refuse (dd := d) (hd := by omega) (hW := hW) (a := 0) (b := 0) (c := 0)   (h_a := ⟨(by decide), (by decide)⟩) (h_b := ⟨(by decide), (by decide)⟩) (h_c := ⟨(by decide), (by decide)⟩)  ) (fun o V_q hq => ?_)
      obtain ⟨G17, A18, r19, th2_20, rfl, rfl, hW21, hF22, b23, e24, q25⟩ := hq
      have hF26 := Fr_tr hF0 hF22 (Fr_sub (by decide)) (Fr_sub (by decide))
      have sf27 : (pg) = 1 → GZ (lk) A18 := (show A18 = A from funext (fun k => hF22.2 k rfl)) ▸ p_0
      have bth2_20 : (0 : Int) ≤ th2_20 ∧ th2_20 ≤ 4 := e24 ▸ hW21.1 0
      refine .inr ⟨_, rfl, ?_⟩
      rcases q25 with ⟨rfl, a28, a29⟩ | ⟨rfl, a30, a31, a32⟩ | ⟨rfl, a33, a34, a35, a36⟩ | ⟨rfl, a37, a38, a39, a40⟩
      · have _q : True := trivial
        exfalso
        omega
      · have _q : True := trivial
        exfalso
        omega
      · have _q : True := trivial
        exfalso
        omega
      · have _q : True := trivial
        refine jx_if_eq (pc_q := 43) (tg := 45) rfl rfl rfl (by decide) (by decide) (fun h41 => ?_) (fun h41 => ?_)
        · have _q := h41
          refine jx_ar (pc_q := 46) (st_q := [.int (i32 (0))]) rfl rfl rfl rfl ?_
          refine jx_ld (pc_q := 47) (l_q := jSto1 [(0, .ref 66), (1, .int (i32 (n)))] 2 (.int (i32 (0)))) (st_q := []) rfl rfl ?_
          obtain ⟨L42, eL42⟩ : ∃ q, q = jSto1 [(0, .ref 66), (1, .int (i32 (n)))] 2 (.int (i32 (0))) := ⟨_, rfl⟩
          rw [← eL42]
          have gL42_0 : jGet L42 0 = some (.ref 66) := eL42 ▸ jg_ne (by decide) (rfl : jGet [(0, .ref 66), (1, .int (i32 (n)))] 0 = some (.ref 66)) rfl
          have gL42_1 : jGet L42 1 = some (.int (i32 (n))) := eL42 ▸ jg_ne (by decide) (rfl : jGet [(0, .ref 66), (1, .int (i32 (n)))] 1 = some (.int (i32 (n)))) rfl
          have gL42_2 : jGet L42 2 = some (.int (i32 (0))) := eL42 ▸ jg_eq
          refine jx_ar (pc_q := 48) (st_q := [.int (i32 (0))]) rfl rfl rfl rfl ?_
          refine jx_ld (pc_q := 49) (l_q := jSto1 L42 3 (.int (i32 (0)))) (st_q := []) rfl rfl ?_
          obtain ⟨L43, eL43⟩ : ∃ q, q = jSto1 L42 3 (.int (i32 (0))) := ⟨_, rfl⟩
          rw [← eL43]
          have gL43_0 : jGet L43 0 = some (.ref 66) := eL43 ▸ jg_ne (by decide) gL42_0 rfl
          have gL43_1 : jGet L43 1 = some (.int (i32 (n))) := eL43 ▸ jg_ne (by decide) gL42_1 rfl
          have gL43_2 : jGet L43 2 = some (.int (i32 (0))) := eL43 ▸ jg_ne (by decide) gL42_2 rfl
          have gL43_3 : jGet L43 3 = some (.int (i32 (0))) := eL43 ▸ jg_eq
          exact c_beat_at_49 (X := X) (d := d) (c0 := c0) (c1 := c1) (G := G) (A := A) (T := T) (n := n) (pg := pg) (lk := lk) (hd := hd) (hW := hW) (e_pg := e_pg) (e_lk := e_lk) (h_n := h_n) (p_0 := p_0) _ L43 G17 A18 (0) (0) rfl gL43_0 gL43_1 gL43_2 gL43_3 hW21 hF26 (by omega) (by omega) (by omega) (by omega) (by omega) (by omega) (by omega) (by omega) ((sf27 (by omega)))
        · have _q := h41
          exact absurd h41 (by omega)
    · have _q := h16
      refine jx_ld (pc_q := 21) (l_q := [(0, .ref 66), (1, .int (i32 (n)))]) (st_q := [.int (i32 (n)), .int (i32 (0)), .ref 66]) rfl (jl_iloadn rfl) ?_
      refine jx_ar (pc_q := 22) (st_q := [.int (i32 (0)), .int (i32 (n)), .int (i32 (0)), .ref 66]) rfl rfl rfl rfl ?_
      refine jx_ar (pc_q := 25) (st_q := [.int (i32 (1000)), .int (i32 (0)), .int (i32 (n)), .int (i32 (0)), .ref 66]) rfl rfl rfl rfl ?_
      refine jx_st (pc_q := 28) (as := [.int (i32 (n)), .int (i32 (0)), .int (i32 (1000))]) (st := [.int (i32 (0)), .ref 66]) rfl rfl ⟨rfl, Nat.le_of_ble_eq_true rfl⟩ rfl rfl rfl (c_in (dd := d) (hd := by omega) (v := n) (a := 0) (b := 1000)   (h_v := ⟨(Int.le_trans (by decide : (-2147483648 : Int) ≤ -2147483648) h_n.1), (Int.le_trans h_n.2 (by decide : (2147483647 : Int) ≤ 2147483647))⟩) (h_a := ⟨(by decide), (by decide)⟩) (h_b := ⟨(by decide), (by decide)⟩)  ) (fun o V_q hq => ?_)
      obtain ⟨r44, rfl, rfl, b45, q46⟩ := hq
      refine .inr ⟨_, rfl, ?_⟩
      rcases q46 with ⟨rfl, a47, a48⟩ | ⟨rfl, a49⟩
      · have _q : True := trivial
        refine jx_if_ne (pc_q := 31) (tg := 35) rfl rfl rfl (by decide) (by decide) (fun h50 => ?_) (fun h50 => ?_)
        · have _q := h50
          refine jx_ar (pc_q := 36) (st_q := [.int (i32 (0)), .int (i32 (0)), .ref 66]) rfl rfl rfl rfl ?_
          refine jx_ar (pc_q := 37) (st_q := [.int (i32 (0)), .int (i32 (0)), .int (i32 (0)), .ref 66]) rfl rfl rfl rfl ?_
          refine jx_vr (pc_q := 40) (as := [.int (i32 (0)), .int (i32 (0)), .int (i32 (0))]) (st := []) rfl rfl rfl rfl ⟨rfl, rfl, Nat.le_of_ble_eq_true rfl⟩ rfl rfl (c_refuse (dd := d) (hd := by omega) (hW := hW) (a := 0) (b := 0) (c := 0)   (h_a := ⟨(by decide), (by decide)⟩) (h_b := ⟨(by decide), (by decide)⟩) (h_c := ⟨(by decide), (by decide)⟩)  ) (fun o V_q hq => ?_)
          obtain ⟨G51, A52, r53, th2_54, rfl, rfl, hW55, hF56, b57, e58, q59⟩ := hq
          have hF60 := Fr_tr hF0 hF56 (Fr_sub (by decide)) (Fr_sub (by decide))
          have sf61 : (pg) = 1 → GZ (lk) A52 := (show A52 = A from funext (fun k => hF56.2 k rfl)) ▸ p_0
          have bth2_54 : (0 : Int) ≤ th2_54 ∧ th2_54 ≤ 4 := e58 ▸ hW55.1 0
          refine .inr ⟨_, rfl, ?_⟩
          rcases q59 with ⟨rfl, a62, a63⟩ | ⟨rfl, a64, a65, a66⟩ | ⟨rfl, a67, a68, a69, a70⟩ | ⟨rfl, a71, a72, a73, a74⟩
          · have _q : True := trivial
            exfalso
            omega
          · have _q : True := trivial
            exfalso
            omega
          · have _q : True := trivial
            exfalso
            omega
          · have _q : True := trivial
            refine jx_if_eq (pc_q := 43) (tg := 45) rfl rfl rfl (by decide) (by decide) (fun h75 => ?_) (fun h75 => ?_)
            · have _q := h75
              refine jx_ar (pc_q := 46) (st_q := [.int (i32 (0))]) rfl rfl rfl rfl ?_
              refine jx_ld (pc_q := 47) (l_q := jSto1 [(0, .ref 66), (1, .int (i32 (n)))] 2 (.int (i32 (0)))) (st_q := []) rfl rfl ?_
              obtain ⟨L76, eL76⟩ : ∃ q, q = jSto1 [(0, .ref 66), (1, .int (i32 (n)))] 2 (.int (i32 (0))) := ⟨_, rfl⟩
              rw [← eL76]
              have gL76_0 : jGet L76 0 = some (.ref 66) := eL76 ▸ jg_ne (by decide) (rfl : jGet [(0, .ref 66), (1, .int (i32 (n)))] 0 = some (.ref 66)) rfl
              have gL76_1 : jGet L76 1 = some (.int (i32 (n))) := eL76 ▸ jg_ne (by decide) (rfl : jGet [(0, .ref 66), (1, .int (i32 (n)))] 1 = some (.int (i32 (n)))) rfl
              have gL76_2 : jGet L76 2 = some (.int (i32 (0))) := eL76 ▸ jg_eq
              refine jx_ar (pc_q := 48) (st_q := [.int (i32 (0))]) rfl rfl rfl rfl ?_
              refine jx_ld (pc_q := 49) (l_q := jSto1 L76 3 (.int (i32 (0)))) (st_q := []) rfl rfl ?_
              obtain ⟨L77, eL77⟩ : ∃ q, q = jSto1 L76 3 (.int (i32 (0))) := ⟨_, rfl⟩
              rw [← eL77]
              have gL77_0 : jGet L77 0 = some (.ref 66) := eL77 ▸ jg_ne (by decide) gL76_0 rfl
              have gL77_1 : jGet L77 1 = some (.int (i32 (n))) := eL77 ▸ jg_ne (by decide) gL76_1 rfl
              have gL77_2 : jGet L77 2 = some (.int (i32 (0))) := eL77 ▸ jg_ne (by decide) gL76_2 rfl
              have gL77_3 : jGet L77 3 = some (.int (i32 (0))) := eL77 ▸ jg_eq
              exact c_beat_at_49 (X := X) (d := d) (c0 := c0) (c1 := c1) (G := G) (A := A) (T := T) (n := n) (pg := pg) (lk := lk) (hd := hd) (hW := hW) (e_pg := e_pg) (e_lk := e_lk) (h_n := h_n) (p_0 := p_0) _ L77 G51 A52 (0) (0) rfl gL77_0 gL77_1 gL77_2 gL77_3 hW55 hF60 (by omega) (by omega) (by omega) (by omega) (by omega) (by omega) (by omega) (by omega) ((sf61 (by omega)))
            · have _q := h75
              exact absurd h75 (by omega)
        · have _q := h50
          exact absurd h50 (by omega)
      · have _q : True := trivial
        refine jx_if_ne (pc_q := 31) (tg := 35) rfl rfl rfl (by decide) (by decide) (fun h78 => ?_) (fun h78 => ?_)
        · have _q := h78
          exact absurd h78 (by omega)
        · have _q := h78
          refine jx_ar (pc_q := 32) (st_q := [.int (i32 (1)), .int (i32 (0)), .ref 66]) rfl rfl rfl rfl ?_
          refine jx_go (tg := 36) rfl rfl ?_
          refine jx_ar (pc_q := 37) (st_q := [.int (i32 (0)), .int (i32 (1)), .int (i32 (0)), .ref 66]) rfl rfl rfl rfl ?_
          refine jx_vr (pc_q := 40) (as := [.int (i32 (0)), .int (i32 (1)), .int (i32 (0))]) (st := []) rfl rfl rfl rfl ⟨rfl, rfl, Nat.le_of_ble_eq_true rfl⟩ rfl rfl (c_refuse (dd := d) (hd := by omega) (hW := hW) (a := 0) (b := 1) (c := 0)   (h_a := ⟨(by decide), (by decide)⟩) (h_b := ⟨(by decide), (by decide)⟩) (h_c := ⟨(by decide), (by decide)⟩)  ) (fun o V_q hq => ?_)
          obtain ⟨G79, A80, r81, th2_82, rfl, rfl, hW83, hF84, b85, e86, q87⟩ := hq
          have hF88 := Fr_tr hF0 hF84 (Fr_sub (by decide)) (Fr_sub (by decide))
          have sf89 : (pg) = 1 → GZ (lk) A80 := (show A80 = A from funext (fun k => hF84.2 k rfl)) ▸ p_0
          have bth2_82 : (0 : Int) ≤ th2_82 ∧ th2_82 ≤ 4 := e86 ▸ hW83.1 0
          refine .inr ⟨_, rfl, ?_⟩
          rcases q87 with ⟨rfl, a90, a91⟩ | ⟨rfl, a92, a93, a94⟩ | ⟨rfl, a95, a96, a97, a98⟩ | ⟨rfl, a99, a100, a101, a102⟩
          · have _q : True := trivial
            exfalso
            omega
          · have _q : True := trivial
            refine jx_if_eq (pc_q := 43) (tg := 45) rfl rfl rfl (by decide) (by decide) (fun h103 => ?_) (fun h103 => ?_)
            · have _q := h103
              exact absurd h103 (by omega)
            · have _q := h103
              refine jx_ar (pc_q := 44) (st_q := [.int (i32 (0))]) rfl rfl rfl rfl ?_
              refine jx_rt (v := some (.int (i32 (0)))) rfl rfl rfl rfl rfl rfl ?_
              exact ⟨_, _, _, rfl, rfl, hW83, hF88, by omega, sf89, trivial⟩
          · have _q : True := trivial
            exfalso
            omega
          · have _q : True := trivial
            exfalso
            omega
  · have _q := h15
    refine jx_ar (pc_q := 9) (st_q := [.int (i32 (1)), .ref 66]) rfl rfl rfl rfl ?_
    refine jx_go (tg := 13) rfl rfl ?_
    refine jx_ld (pc_q := 14) (l_q := [(0, .ref 66), (1, .int (i32 (n)))]) (st_q := [.ref 66, .int (i32 (1)), .ref 66]) rfl (jl_aloadn rfl) ?_
    refine jr_get (pc_q := 17) (i := 58) (v := .int (i32 (pg))) rfl rfl (by decide) (rFv_eq (by decide) (show G 58 = pg from (e_pg))) rfl ?_
    refine jx_if_eq (pc_q := 20) (tg := 35) rfl rfl rfl (Int.le_trans (by decide : (-2147483648 : Int) ≤ 0) b_pg.1) (Int.le_trans b_pg.2 (by decide : (1 : Int) ≤ 2147483647)) (fun h104 => ?_) (fun h104 => ?_)
    · have _q := h104
      refine jx_ar (pc_q := 36) (st_q := [.int (i32 (0)), .int (i32 (1)), .ref 66]) rfl rfl rfl rfl ?_
      refine jx_ar (pc_q := 37) (st_q := [.int (i32 (0)), .int (i32 (0)), .int (i32 (1)), .ref 66]) rfl rfl rfl rfl ?_
      refine jx_vr (pc_q := 40) (as := [.int (i32 (1)), .int (i32 (0)), .int (i32 (0))]) (st := []) rfl rfl rfl rfl ⟨rfl, rfl, Nat.le_of_ble_eq_true rfl⟩ rfl rfl (c_refuse (dd := d) (hd := by omega) (hW := hW) (a := 1) (b := 0) (c := 0)   (h_a := ⟨(by decide), (by decide)⟩) (h_b := ⟨(by decide), (by decide)⟩) (h_c := ⟨(by decide), (by decide)⟩)  ) (fun o V_q hq => ?_)
      obtain ⟨G105, A106, r107, th2_108, rfl, rfl, hW109, hF110, b111, e112, q113⟩ := hq
      have hF114 := Fr_tr hF0 hF110 (Fr_sub (by decide)) (Fr_sub (by decide))
      have sf115 : (pg) = 1 → GZ (lk) A106 := (show A106 = A from funext (fun k => hF110.2 k rfl)) ▸ p_0
      have bth2_108 : (0 : Int) ≤ th2_108 ∧ th2_108 ≤ 4 := e112 ▸ hW109.1 0
      refine .inr ⟨_, rfl, ?_⟩
      rcases q113 with ⟨rfl, a116, a117⟩ | ⟨rfl, a118, a119, a120⟩ | ⟨rfl, a121, a122, a123, a124⟩ | ⟨rfl, a125, a126, a127, a128⟩
      · have _q : True := trivial
        refine jx_if_eq (pc_q := 43) (tg := 45) rfl rfl rfl (by decide) (by decide) (fun h129 => ?_) (fun h129 => ?_)
        · have _q := h129
          exact absurd h129 (by omega)
        · have _q := h129
          refine jx_ar (pc_q := 44) (st_q := [.int (i32 (0))]) rfl rfl rfl rfl ?_
          refine jx_rt (v := some (.int (i32 (0)))) rfl rfl rfl rfl rfl rfl ?_
          exact ⟨_, _, _, rfl, rfl, hW109, hF114, by omega, sf115, trivial⟩
      · have _q : True := trivial
        exfalso
        omega
      · have _q : True := trivial
        exfalso
        omega
      · have _q : True := trivial
        exfalso
        omega
    · have _q := h104
      refine jx_ld (pc_q := 21) (l_q := [(0, .ref 66), (1, .int (i32 (n)))]) (st_q := [.int (i32 (n)), .int (i32 (1)), .ref 66]) rfl (jl_iloadn rfl) ?_
      refine jx_ar (pc_q := 22) (st_q := [.int (i32 (0)), .int (i32 (n)), .int (i32 (1)), .ref 66]) rfl rfl rfl rfl ?_
      refine jx_ar (pc_q := 25) (st_q := [.int (i32 (1000)), .int (i32 (0)), .int (i32 (n)), .int (i32 (1)), .ref 66]) rfl rfl rfl rfl ?_
      refine jx_st (pc_q := 28) (as := [.int (i32 (n)), .int (i32 (0)), .int (i32 (1000))]) (st := [.int (i32 (1)), .ref 66]) rfl rfl ⟨rfl, Nat.le_of_ble_eq_true rfl⟩ rfl rfl rfl (c_in (dd := d) (hd := by omega) (v := n) (a := 0) (b := 1000)   (h_v := ⟨(Int.le_trans (by decide : (-2147483648 : Int) ≤ -2147483648) h_n.1), (Int.le_trans h_n.2 (by decide : (2147483647 : Int) ≤ 2147483647))⟩) (h_a := ⟨(by decide), (by decide)⟩) (h_b := ⟨(by decide), (by decide)⟩)  ) (fun o V_q hq => ?_)
      obtain ⟨r130, rfl, rfl, b131, q132⟩ := hq
      refine .inr ⟨_, rfl, ?_⟩
      rcases q132 with ⟨rfl, a133, a134⟩ | ⟨rfl, a135⟩
      · have _q : True := trivial
        refine jx_if_ne (pc_q := 31) (tg := 35) rfl rfl rfl (by decide) (by decide) (fun h136 => ?_) (fun h136 => ?_)
        · have _q := h136
          refine jx_ar (pc_q := 36) (st_q := [.int (i32 (0)), .int (i32 (1)), .ref 66]) rfl rfl rfl rfl ?_
          refine jx_ar (pc_q := 37) (st_q := [.int (i32 (0)), .int (i32 (0)), .int (i32 (1)), .ref 66]) rfl rfl rfl rfl ?_
          refine jx_vr (pc_q := 40) (as := [.int (i32 (1)), .int (i32 (0)), .int (i32 (0))]) (st := []) rfl rfl rfl rfl ⟨rfl, rfl, Nat.le_of_ble_eq_true rfl⟩ rfl rfl (c_refuse (dd := d) (hd := by omega) (hW := hW) (a := 1) (b := 0) (c := 0)   (h_a := ⟨(by decide), (by decide)⟩) (h_b := ⟨(by decide), (by decide)⟩) (h_c := ⟨(by decide), (by decide)⟩)  ) (fun o V_q hq => ?_)
          obtain ⟨G137, A138, r139, th2_140, rfl, rfl, hW141, hF142, b143, e144, q145⟩ := hq
          have hF146 := Fr_tr hF0 hF142 (Fr_sub (by decide)) (Fr_sub (by decide))
          have sf147 : (pg) = 1 → GZ (lk) A138 := (show A138 = A from funext (fun k => hF142.2 k rfl)) ▸ p_0
          have bth2_140 : (0 : Int) ≤ th2_140 ∧ th2_140 ≤ 4 := e144 ▸ hW141.1 0
          refine .inr ⟨_, rfl, ?_⟩
          rcases q145 with ⟨rfl, a148, a149⟩ | ⟨rfl, a150, a151, a152⟩ | ⟨rfl, a153, a154, a155, a156⟩ | ⟨rfl, a157, a158, a159, a160⟩
          · have _q : True := trivial
            refine jx_if_eq (pc_q := 43) (tg := 45) rfl rfl rfl (by decide) (by decide) (fun h161 => ?_) (fun h161 => ?_)
            · have _q := h161
              exact absurd h161 (by omega)
            · have _q := h161
              refine jx_ar (pc_q := 44) (st_q := [.int (i32 (0))]) rfl rfl rfl rfl ?_
              refine jx_rt (v := some (.int (i32 (0)))) rfl rfl rfl rfl rfl rfl ?_
              exact ⟨_, _, _, rfl, rfl, hW141, hF146, by omega, sf147, trivial⟩
          · have _q : True := trivial
            exfalso
            omega
          · have _q : True := trivial
            exfalso
            omega
          · have _q : True := trivial
            exfalso
            omega
        · have _q := h136
          exact absurd h136 (by omega)
      · have _q : True := trivial
        refine jx_if_ne (pc_q := 31) (tg := 35) rfl rfl rfl (by decide) (by decide) (fun h162 => ?_) (fun h162 => ?_)
        · have _q := h162
          exact absurd h162 (by omega)
        · have _q := h162
          refine jx_ar (pc_q := 32) (st_q := [.int (i32 (1)), .int (i32 (1)), .ref 66]) rfl rfl rfl rfl ?_
          refine jx_go (tg := 36) rfl rfl ?_
          refine jx_ar (pc_q := 37) (st_q := [.int (i32 (0)), .int (i32 (1)), .int (i32 (1)), .ref 66]) rfl rfl rfl rfl ?_
          refine jx_vr (pc_q := 40) (as := [.int (i32 (1)), .int (i32 (1)), .int (i32 (0))]) (st := []) rfl rfl rfl rfl ⟨rfl, rfl, Nat.le_of_ble_eq_true rfl⟩ rfl rfl (c_refuse (dd := d) (hd := by omega) (hW := hW) (a := 1) (b := 1) (c := 0)   (h_a := ⟨(by decide), (by decide)⟩) (h_b := ⟨(by decide), (by decide)⟩) (h_c := ⟨(by decide), (by decide)⟩)  ) (fun o V_q hq => ?_)
          obtain ⟨G163, A164, r165, th2_166, rfl, rfl, hW167, hF168, b169, e170, q171⟩ := hq
          have hF172 := Fr_tr hF0 hF168 (Fr_sub (by decide)) (Fr_sub (by decide))
          have sf173 : (pg) = 1 → GZ (lk) A164 := (show A164 = A from funext (fun k => hF168.2 k rfl)) ▸ p_0
          have bth2_166 : (0 : Int) ≤ th2_166 ∧ th2_166 ≤ 4 := e170 ▸ hW167.1 0
          refine .inr ⟨_, rfl, ?_⟩
          rcases q171 with ⟨rfl, a174, a175⟩ | ⟨rfl, a176, a177, a178⟩ | ⟨rfl, a179, a180, a181, a182⟩ | ⟨rfl, a183, a184, a185, a186⟩
          · have _q : True := trivial
            refine jx_if_eq (pc_q := 43) (tg := 45) rfl rfl rfl (by decide) (by decide) (fun h187 => ?_) (fun h187 => ?_)
            · have _q := h187
              exact absurd h187 (by omega)
            · have _q := h187
              refine jx_ar (pc_q := 44) (st_q := [.int (i32 (0))]) rfl rfl rfl rfl ?_
              refine jx_rt (v := some (.int (i32 (0)))) rfl rfl rfl rfl rfl rfl ?_
              exact ⟨_, _, _, rfl, rfl, hW167, hF172, by omega, sf173, trivial⟩
          · have _q : True := trivial
            exfalso
            omega
          · have _q : True := trivial
            exfalso
            omega
          · have _q : True := trivial
            exfalso
            omega
set_option maxRecDepth 20000 in
set_option maxHeartbeats 4000000 in
theorem c_rounds_at_47 {X : jX} {d : Nat} {c0 c1 : jC} {G : Nat → Int} {A : Nat → Nat → Int} {T : jH} {n : Int} {pg lk it im om : Int} (hd : 10 ≤ d + 1) (hW : Wk G A) (e_pg : G 58 = pg) (e_lk : G 52 = lk) (e_it : G 111 = it) (e_im : G 110 = im) (e_om : G 113 = om) (h_n : (-2147483648 : Int) ≤ n ∧ n ≤ 2147483647) (p_0 : 0 ≤ it) (p_1 : it ≤ im) (p_2 : im ≤ 200) (p_3 : 0 ≤ om) (p_4 : om ≤ 1900000000) (p_5 : (pg) = 1 → GZ (lk) A) : ∀ (m : Nat) (L : jL) (Gx : Nat → Int) (Ax : Nat → Nat → Int) (k om1 it1 : Int), (n - k).toNat = m → jGet L 0 = some (.ref 66) → jGet L 1 = some (.int (i32 (n))) → jGet L 2 = some (.int (i32 k)) → Wk Gx Ax → Fr [0, 111, 113, 120, 121] [59, 60, 61, 62, 63, 64, 65, 66, 67, 68, 69, 70, 71, 72, 73, 74, 75, 76, 77, 79, 80, 81, 82, 83, 84, 85] G A Gx Ax → Gx 113 = om1 → Gx 111 = it1 → ((-2147483648 : Int) ≤ k ∧ k ≤ 2147483647) → (0 ≤ k) → (k ≤ n) → (n ≤ 5000) → (om1 ≤ om + 6 * k) → (pg = 1) → (om ≤ om1) → (0 ≤ it1) → (it ≤ it1) → (it1 ≤ im) → (GZ (lk) Ax) → wj X d jm401 (47, L, [], rV c0 c1 Gx Ax T) (fun o V_q => ∃ (G_q : Nat → Int) (A_q : Nat → Nat → Int) (r : Int) (om2 : Int) (it2 : Int), V_q = rV c0 c1 G_q A_q T ∧ o = .inl (some (.int (i32 r))) ∧ Wk G_q A_q ∧ Fr [0, 111, 113, 120, 121] [59, 60, 61, 62, 63, 64, 65, 66, 67, 68, 69, 70, 71, 72, 73, 74, 75, 76, 77, 79, 80, 81, 82, 83, 84, 85] G A G_q A_q ∧ ((-2147483648 : Int) ≤ r ∧ r ≤ 2147483647) ∧ G_q 113 = om2 ∧ G_q 111 = it2 ∧ (om ≤ om2) ∧ (om2 ≤ om + 30000) ∧ (it ≤ it2) ∧ (it2 ≤ im) ∧ ((pg) = 1 → GZ (lk) A_q) ∧ True) := by
  have hF0 : Fr [0, 111, 113, 120, 121] [59, 60, 61, 62, 63, 64, 65, 66, 67, 68, 69, 70, 71, 72, 73, 74, 75, 76, 77, 79, 80, 81, 82, 83, 84, 85] G A G A := Fr_rf
  have b_pg : (0 : Int) ≤ pg ∧ pg ≤ 1 := e_pg ▸ hW.1 58
  have b_lk : (0 : Int) ≤ lk ∧ lk ≤ 12 := e_lk ▸ hW.1 52
  have b_it : (-2147483648 : Int) ≤ it ∧ it ≤ 2147483647 := e_it ▸ hW.1 111
  have b_im : (-2147483648 : Int) ≤ im ∧ im ≤ 2147483647 := e_im ▸ hW.1 110
  have b_om : (-2147483648 : Int) ≤ om ∧ om ≤ 2147483647 := e_om ▸ hW.1 113
  intro m
  induction m using Nat.strongRecOn with
  | ind m ih47 =>
    intro L Gx Ax k om1 it1 hm gL_0 gL_1 gL_2 hWx hFx ex_om1 ex_it1 rx_k iv_0 iv_1 iv_2 iv_3 iv_4 iv_5 iv_6 iv_7 iv_8 iv_9
    have b_om1 : (-2147483648 : Int) ≤ om1 ∧ om1 ≤ 2147483647 := ex_om1 ▸ hWx.1 113
    have b_it1 : (-2147483648 : Int) ≤ it1 ∧ it1 ≤ 2147483647 := ex_it1 ▸ hWx.1 111
    have at_61 : ∀ (m : Nat) (L : jL) (Gx : Nat → Int) (Ax : Nat → Nat → Int) (p om3 it3 : Int), (6 - p).toNat = m → jGet L 0 = some (.ref 66) → jGet L 1 = some (.int (i32 (n))) → jGet L 2 = some (.int (i32 (k))) → jGet L 3 = some (.int (i32 p)) → Wk Gx Ax → Fr [0, 111, 113, 120, 121] [59, 60, 61, 62, 63, 64, 65, 66, 67, 68, 69, 70, 71, 72, 73, 74, 75, 76, 77, 79, 80, 81, 82, 83, 84, 85] G A Gx Ax → Gx 113 = om3 → Gx 111 = it3 → ((-2147483648 : Int) ≤ p ∧ p ≤ 2147483647) → (k < n) → (0 ≤ p) → (p ≤ 6) → (om ≤ om3) → (om3 ≤ om + 6 * k + p) → (0 ≤ it3) → (it ≤ it3) → (it3 ≤ im) → (GZ (lk) Ax) → wj X d jm401 (61, L, [], rV c0 c1 Gx Ax T) (fun o V_q => ∃ (G_q : Nat → Int) (A_q : Nat → Nat → Int) (r : Int) (om2 : Int) (it2 : Int), V_q = rV c0 c1 G_q A_q T ∧ o = .inl (some (.int (i32 r))) ∧ Wk G_q A_q ∧ Fr [0, 111, 113, 120, 121] [59, 60, 61, 62, 63, 64, 65, 66, 67, 68, 69, 70, 71, 72, 73, 74, 75, 76, 77, 79, 80, 81, 82, 83, 84, 85] G A G_q A_q ∧ ((-2147483648 : Int) ≤ r ∧ r ≤ 2147483647) ∧ G_q 113 = om2 ∧ G_q 111 = it2 ∧ (om ≤ om2) ∧ (om2 ≤ om + 30000) ∧ (it ≤ it2) ∧ (it2 ≤ im) ∧ ((pg) = 1 → GZ (lk) A_q) ∧ True) := by
      intro m
      induction m using Nat.strongRecOn with
      | ind m ih61 =>
        intro L Gx Ax p om3 it3 hm gL_0 gL_1 gL_2 gL_3 hWx hFx ex_om3 ex_it3 rx_p iv_0 iv_1 iv_2 iv_3 iv_4 iv_5 iv_6 iv_7 iv_8
        have b_om3 : (-2147483648 : Int) ≤ om3 ∧ om3 ≤ 2147483647 := ex_om3 ▸ hWx.1 113
        have b_it3 : (-2147483648 : Int) ≤ it3 ∧ it3 ≤ 2147483647 := ex_it3 ▸ hWx.1 111
        refine jx_ld (pc_q := 62) (l_q := L) (st_q := [.int (i32 (p))]) rfl (jl_iloadn gL_3) ?_
        refine jx_ar (pc_q := 64) (st_q := [.int (i32 (6)), .int (i32 (p))]) rfl rfl rfl rfl ?_
        refine jx_icmp_ge (pc_q := 67) (tg := 97) rfl rfl rfl (Int.le_trans (by decide : (-2147483648 : Int) ≤ -2147483648) rx_p.1) (Int.le_trans rx_p.2 (by decide : (2147483647 : Int) ≤ 2147483647)) (by decide) (by decide) (fun h1 => ?_) (fun h1 => ?_)
        · have _q := h1
          refine jx_ld (pc_q := 98) (l_q := L) (st_q := [.ref 66]) rfl (jl_aloadn gL_0) ?_
          refine jx_vr (pc_q := 101) (as := []) (st := []) rfl rfl rfl rfl ⟨rfl, rfl, Nat.le_of_ble_eq_true rfl⟩ rfl rfl (c_oneBeat (dd := d) (hd := by omega) (hW := hWx)  (lk := lk) (e_lk := show Gx 52 = lk from ((hFx.1 52 rfl).trans (e_lk)))    (p_0 := iv_8)) (fun o V_q hq => ?_)
          obtain ⟨G2, A3, r4, rfl, rfl, hW5, hF6, b7, p8, p9, p10, -⟩ := hq
          have hF12 := Fr_tr hFx hF6 (Fr_sub (by decide)) (Fr_sub (by decide))
          refine .inr ⟨_, rfl, ?_⟩
          refine jx_ar (pc_q := 102) (st_q := []) rfl rfl rfl rfl ?_
          refine jx_inc (pc_q := 105) (l_q := jSto1 L 2 (.int (i32 ((k + (1)))))) (x := k) rfl gL_2 (by decide) rfl rfl ?_
          obtain ⟨L13, eL13⟩ : ∃ q, q = jSto1 L 2 (.int (i32 ((k + (1))))) := ⟨_, rfl⟩
          rw [← eL13]
          have gL13_0 : jGet L13 0 = some (.ref 66) := eL13 ▸ jg_ne (by decide) gL_0 rfl
          have gL13_1 : jGet L13 1 = some (.int (i32 (n))) := eL13 ▸ jg_ne (by decide) gL_1 rfl
          have gL13_3 : jGet L13 3 = some (.int (i32 (p))) := eL13 ▸ jg_ne (by decide) gL_3 rfl
          have gL13_2 : jGet L13 2 = some (.int (i32 ((k + (1))))) := eL13 ▸ jg_eq
          refine jx_go (tg := 47) rfl rfl ?_
          exact ih47 _ (by omega) L13 G2 A3 ((k + (1))) (om3) (it3) rfl gL13_0 gL13_1 gL13_2 hW5 hF12 (((hF6.1 113 rfl).trans (ex_om3))) (((hF6.1 111 rfl).trans (ex_it3))) (by omega) (by omega) (by omega) (by omega) (by omega) (by omega) (by omega) (by omega) (by omega) (by omega) (p10)
        · have _q := h1
          refine jx_ld (pc_q := 68) (l_q := L) (st_q := [.ref 66]) rfl (jl_aloadn gL_0) ?_
          refine jr_get (pc_q := 71) (i := 55) (v := .ref 103) rfl rfl (by decide) rfl rfl ?_
          refine jx_ld (pc_q := 72) (l_q := L) (st_q := [.int (i32 (p)), .ref 103]) rfl (jl_iloadn gL_3) ?_
          have b14 : (-2147483648 : Int) ≤ A 36 (p).toNat ∧ A 36 (p).toNat ≤ 2147483647 := hW.2 36 _
          refine jr_ldv (pc_q := 73) (i := 36) (m := 6) (z := p) (y := A 36 (p).toNat) rfl (by decide) rfl (by decide) (by omega) (by omega) rfl (show Ax 36 (p).toNat = A 36 (p).toNat from (congrFun (hFx.2 36 rfl) _)) ?_
          refine jx_if_le (pc_q := 76) (tg := 88) rfl rfl rfl (Int.le_trans (by decide : (-2147483648 : Int) ≤ -2147483648) b14.1) (Int.le_trans b14.2 (by decide : (2147483647 : Int) ≤ 2147483647)) (fun h15 => ?_) (fun h15 => ?_)
          · have _q := h15
            refine jx_ar (pc_q := 89) (st_q := [.int (i32 (0))]) rfl rfl rfl rfl ?_
            refine jx_ld (pc_q := 91) (l_q := jSto1 L 4 (.int (i32 (0)))) (st_q := []) rfl rfl ?_
            obtain ⟨L16, eL16⟩ : ∃ q, q = jSto1 L 4 (.int (i32 (0))) := ⟨_, rfl⟩
            rw [← eL16]
            have gL16_0 : jGet L16 0 = some (.ref 66) := eL16 ▸ jg_ne (by decide) gL_0 rfl
            have gL16_1 : jGet L16 1 = some (.int (i32 (n))) := eL16 ▸ jg_ne (by decide) gL_1 rfl
            have gL16_2 : jGet L16 2 = some (.int (i32 (k))) := eL16 ▸ jg_ne (by decide) gL_2 rfl
            have gL16_3 : jGet L16 3 = some (.int (i32 (p))) := eL16 ▸ jg_ne (by decide) gL_3 rfl
            have gL16_4 : jGet L16 4 = some (.int (i32 (0))) := eL16 ▸ jg_eq
            refine jx_inc (pc_q := 94) (l_q := jSto1 L16 3 (.int (i32 ((p + (1)))))) (x := p) rfl gL16_3 (by decide) rfl rfl ?_
            obtain ⟨L17, eL17⟩ : ∃ q, q = jSto1 L16 3 (.int (i32 ((p + (1))))) := ⟨_, rfl⟩
            rw [← eL17]
            have gL17_0 : jGet L17 0 = some (.ref 66) := eL17 ▸ jg_ne (by decide) gL16_0 rfl
            have gL17_1 : jGet L17 1 = some (.int (i32 (n))) := eL17 ▸ jg_ne (by decide) gL16_1 rfl
            have gL17_2 : jGet L17 2 = some (.int (i32 (k))) := eL17 ▸ jg_ne (by decide) gL16_2 rfl
            have gL17_4 : jGet L17 4 = some (.int (i32 (0))) := eL17 ▸ jg_ne (by decide) gL16_4 rfl
            have gL17_3 : jGet L17 3 = some (.int (i32 ((p + (1))))) := eL17 ▸ jg_eq
            refine jx_go (tg := 61) rfl rfl ?_
            exact ih61 _ (by omega) L17 Gx Ax ((p + (1))) (om3) (it3) rfl gL17_0 gL17_1 gL17_2 gL17_3 hWx hFx ((ex_om3)) ((ex_it3)) (by omega) (by omega) (by omega) (by omega) (by omega) (by omega) (by omega) (by omega) (by omega) (iv_8)
          · have _q := h15
            refine jx_ld (pc_q := 77) (l_q := L) (st_q := [.ref 66]) rfl (jl_aloadn gL_0) ?_
            refine jx_ld (pc_q := 78) (l_q := L) (st_q := [.int (i32 (p)), .ref 66]) rfl (jl_iloadn gL_3) ?_
            refine jx_vr (pc_q := 81) (as := [.int (i32 (p))]) (st := []) rfl rfl rfl rfl ⟨rfl, rfl, Nat.le_of_ble_eq_true rfl⟩ rfl rfl (c_oneByte_g (dd := d) (hd := by omega) (hW := hWx) (p := p) (lk := lk) (e_lk := show Gx 52 = lk from ((hFx.1 52 rfl).trans (e_lk))) (it := it3) (e_it := show Gx 111 = it3 from (ex_it3)) (im := im) (e_im := show Gx 110 = im from ((hFx.1 110 rfl).trans (e_im))) (om := om3) (e_om := show Gx 113 = om3 from (ex_om3))  (h_p := ⟨(Int.le_trans (by decide : (-2147483648 : Int) ≤ -2147483648) rx_p.1), (Int.le_trans rx_p.2 (by decide : (2147483647 : Int) ≤ 2147483647))⟩)  (p_0 := by omega) (p_1 := by omega) (p_2 := by omega) (p_3 := by omega) (p_4 := by omega) (p_5 := by omega) (p_6 := by omega) (p_7 := iv_8)) (fun o V_q hq => ?_)
            obtain ⟨G18, A19, r20, om2_21, it2_22, rfl, rfl, hW23, hF24, b25, e26, e27, p28, p29, p30, p31, p32, -⟩ := hq
            have hF34 := Fr_tr hFx hF24 (Fr_sub (by decide)) (Fr_sub (by decide))
            have bom2_21 : (-2147483648 : Int) ≤ om2_21 ∧ om2_21 ≤ 2147483647 := e26 ▸ hW23.1 113
            have bit2_22 : (-2147483648 : Int) ≤ it2_22 ∧ it2_22 ≤ 2147483647 := e27 ▸ hW23.1 111
            refine .inr ⟨_, rfl, ?_⟩
            refine jx_if_eq (pc_q := 84) (tg := 88) rfl rfl rfl (Int.le_trans (by decide : (-2147483648 : Int) ≤ 0) b25.1) (Int.le_trans b25.2 (by decide : (1 : Int) ≤ 2147483647)) (fun h35 => ?_) (fun h35 => ?_)
            · have _q := h35
              refine jx_ar (pc_q := 89) (st_q := [.int (i32 (0))]) rfl rfl rfl rfl ?_
              refine jx_ld (pc_q := 91) (l_q := jSto1 L 4 (.int (i32 (0)))) (st_q := []) rfl rfl ?_
              obtain ⟨L36, eL36⟩ : ∃ q, q = jSto1 L 4 (.int (i32 (0))) := ⟨_, rfl⟩
              rw [← eL36]
              have gL36_0 : jGet L36 0 = some (.ref 66) := eL36 ▸ jg_ne (by decide) gL_0 rfl
              have gL36_1 : jGet L36 1 = some (.int (i32 (n))) := eL36 ▸ jg_ne (by decide) gL_1 rfl
              have gL36_2 : jGet L36 2 = some (.int (i32 (k))) := eL36 ▸ jg_ne (by decide) gL_2 rfl
              have gL36_3 : jGet L36 3 = some (.int (i32 (p))) := eL36 ▸ jg_ne (by decide) gL_3 rfl
              have gL36_4 : jGet L36 4 = some (.int (i32 (0))) := eL36 ▸ jg_eq
              refine jx_inc (pc_q := 94) (l_q := jSto1 L36 3 (.int (i32 ((p + (1)))))) (x := p) rfl gL36_3 (by decide) rfl rfl ?_
              obtain ⟨L37, eL37⟩ : ∃ q, q = jSto1 L36 3 (.int (i32 ((p + (1))))) := ⟨_, rfl⟩
              rw [← eL37]
              have gL37_0 : jGet L37 0 = some (.ref 66) := eL37 ▸ jg_ne (by decide) gL36_0 rfl
              have gL37_1 : jGet L37 1 = some (.int (i32 (n))) := eL37 ▸ jg_ne (by decide) gL36_1 rfl
              have gL37_2 : jGet L37 2 = some (.int (i32 (k))) := eL37 ▸ jg_ne (by decide) gL36_2 rfl
              have gL37_4 : jGet L37 4 = some (.int (i32 (0))) := eL37 ▸ jg_ne (by decide) gL36_4 rfl
              have gL37_3 : jGet L37 3 = some (.int (i32 ((p + (1))))) := eL37 ▸ jg_eq
              refine jx_go (tg := 61) rfl rfl ?_
              exact ih61 _ (by omega) L37 G18 A19 ((p + (1))) (om2_21) (it2_22) rfl gL37_0 gL37_1 gL37_2 gL37_3 hW23 hF34 ((e26)) ((e27)) (by omega) (by omega) (by omega) (by omega) (by omega) (by omega) (by omega) (by omega) (by omega) (p32)
            · have _q := h35
              refine jx_ar (pc_q := 85) (st_q := [.int (i32 (1))]) rfl rfl rfl rfl ?_
              refine jx_go (tg := 89) rfl rfl ?_
              refine jx_ld (pc_q := 91) (l_q := jSto1 L 4 (.int (i32 (1)))) (st_q := []) rfl rfl ?_
              obtain ⟨L38, eL38⟩ : ∃ q, q = jSto1 L 4 (.int (i32 (1))) := ⟨_, rfl⟩
              rw [← eL38]
              have gL38_0 : jGet L38 0 = some (.ref 66) := eL38 ▸ jg_ne (by decide) gL_0 rfl
              have gL38_1 : jGet L38 1 = some (.int (i32 (n))) := eL38 ▸ jg_ne (by decide) gL_1 rfl
              have gL38_2 : jGet L38 2 = some (.int (i32 (k))) := eL38 ▸ jg_ne (by decide) gL_2 rfl
              have gL38_3 : jGet L38 3 = some (.int (i32 (p))) := eL38 ▸ jg_ne (by decide) gL_3 rfl
              have gL38_4 : jGet L38 4 = some (.int (i32 (1))) := eL38 ▸ jg_eq
              refine jx_inc (pc_q := 94) (l_q := jSto1 L38 3 (.int (i32 ((p + (1)))))) (x := p) rfl gL38_3 (by decide) rfl rfl ?_
              obtain ⟨L39, eL39⟩ : ∃ q, q = jSto1 L38 3 (.int (i32 ((p + (1))))) := ⟨_, rfl⟩
              rw [← eL39]
              have gL39_0 : jGet L39 0 = some (.ref 66) := eL39 ▸ jg_ne (by decide) gL38_0 rfl
              have gL39_1 : jGet L39 1 = some (.int (i32 (n))) := eL39 ▸ jg_ne (by decide) gL38_1 rfl
              have gL39_2 : jGet L39 2 = some (.int (i32 (k))) := eL39 ▸ jg_ne (by decide) gL38_2 rfl
              have gL39_4 : jGet L39 4 = some (.int (i32 (1))) := eL39 ▸ jg_ne (by decide) gL38_4 rfl
              have gL39_3 : jGet L39 3 = some (.int (i32 ((p + (1))))) := eL39 ▸ jg_eq
              refine jx_go (tg := 61) rfl rfl ?_
              exact ih61 _ (by omega) L39 G18 A19 ((p + (1))) (om2_21) (it2_22) rfl gL39_0 gL39_1 gL39_2 gL39_3 hW23 hF34 ((e26)) ((e27)) (by omega) (by omega) (by omega) (by omega) (by omega) (by omega) (by omega) (by omega) (by omega) (p32)
    refine jx_ld (pc_q := 48) (l_q := L) (st_q := [.int (i32 (k))]) rfl (jl_iloadn gL_2) ?_
    refine jx_ld (pc_q := 49) (l_q := L) (st_q := [.int (i32 (n)), .int (i32 (k))]) rfl (jl_iloadn gL_1) ?_
    refine jx_icmp_ge (pc_q := 52) (tg := 108) rfl rfl rfl (Int.le_trans (by decide : (-2147483648 : Int) ≤ -2147483648) rx_k.1) (Int.le_trans rx_k.2 (by decide : (2147483647 : Int) ≤ 2147483647)) (Int.le_trans (by decide : (-2147483648 : Int) ≤ -2147483648) h_n.1) (Int.le_trans h_n.2 (by decide : (2147483647 : Int) ≤ 2147483647)) (fun h40 => ?_) (fun h40 => ?_)
    · have _q := h40
      refine jx_ld (pc_q := 109) (l_q := L) (st_q := [.int (i32 (k))]) rfl (jl_iloadn gL_2) ?_
      refine jx_rt (v := some (.int (i32 (k)))) rfl rfl rfl rfl rfl rfl ?_
      exact ⟨_, _, _, om1, it1, rfl, rfl, hWx, hFx, by omega, (ex_om1), (ex_it1), by omega, by omega, by omega, by omega, (fun _ => iv_9), trivial⟩
    · have _q := h40
      refine jx_ld (pc_q := 53) (l_q := L) (st_q := [.ref 66]) rfl (jl_aloadn gL_0) ?_
      refine jx_vr (pc_q := 56) (as := []) (st := []) rfl rfl rfl rfl ⟨rfl, rfl, Nat.le_of_ble_eq_true rfl⟩ rfl rfl (c_find2 (dd := d) (hd := by omega) (hW := hWx)  (lk := lk) (e_lk := show Gx 52 = lk from ((hFx.1 52 rfl).trans (e_lk)))    ) (fun o V_q hq => ?_)
      obtain ⟨r41, rfl, rfl, b42, p43, p44, -⟩ := hq
      refine .inr ⟨_, rfl, ?_⟩
      refine jx_if_ne (pc_q := 59) (tg := 108) rfl rfl rfl (Int.le_trans (by decide : (-2147483648 : Int) ≤ -2147483648) b42.1) (Int.le_trans b42.2 (by decide : (2147483647 : Int) ≤ 2147483647)) (fun h46 => ?_) (fun h46 => ?_)
      · have _q := h46
        refine jx_ld (pc_q := 109) (l_q := L) (st_q := [.int (i32 (k))]) rfl (jl_iloadn gL_2) ?_
        refine jx_rt (v := some (.int (i32 (k)))) rfl rfl rfl rfl rfl rfl ?_
        exact ⟨_, _, _, om1, it1, rfl, rfl, hWx, hFx, by omega, (ex_om1), (ex_it1), by omega, by omega, by omega, by omega, (fun _ => iv_9), trivial⟩
      · have _q := h46
        refine jx_ar (pc_q := 60) (st_q := [.int (i32 (0))]) rfl rfl rfl rfl ?_
        refine jx_ld (pc_q := 61) (l_q := jSto1 L 3 (.int (i32 (0)))) (st_q := []) rfl rfl ?_
        obtain ⟨L47, eL47⟩ : ∃ q, q = jSto1 L 3 (.int (i32 (0))) := ⟨_, rfl⟩
        rw [← eL47]
        have gL47_0 : jGet L47 0 = some (.ref 66) := eL47 ▸ jg_ne (by decide) gL_0 rfl
        have gL47_1 : jGet L47 1 = some (.int (i32 (n))) := eL47 ▸ jg_ne (by decide) gL_1 rfl
        have gL47_2 : jGet L47 2 = some (.int (i32 (k))) := eL47 ▸ jg_ne (by decide) gL_2 rfl
        have gL47_3 : jGet L47 3 = some (.int (i32 (0))) := eL47 ▸ jg_eq
        exact at_61 _ L47 Gx Ax (0) (om1) (it1) rfl gL47_0 gL47_1 gL47_2 gL47_3 hWx hFx ((ex_om1)) ((ex_it1)) (by omega) (by omega) (by omega) (by omega) (by omega) (by omega) (by omega) (by omega) (by omega) (iv_9)
set_option maxRecDepth 20000 in
set_option maxHeartbeats 4000000 in
theorem c_rounds {X : jX} {dd : Nat} {c0 c1 : jC} {G : Nat → Int} {A : Nat → Nat → Int} {T : jH} {n : Int} {pg lk it im om : Int} (hd : 10 ≤ dd) (hW : Wk G A) (e_pg : G 58 = pg) (e_lk : G 52 = lk) (e_it : G 111 = it) (e_im : G 110 = im) (e_om : G 113 = om) (h_n : (-2147483648 : Int) ≤ n ∧ n ≤ 2147483647) (p_0 : 0 ≤ it) (p_1 : it ≤ im) (p_2 : im ≤ 200) (p_3 : 0 ≤ om) (p_4 : om ≤ 1900000000) (p_5 : (pg) = 1 → GZ (lk) A) : wk X dd 401 [.ref 66, .int (i32 n)] (rV c0 c1 G A T) (fun o V_q => ∃ (G_q : Nat → Int) (A_q : Nat → Nat → Int) (r : Int) (om2 : Int) (it2 : Int), V_q = rV c0 c1 G_q A_q T ∧ o = .inl (some (.int (i32 r))) ∧ Wk G_q A_q ∧ Fr [0, 111, 113, 120, 121] [59, 60, 61, 62, 63, 64, 65, 66, 67, 68, 69, 70, 71, 72, 73, 74, 75, 76, 77, 79, 80, 81, 82, 83, 84, 85] G A G_q A_q ∧ ((-2147483648 : Int) ≤ r ∧ r ≤ 2147483647) ∧ G_q 113 = om2 ∧ G_q 111 = it2 ∧ (om ≤ om2) ∧ (om2 ≤ om + 30000) ∧ (it ≤ it2) ∧ (it2 ≤ im) ∧ ((pg) = 1 → GZ (lk) A_q) ∧ True) := by
  obtain ⟨d, rfl⟩ : ∃ d, dd = d + 1 := ⟨dd - 1, by omega⟩
  refine wk_of (e := jm401) rfl (Nat.le_of_ble_eq_true rfl) ?_
  show wj X d jm401 (0, [(0, .ref 66), (1, .int (i32 (n)))], [], rV c0 c1 G A T) _
  have hF0 : Fr [0, 111, 113, 120, 121] [59, 60, 61, 62, 63, 64, 65, 66, 67, 68, 69, 70, 71, 72, 73, 74, 75, 76, 77, 79, 80, 81, 82, 83, 84, 85] G A G A := Fr_rf
  have b_pg : (0 : Int) ≤ pg ∧ pg ≤ 1 := e_pg ▸ hW.1 58
  have b_lk : (0 : Int) ≤ lk ∧ lk ≤ 12 := e_lk ▸ hW.1 52
  have b_it : (-2147483648 : Int) ≤ it ∧ it ≤ 2147483647 := e_it ▸ hW.1 111
  have b_im : (-2147483648 : Int) ≤ im ∧ im ≤ 2147483647 := e_im ▸ hW.1 110
  have b_om : (-2147483648 : Int) ≤ om ∧ om ≤ 2147483647 := e_om ▸ hW.1 113
  refine jx_ld (pc_q := 1) (l_q := [(0, .ref 66), (1, .int (i32 (n)))]) (st_q := [.ref 66]) rfl (jl_aloadn rfl) ?_
  refine jx_ld (pc_q := 2) (l_q := [(0, .ref 66), (1, .int (i32 (n)))]) (st_q := [.ref 66, .ref 66]) rfl (jl_aloadn rfl) ?_
  refine jr_get (pc_q := 5) (i := 58) (v := .int (i32 (pg))) rfl rfl (by decide) (rFv_eq (by decide) (show G 58 = pg from (e_pg))) rfl ?_
  refine jx_if_ne (pc_q := 8) (tg := 12) rfl rfl rfl (Int.le_trans (by decide : (-2147483648 : Int) ≤ 0) b_pg.1) (Int.le_trans b_pg.2 (by decide : (1 : Int) ≤ 2147483647)) (fun h48 => ?_) (fun h48 => ?_)
  · have _q := h48
    refine jx_ar (pc_q := 13) (st_q := [.int (i32 (0)), .ref 66]) rfl rfl rfl rfl ?_
    refine jx_ld (pc_q := 14) (l_q := [(0, .ref 66), (1, .int (i32 (n)))]) (st_q := [.ref 66, .int (i32 (0)), .ref 66]) rfl (jl_aloadn rfl) ?_
    refine jr_get (pc_q := 17) (i := 58) (v := .int (i32 (pg))) rfl rfl (by decide) (rFv_eq (by decide) (show G 58 = pg from (e_pg))) rfl ?_
    refine jx_if_eq (pc_q := 20) (tg := 35) rfl rfl rfl (Int.le_trans (by decide : (-2147483648 : Int) ≤ 0) b_pg.1) (Int.le_trans b_pg.2 (by decide : (1 : Int) ≤ 2147483647)) (fun h49 => ?_) (fun h49 => ?_)
    · have _q := h49
      refine jx_ar (pc_q := 36) (st_q := [.int (i32 (0)), .int (i32 (0)), .ref 66]) rfl rfl rfl rfl ?_
      refine jx_ar (pc_q := 37) (st_q := [.int (i32 (0)), .int (i32 (0)), .int (i32 (0)), .ref 66]) rfl rfl rfl rfl ?_
      refine jx_vr (pc_q := 40) (as := [.int (i32 (0)), .int (i32 (0)), .int (i32 (0))]) (st := []) rfl rfl rfl rfl ⟨rfl, rfl, Nat.le_of_ble_eq_true rfl⟩ rfl rfl (c_refuse (dd := d) (hd := by omega) (hW := hW) (a := 0) (b := 0) (c := 0)   (h_a := ⟨(by decide), (by decide)⟩) (h_b := ⟨(by decide), (by decide)⟩) (h_c := ⟨(by decide), (by decide)⟩)  ) (fun o V_q hq => ?_)
      obtain ⟨G50, A51, r52, th2_53, rfl, rfl, hW54, hF55, b56, e57, q58⟩ := hq
      have hF59 := Fr_tr hF0 hF55 (Fr_sub (by decide)) (Fr_sub (by decide))
      have sf60 : (pg) = 1 → GZ (lk) A51 := (show A51 = A from funext (fun k => hF55.2 k rfl)) ▸ p_5
      have bth2_53 : (0 : Int) ≤ th2_53 ∧ th2_53 ≤ 4 := e57 ▸ hW54.1 0
      refine .inr ⟨_, rfl, ?_⟩
      rcases q58 with ⟨rfl, a61, a62⟩ | ⟨rfl, a63, a64, a65⟩ | ⟨rfl, a66, a67, a68, a69⟩ | ⟨rfl, a70, a71, a72, a73⟩
      · have _q : True := trivial
        exfalso
        omega
      · have _q : True := trivial
        exfalso
        omega
      · have _q : True := trivial
        exfalso
        omega
      · have _q : True := trivial
        refine jx_if_eq (pc_q := 43) (tg := 45) rfl rfl rfl (by decide) (by decide) (fun h74 => ?_) (fun h74 => ?_)
        · have _q := h74
          refine jx_ar (pc_q := 46) (st_q := [.int (i32 (0))]) rfl rfl rfl rfl ?_
          refine jx_ld (pc_q := 47) (l_q := jSto1 [(0, .ref 66), (1, .int (i32 (n)))] 2 (.int (i32 (0)))) (st_q := []) rfl rfl ?_
          obtain ⟨L75, eL75⟩ : ∃ q, q = jSto1 [(0, .ref 66), (1, .int (i32 (n)))] 2 (.int (i32 (0))) := ⟨_, rfl⟩
          rw [← eL75]
          have gL75_0 : jGet L75 0 = some (.ref 66) := eL75 ▸ jg_ne (by decide) (rfl : jGet [(0, .ref 66), (1, .int (i32 (n)))] 0 = some (.ref 66)) rfl
          have gL75_1 : jGet L75 1 = some (.int (i32 (n))) := eL75 ▸ jg_ne (by decide) (rfl : jGet [(0, .ref 66), (1, .int (i32 (n)))] 1 = some (.int (i32 (n)))) rfl
          have gL75_2 : jGet L75 2 = some (.int (i32 (0))) := eL75 ▸ jg_eq
          exact c_rounds_at_47 (X := X) (d := d) (c0 := c0) (c1 := c1) (G := G) (A := A) (T := T) (n := n) (pg := pg) (lk := lk) (it := it) (im := im) (om := om) (hd := hd) (hW := hW) (e_pg := e_pg) (e_lk := e_lk) (e_it := e_it) (e_im := e_im) (e_om := e_om) (h_n := h_n) (p_0 := p_0) (p_1 := p_1) (p_2 := p_2) (p_3 := p_3) (p_4 := p_4) (p_5 := p_5) _ L75 G50 A51 (0) (om) (it) rfl gL75_0 gL75_1 gL75_2 hW54 hF59 (((hF55.1 113 rfl).trans (e_om))) (((hF55.1 111 rfl).trans (e_it))) (by omega) (by omega) (by omega) (by omega) (by omega) (by omega) (by omega) (by omega) (by omega) (by omega) ((sf60 (by omega)))
        · have _q := h74
          exact absurd h74 (by omega)
    · have _q := h49
      refine jx_ld (pc_q := 21) (l_q := [(0, .ref 66), (1, .int (i32 (n)))]) (st_q := [.int (i32 (n)), .int (i32 (0)), .ref 66]) rfl (jl_iloadn rfl) ?_
      refine jx_ar (pc_q := 22) (st_q := [.int (i32 (0)), .int (i32 (n)), .int (i32 (0)), .ref 66]) rfl rfl rfl rfl ?_
      refine jx_ar (pc_q := 25) (st_q := [.int (i32 (5000)), .int (i32 (0)), .int (i32 (n)), .int (i32 (0)), .ref 66]) rfl rfl rfl rfl ?_
      refine jx_st (pc_q := 28) (as := [.int (i32 (n)), .int (i32 (0)), .int (i32 (5000))]) (st := [.int (i32 (0)), .ref 66]) rfl rfl ⟨rfl, Nat.le_of_ble_eq_true rfl⟩ rfl rfl rfl (c_in (dd := d) (hd := by omega) (v := n) (a := 0) (b := 5000)   (h_v := ⟨(Int.le_trans (by decide : (-2147483648 : Int) ≤ -2147483648) h_n.1), (Int.le_trans h_n.2 (by decide : (2147483647 : Int) ≤ 2147483647))⟩) (h_a := ⟨(by decide), (by decide)⟩) (h_b := ⟨(by decide), (by decide)⟩)  ) (fun o V_q hq => ?_)
      obtain ⟨r76, rfl, rfl, b77, q78⟩ := hq
      refine .inr ⟨_, rfl, ?_⟩
      rcases q78 with ⟨rfl, a79, a80⟩ | ⟨rfl, a81⟩
      · have _q : True := trivial
        refine jx_if_ne (pc_q := 31) (tg := 35) rfl rfl rfl (by decide) (by decide) (fun h82 => ?_) (fun h82 => ?_)
        · have _q := h82
          refine jx_ar (pc_q := 36) (st_q := [.int (i32 (0)), .int (i32 (0)), .ref 66]) rfl rfl rfl rfl ?_
          refine jx_ar (pc_q := 37) (st_q := [.int (i32 (0)), .int (i32 (0)), .int (i32 (0)), .ref 66]) rfl rfl rfl rfl ?_
          refine jx_vr (pc_q := 40) (as := [.int (i32 (0)), .int (i32 (0)), .int (i32 (0))]) (st := []) rfl rfl rfl rfl ⟨rfl, rfl, Nat.le_of_ble_eq_true rfl⟩ rfl rfl (c_refuse (dd := d) (hd := by omega) (hW := hW) (a := 0) (b := 0) (c := 0)   (h_a := ⟨(by decide), (by decide)⟩) (h_b := ⟨(by decide), (by decide)⟩) (h_c := ⟨(by decide), (by decide)⟩)  ) (fun o V_q hq => ?_)
          obtain ⟨G83, A84, r85, th2_86, rfl, rfl, hW87, hF88, b89, e90, q91⟩ := hq
          have hF92 := Fr_tr hF0 hF88 (Fr_sub (by decide)) (Fr_sub (by decide))
          have sf93 : (pg) = 1 → GZ (lk) A84 := (show A84 = A from funext (fun k => hF88.2 k rfl)) ▸ p_5
          have bth2_86 : (0 : Int) ≤ th2_86 ∧ th2_86 ≤ 4 := e90 ▸ hW87.1 0
          refine .inr ⟨_, rfl, ?_⟩
          rcases q91 with ⟨rfl, a94, a95⟩ | ⟨rfl, a96, a97, a98⟩ | ⟨rfl, a99, a100, a101, a102⟩ | ⟨rfl, a103, a104, a105, a106⟩
          · have _q : True := trivial
            exfalso
            omega
          · have _q : True := trivial
            exfalso
            omega
          · have _q : True := trivial
            exfalso
            omega
          · have _q : True := trivial
            refine jx_if_eq (pc_q := 43) (tg := 45) rfl rfl rfl (by decide) (by decide) (fun h107 => ?_) (fun h107 => ?_)
            · have _q := h107
              refine jx_ar (pc_q := 46) (st_q := [.int (i32 (0))]) rfl rfl rfl rfl ?_
              refine jx_ld (pc_q := 47) (l_q := jSto1 [(0, .ref 66), (1, .int (i32 (n)))] 2 (.int (i32 (0)))) (st_q := []) rfl rfl ?_
              obtain ⟨L108, eL108⟩ : ∃ q, q = jSto1 [(0, .ref 66), (1, .int (i32 (n)))] 2 (.int (i32 (0))) := ⟨_, rfl⟩
              rw [← eL108]
              have gL108_0 : jGet L108 0 = some (.ref 66) := eL108 ▸ jg_ne (by decide) (rfl : jGet [(0, .ref 66), (1, .int (i32 (n)))] 0 = some (.ref 66)) rfl
              have gL108_1 : jGet L108 1 = some (.int (i32 (n))) := eL108 ▸ jg_ne (by decide) (rfl : jGet [(0, .ref 66), (1, .int (i32 (n)))] 1 = some (.int (i32 (n)))) rfl
              have gL108_2 : jGet L108 2 = some (.int (i32 (0))) := eL108 ▸ jg_eq
              exact c_rounds_at_47 (X := X) (d := d) (c0 := c0) (c1 := c1) (G := G) (A := A) (T := T) (n := n) (pg := pg) (lk := lk) (it := it) (im := im) (om := om) (hd := hd) (hW := hW) (e_pg := e_pg) (e_lk := e_lk) (e_it := e_it) (e_im := e_im) (e_om := e_om) (h_n := h_n) (p_0 := p_0) (p_1 := p_1) (p_2 := p_2) (p_3 := p_3) (p_4 := p_4) (p_5 := p_5) _ L108 G83 A84 (0) (om) (it) rfl gL108_0 gL108_1 gL108_2 hW87 hF92 (((hF88.1 113 rfl).trans (e_om))) (((hF88.1 111 rfl).trans (e_it))) (by omega) (by omega) (by omega) (by omega) (by omega) (by omega) (by omega) (by omega) (by omega) (by omega) ((sf93 (by omega)))
            · have _q := h107
              exact absurd h107 (by omega)
        · have _q := h82
          exact absurd h82 (by omega)
      · have _q : True := trivial
        refine jx_if_ne (pc_q := 31) (tg := 35) rfl rfl rfl (by decide) (by decide) (fun h109 => ?_) (fun h109 => ?_)
        · have _q := h109
          exact absurd h109 (by omega)
        · have _q := h109
          refine jx_ar (pc_q := 32) (st_q := [.int (i32 (1)), .int (i32 (0)), .ref 66]) rfl rfl rfl rfl ?_
          refine jx_go (tg := 36) rfl rfl ?_
          refine jx_ar (pc_q := 37) (st_q := [.int (i32 (0)), .int (i32 (1)), .int (i32 (0)), .ref 66]) rfl rfl rfl rfl ?_
          refine jx_vr (pc_q := 40) (as := [.int (i32 (0)), .int (i32 (1)), .int (i32 (0))]) (st := []) rfl rfl rfl rfl ⟨rfl, rfl, Nat.le_of_ble_eq_true rfl⟩ rfl rfl (c_refuse (dd := d) (hd := by omega) (hW := hW) (a := 0) (b := 1) (c := 0)   (h_a := ⟨(by decide), (by decide)⟩) (h_b := ⟨(by decide), (by decide)⟩) (h_c := ⟨(by decide), (by decide)⟩)  ) (fun o V_q hq => ?_)
          obtain ⟨G110, A111, r112, th2_113, rfl, rfl, hW114, hF115, b116, e117, q118⟩ := hq
          have hF119 := Fr_tr hF0 hF115 (Fr_sub (by decide)) (Fr_sub (by decide))
          have sf120 : (pg) = 1 → GZ (lk) A111 := (show A111 = A from funext (fun k => hF115.2 k rfl)) ▸ p_5
          have bth2_113 : (0 : Int) ≤ th2_113 ∧ th2_113 ≤ 4 := e117 ▸ hW114.1 0
          refine .inr ⟨_, rfl, ?_⟩
          rcases q118 with ⟨rfl, a121, a122⟩ | ⟨rfl, a123, a124, a125⟩ | ⟨rfl, a126, a127, a128, a129⟩ | ⟨rfl, a130, a131, a132, a133⟩
          · have _q : True := trivial
            exfalso
            omega
          · have _q : True := trivial
            refine jx_if_eq (pc_q := 43) (tg := 45) rfl rfl rfl (by decide) (by decide) (fun h134 => ?_) (fun h134 => ?_)
            · have _q := h134
              exact absurd h134 (by omega)
            · have _q := h134
              refine jx_ar (pc_q := 44) (st_q := [.int (i32 (0))]) rfl rfl rfl rfl ?_
              refine jx_rt (v := some (.int (i32 (0)))) rfl rfl rfl rfl rfl rfl ?_
              exact ⟨_, _, _, om, it, rfl, rfl, hW114, hF119, by omega, ((hF115.1 113 rfl).trans (e_om)), ((hF115.1 111 rfl).trans (e_it)), by omega, by omega, by omega, by omega, sf120, trivial⟩
          · have _q : True := trivial
            exfalso
            omega
          · have _q : True := trivial
            exfalso
            omega
  · have _q := h48
    refine jx_ar (pc_q := 9) (st_q := [.int (i32 (1)), .ref 66]) rfl rfl rfl rfl ?_
    refine jx_go (tg := 13) rfl rfl ?_
    refine jx_ld (pc_q := 14) (l_q := [(0, .ref 66), (1, .int (i32 (n)))]) (st_q := [.ref 66, .int (i32 (1)), .ref 66]) rfl (jl_aloadn rfl) ?_
    refine jr_get (pc_q := 17) (i := 58) (v := .int (i32 (pg))) rfl rfl (by decide) (rFv_eq (by decide) (show G 58 = pg from (e_pg))) rfl ?_
    refine jx_if_eq (pc_q := 20) (tg := 35) rfl rfl rfl (Int.le_trans (by decide : (-2147483648 : Int) ≤ 0) b_pg.1) (Int.le_trans b_pg.2 (by decide : (1 : Int) ≤ 2147483647)) (fun h135 => ?_) (fun h135 => ?_)
    · have _q := h135
      refine jx_ar (pc_q := 36) (st_q := [.int (i32 (0)), .int (i32 (1)), .ref 66]) rfl rfl rfl rfl ?_
      refine jx_ar (pc_q := 37) (st_q := [.int (i32 (0)), .int (i32 (0)), .int (i32 (1)), .ref 66]) rfl rfl rfl rfl ?_
      refine jx_vr (pc_q := 40) (as := [.int (i32 (1)), .int (i32 (0)), .int (i32 (0))]) (st := []) rfl rfl rfl rfl ⟨rfl, rfl, Nat.le_of_ble_eq_true rfl⟩ rfl rfl (c_refuse (dd := d) (hd := by omega) (hW := hW) (a := 1) (b := 0) (c := 0)   (h_a := ⟨(by decide), (by decide)⟩) (h_b := ⟨(by decide), (by decide)⟩) (h_c := ⟨(by decide), (by decide)⟩)  ) (fun o V_q hq => ?_)
      obtain ⟨G136, A137, r138, th2_139, rfl, rfl, hW140, hF141, b142, e143, q144⟩ := hq
      have hF145 := Fr_tr hF0 hF141 (Fr_sub (by decide)) (Fr_sub (by decide))
      have sf146 : (pg) = 1 → GZ (lk) A137 := (show A137 = A from funext (fun k => hF141.2 k rfl)) ▸ p_5
      have bth2_139 : (0 : Int) ≤ th2_139 ∧ th2_139 ≤ 4 := e143 ▸ hW140.1 0
      refine .inr ⟨_, rfl, ?_⟩
      rcases q144 with ⟨rfl, a147, a148⟩ | ⟨rfl, a149, a150, a151⟩ | ⟨rfl, a152, a153, a154, a155⟩ | ⟨rfl, a156, a157, a158, a159⟩
      · have _q : True := trivial
        refine jx_if_eq (pc_q := 43) (tg := 45) rfl rfl rfl (by decide) (by decide) (fun h160 => ?_) (fun h160 => ?_)
        · have _q := h160
          exact absurd h160 (by omega)
        · have _q := h160
          refine jx_ar (pc_q := 44) (st_q := [.int (i32 (0))]) rfl rfl rfl rfl ?_
          refine jx_rt (v := some (.int (i32 (0)))) rfl rfl rfl rfl rfl rfl ?_
          exact ⟨_, _, _, om, it, rfl, rfl, hW140, hF145, by omega, ((hF141.1 113 rfl).trans (e_om)), ((hF141.1 111 rfl).trans (e_it)), by omega, by omega, by omega, by omega, sf146, trivial⟩
      · have _q : True := trivial
        exfalso
        omega
      · have _q : True := trivial
        exfalso
        omega
      · have _q : True := trivial
        exfalso
        omega
    · have _q := h135
      refine jx_ld (pc_q := 21) (l_q := [(0, .ref 66), (1, .int (i32 (n)))]) (st_q := [.int (i32 (n)), .int (i32 (1)), .ref 66]) rfl (jl_iloadn rfl) ?_
      refine jx_ar (pc_q := 22) (st_q := [.int (i32 (0)), .int (i32 (n)), .int (i32 (1)), .ref 66]) rfl rfl rfl rfl ?_
      refine jx_ar (pc_q := 25) (st_q := [.int (i32 (5000)), .int (i32 (0)), .int (i32 (n)), .int (i32 (1)), .ref 66]) rfl rfl rfl rfl ?_
      refine jx_st (pc_q := 28) (as := [.int (i32 (n)), .int (i32 (0)), .int (i32 (5000))]) (st := [.int (i32 (1)), .ref 66]) rfl rfl ⟨rfl, Nat.le_of_ble_eq_true rfl⟩ rfl rfl rfl (c_in (dd := d) (hd := by omega) (v := n) (a := 0) (b := 5000)   (h_v := ⟨(Int.le_trans (by decide : (-2147483648 : Int) ≤ -2147483648) h_n.1), (Int.le_trans h_n.2 (by decide : (2147483647 : Int) ≤ 2147483647))⟩) (h_a := ⟨(by decide), (by decide)⟩) (h_b := ⟨(by decide), (by decide)⟩)  ) (fun o V_q hq => ?_)
      obtain ⟨r161, rfl, rfl, b162, q163⟩ := hq
      refine .inr ⟨_, rfl, ?_⟩
      rcases q163 with ⟨rfl, a164, a165⟩ | ⟨rfl, a166⟩
      · have _q : True := trivial
        refine jx_if_ne (pc_q := 31) (tg := 35) rfl rfl rfl (by decide) (by decide) (fun h167 => ?_) (fun h167 => ?_)
        · have _q := h167
          refine jx_ar (pc_q := 36) (st_q := [.int (i32 (0)), .int (i32 (1)), .ref 66]) rfl rfl rfl rfl ?_
          refine jx_ar (pc_q := 37) (st_q := [.int (i32 (0)), .int (i32 (0)), .int (i32 (1)), .ref 66]) rfl rfl rfl rfl ?_
          refine jx_vr (pc_q := 40) (as := [.int (i32 (1)), .int (i32 (0)), .int (i32 (0))]) (st := []) rfl rfl rfl rfl ⟨rfl, rfl, Nat.le_of_ble_eq_true rfl⟩ rfl rfl (c_refuse (dd := d) (hd := by omega) (hW := hW) (a := 1) (b := 0) (c := 0)   (h_a := ⟨(by decide), (by decide)⟩) (h_b := ⟨(by decide), (by decide)⟩) (h_c := ⟨(by decide), (by decide)⟩)  ) (fun o V_q hq => ?_)
          obtain ⟨G168, A169, r170, th2_171, rfl, rfl, hW172, hF173, b174, e175, q176⟩ := hq
          have hF177 := Fr_tr hF0 hF173 (Fr_sub (by decide)) (Fr_sub (by decide))
          have sf178 : (pg) = 1 → GZ (lk) A169 := (show A169 = A from funext (fun k => hF173.2 k rfl)) ▸ p_5
          have bth2_171 : (0 : Int) ≤ th2_171 ∧ th2_171 ≤ 4 := e175 ▸ hW172.1 0
          refine .inr ⟨_, rfl, ?_⟩
          rcases q176 with ⟨rfl, a179, a180⟩ | ⟨rfl, a181, a182, a183⟩ | ⟨rfl, a184, a185, a186, a187⟩ | ⟨rfl, a188, a189, a190, a191⟩
          · have _q : True := trivial
            refine jx_if_eq (pc_q := 43) (tg := 45) rfl rfl rfl (by decide) (by decide) (fun h192 => ?_) (fun h192 => ?_)
            · have _q := h192
              exact absurd h192 (by omega)
            · have _q := h192
              refine jx_ar (pc_q := 44) (st_q := [.int (i32 (0))]) rfl rfl rfl rfl ?_
              refine jx_rt (v := some (.int (i32 (0)))) rfl rfl rfl rfl rfl rfl ?_
              exact ⟨_, _, _, om, it, rfl, rfl, hW172, hF177, by omega, ((hF173.1 113 rfl).trans (e_om)), ((hF173.1 111 rfl).trans (e_it)), by omega, by omega, by omega, by omega, sf178, trivial⟩
          · have _q : True := trivial
            exfalso
            omega
          · have _q : True := trivial
            exfalso
            omega
          · have _q : True := trivial
            exfalso
            omega
        · have _q := h167
          exact absurd h167 (by omega)
      · have _q : True := trivial
        refine jx_if_ne (pc_q := 31) (tg := 35) rfl rfl rfl (by decide) (by decide) (fun h193 => ?_) (fun h193 => ?_)
        · have _q := h193
          exact absurd h193 (by omega)
        · have _q := h193
          refine jx_ar (pc_q := 32) (st_q := [.int (i32 (1)), .int (i32 (1)), .ref 66]) rfl rfl rfl rfl ?_
          refine jx_go (tg := 36) rfl rfl ?_
          refine jx_ar (pc_q := 37) (st_q := [.int (i32 (0)), .int (i32 (1)), .int (i32 (1)), .ref 66]) rfl rfl rfl rfl ?_
          refine jx_vr (pc_q := 40) (as := [.int (i32 (1)), .int (i32 (1)), .int (i32 (0))]) (st := []) rfl rfl rfl rfl ⟨rfl, rfl, Nat.le_of_ble_eq_true rfl⟩ rfl rfl (c_refuse (dd := d) (hd := by omega) (hW := hW) (a := 1) (b := 1) (c := 0)   (h_a := ⟨(by decide), (by decide)⟩) (h_b := ⟨(by decide), (by decide)⟩) (h_c := ⟨(by decide), (by decide)⟩)  ) (fun o V_q hq => ?_)
          obtain ⟨G194, A195, r196, th2_197, rfl, rfl, hW198, hF199, b200, e201, q202⟩ := hq
          have hF203 := Fr_tr hF0 hF199 (Fr_sub (by decide)) (Fr_sub (by decide))
          have sf204 : (pg) = 1 → GZ (lk) A195 := (show A195 = A from funext (fun k => hF199.2 k rfl)) ▸ p_5
          have bth2_197 : (0 : Int) ≤ th2_197 ∧ th2_197 ≤ 4 := e201 ▸ hW198.1 0
          refine .inr ⟨_, rfl, ?_⟩
          rcases q202 with ⟨rfl, a205, a206⟩ | ⟨rfl, a207, a208, a209⟩ | ⟨rfl, a210, a211, a212, a213⟩ | ⟨rfl, a214, a215, a216, a217⟩
          · have _q : True := trivial
            refine jx_if_eq (pc_q := 43) (tg := 45) rfl rfl rfl (by decide) (by decide) (fun h218 => ?_) (fun h218 => ?_)
            · have _q := h218
              exact absurd h218 (by omega)
            · have _q := h218
              refine jx_ar (pc_q := 44) (st_q := [.int (i32 (0))]) rfl rfl rfl rfl ?_
              refine jx_rt (v := some (.int (i32 (0)))) rfl rfl rfl rfl rfl rfl ?_
              exact ⟨_, _, _, om, it, rfl, rfl, hW198, hF203, by omega, ((hF199.1 113 rfl).trans (e_om)), ((hF199.1 111 rfl).trans (e_it)), by omega, by omega, by omega, by omega, sf204, trivial⟩
          · have _q : True := trivial
            exfalso
            omega
          · have _q : True := trivial
            exfalso
            omega
          · have _q : True := trivial
            exfalso
            omega
