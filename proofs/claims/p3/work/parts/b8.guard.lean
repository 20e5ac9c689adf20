set_option maxRecDepth 20000 in
set_option maxHeartbeats 4000000 in
theorem c_readGuard_w_at_359p {X : jX} {d : Nat} {Vs : Nat → Prop} {sb : Int} {c0 c1 : jC} {G : Nat → Int} {A : Nat → Nat → Int} {T : jH} {ln le at0 fk op0 nd tk0 li ec sy : Int} (hd : 71 ≤ d + 1) (hW : Wk G A) (e_ln : G 9 = ln) (e_le : A 4 (ln).toNat = le) (e_at0 : G 10 = at0) (e_fk : G 16 = fk) (e_op0 : G 15 = op0) (e_nd : G 31 = nd) (e_tk0 : G 11 = tk0) (e_li : G 3 = li) (e_ec : ecn A (G 31) = ec) (e_sy : G 19 = sy) (i_SV : SV Vs sb G A) (p_0 : 0 ≤ op0 ∧ op0 ≤ 8) (p_1 : fk = 0) (p_2 : nd ≤ 2 * at0 - tz tk0 + 42) (p_3 : at0 ≤ le) (p_4 : ln < li) : ∀ (L : jL) (Gx : Nat → Int) (Ax : Nat → Nat → Int) (one at1 tk1 fk1 nd1 op1 ec1 : Int), jGet L 0 = some (.ref 66) → jGet L 1 = some (.int (i32 one)) → Wk Gx Ax → Fr [9, 10, 11, 12, 13, 14, 15, 16, 17, 18, 31] [15, 16, 17, 18, 19, 20, 21, 22, 24, 28] G A Gx Ax → Pf nd A Ax → Gx 10 = at1 → Gx 11 = tk1 → Gx 16 = fk1 → Gx 31 = nd1 → Gx 15 = op1 → ecn Ax (Gx 31) = ec1 → Gx 9 = ln → ((-2147483648 : Int) ≤ one ∧ one ≤ 2147483647) → (at0 ≤ at1) → (at1 ≤ le) → (nd ≤ nd1) → (op1 = op0) → (one = nd) → (one ≤ 6998 ∧ one < nd1) → (1 ≤ fk1) → (nd1 - nd ≤ (2 * at1 - tz tk1) - (2 * at0 - tz tk0) + 6) → wj X d jm303 (359, L, [], rV c0 c1 Gx Ax T) (fun o V_q => ∃ (G_q : Nat → Int) (A_q : Nat → Nat → Int) (r : Int) (at2 : Int) (fk2 : Int) (nd2 : Int) (ln2 : Int) (ec2 : Int), V_q = rV c0 c1 G_q A_q T ∧ o = .inl (some (.int (i32 r))) ∧ Wk G_q A_q ∧ Fr [9, 10, 11, 12, 13, 14, 15, 16, 17, 18, 31] [15, 16, 17, 18, 19, 20, 21, 22, 24, 28] G A G_q A_q ∧ Pf nd A A_q ∧ ((-2147483648 : Int) ≤ r ∧ r ≤ 2147483647) ∧ G_q 10 = at2 ∧ G_q 16 = fk2 ∧ G_q 31 = nd2 ∧ G_q 9 = ln2 ∧ ecn A_q (G_q 31) = ec2 ∧ (at0 ≤ at2) ∧ (at2 ≤ le) ∧ (nd ≤ nd2) ∧ (0 ≤ r) ∧ (r ≤ nd2) ∧ (((1 ≤ fk2) ∧ (ln2 = ln) ∧ (nd2 - nd ≤ 2 * at2 - 2 * at0 + 12)) ∨ ((fk2 = 0) ∧ (ln2 = ln + 1) ∧ (nd2 - nd ≤ 2 * at2 - (2 * at0 - tz tk0) + 0) ∧ (nd ≤ r) ∧ (r < nd2) ∧ (wU A_q Vs sb (r) (nd) (nd2)) ∧ (NX A_q (r)) ∧ (nd2 - nd + 5 * (ec2 - ec) ≤ 2 * at2 - (2 * at0 - tz tk0) + 0) ∧ (NdM A_q (nd) (nd2) (sy))))) := by
  have hF0 : Fr [9, 10, 11, 12, 13, 14, 15, 16, 17, 18, 31] [15, 16, 17, 18, 19, 20, 21, 22, 24, 28] G A G A := Fr_rf
  have hP0 : Pf nd A A := Pf_rf
  have b_ln : (0 : Int) ≤ ln ∧ ln ≤ 3000 := e_ln ▸ hW.1 9
  have b_le : (0 : Int) ≤ le ∧ le ≤ 3000 := e_le ▸ hW.2 4 _
  have b_at0 : (0 : Int) ≤ at0 ∧ at0 ≤ 3002 := e_at0 ▸ hW.1 10
  have b_fk : (0 : Int) ≤ fk ∧ fk ≤ 6 := e_fk ▸ hW.1 16
  have b_op0 : (-2147483648 : Int) ≤ op0 ∧ op0 ≤ 2147483647 := e_op0 ▸ hW.1 15
  have b_nd : (0 : Int) ≤ nd ∧ nd ≤ 6999 := e_nd ▸ hW.1 31
  have z_tk0 := tz_f tk0
  have b_tk0 : (0 : Int) ≤ tk0 ∧ tk0 ≤ 5 := e_tk0 ▸ hW.1 11
  have b_li : (0 : Int) ≤ li ∧ li ≤ 3000 := e_li ▸ hW.1 3
  have b_sy : (0 : Int) ≤ sy ∧ sy ≤ 202 := e_sy ▸ hW.1 19
  intro L Gx Ax one at1 tk1 fk1 nd1 op1 ec1 gL_0 gL_1 hWx hFx hPx ex_at1 ex_tk1 ex_fk1 ex_nd1 ex_op1 ex_ec1 fx_9 rx_one iv_0 iv_1 iv_2 iv_3 iv_4 iv_5 iv_6 iv_7
  have b_at1 : (0 : Int) ≤ at1 ∧ at1 ≤ 3002 := ex_at1 ▸ hWx.1 10
  have z_tk1 := tz_f tk1
  have b_tk1 : (0 : Int) ≤ tk1 ∧ tk1 ≤ 5 := ex_tk1 ▸ hWx.1 11
  have b_fk1 : (0 : Int) ≤ fk1 ∧ fk1 ≤ 6 := ex_fk1 ▸ hWx.1 16
  have b_nd1 : (0 : Int) ≤ nd1 ∧ nd1 ≤ 6999 := ex_nd1 ▸ hWx.1 31
  have b_op1 : (-2147483648 : Int) ≤ op1 ∧ op1 ≤ 2147483647 := ex_op1 ▸ hWx.1 15
  refine jx_ld (pc_q := 360) (l_q := L) (st_q := [.ref 66]) rfl (jl_aloadn gL_0) ?_
  refine jx_vr (pc_q := 363) (as := []) (st := []) rfl rfl rfl rfl ⟨rfl, rfl, Nat.le_of_ble_eq_true rfl⟩ rfl rfl (c_endLine (dd := d) (hd := by omega) (hW := hWx)  (ln := ln) (e_ln := show Gx 9 = ln from (fx_9)) (li := li) (e_li := show Gx 3 = li from ((hFx.1 3 rfl).trans (e_li))) (fk := fk1) (e_fk := show Gx 16 = fk1 from (ex_fk1)) (tk0 := tk1) (e_tk0 := show Gx 11 = tk1 from (ex_tk1))    (p_0 := by omega)) (fun o V_q hq => ?_)
  obtain ⟨G1, A2, ln2_3, fk2_4, rfl, rfl, hW5, hF6, e7, e8, q9⟩ := hq
  have hF10 := Fr_tr hFx hF6 (Fr_sub (by decide)) (Fr_sub (by decide))
  have hP11 := Pf_f hPx hF6 (by decide)
  have ec12 : ecn A2 (G1 31) = ec1 := (ecn_f (hF6.2 15 rfl) (hF6.1 31 rfl)).trans ex_ec1
  have bln2_3 : (0 : Int) ≤ ln2_3 ∧ ln2_3 ≤ 3000 := e7 ▸ hW5.1 9
  have bfk2_4 : (0 : Int) ≤ fk2_4 ∧ fk2_4 ≤ 6 := e8 ▸ hW5.1 16
  refine .inl ⟨rfl, ?_⟩
  rcases q9 with ⟨a13, a14, a15, a16, a17⟩ | ⟨a18, a19⟩
  · have _q : True := trivial
    exfalso
    omega
  · have _q : True := trivial
    refine jx_ld (pc_q := 364) (l_q := L) (st_q := [.int (i32 (one))]) rfl (jl_iloadn gL_1) ?_
    refine jx_rt (v := some (.int (i32 (one)))) rfl rfl rfl rfl rfl rfl ?_
    exact ⟨_, _, _, at1, fk2_4, nd1, ln2_3, ec1, rfl, rfl, hW5, hF10, hP11, by omega, ((hF6.1 10 rfl).trans (ex_at1)), (e8), ((hF6.1 31 rfl).trans (ex_nd1)), (e7), ec12, by omega, by omega, by omega, by omega, by omega, by first | exact Or.inl (⟨by omega, by omega, by omega⟩)⟩
set_option maxRecDepth 20000 in
set_option maxHeartbeats 4000000 in
theorem c_readGuard_w_at_348p {X : jX} {d : Nat} {Vs : Nat → Prop} {sb : Int} {c0 c1 : jC} {G : Nat → Int} {A : Nat → Nat → Int} {T : jH} {ln le at0 fk op0 nd tk0 li ec sy : Int} (hd : 71 ≤ d + 1) (hW : Wk G A) (e_ln : G 9 = ln) (e_le : A 4 (ln).toNat = le) (e_at0 : G 10 = at0) (e_fk : G 16 = fk) (e_op0 : G 15 = op0) (e_nd : G 31 = nd) (e_tk0 : G 11 = tk0) (e_li : G 3 = li) (e_ec : ecn A (G 31) = ec) (e_sy : G 19 = sy) (i_SV : SV Vs sb G A) (p_0 : 0 ≤ op0 ∧ op0 ≤ 8) (p_1 : fk = 0) (p_2 : nd ≤ 2 * at0 - tz tk0 + 42) (p_3 : at0 ≤ le) (p_4 : ln < li) : ∀ (L : jL) (Gx : Nat → Int) (Ax : Nat → Nat → Int) (one at1 tk1 fk1 nd1 op1 ec1 : Int), jGet L 0 = some (.ref 66) → jGet L 1 = some (.int (i32 one)) → Wk Gx Ax → Fr [9, 10, 11, 12, 13, 14, 15, 16, 17, 18, 31] [15, 16, 17, 18, 19, 20, 21, 22, 24, 28] G A Gx Ax → Pf nd A Ax → Gx 10 = at1 → Gx 11 = tk1 → Gx 16 = fk1 → Gx 31 = nd1 → Gx 15 = op1 → ecn Ax (Gx 31) = ec1 → Gx 9 = ln → ((-2147483648 : Int) ≤ one ∧ one ≤ 2147483647) → (at0 ≤ at1) → (at1 ≤ le) → (nd ≤ nd1) → (op1 = op0) → (one = nd) → (one ≤ 6998 ∧ one < nd1) → (1 ≤ fk1) → (nd1 - nd ≤ (2 * at1 - tz tk1) - (2 * at0 - tz tk0) + 6) → wj X d jm303 (348, L, [], rV c0 c1 Gx Ax T) (fun o V_q => ∃ (G_q : Nat → Int) (A_q : Nat → Nat → Int) (r : Int) (at2 : Int) (fk2 : Int) (nd2 : Int) (ln2 : Int) (ec2 : Int), V_q = rV c0 c1 G_q A_q T ∧ o = .inl (some (.int (i32 r))) ∧ Wk G_q A_q ∧ Fr [9, 10, 11, 12, 13, 14, 15, 16, 17, 18, 31] [15, 16, 17, 18, 19, 20, 21, 22, 24, 28] G A G_q A_q ∧ Pf nd A A_q ∧ ((-2147483648 : Int) ≤ r ∧ r ≤ 2147483647) ∧ G_q 10 = at2 ∧ G_q 16 = fk2 ∧ G_q 31 = nd2 ∧ G_q 9 = ln2 ∧ ecn A_q (G_q 31) = ec2 ∧ (at0 ≤ at2) ∧ (at2 ≤ le) ∧ (nd ≤ nd2) ∧ (0 ≤ r) ∧ (r ≤ nd2) ∧ (((1 ≤ fk2) ∧ (ln2 = ln) ∧ (nd2 - nd ≤ 2 * at2 - 2 * at0 + 12)) ∨ ((fk2 = 0) ∧ (ln2 = ln + 1) ∧ (nd2 - nd ≤ 2 * at2 - (2 * at0 - tz tk0) + 0) ∧ (nd ≤ r) ∧ (r < nd2) ∧ (wU A_q Vs sb (r) (nd) (nd2)) ∧ (NX A_q (r)) ∧ (nd2 - nd + 5 * (ec2 - ec) ≤ 2 * at2 - (2 * at0 - tz tk0) + 0) ∧ (NdM A_q (nd) (nd2) (sy))))) := by
  have hF0 : Fr [9, 10, 11, 12, 13, 14, 15, 16, 17, 18, 31] [15, 16, 17, 18, 19, 20, 21, 22, 24, 28] G A G A := Fr_rf
  have hP0 : Pf nd A A := Pf_rf
  have b_ln : (0 : Int) ≤ ln ∧ ln ≤ 3000 := e_ln ▸ hW.1 9
  have b_le : (0 : Int) ≤ le ∧ le ≤ 3000 := e_le ▸ hW.2 4 _
  have b_at0 : (0 : Int) ≤ at0 ∧ at0 ≤ 3002 := e_at0 ▸ hW.1 10
  have b_fk : (0 : Int) ≤ fk ∧ fk ≤ 6 := e_fk ▸ hW.1 16
  have b_op0 : (-2147483648 : Int) ≤ op0 ∧ op0 ≤ 2147483647 := e_op0 ▸ hW.1 15
  have b_nd : (0 : Int) ≤ nd ∧ nd ≤ 6999 := e_nd ▸ hW.1 31
  have z_tk0 := tz_f tk0
  have b_tk0 : (0 : Int) ≤ tk0 ∧ tk0 ≤ 5 := e_tk0 ▸ hW.1 11
  have b_li : (0 : Int) ≤ li ∧ li ≤ 3000 := e_li ▸ hW.1 3
  have b_sy : (0 : Int) ≤ sy ∧ sy ≤ 202 := e_sy ▸ hW.1 19
  intro L Gx Ax one at1 tk1 fk1 nd1 op1 ec1 gL_0 gL_1 hWx hFx hPx ex_at1 ex_tk1 ex_fk1 ex_nd1 ex_op1 ex_ec1 fx_9 rx_one iv_0 iv_1 iv_2 iv_3 iv_4 iv_5 iv_6 iv_7
  have b_at1 : (0 : Int) ≤ at1 ∧ at1 ≤ 3002 := ex_at1 ▸ hWx.1 10
  have z_tk1 := tz_f tk1
  have b_tk1 : (0 : Int) ≤ tk1 ∧ tk1 ≤ 5 := ex_tk1 ▸ hWx.1 11
  have b_fk1 : (0 : Int) ≤ fk1 ∧ fk1 ≤ 6 := ex_fk1 ▸ hWx.1 16
  have b_nd1 : (0 : Int) ≤ nd1 ∧ nd1 ≤ 6999 := ex_nd1 ▸ hWx.1 31
  have b_op1 : (-2147483648 : Int) ≤ op1 ∧ op1 ≤ 2147483647 := ex_op1 ▸ hWx.1 15
  refine jx_ld (pc_q := 349) (l_q := L) (st_q := [.ref 66]) rfl (jl_aloadn gL_0) ?_
  refine jr_get (pc_q := 352) (i := 36) (v := .ref 86) rfl rfl (by decide) rfl rfl ?_
  refine jx_ld (pc_q := 353) (l_q := L) (st_q := [.int (i32 (one)), .ref 86]) rfl (jl_iloadn gL_1) ?_
  refine jx_ld (pc_q := 354) (l_q := L) (st_q := [.ref 66, .int (i32 (one)), .ref 86]) rfl (jl_aloadn gL_0) ?_
  refine jx_ar (pc_q := 355) (st_q := [.int (i32 (0)), .ref 66, .int (i32 (one)), .ref 86]) rfl rfl rfl rfl ?_
  refine jx_vr (pc_q := 358) (as := [.int (i32 (0))]) (st := [.int (i32 (one)), .ref 86]) rfl rfl rfl rfl ⟨rfl, rfl, Nat.le_of_ble_eq_true rfl⟩ rfl rfl (c_readReference_w (dd := d) (hd := by omega) (hW := hWx) (ch := 0) (ln := ln) (e_ln := show Gx 9 = ln from (fx_9)) (le := le) (e_le := show Ax 4 (ln).toNat = le from (congrFun (hFx.2 4 rfl) _).trans (e_le)) (at0 := at1) (e_at0 := show Gx 10 = at1 from (ex_at1)) (fk := fk1) (e_fk := show Gx 16 = fk1 from (ex_fk1)) (op0 := op1) (e_op0 := show Gx 15 = op1 from (ex_op1)) (nd := nd1) (e_nd := show Gx 31 = nd1 from (ex_nd1)) (tk0 := tk1) (e_tk0 := show Gx 11 = tk1 from (ex_tk1)) (ec := ec1) (e_ec := show ecn Ax (Gx 31) = ec1 from ex_ec1) (sy := sy) (e_sy := show Gx 19 = sy from ((hFx.1 19 rfl).trans (e_sy))) (i_SV := (SV_ext ((hFx.1 29 rfl)) ((hFx.2 14 rfl)) i_SV)) (h_ch := ⟨(by decide), (by decide)⟩)  (p_0 := by omega) (p_1 := by omega) (p_2 := by omega) (p_3 := by omega) (p_4 := by omega)) (fun o V_q hq => ?_)
  obtain ⟨G20, A21, r22, at2_23, fk2_24, op2_25, nd2_26, tk2_27, ec2_28, rfl, rfl, hW29, hF30, hQ31, b32, e33, e34, e35, e36, e37, e38, p39, p40, p41, p42, p43, p44, q45⟩ := hq
  have hF46 := Fr_tr hFx hF30 (Fr_sub (by decide)) (Fr_sub (by decide))
  have hP47 := Pf_tr hPx hQ31 (by omega)
  have bat2_23 : (0 : Int) ≤ at2_23 ∧ at2_23 ≤ 3002 := e33 ▸ hW29.1 10
  have bfk2_24 : (0 : Int) ≤ fk2_24 ∧ fk2_24 ≤ 6 := e34 ▸ hW29.1 16
  have bop2_25 : (-2147483648 : Int) ≤ op2_25 ∧ op2_25 ≤ 2147483647 := e35 ▸ hW29.1 15
  have bnd2_26 : (0 : Int) ≤ nd2_26 ∧ nd2_26 ≤ 6999 := e36 ▸ hW29.1 31
  have ztk2_27 := tz_b tk2_27
  have btk2_27 : (0 : Int) ≤ tk2_27 ∧ tk2_27 ≤ 5 := e37 ▸ hW29.1 11
  refine .inr ⟨_, rfl, ?_⟩
  rcases q45 with ⟨a48, a49, a50, a51, a52, a53⟩ | ⟨a54, a55, a56⟩ | ⟨a57, a58, a59, a60, a61, a62, a63⟩
  · have _q : True := trivial
    refine jr_st (pc_q := 359) (i := 19) (m := 7000) (z := one) (y := r22) rfl (by decide) rfl (by decide) (by omega) (by omega) rfl ?_
    have hW65 : Wk G20 (uA A21 19 (one).toNat (r22)) := Wk_a hW29 (show (-2147483648 : Int) ≤ r22 by omega) (show r22 ≤ (2147483647 : Int) by omega)
    have hF66 := Fr_a (z := r22) (k := 19) (n := (one).toNat) hF46 (by decide)
    obtain ⟨A64, eA64⟩ : ∃ q, q = uA A21 19 (one).toNat (r22) := ⟨_, rfl⟩
    rw [← eA64]
    rw [← eA64] at hW65 hF66
    have q67 : A64 19 (one).toNat = r22 := by rw [eA64]; exact uA_eq
    have hP68 : Pf nd A A64 := eA64 ▸ Pf_a hP47 (z := one) (by omega) (by omega)
    have ec69 : ecn A64 (G20 31) = ec2_28 := (ecn_e ((congrFun eA64 15).trans (uA_ne (by decide)))).trans e38
    have z70 := tz_f (tk2_27)
    exact c_readGuard_w_at_359p (X := X) (d := d) (Vs := Vs) (sb := sb) (c0 := c0) (c1 := c1) (G := G) (A := A) (T := T) (ln := ln) (le := le) (at0 := at0) (fk := fk) (op0 := op0) (nd := nd) (tk0 := tk0) (li := li) (ec := ec) (sy := sy) (hd := hd) (hW := hW) (e_ln := e_ln) (e_le := e_le) (e_at0 := e_at0) (e_fk := e_fk) (e_op0 := e_op0) (e_nd := e_nd) (e_tk0 := e_tk0) (e_li := e_li) (e_ec := e_ec) (e_sy := e_sy) (i_SV := i_SV) (p_0 := p_0) (p_1 := p_1) (p_2 := p_2) (p_3 := p_3) (p_4 := p_4) L G20 A64 (one) (at2_23) (tk2_27) (fk2_24) (nd2_26) (op2_25) (ec2_28) gL_0 gL_1 hW65 hF66 hP68 ((e33)) ((e37)) ((e34)) ((e36)) ((e35)) (ec69) (((hF30.1 9 rfl).trans (fx_9))) (by omega) (by omega) (by omega) (by omega) (by omega) (by omega) (by omega) (by omega) (by omega)
  · have _q : True := trivial
    exfalso
    omega
  · have _q : True := trivial
    exfalso
    omega
set_option maxRecDepth 20000 in
set_option maxHeartbeats 4000000 in
theorem c_readGuard_w_at_338p {X : jX} {d : Nat} {Vs : Nat → Prop} {sb : Int} {c0 c1 : jC} {G : Nat → Int} {A : Nat → Nat → Int} {T : jH} {ln le at0 fk op0 nd tk0 li ec sy : Int} (hd : 71 ≤ d + 1) (hW : Wk G A) (e_ln : G 9 = ln) (e_le : A 4 (ln).toNat = le) (e_at0 : G 10 = at0) (e_fk : G 16 = fk) (e_op0 : G 15 = op0) (e_nd : G 31 = nd) (e_tk0 : G 11 = tk0) (e_li : G 3 = li) (e_ec : ecn A (G 31) = ec) (e_sy : G 19 = sy) (i_SV : SV Vs sb G A) (p_0 : 0 ≤ op0 ∧ op0 ≤ 8) (p_1 : fk = 0) (p_2 : nd ≤ 2 * at0 - tz tk0 + 42) (p_3 : at0 ≤ le) (p_4 : ln < li) : ∀ (L : jL) (Gx : Nat → Int) (Ax : Nat → Nat → Int) (one at1 tk1 fk1 nd1 op1 ec1 : Int), jGet L 0 = some (.ref 66) → jGet L 1 = some (.int (i32 one)) → Wk Gx Ax → Fr [9, 10, 11, 12, 13, 14, 15, 16, 17, 18, 31] [15, 16, 17, 18, 19, 20, 21, 22, 24, 28] G A Gx Ax → Pf nd A Ax → Gx 10 = at1 → Gx 11 = tk1 → Gx 16 = fk1 → Gx 31 = nd1 → Gx 15 = op1 → ecn Ax (Gx 31) = ec1 → Gx 9 = ln → ((-2147483648 : Int) ≤ one ∧ one ≤ 2147483647) → (at0 ≤ at1) → (at1 ≤ le) → (nd ≤ nd1) → (op1 = op0) → (one = nd) → (one ≤ 6998 ∧ one < nd1) → (1 ≤ fk1) → (nd1 - nd ≤ (2 * at1 - tz tk1) - (2 * at0 - tz tk0) + 6) → wj X d jm303 (338, L, [], rV c0 c1 Gx Ax T) (fun o V_q => ∃ (G_q : Nat → Int) (A_q : Nat → Nat → Int) (r : Int) (at2 : Int) (fk2 : Int) (nd2 : Int) (ln2 : Int) (ec2 : Int), V_q = rV c0 c1 G_q A_q T ∧ o = .inl (some (.int (i32 r))) ∧ Wk G_q A_q ∧ Fr [9, 10, 11, 12, 13, 14, 15, 16, 17, 18, 31] [15, 16, 17, 18, 19, 20, 21, 22, 24, 28] G A G_q A_q ∧ Pf nd A A_q ∧ ((-2147483648 : Int) ≤ r ∧ r ≤ 2147483647) ∧ G_q 10 = at2 ∧ G_q 16 = fk2 ∧ G_q 31 = nd2 ∧ G_q 9 = ln2 ∧ ecn A_q (G_q 31) = ec2 ∧ (at0 ≤ at2) ∧ (at2 ≤ le) ∧ (nd ≤ nd2) ∧ (0 ≤ r) ∧ (r ≤ nd2) ∧ (((1 ≤ fk2) ∧ (ln2 = ln) ∧ (nd2 - nd ≤ 2 * at2 - 2 * at0 + 12)) ∨ ((fk2 = 0) ∧ (ln2 = ln + 1) ∧ (nd2 - nd ≤ 2 * at2 - (2 * at0 - tz tk0) + 0) ∧ (nd ≤ r) ∧ (r < nd2) ∧ (wU A_q Vs sb (r) (nd) (nd2)) ∧ (NX A_q (r)) ∧ (nd2 - nd + 5 * (ec2 - ec) ≤ 2 * at2 - (2 * at0 - tz tk0) + 0) ∧ (NdM A_q (nd) (nd2) (sy))))) := by
  have hF0 : Fr [9, 10, 11, 12, 13, 14, 15, 16, 17, 18, 31] [15, 16, 17, 18, 19, 20, 21, 22, 24, 28] G A G A := Fr_rf
  have hP0 : Pf nd A A := Pf_rf
  have b_ln : (0 : Int) ≤ ln ∧ ln ≤ 3000 := e_ln ▸ hW.1 9
  have b_le : (0 : Int) ≤ le ∧ le ≤ 3000 := e_le ▸ hW.2 4 _
  have b_at0 : (0 : Int) ≤ at0 ∧ at0 ≤ 3002 := e_at0 ▸ hW.1 10
  have b_fk : (0 : Int) ≤ fk ∧ fk ≤ 6 := e_fk ▸ hW.1 16
  have b_op0 : (-2147483648 : Int) ≤ op0 ∧ op0 ≤ 2147483647 := e_op0 ▸ hW.1 15
  have b_nd : (0 : Int) ≤ nd ∧ nd ≤ 6999 := e_nd ▸ hW.1 31
  have z_tk0 := tz_f tk0
  have b_tk0 : (0 : Int) ≤ tk0 ∧ tk0 ≤ 5 := e_tk0 ▸ hW.1 11
  have b_li : (0 : Int) ≤ li ∧ li ≤ 3000 := e_li ▸ hW.1 3
  have b_sy : (0 : Int) ≤ sy ∧ sy ≤ 202 := e_sy ▸ hW.1 19
  intro L Gx Ax one at1 tk1 fk1 nd1 op1 ec1 gL_0 gL_1 hWx hFx hPx ex_at1 ex_tk1 ex_fk1 ex_nd1 ex_op1 ex_ec1 fx_9 rx_one iv_0 iv_1 iv_2 iv_3 iv_4 iv_5 iv_6 iv_7
  have b_at1 : (0 : Int) ≤ at1 ∧ at1 ≤ 3002 := ex_at1 ▸ hWx.1 10
  have z_tk1 := tz_f tk1
  have b_tk1 : (0 : Int) ≤ tk1 ∧ tk1 ≤ 5 := ex_tk1 ▸ hWx.1 11
  have b_fk1 : (0 : Int) ≤ fk1 ∧ fk1 ≤ 6 := ex_fk1 ▸ hWx.1 16
  have b_nd1 : (0 : Int) ≤ nd1 ∧ nd1 ≤ 6999 := ex_nd1 ▸ hWx.1 31
  have b_op1 : (-2147483648 : Int) ≤ op1 ∧ op1 ≤ 2147483647 := ex_op1 ▸ hWx.1 15
  refine jx_ld (pc_q := 339) (l_q := L) (st_q := [.ref 66]) rfl (jl_aloadn gL_0) ?_
  refine jx_ld (pc_q := 340) (l_q := L) (st_q := [.ref 66, .ref 66]) rfl (jl_aloadn gL_0) ?_
  refine jx_ar (pc_q := 342) (st_q := [.int (i32 (63)), .ref 66, .ref 66]) rfl rfl rfl rfl ?_
  have b71 : (-2147483648 : Int) ≤ Gx 13 ∧ Gx 13 ≤ 2147483647 := hWx.1 13
  refine jx_vr (pc_q := 345) (as := [.int (i32 (63))]) (st := [.ref 66]) rfl rfl rfl rfl ⟨rfl, rfl, Nat.le_of_ble_eq_true rfl⟩ rfl rfl (c_is (dd := d) (hd := by omega) (hW := hWx) (k := 63) (tk := tk1) (e_tk := show Gx 11 = tk1 from (ex_tk1)) (tn := Gx 13) (e_tn := show Gx 13 = Gx 13 from rfl)  (h_k := ⟨(by decide), (by decide)⟩)  ) (fun o V_q hq => ?_)
  obtain ⟨r72, rfl, rfl, b73, q74⟩ := hq
  refine .inr ⟨_, rfl, ?_⟩
  rcases q74 with ⟨rfl, a75, a76, a77⟩ | rfl
  · have _q : True := trivial
    refine jx_vr (pc_q := 348) (as := [.int (i32 (1))]) (st := []) rfl rfl rfl rfl ⟨rfl, rfl, Nat.le_of_ble_eq_true rfl⟩ rfl rfl (c_need (dd := d) (hd := by omega) (hW := hWx) (g := 1) (ln := ln) (e_ln := show Gx 9 = ln from (fx_9)) (le := le) (e_le := show Ax 4 (ln).toNat = le from (congrFun (hFx.2 4 rfl) _).trans (e_le)) (at0 := at1) (e_at0 := show Gx 10 = at1 from (ex_at1)) (fk := fk1) (e_fk := show Gx 16 = fk1 from (ex_fk1)) (tk0 := tk1) (e_tk0 := show Gx 11 = tk1 from (ex_tk1))  (h_g := ⟨(by decide), (by decide)⟩)  (p_0 := by omega)) (fun o V_q hq => ?_)
    obtain ⟨G78, A79, at2_80, tk2_81, fk2_82, rfl, rfl, hW83, hF84, e85, e86, e87, p88, p89, q90⟩ := hq
    have hF91 := Fr_tr hFx hF84 (Fr_sub (by decide)) (Fr_sub (by decide))
    have hP92 := Pf_f hPx hF84 (by decide)
    have ec93 : ecn A79 (G78 31) = ec1 := (ecn_f (hF84.2 15 rfl) (hF84.1 31 rfl)).trans ex_ec1
    have bat2_80 : (0 : Int) ≤ at2_80 ∧ at2_80 ≤ 3002 := e85 ▸ hW83.1 10
    have ztk2_81 := tz_b tk2_81
    have btk2_81 : (0 : Int) ≤ tk2_81 ∧ tk2_81 ≤ 5 := e86 ▸ hW83.1 11
    have bfk2_82 : (0 : Int) ≤ fk2_82 ∧ fk2_82 ≤ 6 := e87 ▸ hW83.1 16
    refine .inl ⟨rfl, ?_⟩
    rcases q90 with ⟨a94, a95, a96, a97⟩ | ⟨a98, a99, a100, a101⟩
    · have _q : True := trivial
      have z102 := tz_f (tk2_81)
      exact c_readGuard_w_at_348p (X := X) (d := d) (Vs := Vs) (sb := sb) (c0 := c0) (c1 := c1) (G := G) (A := A) (T := T) (ln := ln) (le := le) (at0 := at0) (fk := fk) (op0 := op0) (nd := nd) (tk0 := tk0) (li := li) (ec := ec) (sy := sy) (hd := hd) (hW := hW) (e_ln := e_ln) (e_le := e_le) (e_at0 := e_at0) (e_fk := e_fk) (e_op0 := e_op0) (e_nd := e_nd) (e_tk0 := e_tk0) (e_li := e_li) (e_ec := e_ec) (e_sy := e_sy) (i_SV := i_SV) (p_0 := p_0) (p_1 := p_1) (p_2 := p_2) (p_3 := p_3) (p_4 := p_4) L G78 A79 (one) (at2_80) (tk2_81) (fk2_82) (nd1) (op1) (ec1) gL_0 gL_1 hW83 hF91 hP92 ((e85)) ((e86)) ((e87)) (((hF84.1 31 rfl).trans (ex_nd1))) (((hF84.1 15 rfl).trans (ex_op1))) (ec93) (((hF84.1 9 rfl).trans (fx_9))) (by omega) (by omega) (by omega) (by omega) (by omega) (by omega) (by omega) (by omega) (by omega)
    · have _q : True := trivial
      exfalso
      omega
  · have _q : True := trivial
    refine jx_vr (pc_q := 348) (as := [.int (i32 (0))]) (st := []) rfl rfl rfl rfl ⟨rfl, rfl, Nat.le_of_ble_eq_true rfl⟩ rfl rfl (c_need (dd := d) (hd := by omega) (hW := hWx) (g := 0) (ln := ln) (e_ln := show Gx 9 = ln from (fx_9)) (le := le) (e_le := show Ax 4 (ln).toNat = le from (congrFun (hFx.2 4 rfl) _).trans (e_le)) (at0 := at1) (e_at0 := show Gx 10 = at1 from (ex_at1)) (fk := fk1) (e_fk := show Gx 16 = fk1 from (ex_fk1)) (tk0 := tk1) (e_tk0 := show Gx 11 = tk1 from (ex_tk1))  (h_g := ⟨(by decide), (by decide)⟩)  (p_0 := by omega)) (fun o V_q hq => ?_)
    obtain ⟨G103, A104, at2_105, tk2_106, fk2_107, rfl, rfl, hW108, hF109, e110, e111, e112, p113, p114, q115⟩ := hq
    have hF116 := Fr_tr hFx hF109 (Fr_sub (by decide)) (Fr_sub (by decide))
    have hP117 := Pf_f hPx hF109 (by decide)
    have ec118 : ecn A104 (G103 31) = ec1 := (ecn_f (hF109.2 15 rfl) (hF109.1 31 rfl)).trans ex_ec1
    have bat2_105 : (0 : Int) ≤ at2_105 ∧ at2_105 ≤ 3002 := e110 ▸ hW108.1 10
    have ztk2_106 := tz_b tk2_106
    have btk2_106 : (0 : Int) ≤ tk2_106 ∧ tk2_106 ≤ 5 := e111 ▸ hW108.1 11
    have bfk2_107 : (0 : Int) ≤ fk2_107 ∧ fk2_107 ≤ 6 := e112 ▸ hW108.1 16
    refine .inl ⟨rfl, ?_⟩
    rcases q115 with ⟨a119, a120, a121, a122⟩ | ⟨a123, a124, a125, a126⟩
    · have _q : True := trivial
      have z127 := tz_f (tk2_106)
      exact c_readGuard_w_at_348p (X := X) (d := d) (Vs := Vs) (sb := sb) (c0 := c0) (c1 := c1) (G := G) (A := A) (T := T) (ln := ln) (le := le) (at0 := at0) (fk := fk) (op0 := op0) (nd := nd) (tk0 := tk0) (li := li) (ec := ec) (sy := sy) (hd := hd) (hW := hW) (e_ln := e_ln) (e_le := e_le) (e_at0 := e_at0) (e_fk := e_fk) (e_op0 := e_op0) (e_nd := e_nd) (e_tk0 := e_tk0) (e_li := e_li) (e_ec := e_ec) (e_sy := e_sy) (i_SV := i_SV) (p_0 := p_0) (p_1 := p_1) (p_2 := p_2) (p_3 := p_3) (p_4 := p_4) L G103 A104 (one) (at2_105) (tk2_106) (fk2_107) (nd1) (op1) (ec1) gL_0 gL_1 hW108 hF116 hP117 ((e110)) ((e111)) ((e112)) (((hF109.1 31 rfl).trans (ex_nd1))) (((hF109.1 15 rfl).trans (ex_op1))) (ec118) (((hF109.1 9 rfl).trans (fx_9))) (by omega) (by omega) (by omega) (by omega) (by omega) (by omega) (by omega) (by omega) (by omega)
    · have _q : True := trivial
      exfalso
      omega
set_option maxRecDepth 20000 in
set_option maxHeartbeats 4000000 in
theorem c_readGuard_w_at_327p {X : jX} {d : Nat} {Vs : Nat → Prop} {sb : Int} {c0 c1 : jC} {G : Nat → Int} {A : Nat → Nat → Int} {T : jH} {ln le at0 fk op0 nd tk0 li ec sy : Int} (hd : 71 ≤ d + 1) (hW : Wk G A) (e_ln : G 9 = ln) (e_le : A 4 (ln).toNat = le) (e_at0 : G 10 = at0) (e_fk : G 16 = fk) (e_op0 : G 15 = op0) (e_nd : G 31 = nd) (e_tk0 : G 11 = tk0) (e_li : G 3 = li) (e_ec : ecn A (G 31) = ec) (e_sy : G 19 = sy) (i_SV : SV Vs sb G A) (p_0 : 0 ≤ op0 ∧ op0 ≤ 8) (p_1 : fk = 0) (p_2 : nd ≤ 2 * at0 - tz tk0 + 42) (p_3 : at0 ≤ le) (p_4 : ln < li) : ∀ (L : jL) (Gx : Nat → Int) (Ax : Nat → Nat → Int) (one at1 tk1 fk1 nd1 op1 ec1 : Int), jGet L 0 = some (.ref 66) → jGet L 1 = some (.int (i32 one)) → Wk Gx Ax → Fr [9, 10, 11, 12, 13, 14, 15, 16, 17, 18, 31] [15, 16, 17, 18, 19, 20, 21, 22, 24, 28] G A Gx Ax → Pf nd A Ax → Gx 10 = at1 → Gx 11 = tk1 → Gx 16 = fk1 → Gx 31 = nd1 → Gx 15 = op1 → ecn Ax (Gx 31) = ec1 → Gx 9 = ln → ((-2147483648 : Int) ≤ one ∧ one ≤ 2147483647) → (at0 ≤ at1) → (at1 ≤ le) → (nd ≤ nd1) → (op1 = op0) → (one = nd) → (one ≤ 6998 ∧ one < nd1) → (1 ≤ fk1) → (nd1 - nd ≤ (2 * at1 - tz tk1) - (2 * at0 - tz tk0) + 6) → wj X d jm303 (327, L, [], rV c0 c1 Gx Ax T) (fun o V_q => ∃ (G_q : Nat → Int) (A_q : Nat → Nat → Int) (r : Int) (at2 : Int) (fk2 : Int) (nd2 : Int) (ln2 : Int) (ec2 : Int), V_q = rV c0 c1 G_q A_q T ∧ o = .inl (some (.int (i32 r))) ∧ Wk G_q A_q ∧ Fr [9, 10, 11, 12, 13, 14, 15, 16, 17, 18, 31] [15, 16, 17, 18, 19, 20, 21, 22, 24, 28] G A G_q A_q ∧ Pf nd A A_q ∧ ((-2147483648 : Int) ≤ r ∧ r ≤ 2147483647) ∧ G_q 10 = at2 ∧ G_q 16 = fk2 ∧ G_q 31 = nd2 ∧ G_q 9 = ln2 ∧ ecn A_q (G_q 31) = ec2 ∧ (at0 ≤ at2) ∧ (at2 ≤ le) ∧ (nd ≤ nd2) ∧ (0 ≤ r) ∧ (r ≤ nd2) ∧ (((1 ≤ fk2) ∧ (ln2 = ln) ∧ (nd2 - nd ≤ 2 * at2 - 2 * at0 + 12)) ∨ ((fk2 = 0) ∧ (ln2 = ln + 1) ∧ (nd2 - nd ≤ 2 * at2 - (2 * at0 - tz tk0) + 0) ∧ (nd ≤ r) ∧ (r < nd2) ∧ (wU A_q Vs sb (r) (nd) (nd2)) ∧ (NX A_q (r)) ∧ (nd2 - nd + 5 * (ec2 - ec) ≤ 2 * at2 - (2 * at0 - tz tk0) + 0) ∧ (NdM A_q (nd) (nd2) (sy))))) := by
  have hF0 : Fr [9, 10, 11, 12, 13, 14, 15, 16, 17, 18, 31] [15, 16, 17, 18, 19, 20, 21, 22, 24, 28] G A G A := Fr_rf
  have hP0 : Pf nd A A := Pf_rf
  have b_ln : (0 : Int) ≤ ln ∧ ln ≤ 3000 := e_ln ▸ hW.1 9
  have b_le : (0 : Int) ≤ le ∧ le ≤ 3000 := e_le ▸ hW.2 4 _
  have b_at0 : (0 : Int) ≤ at0 ∧ at0 ≤ 3002 := e_at0 ▸ hW.1 10
  have b_fk : (0 : Int) ≤ fk ∧ fk ≤ 6 := e_fk ▸ hW.1 16
  have b_op0 : (-2147483648 : Int) ≤ op0 ∧ op0 ≤ 2147483647 := e_op0 ▸ hW.1 15
  have b_nd : (0 : Int) ≤ nd ∧ nd ≤ 6999 := e_nd ▸ hW.1 31
  have z_tk0 := tz_f tk0
  have b_tk0 : (0 : Int) ≤ tk0 ∧ tk0 ≤ 5 := e_tk0 ▸ hW.1 11
  have b_li : (0 : Int) ≤ li ∧ li ≤ 3000 := e_li ▸ hW.1 3
  have b_sy : (0 : Int) ≤ sy ∧ sy ≤ 202 := e_sy ▸ hW.1 19
  intro L Gx Ax one at1 tk1 fk1 nd1 op1 ec1 gL_0 gL_1 hWx hFx hPx ex_at1 ex_tk1 ex_fk1 ex_nd1 ex_op1 ex_ec1 fx_9 rx_one iv_0 iv_1 iv_2 iv_3 iv_4 iv_5 iv_6 iv_7
  have b_at1 : (0 : Int) ≤ at1 ∧ at1 ≤ 3002 := ex_at1 ▸ hWx.1 10
  have z_tk1 := tz_f tk1
  have b_tk1 : (0 : Int) ≤ tk1 ∧ tk1 ≤ 5 := ex_tk1 ▸ hWx.1 11
  have b_fk1 : (0 : Int) ≤ fk1 ∧ fk1 ≤ 6 := ex_fk1 ▸ hWx.1 16
  have b_nd1 : (0 : Int) ≤ nd1 ∧ nd1 ≤ 6999 := ex_nd1 ▸ hWx.1 31
  have b_op1 : (-2147483648 : Int) ≤ op1 ∧ op1 ≤ 2147483647 := ex_op1 ▸ hWx.1 15
  refine jx_ld (pc_q := 328) (l_q := L) (st_q := [.ref 66]) rfl (jl_aloadn gL_0) ?_
  refine jr_get (pc_q := 331) (i := 35) (v := .ref 85) rfl rfl (by decide) rfl rfl ?_
  refine jx_ld (pc_q := 332) (l_q := L) (st_q := [.int (i32 (one)), .ref 85]) rfl (jl_iloadn gL_1) ?_
  refine jx_ld (pc_q := 333) (l_q := L) (st_q := [.ref 66, .int (i32 (one)), .ref 85]) rfl (jl_aloadn gL_0) ?_
  refine jx_ar (pc_q := 334) (st_q := [.int (i32 (1)), .ref 66, .int (i32 (one)), .ref 85]) rfl rfl rfl rfl ?_
  refine jx_vr (pc_q := 337) (as := [.int (i32 (1))]) (st := [.int (i32 (one)), .ref 85]) rfl rfl rfl rfl ⟨rfl, rfl, Nat.le_of_ble_eq_true rfl⟩ rfl rfl (c_readReference_w (dd := d) (hd := by omega) (hW := hWx) (ch := 1) (ln := ln) (e_ln := show Gx 9 = ln from (fx_9)) (le := le) (e_le := show Ax 4 (ln).toNat = le from (congrFun (hFx.2 4 rfl) _).trans (e_le)) (at0 := at1) (e_at0 := show Gx 10 = at1 from (ex_at1)) (fk := fk1) (e_fk := show Gx 16 = fk1 from (ex_fk1)) (op0 := op1) (e_op0 := show Gx 15 = op1 from (ex_op1)) (nd := nd1) (e_nd := show Gx 31 = nd1 from (ex_nd1)) (tk0 := tk1) (e_tk0 := show Gx 11 = tk1 from (ex_tk1)) (ec := ec1) (e_ec := show ecn Ax (Gx 31) = ec1 from ex_ec1) (sy := sy) (e_sy := show Gx 19 = sy from ((hFx.1 19 rfl).trans (e_sy))) (i_SV := (SV_ext ((hFx.1 29 rfl)) ((hFx.2 14 rfl)) i_SV)) (h_ch := ⟨(by decide), (by decide)⟩)  (p_0 := by omega) (p_1 := by omega) (p_2 := by omega) (p_3 := by omega) (p_4 := by omega)) (fun o V_q hq => ?_)
  obtain ⟨G128, A129, r130, at2_131, fk2_132, op2_133, nd2_134, tk2_135, ec2_136, rfl, rfl, hW137, hF138, hQ139, b140, e141, e142, e143, e144, e145, e146, p147, p148, p149, p150, p151, p152, q153⟩ := hq
  have hF154 := Fr_tr hFx hF138 (Fr_sub (by decide)) (Fr_sub (by decide))
  have hP155 := Pf_tr hPx hQ139 (by omega)
  have bat2_131 : (0 : Int) ≤ at2_131 ∧ at2_131 ≤ 3002 := e141 ▸ hW137.1 10
  have bfk2_132 : (0 : Int) ≤ fk2_132 ∧ fk2_132 ≤ 6 := e142 ▸ hW137.1 16
  have bop2_133 : (-2147483648 : Int) ≤ op2_133 ∧ op2_133 ≤ 2147483647 := e143 ▸ hW137.1 15
  have bnd2_134 : (0 : Int) ≤ nd2_134 ∧ nd2_134 ≤ 6999 := e144 ▸ hW137.1 31
  have ztk2_135 := tz_b tk2_135
  have btk2_135 : (0 : Int) ≤ tk2_135 ∧ tk2_135 ≤ 5 := e145 ▸ hW137.1 11
  refine .inr ⟨_, rfl, ?_⟩
  rcases q153 with ⟨a156, a157, a158, a159, a160, a161⟩ | ⟨a162, a163, a164⟩ | ⟨a165, a166, a167, a168, a169, a170, a171⟩
  · have _q : True := trivial
    refine jr_st (pc_q := 338) (i := 18) (m := 7000) (z := one) (y := r130) rfl (by decide) rfl (by decide) (by omega) (by omega) rfl ?_
    have hW173 : Wk G128 (uA A129 18 (one).toNat (r130)) := Wk_a hW137 (show (-2147483648 : Int) ≤ r130 by omega) (show r130 ≤ (2147483647 : Int) by omega)
    have hF174 := Fr_a (z := r130) (k := 18) (n := (one).toNat) hF154 (by decide)
    obtain ⟨A172, eA172⟩ : ∃ q, q = uA A129 18 (one).toNat (r130) := ⟨_, rfl⟩
    rw [← eA172]
    rw [← eA172] at hW173 hF174
    have q175 : A172 18 (one).toNat = r130 := by rw [eA172]; exact uA_eq
    have hP176 : Pf nd A A172 := eA172 ▸ Pf_a hP155 (z := one) (by omega) (by omega)
    have ec177 : ecn A172 (G128 31) = ec2_136 := (ecn_e ((congrFun eA172 15).trans (uA_ne (by decide)))).trans e146
    have z178 := tz_f (tk2_135)
    exact c_readGuard_w_at_338p (X := X) (d := d) (Vs := Vs) (sb := sb) (c0 := c0) (c1 := c1) (G := G) (A := A) (T := T) (ln := ln) (le := le) (at0 := at0) (fk := fk) (op0 := op0) (nd := nd) (tk0 := tk0) (li := li) (ec := ec) (sy := sy) (hd := hd) (hW := hW) (e_ln := e_ln) (e_le := e_le) (e_at0 := e_at0) (e_fk := e_fk) (e_op0 := e_op0) (e_nd := e_nd) (e_tk0 := e_tk0) (e_li := e_li) (e_ec := e_ec) (e_sy := e_sy) (i_SV := i_SV) (p_0 := p_0) (p_1 := p_1) (p_2 := p_2) (p_3 := p_3) (p_4 := p_4) L G128 A172 (one) (at2_131) (tk2_135) (fk2_132) (nd2_134) (op2_133) (ec2_136) gL_0 gL_1 hW173 hF174 hP176 ((e141)) ((e145)) ((e142)) ((e144)) ((e143)) (ec177) (((hF138.1 9 rfl).trans (fx_9))) (by omega) (by omega) (by omega) (by omega) (by omega) (by omega) (by omega) (by omega) (by omega)
  · have _q : True := trivial
    exfalso
    omega
  · have _q : True := trivial
    exfalso
    omega
set_option maxRecDepth 20000 in
set_option maxHeartbeats 4000000 in
theorem c_readGuard_w_at_310p {X : jX} {d : Nat} {Vs : Nat → Prop} {sb : Int} {c0 c1 : jC} {G : Nat → Int} {A : Nat → Nat → Int} {T : jH} {ln le at0 fk op0 nd tk0 li ec sy : Int} (hd : 71 ≤ d + 1) (hW : Wk G A) (e_ln : G 9 = ln) (e_le : A 4 (ln).toNat = le) (e_at0 : G 10 = at0) (e_fk : G 16 = fk) (e_op0 : G 15 = op0) (e_nd : G 31 = nd) (e_tk0 : G 11 = tk0) (e_li : G 3 = li) (e_ec : ecn A (G 31) = ec) (e_sy : G 19 = sy) (i_SV : SV Vs sb G A) (p_0 : 0 ≤ op0 ∧ op0 ≤ 8) (p_1 : fk = 0) (p_2 : nd ≤ 2 * at0 - tz tk0 + 42) (p_3 : at0 ≤ le) (p_4 : ln < li) : ∀ (L : jL) (Gx : Nat → Int) (Ax : Nat → Nat → Int) (one at1 tk1 fk1 nd1 op1 ec1 : Int), jGet L 0 = some (.ref 66) → jGet L 1 = some (.int (i32 one)) → Wk Gx Ax → Fr [9, 10, 11, 12, 13, 14, 15, 16, 17, 18, 31] [15, 16, 17, 18, 19, 20, 21, 22, 24, 28] G A Gx Ax → Pf nd A Ax → Gx 10 = at1 → Gx 11 = tk1 → Gx 16 = fk1 → Gx 31 = nd1 → Gx 15 = op1 → ecn Ax (Gx 31) = ec1 → Gx 9 = ln → ((-2147483648 : Int) ≤ one ∧ one ≤ 2147483647) → (at0 ≤ at1) → (at1 ≤ le) → (nd ≤ nd1) → (op1 = op0) → (one = nd) → (one ≤ 6998 ∧ one < nd1) → (1 ≤ fk1) → (nd1 - nd ≤ (2 * at1 - tz tk1) - (2 * at0 - tz tk0) + 6) → wj X d jm303 (310, L, [], rV c0 c1 Gx Ax T) (fun o V_q => ∃ (G_q : Nat → Int) (A_q : Nat → Nat → Int) (r : Int) (at2 : Int) (fk2 : Int) (nd2 : Int) (ln2 : Int) (ec2 : Int), V_q = rV c0 c1 G_q A_q T ∧ o = .inl (some (.int (i32 r))) ∧ Wk G_q A_q ∧ Fr [9, 10, 11, 12, 13, 14, 15, 16, 17, 18, 31] [15, 16, 17, 18, 19, 20, 21, 22, 24, 28] G A G_q A_q ∧ Pf nd A A_q ∧ ((-2147483648 : Int) ≤ r ∧ r ≤ 2147483647) ∧ G_q 10 = at2 ∧ G_q 16 = fk2 ∧ G_q 31 = nd2 ∧ G_q 9 = ln2 ∧ ecn A_q (G_q 31) = ec2 ∧ (at0 ≤ at2) ∧ (at2 ≤ le) ∧ (nd ≤ nd2) ∧ (0 ≤ r) ∧ (r ≤ nd2) ∧ (((1 ≤ fk2) ∧ (ln2 = ln) ∧ (nd2 - nd ≤ 2 * at2 - 2 * at0 + 12)) ∨ ((fk2 = 0) ∧ (ln2 = ln + 1) ∧ (nd2 - nd ≤ 2 * at2 - (2 * at0 - tz tk0) + 0) ∧ (nd ≤ r) ∧ (r < nd2) ∧ (wU A_q Vs sb (r) (nd) (nd2)) ∧ (NX A_q (r)) ∧ (nd2 - nd + 5 * (ec2 - ec) ≤ 2 * at2 - (2 * at0 - tz tk0) + 0) ∧ (NdM A_q (nd) (nd2) (sy))))) := by
  have hF0 : Fr [9, 10, 11, 12, 13, 14, 15, 16, 17, 18, 31] [15, 16, 17, 18, 19, 20, 21, 22, 24, 28] G A G A := Fr_rf
  have hP0 : Pf nd A A := Pf_rf
  have b_ln : (0 : Int) ≤ ln ∧ ln ≤ 3000 := e_ln ▸ hW.1 9
  have b_le : (0 : Int) ≤ le ∧ le ≤ 3000 := e_le ▸ hW.2 4 _
  have b_at0 : (0 : Int) ≤ at0 ∧ at0 ≤ 3002 := e_at0 ▸ hW.1 10
  have b_fk : (0 : Int) ≤ fk ∧ fk ≤ 6 := e_fk ▸ hW.1 16
  have b_op0 : (-2147483648 : Int) ≤ op0 ∧ op0 ≤ 2147483647 := e_op0 ▸ hW.1 15
  have b_nd : (0 : Int) ≤ nd ∧ nd ≤ 6999 := e_nd ▸ hW.1 31
  have z_tk0 := tz_f tk0
  have b_tk0 : (0 : Int) ≤ tk0 ∧ tk0 ≤ 5 := e_tk0 ▸ hW.1 11
  have b_li : (0 : Int) ≤ li ∧ li ≤ 3000 := e_li ▸ hW.1 3
  have b_sy : (0 : Int) ≤ sy ∧ sy ≤ 202 := e_sy ▸ hW.1 19
  intro L Gx Ax one at1 tk1 fk1 nd1 op1 ec1 gL_0 gL_1 hWx hFx hPx ex_at1 ex_tk1 ex_fk1 ex_nd1 ex_op1 ex_ec1 fx_9 rx_one iv_0 iv_1 iv_2 iv_3 iv_4 iv_5 iv_6 iv_7
  have b_at1 : (0 : Int) ≤ at1 ∧ at1 ≤ 3002 := ex_at1 ▸ hWx.1 10
  have z_tk1 := tz_f tk1
  have b_tk1 : (0 : Int) ≤ tk1 ∧ tk1 ≤ 5 := ex_tk1 ▸ hWx.1 11
  have b_fk1 : (0 : Int) ≤ fk1 ∧ fk1 ≤ 6 := ex_fk1 ▸ hWx.1 16
  have b_nd1 : (0 : Int) ≤ nd1 ∧ nd1 ≤ 6999 := ex_nd1 ▸ hWx.1 31
  have b_op1 : (-2147483648 : Int) ≤ op1 ∧ op1 ≤ 2147483647 := ex_op1 ▸ hWx.1 15
  refine jx_ld (pc_q := 311) (l_q := L) (st_q := [.ref 66]) rfl (jl_aloadn gL_0) ?_
  refine jx_ar (pc_q := 313) (st_q := [.int (i32 (7)), .ref 66]) rfl rfl rfl rfl ?_
  have b179 : (-2147483648 : Int) ≤ Gx 13 ∧ Gx 13 ≤ 2147483647 := hWx.1 13
  refine jx_vr (pc_q := 316) (as := [.int (i32 (7))]) (st := []) rfl rfl rfl rfl ⟨rfl, rfl, Nat.le_of_ble_eq_true rfl⟩ rfl rfl (c_isKey (dd := d) (hd := by omega) (hW := hWx) (k := 7) (tk := tk1) (e_tk := show Gx 11 = tk1 from (ex_tk1)) (tn := Gx 13) (e_tn := show Gx 13 = Gx 13 from rfl)  (h_k := ⟨(by decide), (by decide)⟩)  ) (fun o V_q hq => ?_)
  obtain ⟨r180, rfl, rfl, b181, q182⟩ := hq
  refine .inr ⟨_, rfl, ?_⟩
  rcases q182 with ⟨rfl, a183, a184, a185⟩ | rfl
  · have _q : True := trivial
    refine jx_if_eq (pc_q := 319) (tg := 327) rfl rfl rfl (by decide) (by decide) (fun h186 => ?_) (fun h186 => ?_)
    · have _q := h186
      exact absurd h186 (by omega)
    · have _q := h186
      refine jx_ld (pc_q := 320) (l_q := L) (st_q := [.ref 66]) rfl (jl_aloadn gL_0) ?_
      refine jx_ar (pc_q := 321) (st_q := [.int (i32 (1)), .ref 66]) rfl rfl rfl rfl ?_
      refine jx_vr (pc_q := 324) (as := [.int (i32 (1))]) (st := []) rfl rfl rfl rfl ⟨rfl, rfl, Nat.le_of_ble_eq_true rfl⟩ rfl rfl (c_need (dd := d) (hd := by omega) (hW := hWx) (g := 1) (ln := ln) (e_ln := show Gx 9 = ln from (fx_9)) (le := le) (e_le := show Ax 4 (ln).toNat = le from (congrFun (hFx.2 4 rfl) _).trans (e_le)) (at0 := at1) (e_at0 := show Gx 10 = at1 from (ex_at1)) (fk := fk1) (e_fk := show Gx 16 = fk1 from (ex_fk1)) (tk0 := tk1) (e_tk0 := show Gx 11 = tk1 from (ex_tk1))  (h_g := ⟨(by decide), (by decide)⟩)  (p_0 := by omega)) (fun o V_q hq => ?_)
      obtain ⟨G187, A188, at2_189, tk2_190, fk2_191, rfl, rfl, hW192, hF193, e194, e195, e196, p197, p198, q199⟩ := hq
      have hF200 := Fr_tr hFx hF193 (Fr_sub (by decide)) (Fr_sub (by decide))
      have hP201 := Pf_f hPx hF193 (by decide)
      have ec202 : ecn A188 (G187 31) = ec1 := (ecn_f (hF193.2 15 rfl) (hF193.1 31 rfl)).trans ex_ec1
      have bat2_189 : (0 : Int) ≤ at2_189 ∧ at2_189 ≤ 3002 := e194 ▸ hW192.1 10
      have ztk2_190 := tz_b tk2_190
      have btk2_190 : (0 : Int) ≤ tk2_190 ∧ tk2_190 ≤ 5 := e195 ▸ hW192.1 11
      have bfk2_191 : (0 : Int) ≤ fk2_191 ∧ fk2_191 ≤ 6 := e196 ▸ hW192.1 16
      refine .inl ⟨rfl, ?_⟩
      rcases q199 with ⟨a203, a204, a205, a206⟩ | ⟨a207, a208, a209, a210⟩
      · have _q : True := trivial
        refine jx_go (tg := 359) rfl rfl ?_
        have z211 := tz_f (tk2_190)
        exact c_readGuard_w_at_359p (X := X) (d := d) (Vs := Vs) (sb := sb) (c0 := c0) (c1 := c1) (G := G) (A := A) (T := T) (ln := ln) (le := le) (at0 := at0) (fk := fk) (op0 := op0) (nd := nd) (tk0 := tk0) (li := li) (ec := ec) (sy := sy) (hd := hd) (hW := hW) (e_ln := e_ln) (e_le := e_le) (e_at0 := e_at0) (e_fk := e_fk) (e_op0 := e_op0) (e_nd := e_nd) (e_tk0 := e_tk0) (e_li := e_li) (e_ec := e_ec) (e_sy := e_sy) (i_SV := i_SV) (p_0 := p_0) (p_1 := p_1) (p_2 := p_2) (p_3 := p_3) (p_4 := p_4) L G187 A188 (one) (at2_189) (tk2_190) (fk2_191) (nd1) (op1) (ec1) gL_0 gL_1 hW192 hF200 hP201 ((e194)) ((e195)) ((e196)) (((hF193.1 31 rfl).trans (ex_nd1))) (((hF193.1 15 rfl).trans (ex_op1))) (ec202) (((hF193.1 9 rfl).trans (fx_9))) (by omega) (by omega) (by omega) (by omega) (by omega) (by omega) (by omega) (by omega) (by omega)
      · have _q : True := trivial
        exfalso
        omega
  · have _q : True := trivial
    refine jx_if_eq (pc_q := 319) (tg := 327) rfl rfl rfl (by decide) (by decide) (fun h212 => ?_) (fun h212 => ?_)
    · have _q := h212
      have z213 := tz_f (tk1)
      exact c_readGuard_w_at_327p (X := X) (d := d) (Vs := Vs) (sb := sb) (c0 := c0) (c1 := c1) (G := G) (A := A) (T := T) (ln := ln) (le := le) (at0 := at0) (fk := fk) (op0 := op0) (nd := nd) (tk0 := tk0) (li := li) (ec := ec) (sy := sy) (hd := hd) (hW := hW) (e_ln := e_ln) (e_le := e_le) (e_at0 := e_at0) (e_fk := e_fk) (e_op0 := e_op0) (e_nd := e_nd) (e_tk0 := e_tk0) (e_li := e_li) (e_ec := e_ec) (e_sy := e_sy) (i_SV := i_SV) (p_0 := p_0) (p_1 := p_1) (p_2 := p_2) (p_3 := p_3) (p_4 := p_4) L Gx Ax (one) (at1) (tk1) (fk1) (nd1) (op1) (ec1) gL_0 gL_1 hWx hFx hPx ((ex_at1)) ((ex_tk1)) ((ex_fk1)) ((ex_nd1)) ((ex_op1)) (ex_ec1) ((fx_9)) (by omega) (by omega) (by omega) (by omega) (by omega) (by omega) (by omega) (by omega) (by omega)
    · have _q := h212
      exact absurd h212 (by omega)
set_option maxRecDepth 20000 in
set_option maxHeartbeats 4000000 in
theorem c_readGuard_w_at_293 {X : jX} {d : Nat} {Vs : Nat → Prop} {sb : Int} {c0 c1 : jC} {G : Nat → Int} {A : Nat → Nat → Int} {T : jH} {ln le at0 fk op0 nd tk0 li ec sy : Int} (hd : 71 ≤ d + 1) (hW : Wk G A) (e_ln : G 9 = ln) (e_le : A 4 (ln).toNat = le) (e_at0 : G 10 = at0) (e_fk : G 16 = fk) (e_op0 : G 15 = op0) (e_nd : G 31 = nd) (e_tk0 : G 11 = tk0) (e_li : G 3 = li) (e_ec : ecn A (G 31) = ec) (e_sy : G 19 = sy) (i_SV : SV Vs sb G A) (p_0 : 0 ≤ op0 ∧ op0 ≤ 8) (p_1 : fk = 0) (p_2 : nd ≤ 2 * at0 - tz tk0 + 42) (p_3 : at0 ≤ le) (p_4 : ln < li) : ∀ (L : jL) (Gx : Nat → Int) (Ax : Nat → Nat → Int) (one e at1 tk1 fk1 nd1 op1 ec1 : Int), jGet L 0 = some (.ref 66) → jGet L 1 = some (.int (i32 one)) → jGet L 2 = some (.int (i32 e)) → Wk Gx Ax → Fr [9, 10, 11, 12, 13, 14, 15, 16, 17, 18, 31] [15, 16, 17, 18, 19, 20, 21, 22, 24, 28] G A Gx Ax → Pf nd A Ax → Gx 10 = at1 → Gx 11 = tk1 → Gx 16 = fk1 → Gx 31 = nd1 → Gx 15 = op1 → ecn Ax (Gx 31) = ec1 → Gx 9 = ln → ((-2147483648 : Int) ≤ one ∧ one ≤ 2147483647) → ((-2147483648 : Int) ≤ e ∧ e ≤ 2147483647) → (at0 ≤ at1) → (at1 ≤ le) → (nd ≤ nd1) → (op1 = op0) → (one = nd) → (one ≤ 6998 ∧ one < nd1) → (fk1 = 0) → (nd1 - nd ≤ (2 * at1 - tz tk1) - (2 * at0 - tz tk0) + 1) → (0 ≤ e ∧ e ≤ nd1) → (ND Ax (one) (33) (0) (0) (0) (0) (0) (0)) → (wE Ax Vs sb (22) (e) (one + 1) (nd1)) → (nd1 - nd + 5 * (ec1 - ec) ≤ (2 * at1 - tz tk1) - (2 * at0 - tz tk0) + 1 - tz tk1) → (NdM Ax (nd) (nd1) (sy)) → wj X d jm303 (293, L, [], rV c0 c1 Gx Ax T) (fun o V_q => ∃ (G_q : Nat → Int) (A_q : Nat → Nat → Int) (r : Int) (at2 : Int) (fk2 : Int) (nd2 : Int) (ln2 : Int) (ec2 : Int), V_q = rV c0 c1 G_q A_q T ∧ o = .inl (some (.int (i32 r))) ∧ Wk G_q A_q ∧ Fr [9, 10, 11, 12, 13, 14, 15, 16, 17, 18, 31] [15, 16, 17, 18, 19, 20, 21, 22, 24, 28] G A G_q A_q ∧ Pf nd A A_q ∧ ((-2147483648 : Int) ≤ r ∧ r ≤ 2147483647) ∧ G_q 10 = at2 ∧ G_q 16 = fk2 ∧ G_q 31 = nd2 ∧ G_q 9 = ln2 ∧ ecn A_q (G_q 31) = ec2 ∧ (at0 ≤ at2) ∧ (at2 ≤ le) ∧ (nd ≤ nd2) ∧ (0 ≤ r) ∧ (r ≤ nd2) ∧ (((1 ≤ fk2) ∧ (ln2 = ln) ∧ (nd2 - nd ≤ 2 * at2 - 2 * at0 + 12)) ∨ ((fk2 = 0) ∧ (ln2 = ln + 1) ∧ (nd2 - nd ≤ 2 * at2 - (2 * at0 - tz tk0) + 0) ∧ (nd ≤ r) ∧ (r < nd2) ∧ (wU A_q Vs sb (r) (nd) (nd2)) ∧ (NX A_q (r)) ∧ (nd2 - nd + 5 * (ec2 - ec) ≤ 2 * at2 - (2 * at0 - tz tk0) + 0) ∧ (NdM A_q (nd) (nd2) (sy))))) := by
  have hF0 : Fr [9, 10, 11, 12, 13, 14, 15, 16, 17, 18, 31] [15, 16, 17, 18, 19, 20, 21, 22, 24, 28] G A G A := Fr_rf
  have hP0 : Pf nd A A := Pf_rf
  have b_ln : (0 : Int) ≤ ln ∧ ln ≤ 3000 := e_ln ▸ hW.1 9
  have b_le : (0 : Int) ≤ le ∧ le ≤ 3000 := e_le ▸ hW.2 4 _
  have b_at0 : (0 : Int) ≤ at0 ∧ at0 ≤ 3002 := e_at0 ▸ hW.1 10
  have b_fk : (0 : Int) ≤ fk ∧ fk ≤ 6 := e_fk ▸ hW.1 16
  have b_op0 : (-2147483648 : Int) ≤ op0 ∧ op0 ≤ 2147483647 := e_op0 ▸ hW.1 15
  have b_nd : (0 : Int) ≤ nd ∧ nd ≤ 6999 := e_nd ▸ hW.1 31
  have z_tk0 := tz_f tk0
  have b_tk0 : (0 : Int) ≤ tk0 ∧ tk0 ≤ 5 := e_tk0 ▸ hW.1 11
  have b_li : (0 : Int) ≤ li ∧ li ≤ 3000 := e_li ▸ hW.1 3
  have b_sy : (0 : Int) ≤ sy ∧ sy ≤ 202 := e_sy ▸ hW.1 19
  intro L Gx Ax one e at1 tk1 fk1 nd1 op1 ec1 gL_0 gL_1 gL_2 hWx hFx hPx ex_at1 ex_tk1 ex_fk1 ex_nd1 ex_op1 ex_ec1 fx_9 rx_one rx_e iv_0 iv_1 iv_2 iv_3 iv_4 iv_5 iv_6 iv_7 iv_8 iv_9 iv_10 iv_11 iv_12
  have b_at1 : (0 : Int) ≤ at1 ∧ at1 ≤ 3002 := ex_at1 ▸ hWx.1 10
  have z_tk1 := tz_f tk1
  have b_tk1 : (0 : Int) ≤ tk1 ∧ tk1 ≤ 5 := ex_tk1 ▸ hWx.1 11
  have b_fk1 : (0 : Int) ≤ fk1 ∧ fk1 ≤ 6 := ex_fk1 ▸ hWx.1 16
  have b_nd1 : (0 : Int) ≤ nd1 ∧ nd1 ≤ 6999 := ex_nd1 ▸ hWx.1 31
  have b_op1 : (-2147483648 : Int) ≤ op1 ∧ op1 ≤ 2147483647 := ex_op1 ▸ hWx.1 15
  refine jx_ld (pc_q := 294) (l_q := L) (st_q := [.ref 66]) rfl (jl_aloadn gL_0) ?_
  refine jr_get (pc_q := 297) (i := 34) (v := .ref 84) rfl rfl (by decide) rfl rfl ?_
  refine jx_ld (pc_q := 298) (l_q := L) (st_q := [.int (i32 (one)), .ref 84]) rfl (jl_iloadn gL_1) ?_
  refine jx_ld (pc_q := 299) (l_q := L) (st_q := [.int (i32 (e)), .int (i32 (one)), .ref 84]) rfl (jl_iloadn gL_2) ?_
  refine jr_st (pc_q := 300) (i := 17) (m := 7000) (z := one) (y := e) rfl (by decide) rfl (by decide) (by omega) (by omega) rfl ?_
  have hW215 : Wk Gx (uA Ax 17 (one).toNat (e)) := Wk_a hWx (show (-2147483648 : Int) ≤ e by omega) (show e ≤ (2147483647 : Int) by omega)
  have hF216 := Fr_a (z := e) (k := 17) (n := (one).toNat) hFx (by decide)
  obtain ⟨A214, eA214⟩ : ∃ q, q = uA Ax 17 (one).toNat (e) := ⟨_, rfl⟩
  rw [← eA214]
  rw [← eA214] at hW215 hF216
  have q217 : A214 17 (one).toNat = e := by rw [eA214]; exact uA_eq
  have hP218 : Pf nd A A214 := eA214 ▸ Pf_a hPx (z := one) (by omega) (by omega)
  have sf219 : ND A214 (one) (33) (e) (0) (0) (0) (0) (0) := ND_a eA214 iv_9
  have sf220 : wE A214 Vs sb (22) (e) (one + 1) (nd1) := wE_ag (by omega) (Sg_ne eA214 rfl) (Ag_st eA214 (by omega) (by omega)) iv_10
  have sf221 : NdM A214 (nd) (nd1) (sy) := NdM_st eA214 (by decide) iv_12
  have ec222 : ecn A214 (Gx 31) = ec1 := (ecn_e ((congrFun eA214 15).trans (uA_ne (by decide)))).trans ex_ec1
  refine jx_ld (pc_q := 301) (l_q := L) (st_q := [.ref 66]) rfl (jl_aloadn gL_0) ?_
  refine jx_ld (pc_q := 302) (l_q := L) (st_q := [.ref 66, .ref 66]) rfl (jl_aloadn gL_0) ?_
  refine jx_ar (pc_q := 304) (st_q := [.int (i32 (38)), .ref 66, .ref 66]) rfl rfl rfl rfl ?_
  have b223 : (-2147483648 : Int) ≤ Gx 13 ∧ Gx 13 ≤ 2147483647 := hWx.1 13
  refine jx_vr (pc_q := 307) (as := [.int (i32 (38))]) (st := [.ref 66]) rfl rfl rfl rfl ⟨rfl, rfl, Nat.le_of_ble_eq_true rfl⟩ rfl rfl (c_is (dd := d) (hd := by omega) (hW := hW215) (k := 38) (tk := tk1) (e_tk := show Gx 11 = tk1 from (ex_tk1)) (tn := Gx 13) (e_tn := show Gx 13 = Gx 13 from rfl)  (h_k := ⟨(by decide), (by decide)⟩)  ) (fun o V_q hq => ?_)
  obtain ⟨r224, rfl, rfl, b225, q226⟩ := hq
  refine .inr ⟨_, rfl, ?_⟩
  rcases q226 with ⟨rfl, a227, a228, a229⟩ | rfl
  · have _q : True := trivial
    refine jx_vr (pc_q := 310) (as := [.int (i32 (1))]) (st := []) rfl rfl rfl rfl ⟨rfl, rfl, Nat.le_of_ble_eq_true rfl⟩ rfl rfl (c_need (dd := d) (hd := by omega) (hW := hW215) (g := 1) (ln := ln) (e_ln := show Gx 9 = ln from (fx_9)) (le := le) (e_le := show A214 4 (ln).toNat = le from (congrFun (((congrFun eA214 4).trans (uA_ne (by decide))).trans (hFx.2 4 rfl)) _).trans (e_le)) (at0 := at1) (e_at0 := show Gx 10 = at1 from (ex_at1)) (fk := fk1) (e_fk := show Gx 16 = fk1 from (ex_fk1)) (tk0 := tk1) (e_tk0 := show Gx 11 = tk1 from (ex_tk1))  (h_g := ⟨(by decide), (by decide)⟩)  (p_0 := by omega)) (fun o V_q hq => ?_)
    obtain ⟨G230, A231, at2_232, tk2_233, fk2_234, rfl, rfl, hW235, hF236, e237, e238, e239, p240, p241, q242⟩ := hq
    have hF243 := Fr_tr hF216 hF236 (Fr_sub (by decide)) (Fr_sub (by decide))
    have hP244 := Pf_f hP218 hF236 (by decide)
    have sf245 : ND A231 (one) (33) (e) (0) (0) (0) (0) (0) := ND_ag (by omega) (Ag_fr hF236 (by decide)) sf219
    have sf246 : wE A231 Vs sb (22) (e) (one + 1) (nd1) := wE_ag (by omega) (Sg_fr hF236 (by decide)) (Ag_fr hF236 (by decide)) sf220
    have sf247 : NdM A231 (nd) (nd1) (sy) := NdM_f hF236 (by decide) sf221
    have ec248 : ecn A231 (G230 31) = ec1 := (ecn_f (hF236.2 15 rfl) (hF236.1 31 rfl)).trans ec222
    have bat2_232 : (0 : Int) ≤ at2_232 ∧ at2_232 ≤ 3002 := e237 ▸ hW235.1 10
    have ztk2_233 := tz_b tk2_233
    have btk2_233 : (0 : Int) ≤ tk2_233 ∧ tk2_233 ≤ 5 := e238 ▸ hW235.1 11
    have bfk2_234 : (0 : Int) ≤ fk2_234 ∧ fk2_234 ≤ 6 := e239 ▸ hW235.1 16
    refine .inl ⟨rfl, ?_⟩
    rcases q242 with ⟨a249, a250, a251, a252⟩ | ⟨a253, a254, a255, a256⟩
    · have _q : True := trivial
      have z257 := tz_f (tk2_233)
      exact c_readGuard_w_at_310p (X := X) (d := d) (Vs := Vs) (sb := sb) (c0 := c0) (c1 := c1) (G := G) (A := A) (T := T) (ln := ln) (le := le) (at0 := at0) (fk := fk) (op0 := op0) (nd := nd) (tk0 := tk0) (li := li) (ec := ec) (sy := sy) (hd := hd) (hW := hW) (e_ln := e_ln) (e_le := e_le) (e_at0 := e_at0) (e_fk := e_fk) (e_op0 := e_op0) (e_nd := e_nd) (e_tk0 := e_tk0) (e_li := e_li) (e_ec := e_ec) (e_sy := e_sy) (i_SV := i_SV) (p_0 := p_0) (p_1 := p_1) (p_2 := p_2) (p_3 := p_3) (p_4 := p_4) L G230 A231 (one) (at2_232) (tk2_233) (fk2_234) (nd1) (op1) (ec1) gL_0 gL_1 hW235 hF243 hP244 ((e237)) ((e238)) ((e239)) (((hF236.1 31 rfl).trans (ex_nd1))) (((hF236.1 15 rfl).trans (ex_op1))) (ec248) (((hF236.1 9 rfl).trans (fx_9))) (by omega) (by omega) (by omega) (by omega) (by omega) (by omega) (by omega) (by omega) (by omega)
    · have _q : True := trivial
      have pz258 : at1 + tz tk2_233 ≤ at2_232 := by omega
      refine jx_ld (pc_q := 311) (l_q := L) (st_q := [.ref 66]) rfl (jl_aloadn gL_0) ?_
      refine jx_ar (pc_q := 313) (st_q := [.int (i32 (7)), .ref 66]) rfl rfl rfl rfl ?_
      have b259 : (-2147483648 : Int) ≤ G230 13 ∧ G230 13 ≤ 2147483647 := hW235.1 13
      refine jx_vr (pc_q := 316) (as := [.int (i32 (7))]) (st := []) rfl rfl rfl rfl ⟨rfl, rfl, Nat.le_of_ble_eq_true rfl⟩ rfl rfl (c_isKey (dd := d) (hd := by omega) (hW := hW235) (k := 7) (tk := tk2_233) (e_tk := show G230 11 = tk2_233 from (e238)) (tn := G230 13) (e_tn := show G230 13 = G230 13 from rfl)  (h_k := ⟨(by decide), (by decide)⟩)  ) (fun o V_q hq => ?_)
      obtain ⟨r260, rfl, rfl, b261, q262⟩ := hq
      refine .inr ⟨_, rfl, ?_⟩
      rcases q262 with ⟨rfl, a263, a264, a265⟩ | rfl
      · have _q : True := trivial
        refine jx_if_eq (pc_q := 319) (tg := 327) rfl rfl rfl (by decide) (by decide) (fun h266 => ?_) (fun h266 => ?_)
        · have _q := h266
          exact absurd h266 (by omega)
        · have _q := h266
          refine jx_ld (pc_q := 320) (l_q := L) (st_q := [.ref 66]) rfl (jl_aloadn gL_0) ?_
          refine jx_ar (pc_q := 321) (st_q := [.int (i32 (1)), .ref 66]) rfl rfl rfl rfl ?_
          refine jx_vr (pc_q := 324) (as := [.int (i32 (1))]) (st := []) rfl rfl rfl rfl ⟨rfl, rfl, Nat.le_of_ble_eq_true rfl⟩ rfl rfl (c_need (dd := d) (hd := by omega) (hW := hW235) (g := 1) (ln := ln) (e_ln := show G230 9 = ln from ((hF236.1 9 rfl).trans (fx_9))) (le := le) (e_le := show A231 4 (ln).toNat = le from (congrFun ((hF236.2 4 rfl).trans (((congrFun eA214 4).trans (uA_ne (by decide))).trans (hFx.2 4 rfl))) _).trans (e_le)) (at0 := at2_232) (e_at0 := show G230 10 = at2_232 from (e237)) (fk := fk2_234) (e_fk := show G230 16 = fk2_234 from (e239)) (tk0 := tk2_233) (e_tk0 := show G230 11 = tk2_233 from (e238))  (h_g := ⟨(by decide), (by decide)⟩)  (p_0 := by omega)) (fun o V_q hq => ?_)
          obtain ⟨G267, A268, at2_269, tk2_270, fk2_271, rfl, rfl, hW272, hF273, e274, e275, e276, p277, p278, q279⟩ := hq
          have hF280 := Fr_tr hF243 hF273 (Fr_sub (by decide)) (Fr_sub (by decide))
          have hP281 := Pf_f hP244 hF273 (by decide)
          have sf282 : ND A268 (one) (33) (e) (0) (0) (0) (0) (0) := ND_ag (by omega) (Ag_fr hF273 (by decide)) sf245
          have sf283 : wE A268 Vs sb (22) (e) (one + 1) (nd1) := wE_ag (by omega) (Sg_fr hF273 (by decide)) (Ag_fr hF273 (by decide)) sf246
          have sf284 : NdM A268 (nd) (nd1) (sy) := NdM_f hF273 (by decide) sf247
          have ec285 : ecn A268 (G267 31) = ec1 := (ecn_f (hF273.2 15 rfl) (hF273.1 31 rfl)).trans ec248
          have bat2_269 : (0 : Int) ≤ at2_269 ∧ at2_269 ≤ 3002 := e274 ▸ hW272.1 10
          have ztk2_270 := tz_b tk2_270
          have btk2_270 : (0 : Int) ≤ tk2_270 ∧ tk2_270 ≤ 5 := e275 ▸ hW272.1 11
          have bfk2_271 : (0 : Int) ≤ fk2_271 ∧ fk2_271 ≤ 6 := e276 ▸ hW272.1 16
          refine .inl ⟨rfl, ?_⟩
          rcases q279 with ⟨a286, a287, a288, a289⟩ | ⟨a290, a291, a292, a293⟩
          · have _q : True := trivial
            refine jx_go (tg := 359) rfl rfl ?_
            have z294 := tz_f (tk2_270)
            exact c_readGuard_w_at_359p (X := X) (d := d) (Vs := Vs) (sb := sb) (c0 := c0) (c1 := c1) (G := G) (A := A) (T := T) (ln := ln) (le := le) (at0 := at0) (fk := fk) (op0 := op0) (nd := nd) (tk0 := tk0) (li := li) (ec := ec) (sy := sy) (hd := hd) (hW := hW) (e_ln := e_ln) (e_le := e_le) (e_at0 := e_at0) (e_fk := e_fk) (e_op0 := e_op0) (e_nd := e_nd) (e_tk0 := e_tk0) (e_li := e_li) (e_ec := e_ec) (e_sy := e_sy) (i_SV := i_SV) (p_0 := p_0) (p_1 := p_1) (p_2 := p_2) (p_3 := p_3) (p_4 := p_4) L G267 A268 (one) (at2_269) (tk2_270) (fk2_271) (nd1) (op1) (ec1) gL_0 gL_1 hW272 hF280 hP281 ((e274)) ((e275)) ((e276)) (((hF273.1 31 rfl).trans ((hF236.1 31 rfl).trans (ex_nd1)))) (((hF273.1 15 rfl).trans ((hF236.1 15 rfl).trans (ex_op1)))) (ec285) (((hF273.1 9 rfl).trans ((hF236.1 9 rfl).trans (fx_9)))) (by omega) (by omega) (by omega) (by omega) (by omega) (by omega) (by omega) (by omega) (by omega)
          · have _q : True := trivial
            have pz295 : at2_232 + tz tk2_270 ≤ at2_269 := by omega
            refine jx_go (tg := 359) rfl rfl ?_
            refine jx_ld (pc_q := 360) (l_q := L) (st_q := [.ref 66]) rfl (jl_aloadn gL_0) ?_
            refine jx_vr (pc_q := 363) (as := []) (st := []) rfl rfl rfl rfl ⟨rfl, rfl, Nat.le_of_ble_eq_true rfl⟩ rfl rfl (c_endLine (dd := d) (hd := by omega) (hW := hW272)  (ln := ln) (e_ln := show G267 9 = ln from ((hF273.1 9 rfl).trans ((hF236.1 9 rfl).trans (fx_9)))) (li := li) (e_li := show G267 3 = li from ((hF273.1 3 rfl).trans ((hF236.1 3 rfl).trans ((hFx.1 3 rfl).trans (e_li))))) (fk := fk2_271) (e_fk := show G267 16 = fk2_271 from (e276)) (tk0 := tk2_270) (e_tk0 := show G267 11 = tk2_270 from (e275))    (p_0 := by omega)) (fun o V_q hq => ?_)
            obtain ⟨G296, A297, ln2_298, fk2_299, rfl, rfl, hW300, hF301, e302, e303, q304⟩ := hq
            have hF305 := Fr_tr hF280 hF301 (Fr_sub (by decide)) (Fr_sub (by decide))
            have hP306 := Pf_f hP281 hF301 (by decide)
            have sf307 : ND A297 (one) (33) (e) (0) (0) (0) (0) (0) := ND_ag (by omega) (Ag_fr hF301 (by decide)) sf282
            have sf308 : wE A297 Vs sb (22) (e) (one + 1) (nd1) := wE_ag (by omega) (Sg_fr hF301 (by decide)) (Ag_fr hF301 (by decide)) sf283
            have sf309 : NdM A297 (nd) (nd1) (sy) := NdM_f hF301 (by decide) sf284
            have ec310 : ecn A297 (G296 31) = ec1 := (ecn_f (hF301.2 15 rfl) (hF301.1 31 rfl)).trans ec285
            have bln2_298 : (0 : Int) ≤ ln2_298 ∧ ln2_298 ≤ 3000 := e302 ▸ hW300.1 9
            have bfk2_299 : (0 : Int) ≤ fk2_299 ∧ fk2_299 ≤ 6 := e303 ▸ hW300.1 16
            refine .inl ⟨rfl, ?_⟩
            rcases q304 with ⟨a311, a312, a313, a314, a315⟩ | ⟨a316, a317⟩
            · have _q : True := trivial
              refine jx_ld (pc_q := 364) (l_q := L) (st_q := [.int (i32 (one))]) rfl (jl_iloadn gL_1) ?_
              refine jx_rt (v := some (.int (i32 (one)))) rfl rfl rfl rfl rfl rfl ?_
              exact ⟨_, _, _, at2_269, fk2_299, nd1, ln2_298, ec1, rfl, rfl, hW300, hF305, hP306, by omega, ((hF301.1 10 rfl).trans (e274)), (e303), ((hF301.1 31 rfl).trans ((hF273.1 31 rfl).trans ((hF236.1 31 rfl).trans (ex_nd1)))), (e302), ec310, by omega, by omega, by omega, by omega, by omega, by first | exact Or.inr ((⟨by omega, by omega, by omega, by omega, by omega, (wU_sk sf307 (by omega) (by omega) (wE_mono (by omega) (by omega) (by omega) sf308)), (NX_nd sf307), by omega, sf309⟩))⟩
            · have _q : True := trivial
              refine jx_ld (pc_q := 364) (l_q := L) (st_q := [.int (i32 (one))]) rfl (jl_iloadn gL_1) ?_
              refine jx_rt (v := some (.int (i32 (one)))) rfl rfl rfl rfl rfl rfl ?_
              exact ⟨_, _, _, at2_269, fk2_299, nd1, ln2_298, ec1, rfl, rfl, hW300, hF305, hP306, by omega, ((hF301.1 10 rfl).trans (e274)), (e303), ((hF301.1 31 rfl).trans ((hF273.1 31 rfl).trans ((hF236.1 31 rfl).trans (ex_nd1)))), (e302), ec310, by omega, by omega, by omega, by omega, by omega, by first | exact Or.inl (⟨by omega, by omega, by omega⟩)⟩
      · have _q : True := trivial
        refine jx_if_eq (pc_q := 319) (tg := 327) rfl rfl rfl (by decide) (by decide) (fun h318 => ?_) (fun h318 => ?_)
        · have _q := h318
          refine jx_ld (pc_q := 328) (l_q := L) (st_q := [.ref 66]) rfl (jl_aloadn gL_0) ?_
          refine jr_get (pc_q := 331) (i := 35) (v := .ref 85) rfl rfl (by decide) rfl rfl ?_
          refine jx_ld (pc_q := 332) (l_q := L) (st_q := [.int (i32 (one)), .ref 85]) rfl (jl_iloadn gL_1) ?_
          refine jx_ld (pc_q := 333) (l_q := L) (st_q := [.ref 66, .int (i32 (one)), .ref 85]) rfl (jl_aloadn gL_0) ?_
          refine jx_ar (pc_q := 334) (st_q := [.int (i32 (1)), .ref 66, .int (i32 (one)), .ref 85]) rfl rfl rfl rfl ?_
          refine jx_vr (pc_q := 337) (as := [.int (i32 (1))]) (st := [.int (i32 (one)), .ref 85]) rfl rfl rfl rfl ⟨rfl, rfl, Nat.le_of_ble_eq_true rfl⟩ rfl rfl (c_readReference_w (dd := d) (hd := by omega) (hW := hW235) (ch := 1) (ln := ln) (e_ln := show G230 9 = ln from ((hF236.1 9 rfl).trans (fx_9))) (le := le) (e_le := show A231 4 (ln).toNat = le from (congrFun ((hF236.2 4 rfl).trans (((congrFun eA214 4).trans (uA_ne (by decide))).trans (hFx.2 4 rfl))) _).trans (e_le)) (at0 := at2_232) (e_at0 := show G230 10 = at2_232 from (e237)) (fk := fk2_234) (e_fk := show G230 16 = fk2_234 from (e239)) (op0 := op1) (e_op0 := show G230 15 = op1 from ((hF236.1 15 rfl).trans (ex_op1))) (nd := nd1) (e_nd := show G230 31 = nd1 from ((hF236.1 31 rfl).trans (ex_nd1))) (tk0 := tk2_233) (e_tk0 := show G230 11 = tk2_233 from (e238)) (ec := ec1) (e_ec := show ecn A231 (G230 31) = ec1 from ec248) (sy := sy) (e_sy := show G230 19 = sy from ((hF236.1 19 rfl).trans ((hFx.1 19 rfl).trans (e_sy)))) (i_SV := (SV_ext (((hF236.1 29 rfl).trans (hFx.1 29 rfl))) (((hF236.2 14 rfl).trans (((congrFun eA214 14).trans (uA_ne (by decide))).trans (hFx.2 14 rfl)))) i_SV)) (h_ch := ⟨(by decide), (by decide)⟩)  (p_0 := by omega) (p_1 := by omega) (p_2 := by omega) (p_3 := by omega) (p_4 := by omega)) (fun o V_q hq => ?_)
          obtain ⟨G319, A320, r321, at2_322, fk2_323, op2_324, nd2_325, tk2_326, ec2_327, rfl, rfl, hW328, hF329, hQ330, b331, e332, e333, e334, e335, e336, e337, p338, p339, p340, p341, p342, p343, q344⟩ := hq
          have hF345 := Fr_tr hF243 hF329 (Fr_sub (by decide)) (Fr_sub (by decide))
          have k346 : A320 17 (one).toNat = e := (hQ330 17 _ rfl (by omega)).trans (show A231 17 (one).toNat = e from (congrFun (hF236.2 17 rfl) _).trans (q217))
          have hP347 := Pf_tr hP244 hQ330 (by omega)
          have sf348 : ND A320 (one) (33) (e) (0) (0) (0) (0) (0) := ND_ag (by omega) (Ag_pf hQ330 (by omega)) sf245
          have sf349 : wE A320 Vs sb (22) (e) (one + 1) (nd1) := wE_ag (by omega) (Sg_fr hF329 (by decide)) (Ag_pf hQ330 (by omega)) sf246
          have sf350 : NdM A320 (nd) (nd1) (sy) := NdM_pf hQ330 (by omega) (by omega) sf247
          have bat2_322 : (0 : Int) ≤ at2_322 ∧ at2_322 ≤ 3002 := e332 ▸ hW328.1 10
          have bfk2_323 : (0 : Int) ≤ fk2_323 ∧ fk2_323 ≤ 6 := e333 ▸ hW328.1 16
          have bop2_324 : (-2147483648 : Int) ≤ op2_324 ∧ op2_324 ≤ 2147483647 := e334 ▸ hW328.1 15
          have bnd2_325 : (0 : Int) ≤ nd2_325 ∧ nd2_325 ≤ 6999 := e335 ▸ hW328.1 31
          have ztk2_326 := tz_b tk2_326
          have btk2_326 : (0 : Int) ≤ tk2_326 ∧ tk2_326 ≤ 5 := e336 ▸ hW328.1 11
          refine .inr ⟨_, rfl, ?_⟩
          rcases q344 with ⟨a351, a352, a353, a354, a355, a356⟩ | ⟨a357, a358, a359⟩ | ⟨a360, a361, a362, a363, a364, a365, a366⟩
          · have _q : True := trivial
            exfalso
            omega
          · have _q : True := trivial
            refine jr_st (pc_q := 338) (i := 18) (m := 7000) (z := one) (y := r321) rfl (by decide) rfl (by decide) (by omega) (by omega) rfl ?_
            have hW368 : Wk G319 (uA A320 18 (one).toNat (r321)) := Wk_a hW328 (show (-2147483648 : Int) ≤ r321 by omega) (show r321 ≤ (2147483647 : Int) by omega)
            have hF369 := Fr_a (z := r321) (k := 18) (n := (one).toNat) hF345 (by decide)
            obtain ⟨A367, eA367⟩ : ∃ q, q = uA A320 18 (one).toNat (r321) := ⟨_, rfl⟩
            rw [← eA367]
            rw [← eA367] at hW368 hF369
            have q370 : A367 18 (one).toNat = r321 := by rw [eA367]; exact uA_eq
            have hP371 : Pf nd A A367 := eA367 ▸ Pf_a hP347 (z := one) (by omega) (by omega)
            have sf372 : ND A367 (one) (33) (e) (r321) (0) (0) (0) (0) := ND_b eA367 sf348
            have sf373 : wE A367 Vs sb (22) (e) (one + 1) (nd1) := wE_ag (by omega) (Sg_ne eA367 rfl) (Ag_st eA367 (by omega) (by omega)) sf349
            have sf374 : NdM A367 (nd) (nd1) (sy) := NdM_18 eA367 sf348.1 (by decide) sf350
            have ec375 : ecn A367 (G319 31) = ec2_327 := (ecn_e ((congrFun eA367 15).trans (uA_ne (by decide)))).trans e337
            have z376 := tz_f (tk2_326)
            exact c_readGuard_w_at_338p (X := X) (d := d) (Vs := Vs) (sb := sb) (c0 := c0) (c1 := c1) (G := G) (A := A) (T := T) (ln := ln) (le := le) (at0 := at0) (fk := fk) (op0 := op0) (nd := nd) (tk0 := tk0) (li := li) (ec := ec) (sy := sy) (hd := hd) (hW := hW) (e_ln := e_ln) (e_le := e_le) (e_at0 := e_at0) (e_fk := e_fk) (e_op0 := e_op0) (e_nd := e_nd) (e_tk0 := e_tk0) (e_li := e_li) (e_ec := e_ec) (e_sy := e_sy) (i_SV := i_SV) (p_0 := p_0) (p_1 := p_1) (p_2 := p_2) (p_3 := p_3) (p_4 := p_4) L G319 A367 (one) (at2_322) (tk2_326) (fk2_323) (nd2_325) (op2_324) (ec2_327) gL_0 gL_1 hW368 hF369 hP371 ((e332)) ((e336)) ((e333)) ((e335)) ((e334)) (ec375) (((hF329.1 9 rfl).trans ((hF236.1 9 rfl).trans (fx_9)))) (by omega) (by omega) (by omega) (by omega) (by omega) (by omega) (by omega) (by omega) (by omega)
          · have _q : True := trivial
            refine jr_st (pc_q := 338) (i := 18) (m := 7000) (z := one) (y := r321) rfl (by decide) rfl (by decide) (by omega) (by omega) rfl ?_
            have hW378 : Wk G319 (uA A320 18 (one).toNat (r321)) := Wk_a hW328 (show (-2147483648 : Int) ≤ r321 by omega) (show r321 ≤ (2147483647 : Int) by omega)
            have hF379 := Fr_a (z := r321) (k := 18) (n := (one).toNat) hF345 (by decide)
            obtain ⟨A377, eA377⟩ : ∃ q, q = uA A320 18 (one).toNat (r321) := ⟨_, rfl⟩
            rw [← eA377]
            rw [← eA377] at hW378 hF379
            have q380 : A377 18 (one).toNat = r321 := by rw [eA377]; exact uA_eq
            have hP381 : Pf nd A A377 := eA377 ▸ Pf_a hP347 (z := one) (by omega) (by omega)
            have sf382 : ND A377 (one) (33) (e) (r321) (0) (0) (0) (0) := ND_b eA377 sf348
            have sf383 : wE A377 Vs sb (22) (e) (one + 1) (nd1) := wE_ag (by omega) (Sg_ne eA377 rfl) (Ag_st eA377 (by omega) (by omega)) sf349
            have sf384 : NdM A377 (nd) (nd1) (sy) := NdM_18 eA377 sf348.1 (by decide) sf350
            have sf385 : wR A377 Vs sb (20) (1) (r321) (nd1) (nd2_325) := wR_ag (by omega) (Sg_ne eA377 rfl) (Ag_st eA377 (by omega) (by omega)) a363
            have sf386 : NdM A377 (nd1) (nd2_325) (sy) := NdM_18 eA377 sf348.1 (by decide) a365
            have ec387 : ecn A377 (G319 31) = ec2_327 := (ecn_e ((congrFun eA377 15).trans (uA_ne (by decide)))).trans e337
            refine jx_ld (pc_q := 339) (l_q := L) (st_q := [.ref 66]) rfl (jl_aloadn gL_0) ?_
            refine jx_ld (pc_q := 340) (l_q := L) (st_q := [.ref 66, .ref 66]) rfl (jl_aloadn gL_0) ?_
            refine jx_ar (pc_q := 342) (st_q := [.int (i32 (63)), .ref 66, .ref 66]) rfl rfl rfl rfl ?_
            have b388 : (-2147483648 : Int) ≤ G319 13 ∧ G319 13 ≤ 2147483647 := hW328.1 13
            refine jx_vr (pc_q := 345) (as := [.int (i32 (63))]) (st := [.ref 66]) rfl rfl rfl rfl ⟨rfl, rfl, Nat.le_of_ble_eq_true rfl⟩ rfl rfl (c_is (dd := d) (hd := by omega) (hW := hW378) (k := 63) (tk := tk2_326) (e_tk := show G319 11 = tk2_326 from (e336)) (tn := G319 13) (e_tn := show G319 13 = G319 13 from rfl)  (h_k := ⟨(by decide), (by decide)⟩)  ) (fun o V_q hq => ?_)
            obtain ⟨r389, rfl, rfl, b390, q391⟩ := hq
            refine .inr ⟨_, rfl, ?_⟩
            rcases q391 with ⟨rfl, a392, a393, a394⟩ | rfl
            · have _q : True := trivial
              refine jx_vr (pc_q := 348) (as := [.int (i32 (1))]) (st := []) rfl rfl rfl rfl ⟨rfl, rfl, Nat.le_of_ble_eq_true rfl⟩ rfl rfl (c_need (dd := d) (hd := by omega) (hW := hW378) (g := 1) (ln := ln) (e_ln := show G319 9 = ln from ((hF329.1 9 rfl).trans ((hF236.1 9 rfl).trans (fx_9)))) (le := le) (e_le := show A377 4 (ln).toNat = le from (congrFun (((congrFun eA377 4).trans (uA_ne (by decide))).trans ((hF329.2 4 rfl).trans ((hF236.2 4 rfl).trans (((congrFun eA214 4).trans (uA_ne (by decide))).trans (hFx.2 4 rfl))))) _).trans (e_le)) (at0 := at2_322) (e_at0 := show G319 10 = at2_322 from (e332)) (fk := fk2_323) (e_fk := show G319 16 = fk2_323 from (e333)) (tk0 := tk2_326) (e_tk0 := show G319 11 = tk2_326 from (e336))  (h_g := ⟨(by decide), (by decide)⟩)  (p_0 := by omega)) (fun o V_q hq => ?_)
              obtain ⟨G395, A396, at2_397, tk2_398, fk2_399, rfl, rfl, hW400, hF401, e402, e403, e404, p405, p406, q407⟩ := hq
              have hF408 := Fr_tr hF379 hF401 (Fr_sub (by decide)) (Fr_sub (by decide))
              have hP409 := Pf_f hP381 hF401 (by decide)
              have sf410 : ND A396 (one) (33) (e) (r321) (0) (0) (0) (0) := ND_ag (by omega) (Ag_fr hF401 (by decide)) sf382
              have sf411 : wE A396 Vs sb (22) (e) (one + 1) (nd1) := wE_ag (by omega) (Sg_fr hF401 (by decide)) (Ag_fr hF401 (by decide)) sf383
              have sf412 : NdM A396 (nd) (nd1) (sy) := NdM_f hF401 (by decide) sf384
              have sf413 : wR A396 Vs sb (20) (1) (r321) (nd1) (nd2_325) := wR_ag (by omega) (Sg_fr hF401 (by decide)) (Ag_fr hF401 (by decide)) sf385
              have sf414 : NdM A396 (nd1) (nd2_325) (sy) := NdM_f hF401 (by decide) sf386
              have ec415 : ecn A396 (G395 31) = ec2_327 := (ecn_f (hF401.2 15 rfl) (hF401.1 31 rfl)).trans ec387
              have bat2_397 : (0 : Int) ≤ at2_397 ∧ at2_397 ≤ 3002 := e402 ▸ hW400.1 10
              have ztk2_398 := tz_b tk2_398
              have btk2_398 : (0 : Int) ≤ tk2_398 ∧ tk2_398 ≤ 5 := e403 ▸ hW400.1 11
              have bfk2_399 : (0 : Int) ≤ fk2_399 ∧ fk2_399 ≤ 6 := e404 ▸ hW400.1 16
              refine .inl ⟨rfl, ?_⟩
              rcases q407 with ⟨a416, a417, a418, a419⟩ | ⟨a420, a421, a422, a423⟩
              · have _q : True := trivial
                have z424 := tz_f (tk2_398)
                exact c_readGuard_w_at_348p (X := X) (d := d) (Vs := Vs) (sb := sb) (c0 := c0) (c1 := c1) (G := G) (A := A) (T := T) (ln := ln) (le := le) (at0 := at0) (fk := fk) (op0 := op0) (nd := nd) (tk0 := tk0) (li := li) (ec := ec) (sy := sy) (hd := hd) (hW := hW) (e_ln := e_ln) (e_le := e_le) (e_at0 := e_at0) (e_fk := e_fk) (e_op0 := e_op0) (e_nd := e_nd) (e_tk0 := e_tk0) (e_li := e_li) (e_ec := e_ec) (e_sy := e_sy) (i_SV := i_SV) (p_0 := p_0) (p_1 := p_1) (p_2 := p_2) (p_3 := p_3) (p_4 := p_4) L G395 A396 (one) (at2_397) (tk2_398) (fk2_399) (nd2_325) (op2_324) (ec2_327) gL_0 gL_1 hW400 hF408 hP409 ((e402)) ((e403)) ((e404)) (((hF401.1 31 rfl).trans (e335))) (((hF401.1 15 rfl).trans (e334))) (ec415) (((hF401.1 9 rfl).trans ((hF329.1 9 rfl).trans ((hF236.1 9 rfl).trans (fx_9))))) (by omega) (by omega) (by omega) (by omega) (by omega) (by omega) (by omega) (by omega) (by omega)
              · have _q : True := trivial
                have pz425 : at2_322 + tz tk2_398 ≤ at2_397 := by omega
                refine jx_ld (pc_q := 349) (l_q := L) (st_q := [.ref 66]) rfl (jl_aloadn gL_0) ?_
                refine jr_get (pc_q := 352) (i := 36) (v := .ref 86) rfl rfl (by decide) rfl rfl ?_
                refine jx_ld (pc_q := 353) (l_q := L) (st_q := [.int (i32 (one)), .ref 86]) rfl (jl_iloadn gL_1) ?_
                refine jx_ld (pc_q := 354) (l_q := L) (st_q := [.ref 66, .int (i32 (one)), .ref 86]) rfl (jl_aloadn gL_0) ?_
                refine jx_ar (pc_q := 355) (st_q := [.int (i32 (0)), .ref 66, .int (i32 (one)), .ref 86]) rfl rfl rfl rfl ?_
                refine jx_vr (pc_q := 358) (as := [.int (i32 (0))]) (st := [.int (i32 (one)), .ref 86]) rfl rfl rfl rfl ⟨rfl, rfl, Nat.le_of_ble_eq_true rfl⟩ rfl rfl (c_readReference_w (dd := d) (hd := by omega) (hW := hW400) (ch := 0) (ln := ln) (e_ln := show G395 9 = ln from ((hF401.1 9 rfl).trans ((hF329.1 9 rfl).trans ((hF236.1 9 rfl).trans (fx_9))))) (le := le) (e_le := show A396 4 (ln).toNat = le from (congrFun ((hF401.2 4 rfl).trans (((congrFun eA377 4).trans (uA_ne (by decide))).trans ((hF329.2 4 rfl).trans ((hF236.2 4 rfl).trans (((congrFun eA214 4).trans (uA_ne (by decide))).trans (hFx.2 4 rfl)))))) _).trans (e_le)) (at0 := at2_397) (e_at0 := show G395 10 = at2_397 from (e402)) (fk := fk2_399) (e_fk := show G395 16 = fk2_399 from (e404)) (op0 := op2_324) (e_op0 := show G395 15 = op2_324 from ((hF401.1 15 rfl).trans (e334))) (nd := nd2_325) (e_nd := show G395 31 = nd2_325 from ((hF401.1 31 rfl).trans (e335))) (tk0 := tk2_398) (e_tk0 := show G395 11 = tk2_398 from (e403)) (ec := ec2_327) (e_ec := show ecn A396 (G395 31) = ec2_327 from ec415) (sy := sy) (e_sy := show G395 19 = sy from ((hF401.1 19 rfl).trans ((hF329.1 19 rfl).trans ((hF236.1 19 rfl).trans ((hFx.1 19 rfl).trans (e_sy)))))) (i_SV := (SV_ext (((hF401.1 29 rfl).trans ((hF329.1 29 rfl).trans ((hF236.1 29 rfl).trans (hFx.1 29 rfl))))) (((hF401.2 14 rfl).trans (((congrFun eA377 14).trans (uA_ne (by decide))).trans ((hF329.2 14 rfl).trans ((hF236.2 14 rfl).trans (((congrFun eA214 14).trans (uA_ne (by decide))).trans (hFx.2 14 rfl))))))) i_SV)) (h_ch := ⟨(by decide), (by decide)⟩)  (p_0 := by omega) (p_1 := by omega) (p_2 := by omega) (p_3 := by omega) (p_4 := by omega)) (fun o V_q hq => ?_)
                obtain ⟨G426, A427, r428, at2_429, fk2_430, op2_431, nd2_432, tk2_433, ec2_434, rfl, rfl, hW435, hF436, hQ437, b438, e439, e440, e441, e442, e443, e444, p445, p446, p447, p448, p449, p450, q451⟩ := hq
                have hF452 := Fr_tr hF408 hF436 (Fr_sub (by decide)) (Fr_sub (by decide))
                have k453 : A427 17 (one).toNat = e := (hQ437 17 _ rfl (by omega)).trans (show A396 17 (one).toNat = e from (congrFun ((hF401.2 17 rfl).trans ((congrFun eA377 17).trans (uA_ne (by decide)))) _).trans (k346))
                have k454 : A427 18 (one).toNat = r321 := (hQ437 18 _ rfl (by omega)).trans (show A396 18 (one).toNat = r321 from (congrFun (hF401.2 18 rfl) _).trans (q380))
                have hP455 := Pf_tr hP409 hQ437 (by omega)
                have sf456 : ND A427 (one) (33) (e) (r321) (0) (0) (0) (0) := ND_ag (by omega) (Ag_pf hQ437 (by omega)) sf410
                have sf457 : wE A427 Vs sb (22) (e) (one + 1) (nd1) := wE_ag (by omega) (Sg_fr hF436 (by decide)) (Ag_pf hQ437 (by omega)) sf411
                have sf458 : NdM A427 (nd) (nd1) (sy) := NdM_pf hQ437 (by omega) (by omega) sf412
                have sf459 : wR A427 Vs sb (20) (1) (r321) (nd1) (nd2_325) := wR_ag (by omega) (Sg_fr hF436 (by decide)) (Ag_pf hQ437 (by omega)) sf413
                have sf460 : NdM A427 (nd1) (nd2_325) (sy) := NdM_pf hQ437 (by omega) (by omega) sf414
                have bat2_429 : (0 : Int) ≤ at2_429 ∧ at2_429 ≤ 3002 := e439 ▸ hW435.1 10
                have bfk2_430 : (0 : Int) ≤ fk2_430 ∧ fk2_430 ≤ 6 := e440 ▸ hW435.1 16
                have bop2_431 : (-2147483648 : Int) ≤ op2_431 ∧ op2_431 ≤ 2147483647 := e441 ▸ hW435.1 15
                have bnd2_432 : (0 : Int) ≤ nd2_432 ∧ nd2_432 ≤ 6999 := e442 ▸ hW435.1 31
                have ztk2_433 := tz_b tk2_433
                have btk2_433 : (0 : Int) ≤ tk2_433 ∧ tk2_433 ≤ 5 := e443 ▸ hW435.1 11
                refine .inr ⟨_, rfl, ?_⟩
                rcases q451 with ⟨a461, a462, a463, a464, a465, a466⟩ | ⟨a467, a468, a469⟩ | ⟨a470, a471, a472, a473, a474, a475, a476⟩
                · have _q : True := trivial
                  exfalso
                  omega
                · have _q : True := trivial
                  refine jr_st (pc_q := 359) (i := 19) (m := 7000) (z := one) (y := r428) rfl (by decide) rfl (by decide) (by omega) (by omega) rfl ?_
                  have hW478 : Wk G426 (uA A427 19 (one).toNat (r428)) := Wk_a hW435 (show (-2147483648 : Int) ≤ r428 by omega) (show r428 ≤ (2147483647 : Int) by omega)
                  have hF479 := Fr_a (z := r428) (k := 19) (n := (one).toNat) hF452 (by decide)
                  obtain ⟨A477, eA477⟩ : ∃ q, q = uA A427 19 (one).toNat (r428) := ⟨_, rfl⟩
                  rw [← eA477]
                  rw [← eA477] at hW478 hF479
                  have q480 : A477 19 (one).toNat = r428 := by rw [eA477]; exact uA_eq
                  have hP481 : Pf nd A A477 := eA477 ▸ Pf_a hP455 (z := one) (by omega) (by omega)
                  have sf482 : ND A477 (one) (33) (e) (r321) (r428) (0) (0) (0) := ND_c eA477 sf456
                  have sf483 : wE A477 Vs sb (22) (e) (one + 1) (nd1) := wE_ag (by omega) (Sg_ne eA477 rfl) (Ag_st eA477 (by omega) (by omega)) sf457
                  have sf484 : NdM A477 (nd) (nd1) (sy) := NdM_st eA477 (by decide) sf458
                  have sf485 : wR A477 Vs sb (20) (1) (r321) (nd1) (nd2_325) := wR_ag (by omega) (Sg_ne eA477 rfl) (Ag_st eA477 (by omega) (by omega)) sf459
                  have sf486 : NdM A477 (nd1) (nd2_325) (sy) := NdM_st eA477 (by decide) sf460
                  have ec487 : ecn A477 (G426 31) = ec2_434 := (ecn_e ((congrFun eA477 15).trans (uA_ne (by decide)))).trans e444
                  have z488 := tz_f (tk2_433)
                  exact c_readGuard_w_at_359p (X := X) (d := d) (Vs := Vs) (sb := sb) (c0 := c0) (c1 := c1) (G := G) (A := A) (T := T) (ln := ln) (le := le) (at0 := at0) (fk := fk) (op0 := op0) (nd := nd) (tk0 := tk0) (li := li) (ec := ec) (sy := sy) (hd := hd) (hW := hW) (e_ln := e_ln) (e_le := e_le) (e_at0 := e_at0) (e_fk := e_fk) (e_op0 := e_op0) (e_nd := e_nd) (e_tk0 := e_tk0) (e_li := e_li) (e_ec := e_ec) (e_sy := e_sy) (i_SV := i_SV) (p_0 := p_0) (p_1 := p_1) (p_2 := p_2) (p_3 := p_3) (p_4 := p_4) L G426 A477 (one) (at2_429) (tk2_433) (fk2_430) (nd2_432) (op2_431) (ec2_434) gL_0 gL_1 hW478 hF479 hP481 ((e439)) ((e443)) ((e440)) ((e442)) ((e441)) (ec487) (((hF436.1 9 rfl).trans ((hF401.1 9 rfl).trans ((hF329.1 9 rfl).trans ((hF236.1 9 rfl).trans (fx_9)))))) (by omega) (by omega) (by omega) (by omega) (by omega) (by omega) (by omega) (by omega) (by omega)
                · have _q : True := trivial
                  refine jr_st (pc_q := 359) (i := 19) (m := 7000) (z := one) (y := r428) rfl (by decide) rfl (by decide) (by omega) (by omega) rfl ?_
                  have hW490 : Wk G426 (uA A427 19 (one).toNat (r428)) := Wk_a hW435 (show (-2147483648 : Int) ≤ r428 by omega) (show r428 ≤ (2147483647 : Int) by omega)
                  have hF491 := Fr_a (z := r428) (k := 19) (n := (one).toNat) hF452 (by decide)
                  obtain ⟨A489, eA489⟩ : ∃ q, q = uA A427 19 (one).toNat (r428) := ⟨_, rfl⟩
                  rw [← eA489]
                  rw [← eA489] at hW490 hF491
                  have q492 : A489 19 (one).toNat = r428 := by rw [eA489]; exact uA_eq
                  have hP493 : Pf nd A A489 := eA489 ▸ Pf_a hP455 (z := one) (by omega) (by omega)
                  have sf494 : ND A489 (one) (33) (e) (r321) (r428) (0) (0) (0) := ND_c eA489 sf456
                  have sf495 : wE A489 Vs sb (22) (e) (one + 1) (nd1) := wE_ag (by omega) (Sg_ne eA489 rfl) (Ag_st eA489 (by omega) (by omega)) sf457
                  have sf496 : NdM A489 (nd) (nd1) (sy) := NdM_st eA489 (by decide) sf458
                  have sf497 : wR A489 Vs sb (20) (1) (r321) (nd1) (nd2_325) := wR_ag (by omega) (Sg_ne eA489 rfl) (Ag_st eA489 (by omega) (by omega)) sf459
                  have sf498 : NdM A489 (nd1) (nd2_325) (sy) := NdM_st eA489 (by decide) sf460
                  have sf499 : wR A489 Vs sb (20) (0) (r428) (nd2_325) (nd2_432) := wR_ag (by omega) (Sg_ne eA489 rfl) (Ag_st eA489 (by omega) (by omega)) a473
                  have sf500 : NdM A489 (nd2_325) (nd2_432) (sy) := NdM_st eA489 (by decide) a475
                  have ec501 : ecn A489 (G426 31) = ec2_434 := (ecn_e ((congrFun eA489 15).trans (uA_ne (by decide)))).trans e444
                  refine jx_ld (pc_q := 360) (l_q := L) (st_q := [.ref 66]) rfl (jl_aloadn gL_0) ?_
                  refine jx_vr (pc_q := 363) (as := []) (st := []) rfl rfl rfl rfl ⟨rfl, rfl, Nat.le_of_ble_eq_true rfl⟩ rfl rfl (c_endLine (dd := d) (hd := by omega) (hW := hW490)  (ln := ln) (e_ln := show G426 9 = ln from ((hF436.1 9 rfl).trans ((hF401.1 9 rfl).trans ((hF329.1 9 rfl).trans ((hF236.1 9 rfl).trans (fx_9)))))) (li := li) (e_li := show G426 3 = li from ((hF436.1 3 rfl).trans ((hF401.1 3 rfl).trans ((hF329.1 3 rfl).trans ((hF236.1 3 rfl).trans ((hFx.1 3 rfl).trans (e_li))))))) (fk := fk2_430) (e_fk := show G426 16 = fk2_430 from (e440)) (tk0 := tk2_433) (e_tk0 := show G426 11 = tk2_433 from (e443))    (p_0 := by omega)) (fun o V_q hq => ?_)
                  obtain ⟨G502, A503, ln2_504, fk2_505, rfl, rfl, hW506, hF507, e508, e509, q510⟩ := hq
                  have hF511 := Fr_tr hF491 hF507 (Fr_sub (by decide)) (Fr_sub (by decide))
                  have hP512 := Pf_f hP493 hF507 (by decide)
                  have sf513 : ND A503 (one) (33) (e) (r321) (r428) (0) (0) (0) := ND_ag (by omega) (Ag_fr hF507 (by decide)) sf494
                  have sf514 : wE A503 Vs sb (22) (e) (one + 1) (nd1) := wE_ag (by omega) (Sg_fr hF507 (by decide)) (Ag_fr hF507 (by decide)) sf495
                  have sf515 : NdM A503 (nd) (nd1) (sy) := NdM_f hF507 (by decide) sf496
                  have sf516 : wR A503 Vs sb (20) (1) (r321) (nd1) (nd2_325) := wR_ag (by omega) (Sg_fr hF507 (by decide)) (Ag_fr hF507 (by decide)) sf497
                  have sf517 : NdM A503 (nd1) (nd2_325) (sy) := NdM_f hF507 (by decide) sf498
                  have sf518 : wR A503 Vs sb (20) (0) (r428) (nd2_325) (nd2_432) := wR_ag (by omega) (Sg_fr hF507 (by decide)) (Ag_fr hF507 (by decide)) sf499
                  have sf519 : NdM A503 (nd2_325) (nd2_432) (sy) := NdM_f hF507 (by decide) sf500
                  have ec520 : ecn A503 (G502 31) = ec2_434 := (ecn_f (hF507.2 15 rfl) (hF507.1 31 rfl)).trans ec501
                  have bln2_504 : (0 : Int) ≤ ln2_504 ∧ ln2_504 ≤ 3000 := e508 ▸ hW506.1 9
                  have bfk2_505 : (0 : Int) ≤ fk2_505 ∧ fk2_505 ≤ 6 := e509 ▸ hW506.1 16
                  refine .inl ⟨rfl, ?_⟩
                  rcases q510 with ⟨a521, a522, a523, a524, a525⟩ | ⟨a526, a527⟩
                  · have _q : True := trivial
                    refine jx_ld (pc_q := 364) (l_q := L) (st_q := [.int (i32 (one))]) rfl (jl_iloadn gL_1) ?_
                    refine jx_rt (v := some (.int (i32 (one)))) rfl rfl rfl rfl rfl rfl ?_
                    exact ⟨_, _, _, at2_429, fk2_505, nd2_432, ln2_504, ec2_434, rfl, rfl, hW506, hF511, hP512, by omega, ((hF507.1 10 rfl).trans (e439)), (e509), ((hF507.1 31 rfl).trans (e442)), (e508), ec520, by omega, by omega, by omega, by omega, by omega, by first | exact Or.inr ((⟨by omega, by omega, by omega, by omega, by omega, (wU_bo (m := nd1) (k := nd2_325) sf513 (by omega) (by omega) (by omega) (by omega) (by omega) (wE_mono (by omega) (by omega) (by omega) sf514) (wR_mono (by omega) (by omega) (by omega) sf516) (wR_mono (by omega) (by omega) (by omega) sf518)), (NX_nd sf513), by omega, (NdM_w (NdM_app (sy := sy) sf515 (NdM_app (sy := sy) sf517 sf519 (by omega) (by omega) (by omega)) (by omega) (by omega) (by omega)) (by omega) (by omega) (by omega))⟩))⟩
                  · have _q : True := trivial
                    refine jx_ld (pc_q := 364) (l_q := L) (st_q := [.int (i32 (one))]) rfl (jl_iloadn gL_1) ?_
                    refine jx_rt (v := some (.int (i32 (one)))) rfl rfl rfl rfl rfl rfl ?_
                    exact ⟨_, _, _, at2_429, fk2_505, nd2_432, ln2_504, ec2_434, rfl, rfl, hW506, hF511, hP512, by omega, ((hF507.1 10 rfl).trans (e439)), (e509), ((hF507.1 31 rfl).trans (e442)), (e508), ec520, by omega, by omega, by omega, by omega, by omega, by first | exact Or.inl (⟨by omega, by omega, by omega⟩)⟩
            · have _q : True := trivial
              refine jx_vr (pc_q := 348) (as := [.int (i32 (0))]) (st := []) rfl rfl rfl rfl ⟨rfl, rfl, Nat.le_of_ble_eq_true rfl⟩ rfl rfl (c_need (dd := d) (hd := by omega) (hW := hW378) (g := 0) (ln := ln) (e_ln := show G319 9 = ln from ((hF329.1 9 rfl).trans ((hF236.1 9 rfl).trans (fx_9)))) (le := le) (e_le := show A377 4 (ln).toNat = le from (congrFun (((congrFun eA377 4).trans (uA_ne (by decide))).trans ((hF329.2 4 rfl).trans ((hF236.2 4 rfl).trans (((congrFun eA214 4).trans (uA_ne (by decide))).trans (hFx.2 4 rfl))))) _).trans (e_le)) (at0 := at2_322) (e_at0 := show G319 10 = at2_322 from (e332)) (fk := fk2_323) (e_fk := show G319 16 = fk2_323 from (e333)) (tk0 := tk2_326) (e_tk0 := show G319 11 = tk2_326 from (e336))  (h_g := ⟨(by decide), (by decide)⟩)  (p_0 := by omega)) (fun o V_q hq => ?_)
              obtain ⟨G528, A529, at2_530, tk2_531, fk2_532, rfl, rfl, hW533, hF534, e535, e536, e537, p538, p539, q540⟩ := hq
              have hF541 := Fr_tr hF379 hF534 (Fr_sub (by decide)) (Fr_sub (by decide))
              have hP542 := Pf_f hP381 hF534 (by decide)
              have sf543 : ND A529 (one) (33) (e) (r321) (0) (0) (0) (0) := ND_ag (by omega) (Ag_fr hF534 (by decide)) sf382
              have sf544 : wE A529 Vs sb (22) (e) (one + 1) (nd1) := wE_ag (by omega) (Sg_fr hF534 (by decide)) (Ag_fr hF534 (by decide)) sf383
              have sf545 : NdM A529 (nd) (nd1) (sy) := NdM_f hF534 (by decide) sf384
              have sf546 : wR A529 Vs sb (20) (1) (r321) (nd1) (nd2_325) := wR_ag (by omega) (Sg_fr hF534 (by decide)) (Ag_fr hF534 (by decide)) sf385
              have sf547 : NdM A529 (nd1) (nd2_325) (sy) := NdM_f hF534 (by decide) sf386
              have ec548 : ecn A529 (G528 31) = ec2_327 := (ecn_f (hF534.2 15 rfl) (hF534.1 31 rfl)).trans ec387
              have bat2_530 : (0 : Int) ≤ at2_530 ∧ at2_530 ≤ 3002 := e535 ▸ hW533.1 10
              have ztk2_531 := tz_b tk2_531
              have btk2_531 : (0 : Int) ≤ tk2_531 ∧ tk2_531 ≤ 5 := e536 ▸ hW533.1 11
              have bfk2_532 : (0 : Int) ≤ fk2_532 ∧ fk2_532 ≤ 6 := e537 ▸ hW533.1 16
              refine .inl ⟨rfl, ?_⟩
              rcases q540 with ⟨a549, a550, a551, a552⟩ | ⟨a553, a554, a555, a556⟩
              · have _q : True := trivial
                have z557 := tz_f (tk2_531)
                exact c_readGuard_w_at_348p (X := X) (d := d) (Vs := Vs) (sb := sb) (c0 := c0) (c1 := c1) (G := G) (A := A) (T := T) (ln := ln) (le := le) (at0 := at0) (fk := fk) (op0 := op0) (nd := nd) (tk0 := tk0) (li := li) (ec := ec) (sy := sy) (hd := hd) (hW := hW) (e_ln := e_ln) (e_le := e_le) (e_at0 := e_at0) (e_fk := e_fk) (e_op0 := e_op0) (e_nd := e_nd) (e_tk0 := e_tk0) (e_li := e_li) (e_ec := e_ec) (e_sy := e_sy) (i_SV := i_SV) (p_0 := p_0) (p_1 := p_1) (p_2 := p_2) (p_3 := p_3) (p_4 := p_4) L G528 A529 (one) (at2_530) (tk2_531) (fk2_532) (nd2_325) (op2_324) (ec2_327) gL_0 gL_1 hW533 hF541 hP542 ((e535)) ((e536)) ((e537)) (((hF534.1 31 rfl).trans (e335))) (((hF534.1 15 rfl).trans (e334))) (ec548) (((hF534.1 9 rfl).trans ((hF329.1 9 rfl).trans ((hF236.1 9 rfl).trans (fx_9))))) (by omega) (by omega) (by omega) (by omega) (by omega) (by omega) (by omega) (by omega) (by omega)
              · have _q : True := trivial
                exfalso
                omega
        · have _q := h318
          exact absurd h318 (by omega)
  · have _q : True := trivial
    refine jx_vr (pc_q := 310) (as := [.int (i32 (0))]) (st := []) rfl rfl rfl rfl ⟨rfl, rfl, Nat.le_of_ble_eq_true rfl⟩ rfl rfl (c_need (dd := d) (hd := by omega) (hW := hW215) (g := 0) (ln := ln) (e_ln := show Gx 9 = ln from (fx_9)) (le := le) (e_le := show A214 4 (ln).toNat = le from (congrFun (((congrFun eA214 4).trans (uA_ne (by decide))).trans (hFx.2 4 rfl)) _).trans (e_le)) (at0 := at1) (e_at0 := show Gx 10 = at1 from (ex_at1)) (fk := fk1) (e_fk := show Gx 16 = fk1 from (ex_fk1)) (tk0 := tk1) (e_tk0 := show Gx 11 = tk1 from (ex_tk1))  (h_g := ⟨(by decide), (by decide)⟩)  (p_0 := by omega)) (fun o V_q hq => ?_)
    obtain ⟨G558, A559, at2_560, tk2_561, fk2_562, rfl, rfl, hW563, hF564, e565, e566, e567, p568, p569, q570⟩ := hq
    have hF571 := Fr_tr hF216 hF564 (Fr_sub (by decide)) (Fr_sub (by decide))
    have hP572 := Pf_f hP218 hF564 (by decide)
    have sf573 : ND A559 (one) (33) (e) (0) (0) (0) (0) (0) := ND_ag (by omega) (Ag_fr hF564 (by decide)) sf219
    have sf574 : wE A559 Vs sb (22) (e) (one + 1) (nd1) := wE_ag (by omega) (Sg_fr hF564 (by decide)) (Ag_fr hF564 (by decide)) sf220
    have sf575 : NdM A559 (nd) (nd1) (sy) := NdM_f hF564 (by decide) sf221
    have ec576 : ecn A559 (G558 31) = ec1 := (ecn_f (hF564.2 15 rfl) (hF564.1 31 rfl)).trans ec222
    have bat2_560 : (0 : Int) ≤ at2_560 ∧ at2_560 ≤ 3002 := e565 ▸ hW563.1 10
    have ztk2_561 := tz_b tk2_561
    have btk2_561 : (0 : Int) ≤ tk2_561 ∧ tk2_561 ≤ 5 := e566 ▸ hW563.1 11
    have bfk2_562 : (0 : Int) ≤ fk2_562 ∧ fk2_562 ≤ 6 := e567 ▸ hW563.1 16
    refine .inl ⟨rfl, ?_⟩
    rcases q570 with ⟨a577, a578, a579, a580⟩ | ⟨a581, a582, a583, a584⟩
    · have _q : True := trivial
      have z585 := tz_f (tk2_561)
      exact c_readGuard_w_at_310p (X := X) (d := d) (Vs := Vs) (sb := sb) (c0 := c0) (c1 := c1) (G := G) (A := A) (T := T) (ln := ln) (le := le) (at0 := at0) (fk := fk) (op0 := op0) (nd := nd) (tk0 := tk0) (li := li) (ec := ec) (sy := sy) (hd := hd) (hW := hW) (e_ln := e_ln) (e_le := e_le) (e_at0 := e_at0) (e_fk := e_fk) (e_op0 := e_op0) (e_nd := e_nd) (e_tk0 := e_tk0) (e_li := e_li) (e_ec := e_ec) (e_sy := e_sy) (i_SV := i_SV) (p_0 := p_0) (p_1 := p_1) (p_2 := p_2) (p_3 := p_3) (p_4 := p_4) L G558 A559 (one) (at2_560) (tk2_561) (fk2_562) (nd1) (op1) (ec1) gL_0 gL_1 hW563 hF571 hP572 ((e565)) ((e566)) ((e567)) (((hF564.1 31 rfl).trans (ex_nd1))) (((hF564.1 15 rfl).trans (ex_op1))) (ec576) (((hF564.1 9 rfl).trans (fx_9))) (by omega) (by omega) (by omega) (by omega) (by omega) (by omega) (by omega) (by omega) (by omega)
    · have _q : True := trivial
      exfalso
      omega
set_option maxRecDepth 20000 in
set_option maxHeartbeats 4000000 in
theorem c_readGuard_w_at_293p {X : jX} {d : Nat} {Vs : Nat → Prop} {sb : Int} {c0 c1 : jC} {G : Nat → Int} {A : Nat → Nat → Int} {T : jH} {ln le at0 fk op0 nd tk0 li ec sy : Int} (hd : 71 ≤ d + 1) (hW : Wk G A) (e_ln : G 9 = ln) (e_le : A 4 (ln).toNat = le) (e_at0 : G 10 = at0) (e_fk : G 16 = fk) (e_op0 : G 15 = op0) (e_nd : G 31 = nd) (e_tk0 : G 11 = tk0) (e_li : G 3 = li) (e_ec : ecn A (G 31) = ec) (e_sy : G 19 = sy) (i_SV : SV Vs sb G A) (p_0 : 0 ≤ op0 ∧ op0 ≤ 8) (p_1 : fk = 0) (p_2 : nd ≤ 2 * at0 - tz tk0 + 42) (p_3 : at0 ≤ le) (p_4 : ln < li) : ∀ (L : jL) (Gx : Nat → Int) (Ax : Nat → Nat → Int) (one e at1 tk1 fk1 nd1 op1 ec1 : Int), jGet L 0 = some (.ref 66) → jGet L 1 = some (.int (i32 one)) → jGet L 2 = some (.int (i32 e)) → Wk Gx Ax → Fr [9, 10, 11, 12, 13, 14, 15, 16, 17, 18, 31] [15, 16, 17, 18, 19, 20, 21, 22, 24, 28] G A Gx Ax → Pf nd A Ax → Gx 10 = at1 → Gx 11 = tk1 → Gx 16 = fk1 → Gx 31 = nd1 → Gx 15 = op1 → ecn Ax (Gx 31) = ec1 → Gx 9 = ln → ((-2147483648 : Int) ≤ one ∧ one ≤ 2147483647) → ((-2147483648 : Int) ≤ e ∧ e ≤ 2147483647) → (at0 ≤ at1) → (at1 ≤ le) → (nd ≤ nd1) → (op1 = op0) → (one = nd) → (one ≤ 6998 ∧ one < nd1) → (1 ≤ fk1) → (nd1 - nd ≤ (2 * at1 - tz tk1) - (2 * at0 - tz tk0) + 5) → wj X d jm303 (293, L, [], rV c0 c1 Gx Ax T) (fun o V_q => ∃ (G_q : Nat → Int) (A_q : Nat → Nat → Int) (r : Int) (at2 : Int) (fk2 : Int) (nd2 : Int) (ln2 : Int) (ec2 : Int), V_q = rV c0 c1 G_q A_q T ∧ o = .inl (some (.int (i32 r))) ∧ Wk G_q A_q ∧ Fr [9, 10, 11, 12, 13, 14, 15, 16, 17, 18, 31] [15, 16, 17, 18, 19, 20, 21, 22, 24, 28] G A G_q A_q ∧ Pf nd A A_q ∧ ((-2147483648 : Int) ≤ r ∧ r ≤ 2147483647) ∧ G_q 10 = at2 ∧ G_q 16 = fk2 ∧ G_q 31 = nd2 ∧ G_q 9 = ln2 ∧ ecn A_q (G_q 31) = ec2 ∧ (at0 ≤ at2) ∧ (at2 ≤ le) ∧ (nd ≤ nd2) ∧ (0 ≤ r) ∧ (r ≤ nd2) ∧ (((1 ≤ fk2) ∧ (ln2 = ln) ∧ (nd2 - nd ≤ 2 * at2 - 2 * at0 + 12)) ∨ ((fk2 = 0) ∧ (ln2 = ln + 1) ∧ (nd2 - nd ≤ 2 * at2 - (2 * at0 - tz tk0) + 0) ∧ (nd ≤ r) ∧ (r < nd2) ∧ (wU A_q Vs sb (r) (nd) (nd2)) ∧ (NX A_q (r)) ∧ (nd2 - nd + 5 * (ec2 - ec) ≤ 2 * at2 - (2 * at0 - tz tk0) + 0) ∧ (NdM A_q (nd) (nd2) (sy))))) := by
  have hF0 : Fr [9, 10, 11, 12, 13, 14, 15, 16, 17, 18, 31] [15, 16, 17, 18, 19, 20, 21, 22, 24, 28] G A G A := Fr_rf
  have hP0 : Pf nd A A := Pf_rf
  have b_ln : (0 : Int) ≤ ln ∧ ln ≤ 3000 := e_ln ▸ hW.1 9
  have b_le : (0 : Int) ≤ le ∧ le ≤ 3000 := e_le ▸ hW.2 4 _
  have b_at0 : (0 : Int) ≤ at0 ∧ at0 ≤ 3002 := e_at0 ▸ hW.1 10
  have b_fk : (0 : Int) ≤ fk ∧ fk ≤ 6 := e_fk ▸ hW.1 16
  have b_op0 : (-2147483648 : Int) ≤ op0 ∧ op0 ≤ 2147483647 := e_op0 ▸ hW.1 15
  have b_nd : (0 : Int) ≤ nd ∧ nd ≤ 6999 := e_nd ▸ hW.1 31
  have z_tk0 := tz_f tk0
  have b_tk0 : (0 : Int) ≤ tk0 ∧ tk0 ≤ 5 := e_tk0 ▸ hW.1 11
  have b_li : (0 : Int) ≤ li ∧ li ≤ 3000 := e_li ▸ hW.1 3
  have b_sy : (0 : Int) ≤ sy ∧ sy ≤ 202 := e_sy ▸ hW.1 19
  intro L Gx Ax one e at1 tk1 fk1 nd1 op1 ec1 gL_0 gL_1 gL_2 hWx hFx hPx ex_at1 ex_tk1 ex_fk1 ex_nd1 ex_op1 ex_ec1 fx_9 rx_one rx_e iv_0 iv_1 iv_2 iv_3 iv_4 iv_5 iv_6 iv_7
  have b_at1 : (0 : Int) ≤ at1 ∧ at1 ≤ 3002 := ex_at1 ▸ hWx.1 10
  have z_tk1 := tz_f tk1
  have b_tk1 : (0 : Int) ≤ tk1 ∧ tk1 ≤ 5 := ex_tk1 ▸ hWx.1 11
  have b_fk1 : (0 : Int) ≤ fk1 ∧ fk1 ≤ 6 := ex_fk1 ▸ hWx.1 16
  have b_nd1 : (0 : Int) ≤ nd1 ∧ nd1 ≤ 6999 := ex_nd1 ▸ hWx.1 31
  have b_op1 : (-2147483648 : Int) ≤ op1 ∧ op1 ≤ 2147483647 := ex_op1 ▸ hWx.1 15
  refine jx_ld (pc_q := 294) (l_q := L) (st_q := [.ref 66]) rfl (jl_aloadn gL_0) ?_
  refine jr_get (pc_q := 297) (i := 34) (v := .ref 84) rfl rfl (by decide) rfl rfl ?_
  refine jx_ld (pc_q := 298) (l_q := L) (st_q := [.int (i32 (one)), .ref 84]) rfl (jl_iloadn gL_1) ?_
  refine jx_ld (pc_q := 299) (l_q := L) (st_q := [.int (i32 (e)), .int (i32 (one)), .ref 84]) rfl (jl_iloadn gL_2) ?_
  refine jr_st (pc_q := 300) (i := 17) (m := 7000) (z := one) (y := e) rfl (by decide) rfl (by decide) (by omega) (by omega) rfl ?_
  have hW587 : Wk Gx (uA Ax 17 (one).toNat (e)) := Wk_a hWx (show (-2147483648 : Int) ≤ e by omega) (show e ≤ (2147483647 : Int) by omega)
  have hF588 := Fr_a (z := e) (k := 17) (n := (one).toNat) hFx (by decide)
  obtain ⟨A586, eA586⟩ : ∃ q, q = uA Ax 17 (one).toNat (e) := ⟨_, rfl⟩
  rw [← eA586]
  rw [← eA586] at hW587 hF588
  have q589 : A586 17 (one).toNat = e := by rw [eA586]; exact uA_eq
  have hP590 : Pf nd A A586 := eA586 ▸ Pf_a hPx (z := one) (by omega) (by omega)
  have ec591 : ecn A586 (Gx 31) = ec1 := (ecn_e ((congrFun eA586 15).trans (uA_ne (by decide)))).trans ex_ec1
  refine jx_ld (pc_q := 301) (l_q := L) (st_q := [.ref 66]) rfl (jl_aloadn gL_0) ?_
  refine jx_ld (pc_q := 302) (l_q := L) (st_q := [.ref 66, .ref 66]) rfl (jl_aloadn gL_0) ?_
  refine jx_ar (pc_q := 304) (st_q := [.int (i32 (38)), .ref 66, .ref 66]) rfl rfl rfl rfl ?_
  have b592 : (-2147483648 : Int) ≤ Gx 13 ∧ Gx 13 ≤ 2147483647 := hWx.1 13
  refine jx_vr (pc_q := 307) (as := [.int (i32 (38))]) (st := [.ref 66]) rfl rfl rfl rfl ⟨rfl, rfl, Nat.le_of_ble_eq_true rfl⟩ rfl rfl (c_is (dd := d) (hd := by omega) (hW := hW587) (k := 38) (tk := tk1) (e_tk := show Gx 11 = tk1 from (ex_tk1)) (tn := Gx 13) (e_tn := show Gx 13 = Gx 13 from rfl)  (h_k := ⟨(by decide), (by decide)⟩)  ) (fun o V_q hq => ?_)
  obtain ⟨r593, rfl, rfl, b594, q595⟩ := hq
  refine .inr ⟨_, rfl, ?_⟩
  rcases q595 with ⟨rfl, a596, a597, a598⟩ | rfl
  · have _q : True := trivial
    refine jx_vr (pc_q := 310) (as := [.int (i32 (1))]) (st := []) rfl rfl rfl rfl ⟨rfl, rfl, Nat.le_of_ble_eq_true rfl⟩ rfl rfl (c_need (dd := d) (hd := by omega) (hW := hW587) (g := 1) (ln := ln) (e_ln := show Gx 9 = ln from (fx_9)) (le := le) (e_le := show A586 4 (ln).toNat = le from (congrFun (((congrFun eA586 4).trans (uA_ne (by decide))).trans (hFx.2 4 rfl)) _).trans (e_le)) (at0 := at1) (e_at0 := show Gx 10 = at1 from (ex_at1)) (fk := fk1) (e_fk := show Gx 16 = fk1 from (ex_fk1)) (tk0 := tk1) (e_tk0 := show Gx 11 = tk1 from (ex_tk1))  (h_g := ⟨(by decide), (by decide)⟩)  (p_0 := by omega)) (fun o V_q hq => ?_)
    obtain ⟨G599, A600, at2_601, tk2_602, fk2_603, rfl, rfl, hW604, hF605, e606, e607, e608, p609, p610, q611⟩ := hq
    have hF612 := Fr_tr hF588 hF605 (Fr_sub (by decide)) (Fr_sub (by decide))
    have hP613 := Pf_f hP590 hF605 (by decide)
    have ec614 : ecn A600 (G599 31) = ec1 := (ecn_f (hF605.2 15 rfl) (hF605.1 31 rfl)).trans ec591
    have bat2_601 : (0 : Int) ≤ at2_601 ∧ at2_601 ≤ 3002 := e606 ▸ hW604.1 10
    have ztk2_602 := tz_b tk2_602
    have btk2_602 : (0 : Int) ≤ tk2_602 ∧ tk2_602 ≤ 5 := e607 ▸ hW604.1 11
    have bfk2_603 : (0 : Int) ≤ fk2_603 ∧ fk2_603 ≤ 6 := e608 ▸ hW604.1 16
    refine .inl ⟨rfl, ?_⟩
    rcases q611 with ⟨a615, a616, a617, a618⟩ | ⟨a619, a620, a621, a622⟩
    · have _q : True := trivial
      have z623 := tz_f (tk2_602)
      exact c_readGuard_w_at_310p (X := X) (d := d) (Vs := Vs) (sb := sb) (c0 := c0) (c1 := c1) (G := G) (A := A) (T := T) (ln := ln) (le := le) (at0 := at0) (fk := fk) (op0 := op0) (nd := nd) (tk0 := tk0) (li := li) (ec := ec) (sy := sy) (hd := hd) (hW := hW) (e_ln := e_ln) (e_le := e_le) (e_at0 := e_at0) (e_fk := e_fk) (e_op0 := e_op0) (e_nd := e_nd) (e_tk0 := e_tk0) (e_li := e_li) (e_ec := e_ec) (e_sy := e_sy) (i_SV := i_SV) (p_0 := p_0) (p_1 := p_1) (p_2 := p_2) (p_3 := p_3) (p_4 := p_4) L G599 A600 (one) (at2_601) (tk2_602) (fk2_603) (nd1) (op1) (ec1) gL_0 gL_1 hW604 hF612 hP613 ((e606)) ((e607)) ((e608)) (((hF605.1 31 rfl).trans (ex_nd1))) (((hF605.1 15 rfl).trans (ex_op1))) (ec614) (((hF605.1 9 rfl).trans (fx_9))) (by omega) (by omega) (by omega) (by omega) (by omega) (by omega) (by omega) (by omega) (by omega)
    · have _q : True := trivial
      exfalso
      omega
  · have _q : True := trivial
    refine jx_vr (pc_q := 310) (as := [.int (i32 (0))]) (st := []) rfl rfl rfl rfl ⟨rfl, rfl, Nat.le_of_ble_eq_true rfl⟩ rfl rfl (c_need (dd := d) (hd := by omega) (hW := hW587) (g := 0) (ln := ln) (e_ln := show Gx 9 = ln from (fx_9)) (le := le) (e_le := show A586 4 (ln).toNat = le from (congrFun (((congrFun eA586 4).trans (uA_ne (by decide))).trans (hFx.2 4 rfl)) _).trans (e_le)) (at0 := at1) (e_at0 := show Gx 10 = at1 from (ex_at1)) (fk := fk1) (e_fk := show Gx 16 = fk1 from (ex_fk1)) (tk0 := tk1) (e_tk0 := show Gx 11 = tk1 from (ex_tk1))  (h_g := ⟨(by decide), (by decide)⟩)  (p_0 := by omega)) (fun o V_q hq => ?_)
    obtain ⟨G624, A625, at2_626, tk2_627, fk2_628, rfl, rfl, hW629, hF630, e631, e632, e633, p634, p635, q636⟩ := hq
    have hF637 := Fr_tr hF588 hF630 (Fr_sub (by decide)) (Fr_sub (by decide))
    have hP638 := Pf_f hP590 hF630 (by decide)
    have ec639 : ecn A625 (G624 31) = ec1 := (ecn_f (hF630.2 15 rfl) (hF630.1 31 rfl)).trans ec591
    have bat2_626 : (0 : Int) ≤ at2_626 ∧ at2_626 ≤ 3002 := e631 ▸ hW629.1 10
    have ztk2_627 := tz_b tk2_627
    have btk2_627 : (0 : Int) ≤ tk2_627 ∧ tk2_627 ≤ 5 := e632 ▸ hW629.1 11
    have bfk2_628 : (0 : Int) ≤ fk2_628 ∧ fk2_628 ≤ 6 := e633 ▸ hW629.1 16
    refine .inl ⟨rfl, ?_⟩
    rcases q636 with ⟨a640, a641, a642, a643⟩ | ⟨a644, a645, a646, a647⟩
    · have _q : True := trivial
      have z648 := tz_f (tk2_627)
      exact c_readGuard_w_at_310p (X := X) (d := d) (Vs := Vs) (sb := sb) (c0 := c0) (c1 := c1) (G := G) (A := A) (T := T) (ln := ln) (le := le) (at0 := at0) (fk := fk) (op0 := op0) (nd := nd) (tk0 := tk0) (li := li) (ec := ec) (sy := sy) (hd := hd) (hW := hW) (e_ln := e_ln) (e_le := e_le) (e_at0 := e_at0) (e_fk := e_fk) (e_op0 := e_op0) (e_nd := e_nd) (e_tk0 := e_tk0) (e_li := e_li) (e_ec := e_ec) (e_sy := e_sy) (i_SV := i_SV) (p_0 := p_0) (p_1 := p_1) (p_2 := p_2) (p_3 := p_3) (p_4 := p_4) L G624 A625 (one) (at2_626) (tk2_627) (fk2_628) (nd1) (op1) (ec1) gL_0 gL_1 hW629 hF637 hP638 ((e631)) ((e632)) ((e633)) (((hF630.1 31 rfl).trans (ex_nd1))) (((hF630.1 15 rfl).trans (ex_op1))) (ec639) (((hF630.1 9 rfl).trans (fx_9))) (by omega) (by omega) (by omega) (by omega) (by omega) (by omega) (by omega) (by omega) (by omega)
    · have _q : True := trivial
      exfalso
      omega
set_option maxRecDepth 20000 in
set_option maxHeartbeats 4000000 in
theorem c_readGuard_w_at_222_1_1 {X : jX} {d : Nat} {Vs : Nat → Prop} {sb : Int} {c0 c1 : jC} {G : Nat → Int} {A : Nat → Nat → Int} {T : jH} {ln le at0 fk op0 nd tk0 li ec sy : Int} (hd : 71 ≤ d + 1) (hW : Wk G A) (e_ln : G 9 = ln) (e_le : A 4 (ln).toNat = le) (e_at0 : G 10 = at0) (e_fk : G 16 = fk) (e_op0 : G 15 = op0) (e_nd : G 31 = nd) (e_tk0 : G 11 = tk0) (e_li : G 3 = li) (e_ec : ecn A (G 31) = ec) (e_sy : G 19 = sy) (i_SV : SV Vs sb G A) (p_0 : 0 ≤ op0 ∧ op0 ≤ 8) (p_1 : fk = 0) (p_2 : nd ≤ 2 * at0 - tz tk0 + 42) (p_3 : at0 ≤ le) (p_4 : ln < li) : ∀ (L : jL) (Gx : Nat → Int) (Ax : Nat → Nat → Int) (one s ix at1 tk1 fk1 nd1 op1 ks ec1 : Int), jGet L 0 = some (.ref 66) → jGet L 6 = some (.int (i32 (1))) → jGet L 7 = some (.int (i32 (1))) → jGet L 1 = some (.int (i32 one)) → jGet L 4 = some (.int (i32 s)) → jGet L 5 = some (.int (i32 ix)) → Wk Gx Ax → Fr [9, 10, 11, 12, 13, 14, 15, 16, 17, 18, 31] [15, 16, 17, 18, 19, 20, 21, 22, 24, 28] G A Gx Ax → Pf nd A Ax → Gx 10 = at1 → Gx 11 = tk1 → Gx 16 = fk1 → Gx 31 = nd1 → Gx 15 = op1 → Ax 7 (s).toNat = ks → ecn Ax (Gx 31) = ec1 → Gx 9 = ln → ((-2147483648 : Int) ≤ one ∧ one ≤ 2147483647) → ((-2147483648 : Int) ≤ s ∧ s ≤ 2147483647) → ((-2147483648 : Int) ≤ ix ∧ ix ≤ 2147483647) → (at0 ≤ at1) → (at1 ≤ le) → (nd ≤ nd1) → (op1 = op0) → (one = nd) → (one ≤ 6998 ∧ one < nd1) → (fk1 = 0) → (nd1 - nd ≤ (2 * at1 - tz tk1) - (2 * at0 - tz tk0)) → (0 ≤ s ∧ s ≤ 201) → (SY Vs sb (s)) → (ND Ax (one) (33) (0) (0) (0) (0) (0) (0)) → (tz tk1 = 1) → (ks = 4) → (wE Ax Vs sb (20) (ix) (one + 1) (nd1)) → (ix + 1 = nd1) → (nd1 - nd + 5 * (ec1 - ec) ≤ (2 * at1 - tz tk1) - (2 * at0 - tz tk0) - 5 - tz tk1) → (NdM Ax (nd) (nd1) (sy)) → wj X d jm303 (222, L, [], rV c0 c1 Gx Ax T) (fun o V_q => ∃ (G_q : Nat → Int) (A_q : Nat → Nat → Int) (r : Int) (at2 : Int) (fk2 : Int) (nd2 : Int) (ln2 : Int) (ec2 : Int), V_q = rV c0 c1 G_q A_q T ∧ o = .inl (some (.int (i32 r))) ∧ Wk G_q A_q ∧ Fr [9, 10, 11, 12, 13, 14, 15, 16, 17, 18, 31] [15, 16, 17, 18, 19, 20, 21, 22, 24, 28] G A G_q A_q ∧ Pf nd A A_q ∧ ((-2147483648 : Int) ≤ r ∧ r ≤ 2147483647) ∧ G_q 10 = at2 ∧ G_q 16 = fk2 ∧ G_q 31 = nd2 ∧ G_q 9 = ln2 ∧ ecn A_q (G_q 31) = ec2 ∧ (at0 ≤ at2) ∧ (at2 ≤ le) ∧ (nd ≤ nd2) ∧ (0 ≤ r) ∧ (r ≤ nd2) ∧ (((1 ≤ fk2) ∧ (ln2 = ln) ∧ (nd2 - nd ≤ 2 * at2 - 2 * at0 + 12)) ∨ ((fk2 = 0) ∧ (ln2 = ln + 1) ∧ (nd2 - nd ≤ 2 * at2 - (2 * at0 - tz tk0) + 0) ∧ (nd ≤ r) ∧ (r < nd2) ∧ (wU A_q Vs sb (r) (nd) (nd2)) ∧ (NX A_q (r)) ∧ (nd2 - nd + 5 * (ec2 - ec) ≤ 2 * at2 - (2 * at0 - tz tk0) + 0) ∧ (NdM A_q (nd) (nd2) (sy))))) := by
  have hF0 : Fr [9, 10, 11, 12, 13, 14, 15, 16, 17, 18, 31] [15, 16, 17, 18, 19, 20, 21, 22, 24, 28] G A G A := Fr_rf
  have hP0 : Pf nd A A := Pf_rf
  have b_ln : (0 : Int) ≤ ln ∧ ln ≤ 3000 := e_ln ▸ hW.1 9
  have b_le : (0 : Int) ≤ le ∧ le ≤ 3000 := e_le ▸ hW.2 4 _
  have b_at0 : (0 : Int) ≤ at0 ∧ at0 ≤ 3002 := e_at0 ▸ hW.1 10
  have b_fk : (0 : Int) ≤ fk ∧ fk ≤ 6 := e_fk ▸ hW.1 16
  have b_op0 : (-2147483648 : Int) ≤ op0 ∧ op0 ≤ 2147483647 := e_op0 ▸ hW.1 15
  have b_nd : (0 : Int) ≤ nd ∧ nd ≤ 6999 := e_nd ▸ hW.1 31
  have z_tk0 := tz_f tk0
  have b_tk0 : (0 : Int) ≤ tk0 ∧ tk0 ≤ 5 := e_tk0 ▸ hW.1 11
  have b_li : (0 : Int) ≤ li ∧ li ≤ 3000 := e_li ▸ hW.1 3
  have b_sy : (0 : Int) ≤ sy ∧ sy ≤ 202 := e_sy ▸ hW.1 19
  intro L Gx Ax one s ix at1 tk1 fk1 nd1 op1 ks ec1 gL_0 gL_6 gL_7 gL_1 gL_4 gL_5 hWx hFx hPx ex_at1 ex_tk1 ex_fk1 ex_nd1 ex_op1 ex_ks ex_ec1 fx_9 rx_one rx_s rx_ix iv_0 iv_1 iv_2 iv_3 iv_4 iv_5 iv_6 iv_7 iv_8 iv_9 iv_10 iv_11 iv_12 iv_13 iv_14 iv_15 iv_16
  have b_at1 : (0 : Int) ≤ at1 ∧ at1 ≤ 3002 := ex_at1 ▸ hWx.1 10
  have z_tk1 := tz_f tk1
  have b_tk1 : (0 : Int) ≤ tk1 ∧ tk1 ≤ 5 := ex_tk1 ▸ hWx.1 11
  have b_fk1 : (0 : Int) ≤ fk1 ∧ fk1 ≤ 6 := ex_fk1 ▸ hWx.1 16
  have b_nd1 : (0 : Int) ≤ nd1 ∧ nd1 ≤ 6999 := ex_nd1 ▸ hWx.1 31
  have b_op1 : (-2147483648 : Int) ≤ op1 ∧ op1 ≤ 2147483647 := ex_op1 ▸ hWx.1 15
  have b_ks : (0 : Int) ≤ ks ∧ ks ≤ 14 := ex_ks ▸ hWx.2 7 _
  refine jx_ld (pc_q := 223) (l_q := L) (st_q := [.ref 66]) rfl (jl_aloadn gL_0) ?_
  refine jx_ld (pc_q := 225) (l_q := L) (st_q := [.int (i32 (1)), .ref 66]) rfl (jl_iload gL_6) ?_
  refine jx_if_eq (pc_q := 228) (tg := 232) rfl rfl rfl (by decide) (by decide) (fun h649 => ?_) (fun h649 => ?_)
  · have _q := h649
    exact absurd h649 (by omega)
  · have _q := h649
    refine jx_ar (pc_q := 229) (st_q := [.int (i32 (3)), .ref 66]) rfl rfl rfl rfl ?_
    refine jx_go (tg := 233) rfl rfl ?_
    refine jx_ld (pc_q := 235) (l_q := L) (st_q := [.int (i32 (s)), .int (i32 (3)), .ref 66]) rfl (jl_iload gL_4) ?_
    refine jx_ld (pc_q := 237) (l_q := L) (st_q := [.int (i32 (ix)), .int (i32 (s)), .int (i32 (3)), .ref 66]) rfl (jl_iload gL_5) ?_
    refine jx_ar (pc_q := 238) (st_q := [.int (i32 (0)), .int (i32 (ix)), .int (i32 (s)), .int (i32 (3)), .ref 66]) rfl rfl rfl rfl ?_
    refine jx_ar (pc_q := 239) (st_q := [.int (i32 (0)), .int (i32 (0)), .int (i32 (ix)), .int (i32 (s)), .int (i32 (3)), .ref 66]) rfl rfl rfl rfl ?_
    refine jx_vr (pc_q := 242) (as := [.int (i32 (3)), .int (i32 (s)), .int (i32 (ix)), .int (i32 (0)), .int (i32 (0))]) (st := []) rfl rfl rfl rfl ⟨rfl, rfl, Nat.le_of_ble_eq_true rfl⟩ rfl rfl (c_node_e (dd := d) (hd := by omega) (hW := hWx) (kind := 3) (a := s) (b := ix) (c := 0) (e := 0) (nd := nd1) (e_nd := show Gx 31 = nd1 from (ex_nd1)) (ec := ec1) (e_ec := show ecn Ax (Gx 31) = ec1 from ex_ec1) (sy := sy) (e_sy := show Gx 19 = sy from ((hFx.1 19 rfl).trans (e_sy))) (fk := fk1) (e_fk := show Gx 16 = fk1 from (ex_fk1))  (h_kind := ⟨(by decide), (by decide)⟩) (h_a := ⟨(Int.le_trans (by decide : (-2147483648 : Int) ≤ -2147483648) rx_s.1), (Int.le_trans rx_s.2 (by decide : (2147483647 : Int) ≤ 2147483647))⟩) (h_b := ⟨(Int.le_trans (by decide : (-2147483648 : Int) ≤ -2147483648) rx_ix.1), (Int.le_trans rx_ix.2 (by decide : (2147483647 : Int) ≤ 2147483647))⟩) (h_c := ⟨(by decide), (by decide)⟩) (h_e := ⟨(by decide), (by decide)⟩)  (p_0 := by omega) (p_1 := by omega) (p_2 := by omega) (p_3 := by omega)) (fun o V_q hq => ?_)
    obtain ⟨G650, A651, nd2_652, ec2_653, rfl, rfl, hW654, hF655, hQ656, e657, e658, p659, p660, p661, p662, -⟩ := hq
    have hF664 := Fr_tr hFx hF655 (Fr_sub (by decide)) (Fr_sub (by decide))
    have hP665 := Pf_tr hPx hQ656 (by omega)
    have sf666 : ND A651 (one) (33) (0) (0) (0) (0) (0) (0) := ND_ag (by omega) (Ag_pf hQ656 (by omega)) iv_10
    have sf667 : wE A651 Vs sb (20) (ix) (one + 1) (nd1) := wE_ag (by omega) (Sg_fr hF655 (by decide)) (Ag_pf hQ656 (by omega)) iv_13
    have sf668 : NdM A651 (nd) (nd1) (sy) := NdM_pf hQ656 (by omega) (by omega) iv_16
    have bnd2_652 : (0 : Int) ≤ nd2_652 ∧ nd2_652 ≤ 6999 := e657 ▸ hW654.1 31
    refine .inr ⟨_, rfl, ?_⟩
    refine jx_ld (pc_q := 244) (l_q := jSto1 L 10 (.int (i32 (nd1)))) (st_q := []) rfl rfl ?_
    obtain ⟨L669, eL669⟩ : ∃ q, q = jSto1 L 10 (.int (i32 (nd1))) := ⟨_, rfl⟩
    rw [← eL669]
    have gL669_0 : jGet L669 0 = some (.ref 66) := eL669 ▸ jg_ne (by decide) gL_0 rfl
    have gL669_6 : jGet L669 6 = some (.int (i32 (1))) := eL669 ▸ jg_ne (by decide) gL_6 rfl
    have gL669_7 : jGet L669 7 = some (.int (i32 (1))) := eL669 ▸ jg_ne (by decide) gL_7 rfl
    have gL669_1 : jGet L669 1 = some (.int (i32 (one))) := eL669 ▸ jg_ne (by decide) gL_1 rfl
    have gL669_4 : jGet L669 4 = some (.int (i32 (s))) := eL669 ▸ jg_ne (by decide) gL_4 rfl
    have gL669_5 : jGet L669 5 = some (.int (i32 (ix))) := eL669 ▸ jg_ne (by decide) gL_5 rfl
    have gL669_10 : jGet L669 10 = some (.int (i32 (nd1))) := eL669 ▸ jg_eq
    refine jx_ld (pc_q := 246) (l_q := L669) (st_q := [.int (i32 (1))]) rfl (jl_iload gL669_7) ?_
    refine jx_if_eq (pc_q := 249) (tg := 278) rfl rfl rfl (by decide) (by decide) (fun h670 => ?_) (fun h670 => ?_)
    · have _q := h670
      exact absurd h670 (by omega)
    · have _q := h670
      refine jx_ld (pc_q := 250) (l_q := L669) (st_q := [.ref 66]) rfl (jl_aloadn gL669_0) ?_
      refine jr_get (pc_q := 253) (i := 35) (v := .ref 85) rfl rfl (by decide) rfl rfl ?_
      refine jx_ld (pc_q := 254) (l_q := L669) (st_q := [.int (i32 (one)), .ref 85]) rfl (jl_iloadn gL669_1) ?_
      refine jx_ld (pc_q := 256) (l_q := L669) (st_q := [.int (i32 (nd1)), .int (i32 (one)), .ref 85]) rfl (jl_iload gL669_10) ?_
      refine jr_st (pc_q := 257) (i := 18) (m := 7000) (z := one) (y := nd1) rfl (by decide) rfl (by decide) (by omega) (by omega) rfl ?_
      have hW672 : Wk G650 (uA A651 18 (one).toNat (nd1)) := Wk_a hW654 (show (-2147483648 : Int) ≤ nd1 by omega) (show nd1 ≤ (2147483647 : Int) by omega)
      have hF673 := Fr_a (z := nd1) (k := 18) (n := (one).toNat) hF664 (by decide)
      obtain ⟨A671, eA671⟩ : ∃ q, q = uA A651 18 (one).toNat (nd1) := ⟨_, rfl⟩
      rw [← eA671]
      rw [← eA671] at hW672 hF673
      have q674 : A671 18 (one).toNat = nd1 := by rw [eA671]; exact uA_eq
      have hP675 : Pf nd A A671 := eA671 ▸ Pf_a hP665 (z := one) (by omega) (by omega)
      have sf676 : ND A671 (one) (33) (0) (nd1) (0) (0) (0) (0) := ND_b eA671 sf666
      have sf677 : wE A671 Vs sb (20) (ix) (one + 1) (nd1) := wE_ag (by omega) (Sg_ne eA671 rfl) (Ag_st eA671 (by omega) (by omega)) sf667
      have sf678 : NdM A671 (nd) (nd1) (sy) := NdM_18 eA671 sf666.1 (by decide) sf668
      have sf679 : ND A671 (nd1) (3) (s) (ix) (0) (0) (0) (0) := ND_ag (by omega) (Ag_st eA671 (by omega) (by omega)) p661
      have sf680 : NdM A671 (nd1) (nd1 + 1) (sy) := NdM_18 eA671 sf666.1 (by decide) (p662 (by omega))
      have ec681 : ecn A671 (G650 31) = ec2_653 := (ecn_e ((congrFun eA671 15).trans (uA_ne (by decide)))).trans e658
      refine jx_ld (pc_q := 258) (l_q := L669) (st_q := [.ref 66]) rfl (jl_aloadn gL669_0) ?_
      refine jx_vr (pc_q := 261) (as := []) (st := []) rfl rfl rfl rfl ⟨rfl, rfl, Nat.le_of_ble_eq_true rfl⟩ rfl rfl (c_next (dd := d) (hd := by omega) (hW := hW672)  (ln := ln) (e_ln := show G650 9 = ln from ((hF655.1 9 rfl).trans (fx_9))) (le := le) (e_le := show A671 4 (ln).toNat = le from (congrFun (((congrFun eA671 4).trans (uA_ne (by decide))).trans ((hF655.2 4 rfl).trans (hFx.2 4 rfl))) _).trans (e_le)) (at0 := at1) (e_at0 := show G650 10 = at1 from ((hF655.1 10 rfl).trans (ex_at1)))    (p_0 := by omega)) (fun o V_q hq => ?_)
      obtain ⟨G682, A683, at2_684, tk2_685, rfl, rfl, hW686, hF687, e688, e689, p690, p691, p692, -⟩ := hq
      have hF694 := Fr_tr hF673 hF687 (Fr_sub (by decide)) (Fr_sub (by decide))
      have hP695 := Pf_f hP675 hF687 (by decide)
      have sf696 : ND A683 (one) (33) (0) (nd1) (0) (0) (0) (0) := ND_ag (by omega) (Ag_fr hF687 (by decide)) sf676
      have sf697 : wE A683 Vs sb (20) (ix) (one + 1) (nd1) := wE_ag (by omega) (Sg_fr hF687 (by decide)) (Ag_fr hF687 (by decide)) sf677
      have sf698 : NdM A683 (nd) (nd1) (sy) := NdM_f hF687 (by decide) sf678
      have sf699 : ND A683 (nd1) (3) (s) (ix) (0) (0) (0) (0) := ND_ag (by omega) (Ag_fr hF687 (by decide)) sf679
      have sf700 : NdM A683 (nd1) (nd1 + 1) (sy) := NdM_f hF687 (by decide) sf680
      have ec701 : ecn A683 (G682 31) = ec2_653 := (ecn_f (hF687.2 15 rfl) (hF687.1 31 rfl)).trans ec681
      have bat2_684 : (0 : Int) ≤ at2_684 ∧ at2_684 ≤ 3002 := e688 ▸ hW686.1 10
      have ztk2_685 := tz_b tk2_685
      have btk2_685 : (0 : Int) ≤ tk2_685 ∧ tk2_685 ≤ 5 := e689 ▸ hW686.1 11
      refine .inl ⟨rfl, ?_⟩
      have pz702 : at1 + tz tk2_685 ≤ at2_684 := by omega
      refine jx_ld (pc_q := 262) (l_q := L669) (st_q := [.ref 66]) rfl (jl_aloadn gL669_0) ?_
      refine jr_get (pc_q := 265) (i := 36) (v := .ref 86) rfl rfl (by decide) rfl rfl ?_
      refine jx_ld (pc_q := 266) (l_q := L669) (st_q := [.int (i32 (one)), .ref 86]) rfl (jl_iloadn gL669_1) ?_
      refine jx_ld (pc_q := 267) (l_q := L669) (st_q := [.ref 66, .int (i32 (one)), .ref 86]) rfl (jl_aloadn gL669_0) ?_
      refine jx_ar (pc_q := 268) (st_q := [.int (i32 (0)), .ref 66, .int (i32 (one)), .ref 86]) rfl rfl rfl rfl ?_
      refine jx_vr (pc_q := 271) (as := [.int (i32 (0))]) (st := [.int (i32 (one)), .ref 86]) rfl rfl rfl rfl ⟨rfl, rfl, Nat.le_of_ble_eq_true rfl⟩ rfl rfl (c_readReference_w (dd := d) (hd := by omega) (hW := hW686) (ch := 0) (ln := ln) (e_ln := show G682 9 = ln from ((hF687.1 9 rfl).trans ((hF655.1 9 rfl).trans (fx_9)))) (le := le) (e_le := show A683 4 (ln).toNat = le from (congrFun ((hF687.2 4 rfl).trans (((congrFun eA671 4).trans (uA_ne (by decide))).trans ((hF655.2 4 rfl).trans (hFx.2 4 rfl)))) _).trans (e_le)) (at0 := at2_684) (e_at0 := show G682 10 = at2_684 from (e688)) (fk := fk1) (e_fk := show G682 16 = fk1 from ((hF687.1 16 rfl).trans ((hF655.1 16 rfl).trans (ex_fk1)))) (op0 := op1) (e_op0 := show G682 15 = op1 from ((hF687.1 15 rfl).trans ((hF655.1 15 rfl).trans (ex_op1)))) (nd := nd2_652) (e_nd := show G682 31 = nd2_652 from ((hF687.1 31 rfl).trans (e657))) (tk0 := tk2_685) (e_tk0 := show G682 11 = tk2_685 from (e689)) (ec := ec2_653) (e_ec := show ecn A683 (G682 31) = ec2_653 from ec701) (sy := sy) (e_sy := show G682 19 = sy from ((hF687.1 19 rfl).trans ((hF655.1 19 rfl).trans ((hFx.1 19 rfl).trans (e_sy))))) (i_SV := (SV_ext (((hF687.1 29 rfl).trans ((hF655.1 29 rfl).trans (hFx.1 29 rfl)))) (((hF687.2 14 rfl).trans (((congrFun eA671 14).trans (uA_ne (by decide))).trans ((hF655.2 14 rfl).trans (hFx.2 14 rfl))))) i_SV)) (h_ch := ⟨(by decide), (by decide)⟩)  (p_0 := by omega) (p_1 := by omega) (p_2 := by omega) (p_3 := by omega) (p_4 := by omega)) (fun o V_q hq => ?_)
      obtain ⟨G703, A704, r705, at2_706, fk2_707, op2_708, nd2_709, tk2_710, ec2_711, rfl, rfl, hW712, hF713, hQ714, b715, e716, e717, e718, e719, e720, e721, p722, p723, p724, p725, p726, p727, q728⟩ := hq
      have hF729 := Fr_tr hF694 hF713 (Fr_sub (by decide)) (Fr_sub (by decide))
      have k730 : A704 18 (one).toNat = nd1 := (hQ714 18 _ rfl (by omega)).trans (show A683 18 (one).toNat = nd1 from (congrFun (hF687.2 18 rfl) _).trans (q674))
      have hP731 := Pf_tr hP695 hQ714 (by omega)
      have sf732 : ND A704 (one) (33) (0) (nd1) (0) (0) (0) (0) := ND_ag (by omega) (Ag_pf hQ714 (by omega)) sf696
      have sf733 : wE A704 Vs sb (20) (ix) (one + 1) (nd1) := wE_ag (by omega) (Sg_fr hF713 (by decide)) (Ag_pf hQ714 (by omega)) sf697
      have sf734 : NdM A704 (nd) (nd1) (sy) := NdM_pf hQ714 (by omega) (by omega) sf698
      have sf735 : ND A704 (nd1) (3) (s) (ix) (0) (0) (0) (0) := ND_ag (by omega) (Ag_pf hQ714 (by omega)) sf699
      have sf736 : NdM A704 (nd1) (nd1 + 1) (sy) := NdM_pf hQ714 (by omega) (by omega) sf700
      have bat2_706 : (0 : Int) ≤ at2_706 ∧ at2_706 ≤ 3002 := e716 ▸ hW712.1 10
      have bfk2_707 : (0 : Int) ≤ fk2_707 ∧ fk2_707 ≤ 6 := e717 ▸ hW712.1 16
      have bop2_708 : (-2147483648 : Int) ≤ op2_708 ∧ op2_708 ≤ 2147483647 := e718 ▸ hW712.1 15
      have bnd2_709 : (0 : Int) ≤ nd2_709 ∧ nd2_709 ≤ 6999 := e719 ▸ hW712.1 31
      have ztk2_710 := tz_b tk2_710
      have btk2_710 : (0 : Int) ≤ tk2_710 ∧ tk2_710 ≤ 5 := e720 ▸ hW712.1 11
      refine .inr ⟨_, rfl, ?_⟩
      rcases q728 with ⟨a737, a738, a739, a740, a741, a742⟩ | ⟨a743, a744, a745⟩ | ⟨a746, a747, a748, a749, a750, a751, a752⟩
      · have _q : True := trivial
        exfalso
        omega
      · have _q : True := trivial
        refine jr_st (pc_q := 272) (i := 19) (m := 7000) (z := one) (y := r705) rfl (by decide) rfl (by decide) (by omega) (by omega) rfl ?_
        have hW754 : Wk G703 (uA A704 19 (one).toNat (r705)) := Wk_a hW712 (show (-2147483648 : Int) ≤ r705 by omega) (show r705 ≤ (2147483647 : Int) by omega)
        have hF755 := Fr_a (z := r705) (k := 19) (n := (one).toNat) hF729 (by decide)
        obtain ⟨A753, eA753⟩ : ∃ q, q = uA A704 19 (one).toNat (r705) := ⟨_, rfl⟩
        rw [← eA753]
        rw [← eA753] at hW754 hF755
        have q756 : A753 19 (one).toNat = r705 := by rw [eA753]; exact uA_eq
        have hP757 : Pf nd A A753 := eA753 ▸ Pf_a hP731 (z := one) (by omega) (by omega)
        have sf758 : ND A753 (one) (33) (0) (nd1) (r705) (0) (0) (0) := ND_c eA753 sf732
        have sf759 : wE A753 Vs sb (20) (ix) (one + 1) (nd1) := wE_ag (by omega) (Sg_ne eA753 rfl) (Ag_st eA753 (by omega) (by omega)) sf733
        have sf760 : NdM A753 (nd) (nd1) (sy) := NdM_st eA753 (by decide) sf734
        have sf761 : ND A753 (nd1) (3) (s) (ix) (0) (0) (0) (0) := ND_ag (by omega) (Ag_st eA753 (by omega) (by omega)) sf735
        have sf762 : NdM A753 (nd1) (nd1 + 1) (sy) := NdM_st eA753 (by decide) sf736
        have ec763 : ecn A753 (G703 31) = ec2_711 := (ecn_e ((congrFun eA753 15).trans (uA_ne (by decide)))).trans e721
        refine jx_ld (pc_q := 273) (l_q := L669) (st_q := [.ref 66]) rfl (jl_aloadn gL669_0) ?_
        refine jx_vr (pc_q := 276) (as := []) (st := []) rfl rfl rfl rfl ⟨rfl, rfl, Nat.le_of_ble_eq_true rfl⟩ rfl rfl (c_endLine (dd := d) (hd := by omega) (hW := hW754)  (ln := ln) (e_ln := show G703 9 = ln from ((hF713.1 9 rfl).trans ((hF687.1 9 rfl).trans ((hF655.1 9 rfl).trans (fx_9))))) (li := li) (e_li := show G703 3 = li from ((hF713.1 3 rfl).trans ((hF687.1 3 rfl).trans ((hF655.1 3 rfl).trans ((hFx.1 3 rfl).trans (e_li)))))) (fk := fk2_707) (e_fk := show G703 16 = fk2_707 from (e717)) (tk0 := tk2_710) (e_tk0 := show G703 11 = tk2_710 from (e720))    (p_0 := by omega)) (fun o V_q hq => ?_)
        obtain ⟨G764, A765, ln2_766, fk2_767, rfl, rfl, hW768, hF769, e770, e771, q772⟩ := hq
        have hF773 := Fr_tr hF755 hF769 (Fr_sub (by decide)) (Fr_sub (by decide))
        have hP774 := Pf_f hP757 hF769 (by decide)
        have sf775 : ND A765 (one) (33) (0) (nd1) (r705) (0) (0) (0) := ND_ag (by omega) (Ag_fr hF769 (by decide)) sf758
        have sf776 : wE A765 Vs sb (20) (ix) (one + 1) (nd1) := wE_ag (by omega) (Sg_fr hF769 (by decide)) (Ag_fr hF769 (by decide)) sf759
        have sf777 : NdM A765 (nd) (nd1) (sy) := NdM_f hF769 (by decide) sf760
        have sf778 : ND A765 (nd1) (3) (s) (ix) (0) (0) (0) (0) := ND_ag (by omega) (Ag_fr hF769 (by decide)) sf761
        have sf779 : NdM A765 (nd1) (nd1 + 1) (sy) := NdM_f hF769 (by decide) sf762
        have ec780 : ecn A765 (G764 31) = ec2_711 := (ecn_f (hF769.2 15 rfl) (hF769.1 31 rfl)).trans ec763
        have bln2_766 : (0 : Int) ≤ ln2_766 ∧ ln2_766 ≤ 3000 := e770 ▸ hW768.1 9
        have bfk2_767 : (0 : Int) ≤ fk2_767 ∧ fk2_767 ≤ 6 := e771 ▸ hW768.1 16
        refine .inl ⟨rfl, ?_⟩
        rcases q772 with ⟨a781, a782, a783, a784, a785⟩ | ⟨a786, a787⟩
        · have _q : True := trivial
          exfalso
          omega
        · have _q : True := trivial
          refine jx_ld (pc_q := 277) (l_q := L669) (st_q := [.int (i32 (one))]) rfl (jl_iloadn gL669_1) ?_
          refine jx_rt (v := some (.int (i32 (one)))) rfl rfl rfl rfl rfl rfl ?_
          exact ⟨_, _, _, at2_706, fk2_767, nd2_709, ln2_766, ec2_711, rfl, rfl, hW768, hF773, hP774, by omega, ((hF769.1 10 rfl).trans (e716)), (e771), ((hF769.1 31 rfl).trans (e719)), (e770), ec780, by omega, by omega, by omega, by omega, by omega, by first | exact Or.inl (⟨by omega, by omega, by omega⟩)⟩
      · have _q : True := trivial
        refine jr_st (pc_q := 272) (i := 19) (m := 7000) (z := one) (y := r705) rfl (by decide) rfl (by decide) (by omega) (by omega) rfl ?_
        have hW789 : Wk G703 (uA A704 19 (one).toNat (r705)) := Wk_a hW712 (show (-2147483648 : Int) ≤ r705 by omega) (show r705 ≤ (2147483647 : Int) by omega)
        have hF790 := Fr_a (z := r705) (k := 19) (n := (one).toNat) hF729 (by decide)
        obtain ⟨A788, eA788⟩ : ∃ q, q = uA A704 19 (one).toNat (r705) := ⟨_, rfl⟩
        rw [← eA788]
        rw [← eA788] at hW789 hF790
        have q791 : A788 19 (one).toNat = r705 := by rw [eA788]; exact uA_eq
        have hP792 : Pf nd A A788 := eA788 ▸ Pf_a hP731 (z := one) (by omega) (by omega)
        have sf793 : ND A788 (one) (33) (0) (nd1) (r705) (0) (0) (0) := ND_c eA788 sf732
        have sf794 : wE A788 Vs sb (20) (ix) (one + 1) (nd1) := wE_ag (by omega) (Sg_ne eA788 rfl) (Ag_st eA788 (by omega) (by omega)) sf733
        have sf795 : NdM A788 (nd) (nd1) (sy) := NdM_st eA788 (by decide) sf734
        have sf796 : ND A788 (nd1) (3) (s) (ix) (0) (0) (0) (0) := ND_ag (by omega) (Ag_st eA788 (by omega) (by omega)) sf735
        have sf797 : NdM A788 (nd1) (nd1 + 1) (sy) := NdM_st eA788 (by decide) sf736
        have sf798 : wR A788 Vs sb (20) (0) (r705) (nd2_652) (nd2_709) := wR_ag (by omega) (Sg_ne eA788 rfl) (Ag_st eA788 (by omega) (by omega)) a749
        have sf799 : NdM A788 (nd2_652) (nd2_709) (sy) := NdM_st eA788 (by decide) a751
        have ec800 : ecn A788 (G703 31) = ec2_711 := (ecn_e ((congrFun eA788 15).trans (uA_ne (by decide)))).trans e721
        refine jx_ld (pc_q := 273) (l_q := L669) (st_q := [.ref 66]) rfl (jl_aloadn gL669_0) ?_
        refine jx_vr (pc_q := 276) (as := []) (st := []) rfl rfl rfl rfl ⟨rfl, rfl, Nat.le_of_ble_eq_true rfl⟩ rfl rfl (c_endLine (dd := d) (hd := by omega) (hW := hW789)  (ln := ln) (e_ln := show G703 9 = ln from ((hF713.1 9 rfl).trans ((hF687.1 9 rfl).trans ((hF655.1 9 rfl).trans (fx_9))))) (li := li) (e_li := show G703 3 = li from ((hF713.1 3 rfl).trans ((hF687.1 3 rfl).trans ((hF655.1 3 rfl).trans ((hFx.1 3 rfl).trans (e_li)))))) (fk := fk2_707) (e_fk := show G703 16 = fk2_707 from (e717)) (tk0 := tk2_710) (e_tk0 := show G703 11 = tk2_710 from (e720))    (p_0 := by omega)) (fun o V_q hq => ?_)
        obtain ⟨G801, A802, ln2_803, fk2_804, rfl, rfl, hW805, hF806, e807, e808, q809⟩ := hq
        have hF810 := Fr_tr hF790 hF806 (Fr_sub (by decide)) (Fr_sub (by decide))
        have hP811 := Pf_f hP792 hF806 (by decide)
        have sf812 : ND A802 (one) (33) (0) (nd1) (r705) (0) (0) (0) := ND_ag (by omega) (Ag_fr hF806 (by decide)) sf793
        have sf813 : wE A802 Vs sb (20) (ix) (one + 1) (nd1) := wE_ag (by omega) (Sg_fr hF806 (by decide)) (Ag_fr hF806 (by decide)) sf794
        have sf814 : NdM A802 (nd) (nd1) (sy) := NdM_f hF806 (by decide) sf795
        have sf815 : ND A802 (nd1) (3) (s) (ix) (0) (0) (0) (0) := ND_ag (by omega) (Ag_fr hF806 (by decide)) sf796
        have sf816 : NdM A802 (nd1) (nd1 + 1) (sy) := NdM_f hF806 (by decide) sf797
        have sf817 : wR A802 Vs sb (20) (0) (r705) (nd2_652) (nd2_709) := wR_ag (by omega) (Sg_fr hF806 (by decide)) (Ag_fr hF806 (by decide)) sf798
        have sf818 : NdM A802 (nd2_652) (nd2_709) (sy) := NdM_f hF806 (by decide) sf799
        have ec819 : ecn A802 (G801 31) = ec2_711 := (ecn_f (hF806.2 15 rfl) (hF806.1 31 rfl)).trans ec800
        have bln2_803 : (0 : Int) ≤ ln2_803 ∧ ln2_803 ≤ 3000 := e807 ▸ hW805.1 9
        have bfk2_804 : (0 : Int) ≤ fk2_804 ∧ fk2_804 ≤ 6 := e808 ▸ hW805.1 16
        refine .inl ⟨rfl, ?_⟩
        rcases q809 with ⟨a820, a821, a822, a823, a824⟩ | ⟨a825, a826⟩
        · have _q : True := trivial
          refine jx_ld (pc_q := 277) (l_q := L669) (st_q := [.int (i32 (one))]) rfl (jl_iloadn gL669_1) ?_
          refine jx_rt (v := some (.int (i32 (one)))) rfl rfl rfl rfl rfl rfl ?_
          exact ⟨_, _, _, at2_706, fk2_804, nd2_709, ln2_803, ec2_711, rfl, rfl, hW805, hF810, hP811, by omega, ((hF806.1 10 rfl).trans (e716)), (e808), ((hF806.1 31 rfl).trans (e719)), (e807), ec819, by omega, by omega, by omega, by omega, by omega, by first | exact Or.inr ((⟨by omega, by omega, by omega, by omega, by omega, (wU_ch (m := (nd1 + 1)) sf812 (by omega) (by omega) (by omega) (by omega) (wR_elem sf815 (by omega) (by omega) iv_9 (kq (P := kRow (1)) (show A802 7 (s).toNat = ks from (congrFun ((hF806.2 7 rfl).trans (((congrFun eA788 7).trans (uA_ne (by decide))).trans ((hF713.2 7 rfl).trans ((hF687.2 7 rfl).trans (((congrFun eA671 7).trans (uA_ne (by decide))).trans (hF655.2 7 rfl)))))) _).trans (ex_ks)) (by first | exact .inr ⟨by omega, by omega⟩)) (wE_mono (by omega) (by omega) (by omega) sf813)) (wR_mono (by omega) (by omega) (by omega) sf817)), (NX_nd sf812), by omega, (NdM_w (NdM_app (sy := sy) sf814 (NdM_app (sy := sy) sf816 sf818 (by omega) (by omega) (by omega)) (by omega) (by omega) (by omega)) (by omega) (by omega) (by omega))⟩))⟩
        · have _q : True := trivial
          refine jx_ld (pc_q := 277) (l_q := L669) (st_q := [.int (i32 (one))]) rfl (jl_iloadn gL669_1) ?_
          refine jx_rt (v := some (.int (i32 (one)))) rfl rfl rfl rfl rfl rfl ?_
          exact ⟨_, _, _, at2_706, fk2_804, nd2_709, ln2_803, ec2_711, rfl, rfl, hW805, hF810, hP811, by omega, ((hF806.1 10 rfl).trans (e716)), (e808), ((hF806.1 31 rfl).trans (e719)), (e807), ec819, by omega, by omega, by omega, by omega, by omega, by first | exact Or.inl (⟨by omega, by omega, by omega⟩)⟩
set_option maxRecDepth 20000 in
set_option maxHeartbeats 4000000 in
theorem c_readGuard_w_at_222_1_0 {X : jX} {d : Nat} {Vs : Nat → Prop} {sb : Int} {c0 c1 : jC} {G : Nat → Int} {A : Nat → Nat → Int} {T : jH} {ln le at0 fk op0 nd tk0 li ec sy : Int} (hd : 71 ≤ d + 1) (hW : Wk G A) (e_ln : G 9 = ln) (e_le : A 4 (ln).toNat = le) (e_at0 : G 10 = at0) (e_fk : G 16 = fk) (e_op0 : G 15 = op0) (e_nd : G 31 = nd) (e_tk0 : G 11 = tk0) (e_li : G 3 = li) (e_ec : ecn A (G 31) = ec) (e_sy : G 19 = sy) (i_SV : SV Vs sb G A) (p_0 : 0 ≤ op0 ∧ op0 ≤ 8) (p_1 : fk = 0) (p_2 : nd ≤ 2 * at0 - tz tk0 + 42) (p_3 : at0 ≤ le) (p_4 : ln < li) : ∀ (L : jL) (Gx : Nat → Int) (Ax : Nat → Nat → Int) (one s ix at1 tk1 fk1 nd1 op1 ks ec1 : Int), jGet L 0 = some (.ref 66) → jGet L 6 = some (.int (i32 (1))) → jGet L 7 = some (.int (i32 (0))) → jGet L 1 = some (.int (i32 one)) → jGet L 4 = some (.int (i32 s)) → jGet L 5 = some (.int (i32 ix)) → Wk Gx Ax → Fr [9, 10, 11, 12, 13, 14, 15, 16, 17, 18, 31] [15, 16, 17, 18, 19, 20, 21, 22, 24, 28] G A Gx Ax → Pf nd A Ax → Gx 10 = at1 → Gx 11 = tk1 → Gx 16 = fk1 → Gx 31 = nd1 → Gx 15 = op1 → Ax 7 (s).toNat = ks → ecn Ax (Gx 31) = ec1 → Gx 9 = ln → ((-2147483648 : Int) ≤ one ∧ one ≤ 2147483647) → ((-2147483648 : Int) ≤ s ∧ s ≤ 2147483647) → ((-2147483648 : Int) ≤ ix ∧ ix ≤ 2147483647) → (at0 ≤ at1) → (at1 ≤ le) → (nd ≤ nd1) → (op1 = op0) → (one = nd) → (one ≤ 6998 ∧ one < nd1) → (fk1 = 0) → (nd1 - nd ≤ (2 * at1 - tz tk1) - (2 * at0 - tz tk0)) → (0 ≤ s ∧ s ≤ 201) → (SY Vs sb (s)) → (ND Ax (one) (33) (0) (0) (0) (0) (0) (0)) → (kArr (ks)) → (wE Ax Vs sb (20) (ix) (one + 1) (nd1)) → (ix + 1 = nd1) → (nd1 - nd + 5 * (ec1 - ec) ≤ (2 * at1 - tz tk1) - (2 * at0 - tz tk0) - 5 - tz tk1) → (NdM Ax (nd) (nd1) (sy)) → wj X d jm303 (222, L, [], rV c0 c1 Gx Ax T) (fun o V_q => ∃ (G_q : Nat → Int) (A_q : Nat → Nat → Int) (r : Int) (at2 : Int) (fk2 : Int) (nd2 : Int) (ln2 : Int) (ec2 : Int), V_q = rV c0 c1 G_q A_q T ∧ o = .inl (some (.int (i32 r))) ∧ Wk G_q A_q ∧ Fr [9, 10, 11, 12, 13, 14, 15, 16, 17, 18, 31] [15, 16, 17, 18, 19, 20, 21, 22, 24, 28] G A G_q A_q ∧ Pf nd A A_q ∧ ((-2147483648 : Int) ≤ r ∧ r ≤ 2147483647) ∧ G_q 10 = at2 ∧ G_q 16 = fk2 ∧ G_q 31 = nd2 ∧ G_q 9 = ln2 ∧ ecn A_q (G_q 31) = ec2 ∧ (at0 ≤ at2) ∧ (at2 ≤ le) ∧ (nd ≤ nd2) ∧ (0 ≤ r) ∧ (r ≤ nd2) ∧ (((1 ≤ fk2) ∧ (ln2 = ln) ∧ (nd2 - nd ≤ 2 * at2 - 2 * at0 + 12)) ∨ ((fk2 = 0) ∧ (ln2 = ln + 1) ∧ (nd2 - nd ≤ 2 * at2 - (2 * at0 - tz tk0) + 0) ∧ (nd ≤ r) ∧ (r < nd2) ∧ (wU A_q Vs sb (r) (nd) (nd2)) ∧ (NX A_q (r)) ∧ (nd2 - nd + 5 * (ec2 - ec) ≤ 2 * at2 - (2 * at0 - tz tk0) + 0) ∧ (NdM A_q (nd) (nd2) (sy))))) := by
  have hF0 : Fr [9, 10, 11, 12, 13, 14, 15, 16, 17, 18, 31] [15, 16, 17, 18, 19, 20, 21, 22, 24, 28] G A G A := Fr_rf
  have hP0 : Pf nd A A := Pf_rf
  have b_ln : (0 : Int) ≤ ln ∧ ln ≤ 3000 := e_ln ▸ hW.1 9
  have b_le : (0 : Int) ≤ le ∧ le ≤ 3000 := e_le ▸ hW.2 4 _
  have b_at0 : (0 : Int) ≤ at0 ∧ at0 ≤ 3002 := e_at0 ▸ hW.1 10
  have b_fk : (0 : Int) ≤ fk ∧ fk ≤ 6 := e_fk ▸ hW.1 16
  have b_op0 : (-2147483648 : Int) ≤ op0 ∧ op0 ≤ 2147483647 := e_op0 ▸ hW.1 15
  have b_nd : (0 : Int) ≤ nd ∧ nd ≤ 6999 := e_nd ▸ hW.1 31
  have z_tk0 := tz_f tk0
  have b_tk0 : (0 : Int) ≤ tk0 ∧ tk0 ≤ 5 := e_tk0 ▸ hW.1 11
  have b_li : (0 : Int) ≤ li ∧ li ≤ 3000 := e_li ▸ hW.1 3
  have b_sy : (0 : Int) ≤ sy ∧ sy ≤ 202 := e_sy ▸ hW.1 19
  intro L Gx Ax one s ix at1 tk1 fk1 nd1 op1 ks ec1 gL_0 gL_6 gL_7 gL_1 gL_4 gL_5 hWx hFx hPx ex_at1 ex_tk1 ex_fk1 ex_nd1 ex_op1 ex_ks ex_ec1 fx_9 rx_one rx_s rx_ix iv_0 iv_1 iv_2 iv_3 iv_4 iv_5 iv_6 iv_7 iv_8 iv_9 iv_10 iv_11 iv_12 iv_13 iv_14 iv_15
  have b_at1 : (0 : Int) ≤ at1 ∧ at1 ≤ 3002 := ex_at1 ▸ hWx.1 10
  have z_tk1 := tz_f tk1
  have b_tk1 : (0 : Int) ≤ tk1 ∧ tk1 ≤ 5 := ex_tk1 ▸ hWx.1 11
  have b_fk1 : (0 : Int) ≤ fk1 ∧ fk1 ≤ 6 := ex_fk1 ▸ hWx.1 16
  have b_nd1 : (0 : Int) ≤ nd1 ∧ nd1 ≤ 6999 := ex_nd1 ▸ hWx.1 31
  have b_op1 : (-2147483648 : Int) ≤ op1 ∧ op1 ≤ 2147483647 := ex_op1 ▸ hWx.1 15
  have b_ks : (0 : Int) ≤ ks ∧ ks ≤ 14 := ex_ks ▸ hWx.2 7 _
  refine jx_ld (pc_q := 223) (l_q := L) (st_q := [.ref 66]) rfl (jl_aloadn gL_0) ?_
  refine jx_ld (pc_q := 225) (l_q := L) (st_q := [.int (i32 (1)), .ref 66]) rfl (jl_iload gL_6) ?_
  refine jx_if_eq (pc_q := 228) (tg := 232) rfl rfl rfl (by decide) (by decide) (fun h827 => ?_) (fun h827 => ?_)
  · have _q := h827
    exact absurd h827 (by omega)
  · have _q := h827
    refine jx_ar (pc_q := 229) (st_q := [.int (i32 (3)), .ref 66]) rfl rfl rfl rfl ?_
    refine jx_go (tg := 233) rfl rfl ?_
    refine jx_ld (pc_q := 235) (l_q := L) (st_q := [.int (i32 (s)), .int (i32 (3)), .ref 66]) rfl (jl_iload gL_4) ?_
    refine jx_ld (pc_q := 237) (l_q := L) (st_q := [.int (i32 (ix)), .int (i32 (s)), .int (i32 (3)), .ref 66]) rfl (jl_iload gL_5) ?_
    refine jx_ar (pc_q := 238) (st_q := [.int (i32 (0)), .int (i32 (ix)), .int (i32 (s)), .int (i32 (3)), .ref 66]) rfl rfl rfl rfl ?_
    refine jx_ar (pc_q := 239) (st_q := [.int (i32 (0)), .int (i32 (0)), .int (i32 (ix)), .int (i32 (s)), .int (i32 (3)), .ref 66]) rfl rfl rfl rfl ?_
    refine jx_vr (pc_q := 242) (as := [.int (i32 (3)), .int (i32 (s)), .int (i32 (ix)), .int (i32 (0)), .int (i32 (0))]) (st := []) rfl rfl rfl rfl ⟨rfl, rfl, Nat.le_of_ble_eq_true rfl⟩ rfl rfl (c_node_e (dd := d) (hd := by omega) (hW := hWx) (kind := 3) (a := s) (b := ix) (c := 0) (e := 0) (nd := nd1) (e_nd := show Gx 31 = nd1 from (ex_nd1)) (ec := ec1) (e_ec := show ecn Ax (Gx 31) = ec1 from ex_ec1) (sy := sy) (e_sy := show Gx 19 = sy from ((hFx.1 19 rfl).trans (e_sy))) (fk := fk1) (e_fk := show Gx 16 = fk1 from (ex_fk1))  (h_kind := ⟨(by decide), (by decide)⟩) (h_a := ⟨(Int.le_trans (by decide : (-2147483648 : Int) ≤ -2147483648) rx_s.1), (Int.le_trans rx_s.2 (by decide : (2147483647 : Int) ≤ 2147483647))⟩) (h_b := ⟨(Int.le_trans (by decide : (-2147483648 : Int) ≤ -2147483648) rx_ix.1), (Int.le_trans rx_ix.2 (by decide : (2147483647 : Int) ≤ 2147483647))⟩) (h_c := ⟨(by decide), (by decide)⟩) (h_e := ⟨(by decide), (by decide)⟩)  (p_0 := by omega) (p_1 := by omega) (p_2 := by omega) (p_3 := by omega)) (fun o V_q hq => ?_)
    obtain ⟨G828, A829, nd2_830, ec2_831, rfl, rfl, hW832, hF833, hQ834, e835, e836, p837, p838, p839, p840, -⟩ := hq
    have hF842 := Fr_tr hFx hF833 (Fr_sub (by decide)) (Fr_sub (by decide))
    have hP843 := Pf_tr hPx hQ834 (by omega)
    have sf844 : ND A829 (one) (33) (0) (0) (0) (0) (0) (0) := ND_ag (by omega) (Ag_pf hQ834 (by omega)) iv_10
    have sf845 : wE A829 Vs sb (20) (ix) (one + 1) (nd1) := wE_ag (by omega) (Sg_fr hF833 (by decide)) (Ag_pf hQ834 (by omega)) iv_12
    have sf846 : NdM A829 (nd) (nd1) (sy) := NdM_pf hQ834 (by omega) (by omega) iv_15
    have bnd2_830 : (0 : Int) ≤ nd2_830 ∧ nd2_830 ≤ 6999 := e835 ▸ hW832.1 31
    refine .inr ⟨_, rfl, ?_⟩
    refine jx_ld (pc_q := 244) (l_q := jSto1 L 10 (.int (i32 (nd1)))) (st_q := []) rfl rfl ?_
    obtain ⟨L847, eL847⟩ : ∃ q, q = jSto1 L 10 (.int (i32 (nd1))) := ⟨_, rfl⟩
    rw [← eL847]
    have gL847_0 : jGet L847 0 = some (.ref 66) := eL847 ▸ jg_ne (by decide) gL_0 rfl
    have gL847_6 : jGet L847 6 = some (.int (i32 (1))) := eL847 ▸ jg_ne (by decide) gL_6 rfl
    have gL847_7 : jGet L847 7 = some (.int (i32 (0))) := eL847 ▸ jg_ne (by decide) gL_7 rfl
    have gL847_1 : jGet L847 1 = some (.int (i32 (one))) := eL847 ▸ jg_ne (by decide) gL_1 rfl
    have gL847_4 : jGet L847 4 = some (.int (i32 (s))) := eL847 ▸ jg_ne (by decide) gL_4 rfl
    have gL847_5 : jGet L847 5 = some (.int (i32 (ix))) := eL847 ▸ jg_ne (by decide) gL_5 rfl
    have gL847_10 : jGet L847 10 = some (.int (i32 (nd1))) := eL847 ▸ jg_eq
    refine jx_ld (pc_q := 246) (l_q := L847) (st_q := [.int (i32 (0))]) rfl (jl_iload gL847_7) ?_
    refine jx_if_eq (pc_q := 249) (tg := 278) rfl rfl rfl (by decide) (by decide) (fun h848 => ?_) (fun h848 => ?_)
    · have _q := h848
      refine jx_ld (pc_q := 279) (l_q := L847) (st_q := [.ref 66]) rfl (jl_aloadn gL847_0) ?_
      refine jx_ld (pc_q := 281) (l_q := L847) (st_q := [.int (i32 (nd1)), .ref 66]) rfl (jl_iload gL847_10) ?_
      refine jx_vr (pc_q := 284) (as := [.int (i32 (nd1))]) (st := []) rfl rfl rfl rfl ⟨rfl, rfl, Nat.le_of_ble_eq_true rfl⟩ rfl rfl (c_readRest_w (dd := d) (k := 9) (hE := REw_all X 9) (hd := by omega) (hW := hW832) (x := nd1) (lo := (one + 1)) (ln := ln) (e_ln := show G828 9 = ln from ((hF833.1 9 rfl).trans (fx_9))) (le := le) (e_le := show A829 4 (ln).toNat = le from (congrFun ((hF833.2 4 rfl).trans (hFx.2 4 rfl)) _).trans (e_le)) (at0 := at1) (e_at0 := show G828 10 = at1 from ((hF833.1 10 rfl).trans (ex_at1))) (fk := fk1) (e_fk := show G828 16 = fk1 from ((hF833.1 16 rfl).trans (ex_fk1))) (op0 := op1) (e_op0 := show G828 15 = op1 from ((hF833.1 15 rfl).trans (ex_op1))) (nd := nd2_830) (e_nd := show G828 31 = nd2_830 from (e835)) (tk0 := tk1) (e_tk0 := show G828 11 = tk1 from ((hF833.1 11 rfl).trans (ex_tk1))) (ec := ec2_831) (e_ec := show ecn A829 (G828 31) = ec2_831 from e836) (sy := sy) (e_sy := show G828 19 = sy from ((hF833.1 19 rfl).trans ((hFx.1 19 rfl).trans (e_sy)))) (i_SV := (SV_ext (((hF833.1 29 rfl).trans (hFx.1 29 rfl))) (((hF833.2 14 rfl).trans (hFx.2 14 rfl))) i_SV)) (h_x := ⟨(Int.le_trans (by decide : (-2147483648 : Int) ≤ 0) b_nd1.1), (Int.le_trans b_nd1.2 (by decide : (6999 : Int) ≤ 2147483647))⟩)  (p_0 := by omega) (p_1 := by omega) (p_2 := by omega) (p_3 := by omega) (p_4 := by omega) (p_5 := by omega) (p_6 := by omega) (p_7 := by omega) (p_8 := by omega) (p_9 := (fun _ => (wE_elem p839 (by omega) (by omega) iv_9 (kq (P := kArr) (show A829 7 (s).toNat = ks from (congrFun (hF833.2 7 rfl) _).trans (ex_ks)) iv_11) (wE_mono (by omega) (by omega) (by omega) sf845)))) (p_10 := by omega)) (fun o V_q hq => ?_)
      obtain ⟨G849, A850, r851, at2_852, fk2_853, op2_854, nd2_855, tk2_856, ec2_857, rfl, rfl, hW858, hF859, hQ860, b861, e862, e863, e864, e865, e866, e867, p868, p869, p870, p871, p872, p873, q874⟩ := hq
      have hF875 := Fr_tr hF842 hF859 (Fr_sub (by decide)) (Fr_sub (by decide))
      have hP876 := Pf_tr hP843 hQ860 (by omega)
      have sf877 : ND A850 (one) (33) (0) (0) (0) (0) (0) (0) := ND_ag (by omega) (Ag_pf hQ860 (by omega)) sf844
      have sf878 : wE A850 Vs sb (20) (ix) (one + 1) (nd1) := wE_ag (by omega) (Sg_fr hF859 (by decide)) (Ag_pf hQ860 (by omega)) sf845
      have sf879 : NdM A850 (nd) (nd1) (sy) := NdM_pf hQ860 (by omega) (by omega) sf846
      have sf880 : ND A850 (nd1) (3) (s) (ix) (0) (0) (0) (0) := ND_ag (by omega) (Ag_pf hQ860 (by omega)) p839
      have sf881 : NdM A850 (nd1) (nd1 + 1) (sy) := NdM_pf hQ860 (by omega) (by omega) (p840 (by omega))
      have bat2_852 : (0 : Int) ≤ at2_852 ∧ at2_852 ≤ 3002 := e862 ▸ hW858.1 10
      have bfk2_853 : (0 : Int) ≤ fk2_853 ∧ fk2_853 ≤ 6 := e863 ▸ hW858.1 16
      have bop2_854 : (-2147483648 : Int) ≤ op2_854 ∧ op2_854 ≤ 2147483647 := e864 ▸ hW858.1 15
      have bnd2_855 : (0 : Int) ≤ nd2_855 ∧ nd2_855 ≤ 6999 := e865 ▸ hW858.1 31
      have ztk2_856 := tz_b tk2_856
      have btk2_856 : (0 : Int) ≤ tk2_856 ∧ tk2_856 ≤ 5 := e866 ▸ hW858.1 11
      refine .inr ⟨_, rfl, ?_⟩
      rcases q874 with ⟨a882, a883, a884, a885, a886, a887⟩ | ⟨a888, a889, a890⟩ | ⟨a891, a892, a893, a894, a895, a896, a897⟩
      · have _q : True := trivial
        exfalso
        omega
      · have _q : True := trivial
        refine jx_ld (pc_q := 285) (l_q := jSto1 L847 2 (.int (i32 (r851)))) (st_q := []) rfl rfl ?_
        obtain ⟨L898, eL898⟩ : ∃ q, q = jSto1 L847 2 (.int (i32 (r851))) := ⟨_, rfl⟩
        rw [← eL898]
        have gL898_0 : jGet L898 0 = some (.ref 66) := eL898 ▸ jg_ne (by decide) gL847_0 rfl
        have gL898_6 : jGet L898 6 = some (.int (i32 (1))) := eL898 ▸ jg_ne (by decide) gL847_6 rfl
        have gL898_7 : jGet L898 7 = some (.int (i32 (0))) := eL898 ▸ jg_ne (by decide) gL847_7 rfl
        have gL898_1 : jGet L898 1 = some (.int (i32 (one))) := eL898 ▸ jg_ne (by decide) gL847_1 rfl
        have gL898_4 : jGet L898 4 = some (.int (i32 (s))) := eL898 ▸ jg_ne (by decide) gL847_4 rfl
        have gL898_5 : jGet L898 5 = some (.int (i32 (ix))) := eL898 ▸ jg_ne (by decide) gL847_5 rfl
        have gL898_10 : jGet L898 10 = some (.int (i32 (nd1))) := eL898 ▸ jg_ne (by decide) gL847_10 rfl
        have gL898_2 : jGet L898 2 = some (.int (i32 (r851))) := eL898 ▸ jg_eq
        refine jx_go (tg := 293) rfl rfl ?_
        have z899 := tz_f (tk2_856)
        exact c_readGuard_w_at_293p (X := X) (d := d) (Vs := Vs) (sb := sb) (c0 := c0) (c1 := c1) (G := G) (A := A) (T := T) (ln := ln) (le := le) (at0 := at0) (fk := fk) (op0 := op0) (nd := nd) (tk0 := tk0) (li := li) (ec := ec) (sy := sy) (hd := hd) (hW := hW) (e_ln := e_ln) (e_le := e_le) (e_at0 := e_at0) (e_fk := e_fk) (e_op0 := e_op0) (e_nd := e_nd) (e_tk0 := e_tk0) (e_li := e_li) (e_ec := e_ec) (e_sy := e_sy) (i_SV := i_SV) (p_0 := p_0) (p_1 := p_1) (p_2 := p_2) (p_3 := p_3) (p_4 := p_4) L898 G849 A850 (one) (r851) (at2_852) (tk2_856) (fk2_853) (nd2_855) (op2_854) (ec2_857) gL898_0 gL898_1 gL898_2 hW858 hF875 hP876 ((e862)) ((e866)) ((e863)) ((e865)) ((e864)) (e867) (((hF859.1 9 rfl).trans ((hF833.1 9 rfl).trans (fx_9)))) (by omega) (by omega) (by omega) (by omega) (by omega) (by omega) (by omega) (by omega) (by omega) (by omega)
      · have _q : True := trivial
        refine jx_ld (pc_q := 285) (l_q := jSto1 L847 2 (.int (i32 (r851)))) (st_q := []) rfl rfl ?_
        obtain ⟨L900, eL900⟩ : ∃ q, q = jSto1 L847 2 (.int (i32 (r851))) := ⟨_, rfl⟩
        rw [← eL900]
        have gL900_0 : jGet L900 0 = some (.ref 66) := eL900 ▸ jg_ne (by decide) gL847_0 rfl
        have gL900_6 : jGet L900 6 = some (.int (i32 (1))) := eL900 ▸ jg_ne (by decide) gL847_6 rfl
        have gL900_7 : jGet L900 7 = some (.int (i32 (0))) := eL900 ▸ jg_ne (by decide) gL847_7 rfl
        have gL900_1 : jGet L900 1 = some (.int (i32 (one))) := eL900 ▸ jg_ne (by decide) gL847_1 rfl
        have gL900_4 : jGet L900 4 = some (.int (i32 (s))) := eL900 ▸ jg_ne (by decide) gL847_4 rfl
        have gL900_5 : jGet L900 5 = some (.int (i32 (ix))) := eL900 ▸ jg_ne (by decide) gL847_5 rfl
        have gL900_10 : jGet L900 10 = some (.int (i32 (nd1))) := eL900 ▸ jg_ne (by decide) gL847_10 rfl
        have gL900_2 : jGet L900 2 = some (.int (i32 (r851))) := eL900 ▸ jg_eq
        refine jx_go (tg := 293) rfl rfl ?_
        have z901 := tz_f (tk2_856)
        exact c_readGuard_w_at_293 (X := X) (d := d) (Vs := Vs) (sb := sb) (c0 := c0) (c1 := c1) (G := G) (A := A) (T := T) (ln := ln) (le := le) (at0 := at0) (fk := fk) (op0 := op0) (nd := nd) (tk0 := tk0) (li := li) (ec := ec) (sy := sy) (hd := hd) (hW := hW) (e_ln := e_ln) (e_le := e_le) (e_at0 := e_at0) (e_fk := e_fk) (e_op0 := e_op0) (e_nd := e_nd) (e_tk0 := e_tk0) (e_li := e_li) (e_ec := e_ec) (e_sy := e_sy) (i_SV := i_SV) (p_0 := p_0) (p_1 := p_1) (p_2 := p_2) (p_3 := p_3) (p_4 := p_4) L900 G849 A850 (one) (r851) (at2_852) (tk2_856) (fk2_853) (nd2_855) (op2_854) (ec2_857) gL900_0 gL900_1 gL900_2 hW858 hF875 hP876 ((e862)) ((e866)) ((e863)) ((e865)) ((e864)) (e867) (((hF859.1 9 rfl).trans ((hF833.1 9 rfl).trans (fx_9)))) (by omega) (by omega) (by omega) (by omega) (by omega) (by omega) (by omega) (by omega) (by omega) (by omega) (by omega) (sf877) ((wE_mono (by omega) (by omega) (by omega) a894)) (by omega) ((NdM_w (NdM_app (sy := sy) sf879 (NdM_app (sy := sy) sf881 a896 (by omega) (by omega) (by omega)) (by omega) (by omega) (by omega)) (by omega) (by omega) (by omega)))
    · have _q := h848
      exact absurd h848 (by omega)
set_option maxRecDepth 20000 in
set_option maxHeartbeats 4000000 in
theorem c_readGuard_w_at_222_0_1 {X : jX} {d : Nat} {Vs : Nat → Prop} {sb : Int} {c0 c1 : jC} {G : Nat → Int} {A : Nat → Nat → Int} {T : jH} {ln le at0 fk op0 nd tk0 li ec sy : Int} (hd : 71 ≤ d + 1) (hW : Wk G A) (e_ln : G 9 = ln) (e_le : A 4 (ln).toNat = le) (e_at0 : G 10 = at0) (e_fk : G 16 = fk) (e_op0 : G 15 = op0) (e_nd : G 31 = nd) (e_tk0 : G 11 = tk0) (e_li : G 3 = li) (e_ec : ecn A (G 31) = ec) (e_sy : G 19 = sy) (i_SV : SV Vs sb G A) (p_0 : 0 ≤ op0 ∧ op0 ≤ 8) (p_1 : fk = 0) (p_2 : nd ≤ 2 * at0 - tz tk0 + 42) (p_3 : at0 ≤ le) (p_4 : ln < li) : ∀ (L : jL) (Gx : Nat → Int) (Ax : Nat → Nat → Int) (one s at1 tk1 fk1 nd1 op1 ks ec1 : Int), jGet L 0 = some (.ref 66) → jGet L 6 = some (.int (i32 (0))) → jGet L 7 = some (.int (i32 (1))) → jGet L 5 = some (.int (i32 (0))) → jGet L 1 = some (.int (i32 one)) → jGet L 4 = some (.int (i32 s)) → Wk Gx Ax → Fr [9, 10, 11, 12, 13, 14, 15, 16, 17, 18, 31] [15, 16, 17, 18, 19, 20, 21, 22, 24, 28] G A Gx Ax → Pf nd A Ax → Gx 10 = at1 → Gx 11 = tk1 → Gx 16 = fk1 → Gx 31 = nd1 → Gx 15 = op1 → Ax 7 (s).toNat = ks → ecn Ax (Gx 31) = ec1 → Gx 9 = ln → ((-2147483648 : Int) ≤ one ∧ one ≤ 2147483647) → ((-2147483648 : Int) ≤ s ∧ s ≤ 2147483647) → (at0 ≤ at1) → (at1 ≤ le) → (nd ≤ nd1) → (op1 = op0) → (one = nd) → (one ≤ 6998 ∧ one < nd1) → (fk1 = 0) → (nd1 - nd ≤ (2 * at1 - tz tk1) - (2 * at0 - tz tk0)) → (0 ≤ s ∧ s ≤ 201) → (SY Vs sb (s)) → (ND Ax (one) (33) (0) (0) (0) (0) (0) (0)) → (tz tk1 = 1) → (kCh (ks)) → (nd1 - nd + 5 * (ec1 - ec) ≤ (2 * at1 - tz tk1) - (2 * at0 - tz tk0) - tz tk1) → (NdM Ax (nd) (nd1) (sy)) → wj X d jm303 (222, L, [], rV c0 c1 Gx Ax T) (fun o V_q => ∃ (G_q : Nat → Int) (A_q : Nat → Nat → Int) (r : Int) (at2 : Int) (fk2 : Int) (nd2 : Int) (ln2 : Int) (ec2 : Int), V_q = rV c0 c1 G_q A_q T ∧ o = .inl (some (.int (i32 r))) ∧ Wk G_q A_q ∧ Fr [9, 10, 11, 12, 13, 14, 15, 16, 17, 18, 31] [15, 16, 17, 18, 19, 20, 21, 22, 24, 28] G A G_q A_q ∧ Pf nd A A_q ∧ ((-2147483648 : Int) ≤ r ∧ r ≤ 2147483647) ∧ G_q 10 = at2 ∧ G_q 16 = fk2 ∧ G_q 31 = nd2 ∧ G_q 9 = ln2 ∧ ecn A_q (G_q 31) = ec2 ∧ (at0 ≤ at2) ∧ (at2 ≤ le) ∧ (nd ≤ nd2) ∧ (0 ≤ r) ∧ (r ≤ nd2) ∧ (((1 ≤ fk2) ∧ (ln2 = ln) ∧ (nd2 - nd ≤ 2 * at2 - 2 * at0 + 12)) ∨ ((fk2 = 0) ∧ (ln2 = ln + 1) ∧ (nd2 - nd ≤ 2 * at2 - (2 * at0 - tz tk0) + 0) ∧ (nd ≤ r) ∧ (r < nd2) ∧ (wU A_q Vs sb (r) (nd) (nd2)) ∧ (NX A_q (r)) ∧ (nd2 - nd + 5 * (ec2 - ec) ≤ 2 * at2 - (2 * at0 - tz tk0) + 0) ∧ (NdM A_q (nd) (nd2) (sy))))) := by
  have hF0 : Fr [9, 10, 11, 12, 13, 14, 15, 16, 17, 18, 31] [15, 16, 17, 18, 19, 20, 21, 22, 24, 28] G A G A := Fr_rf
  have hP0 : Pf nd A A := Pf_rf
  have b_ln : (0 : Int) ≤ ln ∧ ln ≤ 3000 := e_ln ▸ hW.1 9
  have b_le : (0 : Int) ≤ le ∧ le ≤ 3000 := e_le ▸ hW.2 4 _
  have b_at0 : (0 : Int) ≤ at0 ∧ at0 ≤ 3002 := e_at0 ▸ hW.1 10
  have b_fk : (0 : Int) ≤ fk ∧ fk ≤ 6 := e_fk ▸ hW.1 16
  have b_op0 : (-2147483648 : Int) ≤ op0 ∧ op0 ≤ 2147483647 := e_op0 ▸ hW.1 15
  have b_nd : (0 : Int) ≤ nd ∧ nd ≤ 6999 := e_nd ▸ hW.1 31
  have z_tk0 := tz_f tk0
  have b_tk0 : (0 : Int) ≤ tk0 ∧ tk0 ≤ 5 := e_tk0 ▸ hW.1 11
  have b_li : (0 : Int) ≤ li ∧ li ≤ 3000 := e_li ▸ hW.1 3
  have b_sy : (0 : Int) ≤ sy ∧ sy ≤ 202 := e_sy ▸ hW.1 19
  intro L Gx Ax one s at1 tk1 fk1 nd1 op1 ks ec1 gL_0 gL_6 gL_7 gL_5 gL_1 gL_4 hWx hFx hPx ex_at1 ex_tk1 ex_fk1 ex_nd1 ex_op1 ex_ks ex_ec1 fx_9 rx_one rx_s iv_0 iv_1 iv_2 iv_3 iv_4 iv_5 iv_6 iv_7 iv_8 iv_9 iv_10 iv_11 iv_12 iv_13 iv_14
  have b_at1 : (0 : Int) ≤ at1 ∧ at1 ≤ 3002 := ex_at1 ▸ hWx.1 10
  have z_tk1 := tz_f tk1
  have b_tk1 : (0 : Int) ≤ tk1 ∧ tk1 ≤ 5 := ex_tk1 ▸ hWx.1 11
  have b_fk1 : (0 : Int) ≤ fk1 ∧ fk1 ≤ 6 := ex_fk1 ▸ hWx.1 16
  have b_nd1 : (0 : Int) ≤ nd1 ∧ nd1 ≤ 6999 := ex_nd1 ▸ hWx.1 31
  have b_op1 : (-2147483648 : Int) ≤ op1 ∧ op1 ≤ 2147483647 := ex_op1 ▸ hWx.1 15
  have b_ks : (0 : Int) ≤ ks ∧ ks ≤ 14 := ex_ks ▸ hWx.2 7 _
  refine jx_ld (pc_q := 223) (l_q := L) (st_q := [.ref 66]) rfl (jl_aloadn gL_0) ?_
  refine jx_ld (pc_q := 225) (l_q := L) (st_q := [.int (i32 (0)), .ref 66]) rfl (jl_iload gL_6) ?_
  refine jx_if_eq (pc_q := 228) (tg := 232) rfl rfl rfl (by decide) (by decide) (fun h902 => ?_) (fun h902 => ?_)
  · have _q := h902
    refine jx_ar (pc_q := 233) (st_q := [.int (i32 (2)), .ref 66]) rfl rfl rfl rfl ?_
    refine jx_ld (pc_q := 235) (l_q := L) (st_q := [.int (i32 (s)), .int (i32 (2)), .ref 66]) rfl (jl_iload gL_4) ?_
    refine jx_ld (pc_q := 237) (l_q := L) (st_q := [.int (i32 (0)), .int (i32 (s)), .int (i32 (2)), .ref 66]) rfl (jl_iload gL_5) ?_
    refine jx_ar (pc_q := 238) (st_q := [.int (i32 (0)), .int (i32 (0)), .int (i32 (s)), .int (i32 (2)), .ref 66]) rfl rfl rfl rfl ?_
    refine jx_ar (pc_q := 239) (st_q := [.int (i32 (0)), .int (i32 (0)), .int (i32 (0)), .int (i32 (s)), .int (i32 (2)), .ref 66]) rfl rfl rfl rfl ?_
    refine jx_vr (pc_q := 242) (as := [.int (i32 (2)), .int (i32 (s)), .int (i32 (0)), .int (i32 (0)), .int (i32 (0))]) (st := []) rfl rfl rfl rfl ⟨rfl, rfl, Nat.le_of_ble_eq_true rfl⟩ rfl rfl (c_node_o (dd := d) (hd := by omega) (hW := hWx) (kind := 2) (a := s) (b := 0) (c := 0) (e := 0) (nd := nd1) (e_nd := show Gx 31 = nd1 from (ex_nd1)) (ec := ec1) (e_ec := show ecn Ax (Gx 31) = ec1 from ex_ec1) (sy := sy) (e_sy := show Gx 19 = sy from ((hFx.1 19 rfl).trans (e_sy)))  (h_kind := ⟨(by decide), (by decide)⟩) (h_a := ⟨(Int.le_trans (by decide : (-2147483648 : Int) ≤ -2147483648) rx_s.1), (Int.le_trans rx_s.2 (by decide : (2147483647 : Int) ≤ 2147483647))⟩) (h_b := ⟨(by decide), (by decide)⟩) (h_c := ⟨(by decide), (by decide)⟩) (h_e := ⟨(by decide), (by decide)⟩)  (p_0 := by omega) (p_1 := by omega) (p_2 := by omega)) (fun o V_q hq => ?_)
    obtain ⟨G903, A904, nd2_905, ec2_906, rfl, rfl, hW907, hF908, hQ909, e910, e911, p912, p913, p914, p915, -⟩ := hq
    have hF917 := Fr_tr hFx hF908 (Fr_sub (by decide)) (Fr_sub (by decide))
    have hP918 := Pf_tr hPx hQ909 (by omega)
    have sf919 : ND A904 (one) (33) (0) (0) (0) (0) (0) (0) := ND_ag (by omega) (Ag_pf hQ909 (by omega)) iv_10
    have sf920 : NdM A904 (nd) (nd1) (sy) := NdM_pf hQ909 (by omega) (by omega) iv_14
    have bnd2_905 : (0 : Int) ≤ nd2_905 ∧ nd2_905 ≤ 6999 := e910 ▸ hW907.1 31
    refine .inr ⟨_, rfl, ?_⟩
    refine jx_ld (pc_q := 244) (l_q := jSto1 L 10 (.int (i32 (nd1)))) (st_q := []) rfl rfl ?_
    obtain ⟨L921, eL921⟩ : ∃ q, q = jSto1 L 10 (.int (i32 (nd1))) := ⟨_, rfl⟩
    rw [← eL921]
    have gL921_0 : jGet L921 0 = some (.ref 66) := eL921 ▸ jg_ne (by decide) gL_0 rfl
    have gL921_6 : jGet L921 6 = some (.int (i32 (0))) := eL921 ▸ jg_ne (by decide) gL_6 rfl
    have gL921_7 : jGet L921 7 = some (.int (i32 (1))) := eL921 ▸ jg_ne (by decide) gL_7 rfl
    have gL921_5 : jGet L921 5 = some (.int (i32 (0))) := eL921 ▸ jg_ne (by decide) gL_5 rfl
    have gL921_1 : jGet L921 1 = some (.int (i32 (one))) := eL921 ▸ jg_ne (by decide) gL_1 rfl
    have gL921_4 : jGet L921 4 = some (.int (i32 (s))) := eL921 ▸ jg_ne (by decide) gL_4 rfl
    have gL921_10 : jGet L921 10 = some (.int (i32 (nd1))) := eL921 ▸ jg_eq
    refine jx_ld (pc_q := 246) (l_q := L921) (st_q := [.int (i32 (1))]) rfl (jl_iload gL921_7) ?_
    refine jx_if_eq (pc_q := 249) (tg := 278) rfl rfl rfl (by decide) (by decide) (fun h922 => ?_) (fun h922 => ?_)
    · have _q := h922
      exact absurd h922 (by omega)
    · have _q := h922
      refine jx_ld (pc_q := 250) (l_q := L921) (st_q := [.ref 66]) rfl (jl_aloadn gL921_0) ?_
      refine jr_get (pc_q := 253) (i := 35) (v := .ref 85) rfl rfl (by decide) rfl rfl ?_
      refine jx_ld (pc_q := 254) (l_q := L921) (st_q := [.int (i32 (one)), .ref 85]) rfl (jl_iloadn gL921_1) ?_
      refine jx_ld (pc_q := 256) (l_q := L921) (st_q := [.int (i32 (nd1)), .int (i32 (one)), .ref 85]) rfl (jl_iload gL921_10) ?_
      refine jr_st (pc_q := 257) (i := 18) (m := 7000) (z := one) (y := nd1) rfl (by decide) rfl (by decide) (by omega) (by omega) rfl ?_
      have hW924 : Wk G903 (uA A904 18 (one).toNat (nd1)) := Wk_a hW907 (show (-2147483648 : Int) ≤ nd1 by omega) (show nd1 ≤ (2147483647 : Int) by omega)
      have hF925 := Fr_a (z := nd1) (k := 18) (n := (one).toNat) hF917 (by decide)
      obtain ⟨A923, eA923⟩ : ∃ q, q = uA A904 18 (one).toNat (nd1) := ⟨_, rfl⟩
      rw [← eA923]
      rw [← eA923] at hW924 hF925
      have q926 : A923 18 (one).toNat = nd1 := by rw [eA923]; exact uA_eq
      have hP927 : Pf nd A A923 := eA923 ▸ Pf_a hP918 (z := one) (by omega) (by omega)
      have sf928 : ND A923 (one) (33) (0) (nd1) (0) (0) (0) (0) := ND_b eA923 sf919
      have sf929 : NdM A923 (nd) (nd1) (sy) := NdM_18 eA923 sf919.1 (by decide) sf920
      have sf930 : ND A923 (nd1) (2) (s) (0) (0) (0) (0) (0) := ND_ag (by omega) (Ag_st eA923 (by omega) (by omega)) p914
      have sf931 : NdM A923 (nd1) (nd1 + 1) (sy) := NdM_18 eA923 sf919.1 (by decide) p915
      have ec932 : ecn A923 (G903 31) = ec2_906 := (ecn_e ((congrFun eA923 15).trans (uA_ne (by decide)))).trans e911
      refine jx_ld (pc_q := 258) (l_q := L921) (st_q := [.ref 66]) rfl (jl_aloadn gL921_0) ?_
      refine jx_vr (pc_q := 261) (as := []) (st := []) rfl rfl rfl rfl ⟨rfl, rfl, Nat.le_of_ble_eq_true rfl⟩ rfl rfl (c_next (dd := d) (hd := by omega) (hW := hW924)  (ln := ln) (e_ln := show G903 9 = ln from ((hF908.1 9 rfl).trans (fx_9))) (le := le) (e_le := show A923 4 (ln).toNat = le from (congrFun (((congrFun eA923 4).trans (uA_ne (by decide))).trans ((hF908.2 4 rfl).trans (hFx.2 4 rfl))) _).trans (e_le)) (at0 := at1) (e_at0 := show G903 10 = at1 from ((hF908.1 10 rfl).trans (ex_at1)))    (p_0 := by omega)) (fun o V_q hq => ?_)
      obtain ⟨G933, A934, at2_935, tk2_936, rfl, rfl, hW937, hF938, e939, e940, p941, p942, p943, -⟩ := hq
      have hF945 := Fr_tr hF925 hF938 (Fr_sub (by decide)) (Fr_sub (by decide))
      have hP946 := Pf_f hP927 hF938 (by decide)
      have sf947 : ND A934 (one) (33) (0) (nd1) (0) (0) (0) (0) := ND_ag (by omega) (Ag_fr hF938 (by decide)) sf928
      have sf948 : NdM A934 (nd) (nd1) (sy) := NdM_f hF938 (by decide) sf929
      have sf949 : ND A934 (nd1) (2) (s) (0) (0) (0) (0) (0) := ND_ag (by omega) (Ag_fr hF938 (by decide)) sf930
      have sf950 : NdM A934 (nd1) (nd1 + 1) (sy) := NdM_f hF938 (by decide) sf931
      have ec951 : ecn A934 (G933 31) = ec2_906 := (ecn_f (hF938.2 15 rfl) (hF938.1 31 rfl)).trans ec932
      have bat2_935 : (0 : Int) ≤ at2_935 ∧ at2_935 ≤ 3002 := e939 ▸ hW937.1 10
      have ztk2_936 := tz_b tk2_936
      have btk2_936 : (0 : Int) ≤ tk2_936 ∧ tk2_936 ≤ 5 := e940 ▸ hW937.1 11
      refine .inl ⟨rfl, ?_⟩
      have pz952 : at1 + tz tk2_936 ≤ at2_935 := by omega
      refine jx_ld (pc_q := 262) (l_q := L921) (st_q := [.ref 66]) rfl (jl_aloadn gL921_0) ?_
      refine jr_get (pc_q := 265) (i := 36) (v := .ref 86) rfl rfl (by decide) rfl rfl ?_
      refine jx_ld (pc_q := 266) (l_q := L921) (st_q := [.int (i32 (one)), .ref 86]) rfl (jl_iloadn gL921_1) ?_
      refine jx_ld (pc_q := 267) (l_q := L921) (st_q := [.ref 66, .int (i32 (one)), .ref 86]) rfl (jl_aloadn gL921_0) ?_
      refine jx_ar (pc_q := 268) (st_q := [.int (i32 (0)), .ref 66, .int (i32 (one)), .ref 86]) rfl rfl rfl rfl ?_
      refine jx_vr (pc_q := 271) (as := [.int (i32 (0))]) (st := [.int (i32 (one)), .ref 86]) rfl rfl rfl rfl ⟨rfl, rfl, Nat.le_of_ble_eq_true rfl⟩ rfl rfl (c_readReference_w (dd := d) (hd := by omega) (hW := hW937) (ch := 0) (ln := ln) (e_ln := show G933 9 = ln from ((hF938.1 9 rfl).trans ((hF908.1 9 rfl).trans (fx_9)))) (le := le) (e_le := show A934 4 (ln).toNat = le from (congrFun ((hF938.2 4 rfl).trans (((congrFun eA923 4).trans (uA_ne (by decide))).trans ((hF908.2 4 rfl).trans (hFx.2 4 rfl)))) _).trans (e_le)) (at0 := at2_935) (e_at0 := show G933 10 = at2_935 from (e939)) (fk := fk1) (e_fk := show G933 16 = fk1 from ((hF938.1 16 rfl).trans ((hF908.1 16 rfl).trans (ex_fk1)))) (op0 := op1) (e_op0 := show G933 15 = op1 from ((hF938.1 15 rfl).trans ((hF908.1 15 rfl).trans (ex_op1)))) (nd := nd2_905) (e_nd := show G933 31 = nd2_905 from ((hF938.1 31 rfl).trans (e910))) (tk0 := tk2_936) (e_tk0 := show G933 11 = tk2_936 from (e940)) (ec := ec2_906) (e_ec := show ecn A934 (G933 31) = ec2_906 from ec951) (sy := sy) (e_sy := show G933 19 = sy from ((hF938.1 19 rfl).trans ((hF908.1 19 rfl).trans ((hFx.1 19 rfl).trans (e_sy))))) (i_SV := (SV_ext (((hF938.1 29 rfl).trans ((hF908.1 29 rfl).trans (hFx.1 29 rfl)))) (((hF938.2 14 rfl).trans (((congrFun eA923 14).trans (uA_ne (by decide))).trans ((hF908.2 14 rfl).trans (hFx.2 14 rfl))))) i_SV)) (h_ch := ⟨(by decide), (by decide)⟩)  (p_0 := by omega) (p_1 := by omega) (p_2 := by omega) (p_3 := by omega) (p_4 := by omega)) (fun o V_q hq => ?_)
      obtain ⟨G953, A954, r955, at2_956, fk2_957, op2_958, nd2_959, tk2_960, ec2_961, rfl, rfl, hW962, hF963, hQ964, b965, e966, e967, e968, e969, e970, e971, p972, p973, p974, p975, p976, p977, q978⟩ := hq
      have hF979 := Fr_tr hF945 hF963 (Fr_sub (by decide)) (Fr_sub (by decide))
      have k980 : A954 18 (one).toNat = nd1 := (hQ964 18 _ rfl (by omega)).trans (show A934 18 (one).toNat = nd1 from (congrFun (hF938.2 18 rfl) _).trans (q926))
      have hP981 := Pf_tr hP946 hQ964 (by omega)
      have sf982 : ND A954 (one) (33) (0) (nd1) (0) (0) (0) (0) := ND_ag (by omega) (Ag_pf hQ964 (by omega)) sf947
      have sf983 : NdM A954 (nd) (nd1) (sy) := NdM_pf hQ964 (by omega) (by omega) sf948
      have sf984 : ND A954 (nd1) (2) (s) (0) (0) (0) (0) (0) := ND_ag (by omega) (Ag_pf hQ964 (by omega)) sf949
      have sf985 : NdM A954 (nd1) (nd1 + 1) (sy) := NdM_pf hQ964 (by omega) (by omega) sf950
      have bat2_956 : (0 : Int) ≤ at2_956 ∧ at2_956 ≤ 3002 := e966 ▸ hW962.1 10
      have bfk2_957 : (0 : Int) ≤ fk2_957 ∧ fk2_957 ≤ 6 := e967 ▸ hW962.1 16
      have bop2_958 : (-2147483648 : Int) ≤ op2_958 ∧ op2_958 ≤ 2147483647 := e968 ▸ hW962.1 15
      have bnd2_959 : (0 : Int) ≤ nd2_959 ∧ nd2_959 ≤ 6999 := e969 ▸ hW962.1 31
      have ztk2_960 := tz_b tk2_960
      have btk2_960 : (0 : Int) ≤ tk2_960 ∧ tk2_960 ≤ 5 := e970 ▸ hW962.1 11
      refine .inr ⟨_, rfl, ?_⟩
      rcases q978 with ⟨a986, a987, a988, a989, a990, a991⟩ | ⟨a992, a993, a994⟩ | ⟨a995, a996, a997, a998, a999, a1000, a1001⟩
      · have _q : True := trivial
        exfalso
        omega
      · have _q : True := trivial
        refine jr_st (pc_q := 272) (i := 19) (m := 7000) (z := one) (y := r955) rfl (by decide) rfl (by decide) (by omega) (by omega) rfl ?_
        have hW1003 : Wk G953 (uA A954 19 (one).toNat (r955)) := Wk_a hW962 (show (-2147483648 : Int) ≤ r955 by omega) (show r955 ≤ (2147483647 : Int) by omega)
        have hF1004 := Fr_a (z := r955) (k := 19) (n := (one).toNat) hF979 (by decide)
        obtain ⟨A1002, eA1002⟩ : ∃ q, q = uA A954 19 (one).toNat (r955) := ⟨_, rfl⟩
        rw [← eA1002]
        rw [← eA1002] at hW1003 hF1004
        have q1005 : A1002 19 (one).toNat = r955 := by rw [eA1002]; exact uA_eq
        have hP1006 : Pf nd A A1002 := eA1002 ▸ Pf_a hP981 (z := one) (by omega) (by omega)
        have sf1007 : ND A1002 (one) (33) (0) (nd1) (r955) (0) (0) (0) := ND_c eA1002 sf982
        have sf1008 : NdM A1002 (nd) (nd1) (sy) := NdM_st eA1002 (by decide) sf983
        have sf1009 : ND A1002 (nd1) (2) (s) (0) (0) (0) (0) (0) := ND_ag (by omega) (Ag_st eA1002 (by omega) (by omega)) sf984
        have sf1010 : NdM A1002 (nd1) (nd1 + 1) (sy) := NdM_st eA1002 (by decide) sf985
        have ec1011 : ecn A1002 (G953 31) = ec2_961 := (ecn_e ((congrFun eA1002 15).trans (uA_ne (by decide)))).trans e971
        refine jx_ld (pc_q := 273) (l_q := L921) (st_q := [.ref 66]) rfl (jl_aloadn gL921_0) ?_
        refine jx_vr (pc_q := 276) (as := []) (st := []) rfl rfl rfl rfl ⟨rfl, rfl, Nat.le_of_ble_eq_true rfl⟩ rfl rfl (c_endLine (dd := d) (hd := by omega) (hW := hW1003)  (ln := ln) (e_ln := show G953 9 = ln from ((hF963.1 9 rfl).trans ((hF938.1 9 rfl).trans ((hF908.1 9 rfl).trans (fx_9))))) (li := li) (e_li := show G953 3 = li from ((hF963.1 3 rfl).trans ((hF938.1 3 rfl).trans ((hF908.1 3 rfl).trans ((hFx.1 3 rfl).trans (e_li)))))) (fk := fk2_957) (e_fk := show G953 16 = fk2_957 from (e967)) (tk0 := tk2_960) (e_tk0 := show G953 11 = tk2_960 from (e970))    (p_0 := by omega)) (fun o V_q hq => ?_)
        obtain ⟨G1012, A1013, ln2_1014, fk2_1015, rfl, rfl, hW1016, hF1017, e1018, e1019, q1020⟩ := hq
        have hF1021 := Fr_tr hF1004 hF1017 (Fr_sub (by decide)) (Fr_sub (by decide))
        have hP1022 := Pf_f hP1006 hF1017 (by decide)
        have sf1023 : ND A1013 (one) (33) (0) (nd1) (r955) (0) (0) (0) := ND_ag (by omega) (Ag_fr hF1017 (by decide)) sf1007
        have sf1024 : NdM A1013 (nd) (nd1) (sy) := NdM_f hF1017 (by decide) sf1008
        have sf1025 : ND A1013 (nd1) (2) (s) (0) (0) (0) (0) (0) := ND_ag (by omega) (Ag_fr hF1017 (by decide)) sf1009
        have sf1026 : NdM A1013 (nd1) (nd1 + 1) (sy) := NdM_f hF1017 (by decide) sf1010
        have ec1027 : ecn A1013 (G1012 31) = ec2_961 := (ecn_f (hF1017.2 15 rfl) (hF1017.1 31 rfl)).trans ec1011
        have bln2_1014 : (0 : Int) ≤ ln2_1014 ∧ ln2_1014 ≤ 3000 := e1018 ▸ hW1016.1 9
        have bfk2_1015 : (0 : Int) ≤ fk2_1015 ∧ fk2_1015 ≤ 6 := e1019 ▸ hW1016.1 16
        refine .inl ⟨rfl, ?_⟩
        rcases q1020 with ⟨a1028, a1029, a1030, a1031, a1032⟩ | ⟨a1033, a1034⟩
        · have _q : True := trivial
          exfalso
          omega
        · have _q : True := trivial
          refine jx_ld (pc_q := 277) (l_q := L921) (st_q := [.int (i32 (one))]) rfl (jl_iloadn gL921_1) ?_
          refine jx_rt (v := some (.int (i32 (one)))) rfl rfl rfl rfl rfl rfl ?_
          exact ⟨_, _, _, at2_956, fk2_1015, nd2_959, ln2_1014, ec2_961, rfl, rfl, hW1016, hF1021, hP1022, by omega, ((hF1017.1 10 rfl).trans (e966)), (e1019), ((hF1017.1 31 rfl).trans (e969)), (e1018), ec1027, by omega, by omega, by omega, by omega, by omega, by first | exact Or.inl (⟨by omega, by omega, by omega⟩)⟩
      · have _q : True := trivial
        refine jr_st (pc_q := 272) (i := 19) (m := 7000) (z := one) (y := r955) rfl (by decide) rfl (by decide) (by omega) (by omega) rfl ?_
        have hW1036 : Wk G953 (uA A954 19 (one).toNat (r955)) := Wk_a hW962 (show (-2147483648 : Int) ≤ r955 by omega) (show r955 ≤ (2147483647 : Int) by omega)
        have hF1037 := Fr_a (z := r955) (k := 19) (n := (one).toNat) hF979 (by decide)
        obtain ⟨A1035, eA1035⟩ : ∃ q, q = uA A954 19 (one).toNat (r955) := ⟨_, rfl⟩
        rw [← eA1035]
        rw [← eA1035] at hW1036 hF1037
        have q1038 : A1035 19 (one).toNat = r955 := by rw [eA1035]; exact uA_eq
        have hP1039 : Pf nd A A1035 := eA1035 ▸ Pf_a hP981 (z := one) (by omega) (by omega)
        have sf1040 : ND A1035 (one) (33) (0) (nd1) (r955) (0) (0) (0) := ND_c eA1035 sf982
        have sf1041 : NdM A1035 (nd) (nd1) (sy) := NdM_st eA1035 (by decide) sf983
        have sf1042 : ND A1035 (nd1) (2) (s) (0) (0) (0) (0) (0) := ND_ag (by omega) (Ag_st eA1035 (by omega) (by omega)) sf984
        have sf1043 : NdM A1035 (nd1) (nd1 + 1) (sy) := NdM_st eA1035 (by decide) sf985
        have sf1044 : wR A1035 Vs sb (20) (0) (r955) (nd2_905) (nd2_959) := wR_ag (by omega) (Sg_ne eA1035 rfl) (Ag_st eA1035 (by omega) (by omega)) a998
        have sf1045 : NdM A1035 (nd2_905) (nd2_959) (sy) := NdM_st eA1035 (by decide) a1000
        have ec1046 : ecn A1035 (G953 31) = ec2_961 := (ecn_e ((congrFun eA1035 15).trans (uA_ne (by decide)))).trans e971
        refine jx_ld (pc_q := 273) (l_q := L921) (st_q := [.ref 66]) rfl (jl_aloadn gL921_0) ?_
        refine jx_vr (pc_q := 276) (as := []) (st := []) rfl rfl rfl rfl ⟨rfl, rfl, Nat.le_of_ble_eq_true rfl⟩ rfl rfl (c_endLine (dd := d) (hd := by omega) (hW := hW1036)  (ln := ln) (e_ln := show G953 9 = ln from ((hF963.1 9 rfl).trans ((hF938.1 9 rfl).trans ((hF908.1 9 rfl).trans (fx_9))))) (li := li) (e_li := show G953 3 = li from ((hF963.1 3 rfl).trans ((hF938.1 3 rfl).trans ((hF908.1 3 rfl).trans ((hFx.1 3 rfl).trans (e_li)))))) (fk := fk2_957) (e_fk := show G953 16 = fk2_957 from (e967)) (tk0 := tk2_960) (e_tk0 := show G953 11 = tk2_960 from (e970))    (p_0 := by omega)) (fun o V_q hq => ?_)
        obtain ⟨G1047, A1048, ln2_1049, fk2_1050, rfl, rfl, hW1051, hF1052, e1053, e1054, q1055⟩ := hq
        have hF1056 := Fr_tr hF1037 hF1052 (Fr_sub (by decide)) (Fr_sub (by decide))
        have hP1057 := Pf_f hP1039 hF1052 (by decide)
        have sf1058 : ND A1048 (one) (33) (0) (nd1) (r955) (0) (0) (0) := ND_ag (by omega) (Ag_fr hF1052 (by decide)) sf1040
        have sf1059 : NdM A1048 (nd) (nd1) (sy) := NdM_f hF1052 (by decide) sf1041
        have sf1060 : ND A1048 (nd1) (2) (s) (0) (0) (0) (0) (0) := ND_ag (by omega) (Ag_fr hF1052 (by decide)) sf1042
        have sf1061 : NdM A1048 (nd1) (nd1 + 1) (sy) := NdM_f hF1052 (by decide) sf1043
        have sf1062 : wR A1048 Vs sb (20) (0) (r955) (nd2_905) (nd2_959) := wR_ag (by omega) (Sg_fr hF1052 (by decide)) (Ag_fr hF1052 (by decide)) sf1044
        have sf1063 : NdM A1048 (nd2_905) (nd2_959) (sy) := NdM_f hF1052 (by decide) sf1045
        have ec1064 : ecn A1048 (G1047 31) = ec2_961 := (ecn_f (hF1052.2 15 rfl) (hF1052.1 31 rfl)).trans ec1046
        have bln2_1049 : (0 : Int) ≤ ln2_1049 ∧ ln2_1049 ≤ 3000 := e1053 ▸ hW1051.1 9
        have bfk2_1050 : (0 : Int) ≤ fk2_1050 ∧ fk2_1050 ≤ 6 := e1054 ▸ hW1051.1 16
        refine .inl ⟨rfl, ?_⟩
        rcases q1055 with ⟨a1065, a1066, a1067, a1068, a1069⟩ | ⟨a1070, a1071⟩
        · have _q : True := trivial
          refine jx_ld (pc_q := 277) (l_q := L921) (st_q := [.int (i32 (one))]) rfl (jl_iloadn gL921_1) ?_
          refine jx_rt (v := some (.int (i32 (one)))) rfl rfl rfl rfl rfl rfl ?_
          exact ⟨_, _, _, at2_956, fk2_1050, nd2_959, ln2_1049, ec2_961, rfl, rfl, hW1051, hF1056, hP1057, by omega, ((hF1052.1 10 rfl).trans (e966)), (e1054), ((hF1052.1 31 rfl).trans (e969)), (e1053), ec1064, by omega, by omega, by omega, by omega, by omega, by first | exact Or.inr ((⟨by omega, by omega, by omega, by omega, by omega, (wU_ch (m := (nd1 + 1)) sf1058 (by omega) (by omega) (by omega) (by omega) (wR_var sf1060 (by omega) (by omega) iv_9 (kq (P := kRef (1)) (show A1048 7 (s).toNat = ks from (congrFun ((hF1052.2 7 rfl).trans (((congrFun eA1035 7).trans (uA_ne (by decide))).trans ((hF963.2 7 rfl).trans ((hF938.2 7 rfl).trans (((congrFun eA923 7).trans (uA_ne (by decide))).trans (hF908.2 7 rfl)))))) _).trans (ex_ks)) (by first | exact .inr ⟨by omega, iv_12⟩))) (wR_mono (by omega) (by omega) (by omega) sf1062)), (NX_nd sf1058), by omega, (NdM_w (NdM_app (sy := sy) sf1059 (NdM_app (sy := sy) sf1061 sf1063 (by omega) (by omega) (by omega)) (by omega) (by omega) (by omega)) (by omega) (by omega) (by omega))⟩))⟩
        · have _q : True := trivial
          refine jx_ld (pc_q := 277) (l_q := L921) (st_q := [.int (i32 (one))]) rfl (jl_iloadn gL921_1) ?_
          refine jx_rt (v := some (.int (i32 (one)))) rfl rfl rfl rfl rfl rfl ?_
          exact ⟨_, _, _, at2_956, fk2_1050, nd2_959, ln2_1049, ec2_961, rfl, rfl, hW1051, hF1056, hP1057, by omega, ((hF1052.1 10 rfl).trans (e966)), (e1054), ((hF1052.1 31 rfl).trans (e969)), (e1053), ec1064, by omega, by omega, by omega, by omega, by omega, by first | exact Or.inl (⟨by omega, by omega, by omega⟩)⟩
  · have _q := h902
    exact absurd h902 (by omega)
set_option maxRecDepth 20000 in
set_option maxHeartbeats 4000000 in
theorem c_readGuard_w_at_222_0_0 {X : jX} {d : Nat} {Vs : Nat → Prop} {sb : Int} {c0 c1 : jC} {G : Nat → Int} {A : Nat → Nat → Int} {T : jH} {ln le at0 fk op0 nd tk0 li ec sy : Int} (hd : 71 ≤ d + 1) (hW : Wk G A) (e_ln : G 9 = ln) (e_le : A 4 (ln).toNat = le) (e_at0 : G 10 = at0) (e_fk : G 16 = fk) (e_op0 : G 15 = op0) (e_nd : G 31 = nd) (e_tk0 : G 11 = tk0) (e_li : G 3 = li) (e_ec : ecn A (G 31) = ec) (e_sy : G 19 = sy) (i_SV : SV Vs sb G A) (p_0 : 0 ≤ op0 ∧ op0 ≤ 8) (p_1 : fk = 0) (p_2 : nd ≤ 2 * at0 - tz tk0 + 42) (p_3 : at0 ≤ le) (p_4 : ln < li) : ∀ (L : jL) (Gx : Nat → Int) (Ax : Nat → Nat → Int) (one s at1 tk1 fk1 nd1 op1 ks ec1 : Int), jGet L 0 = some (.ref 66) → jGet L 6 = some (.int (i32 (0))) → jGet L 7 = some (.int (i32 (0))) → jGet L 5 = some (.int (i32 (0))) → jGet L 1 = some (.int (i32 one)) → jGet L 4 = some (.int (i32 s)) → Wk Gx Ax → Fr [9, 10, 11, 12, 13, 14, 15, 16, 17, 18, 31] [15, 16, 17, 18, 19, 20, 21, 22, 24, 28] G A Gx Ax → Pf nd A Ax → Gx 10 = at1 → Gx 11 = tk1 → Gx 16 = fk1 → Gx 31 = nd1 → Gx 15 = op1 → Ax 7 (s).toNat = ks → ecn Ax (Gx 31) = ec1 → Gx 9 = ln → ((-2147483648 : Int) ≤ one ∧ one ≤ 2147483647) → ((-2147483648 : Int) ≤ s ∧ s ≤ 2147483647) → (at0 ≤ at1) → (at1 ≤ le) → (nd ≤ nd1) → (op1 = op0) → (one = nd) → (one ≤ 6998 ∧ one < nd1) → (fk1 = 0) → (nd1 - nd ≤ (2 * at1 - tz tk1) - (2 * at0 - tz tk0)) → (0 ≤ s ∧ s ≤ 201) → (SY Vs sb (s)) → (ND Ax (one) (33) (0) (0) (0) (0) (0) (0)) → (kVal (ks)) → (nd1 - nd + 5 * (ec1 - ec) ≤ (2 * at1 - tz tk1) - (2 * at0 - tz tk0) - tz tk1) → (NdM Ax (nd) (nd1) (sy)) → wj X d jm303 (222, L, [], rV c0 c1 Gx Ax T) (fun o V_q => ∃ (G_q : Nat → Int) (A_q : Nat → Nat → Int) (r : Int) (at2 : Int) (fk2 : Int) (nd2 : Int) (ln2 : Int) (ec2 : Int), V_q = rV c0 c1 G_q A_q T ∧ o = .inl (some (.int (i32 r))) ∧ Wk G_q A_q ∧ Fr [9, 10, 11, 12, 13, 14, 15, 16, 17, 18, 31] [15, 16, 17, 18, 19, 20, 21, 22, 24, 28] G A G_q A_q ∧ Pf nd A A_q ∧ ((-2147483648 : Int) ≤ r ∧ r ≤ 2147483647) ∧ G_q 10 = at2 ∧ G_q 16 = fk2 ∧ G_q 31 = nd2 ∧ G_q 9 = ln2 ∧ ecn A_q (G_q 31) = ec2 ∧ (at0 ≤ at2) ∧ (at2 ≤ le) ∧ (nd ≤ nd2) ∧ (0 ≤ r) ∧ (r ≤ nd2) ∧ (((1 ≤ fk2) ∧ (ln2 = ln) ∧ (nd2 - nd ≤ 2 * at2 - 2 * at0 + 12)) ∨ ((fk2 = 0) ∧ (ln2 = ln + 1) ∧ (nd2 - nd ≤ 2 * at2 - (2 * at0 - tz tk0) + 0) ∧ (nd ≤ r) ∧ (r < nd2) ∧ (wU A_q Vs sb (r) (nd) (nd2)) ∧ (NX A_q (r)) ∧ (nd2 - nd + 5 * (ec2 - ec) ≤ 2 * at2 - (2 * at0 - tz tk0) + 0) ∧ (NdM A_q (nd) (nd2) (sy))))) := by
  have hF0 : Fr [9, 10, 11, 12, 13, 14, 15, 16, 17, 18, 31] [15, 16, 17, 18, 19, 20, 21, 22, 24, 28] G A G A := Fr_rf
  have hP0 : Pf nd A A := Pf_rf
  have b_ln : (0 : Int) ≤ ln ∧ ln ≤ 3000 := e_ln ▸ hW.1 9
  have b_le : (0 : Int) ≤ le ∧ le ≤ 3000 := e_le ▸ hW.2 4 _
  have b_at0 : (0 : Int) ≤ at0 ∧ at0 ≤ 3002 := e_at0 ▸ hW.1 10
  have b_fk : (0 : Int) ≤ fk ∧ fk ≤ 6 := e_fk ▸ hW.1 16
  have b_op0 : (-2147483648 : Int) ≤ op0 ∧ op0 ≤ 2147483647 := e_op0 ▸ hW.1 15
  have b_nd : (0 : Int) ≤ nd ∧ nd ≤ 6999 := e_nd ▸ hW.1 31
  have z_tk0 := tz_f tk0
  have b_tk0 : (0 : Int) ≤ tk0 ∧ tk0 ≤ 5 := e_tk0 ▸ hW.1 11
  have b_li : (0 : Int) ≤ li ∧ li ≤ 3000 := e_li ▸ hW.1 3
  have b_sy : (0 : Int) ≤ sy ∧ sy ≤ 202 := e_sy ▸ hW.1 19
  intro L Gx Ax one s at1 tk1 fk1 nd1 op1 ks ec1 gL_0 gL_6 gL_7 gL_5 gL_1 gL_4 hWx hFx hPx ex_at1 ex_tk1 ex_fk1 ex_nd1 ex_op1 ex_ks ex_ec1 fx_9 rx_one rx_s iv_0 iv_1 iv_2 iv_3 iv_4 iv_5 iv_6 iv_7 iv_8 iv_9 iv_10 iv_11 iv_12 iv_13
  have b_at1 : (0 : Int) ≤ at1 ∧ at1 ≤ 3002 := ex_at1 ▸ hWx.1 10
  have z_tk1 := tz_f tk1
  have b_tk1 : (0 : Int) ≤ tk1 ∧ tk1 ≤ 5 := ex_tk1 ▸ hWx.1 11
  have b_fk1 : (0 : Int) ≤ fk1 ∧ fk1 ≤ 6 := ex_fk1 ▸ hWx.1 16
  have b_nd1 : (0 : Int) ≤ nd1 ∧ nd1 ≤ 6999 := ex_nd1 ▸ hWx.1 31
  have b_op1 : (-2147483648 : Int) ≤ op1 ∧ op1 ≤ 2147483647 := ex_op1 ▸ hWx.1 15
  have b_ks : (0 : Int) ≤ ks ∧ ks ≤ 14 := ex_ks ▸ hWx.2 7 _
  refine jx_ld (pc_q := 223) (l_q := L) (st_q := [.ref 66]) rfl (jl_aloadn gL_0) ?_
  refine jx_ld (pc_q := 225) (l_q := L) (st_q := [.int (i32 (0)), .ref 66]) rfl (jl_iload gL_6) ?_
  refine jx_if_eq (pc_q := 228) (tg := 232) rfl rfl rfl (by decide) (by decide) (fun h1072 => ?_) (fun h1072 => ?_)
  · have _q := h1072
    refine jx_ar (pc_q := 233) (st_q := [.int (i32 (2)), .ref 66]) rfl rfl rfl rfl ?_
    refine jx_ld (pc_q := 235) (l_q := L) (st_q := [.int (i32 (s)), .int (i32 (2)), .ref 66]) rfl (jl_iload gL_4) ?_
    refine jx_ld (pc_q := 237) (l_q := L) (st_q := [.int (i32 (0)), .int (i32 (s)), .int (i32 (2)), .ref 66]) rfl (jl_iload gL_5) ?_
    refine jx_ar (pc_q := 238) (st_q := [.int (i32 (0)), .int (i32 (0)), .int (i32 (s)), .int (i32 (2)), .ref 66]) rfl rfl rfl rfl ?_
    refine jx_ar (pc_q := 239) (st_q := [.int (i32 (0)), .int (i32 (0)), .int (i32 (0)), .int (i32 (s)), .int (i32 (2)), .ref 66]) rfl rfl rfl rfl ?_
    refine jx_vr (pc_q := 242) (as := [.int (i32 (2)), .int (i32 (s)), .int (i32 (0)), .int (i32 (0)), .int (i32 (0))]) (st := []) rfl rfl rfl rfl ⟨rfl, rfl, Nat.le_of_ble_eq_true rfl⟩ rfl rfl (c_node_o (dd := d) (hd := by omega) (hW := hWx) (kind := 2) (a := s) (b := 0) (c := 0) (e := 0) (nd := nd1) (e_nd := show Gx 31 = nd1 from (ex_nd1)) (ec := ec1) (e_ec := show ecn Ax (Gx 31) = ec1 from ex_ec1) (sy := sy) (e_sy := show Gx 19 = sy from ((hFx.1 19 rfl).trans (e_sy)))  (h_kind := ⟨(by decide), (by decide)⟩) (h_a := ⟨(Int.le_trans (by decide : (-2147483648 : Int) ≤ -2147483648) rx_s.1), (Int.le_trans rx_s.2 (by decide : (2147483647 : Int) ≤ 2147483647))⟩) (h_b := ⟨(by decide), (by decide)⟩) (h_c := ⟨(by decide), (by decide)⟩) (h_e := ⟨(by decide), (by decide)⟩)  (p_0 := by omega) (p_1 := by omega) (p_2 := by omega)) (fun o V_q hq => ?_)
    obtain ⟨G1073, A1074, nd2_1075, ec2_1076, rfl, rfl, hW1077, hF1078, hQ1079, e1080, e1081, p1082, p1083, p1084, p1085, -⟩ := hq
    have hF1087 := Fr_tr hFx hF1078 (Fr_sub (by decide)) (Fr_sub (by decide))
    have hP1088 := Pf_tr hPx hQ1079 (by omega)
    have sf1089 : ND A1074 (one) (33) (0) (0) (0) (0) (0) (0) := ND_ag (by omega) (Ag_pf hQ1079 (by omega)) iv_10
    have sf1090 : NdM A1074 (nd) (nd1) (sy) := NdM_pf hQ1079 (by omega) (by omega) iv_13
    have bnd2_1075 : (0 : Int) ≤ nd2_1075 ∧ nd2_1075 ≤ 6999 := e1080 ▸ hW1077.1 31
    refine .inr ⟨_, rfl, ?_⟩
    refine jx_ld (pc_q := 244) (l_q := jSto1 L 10 (.int (i32 (nd1)))) (st_q := []) rfl rfl ?_
    obtain ⟨L1091, eL1091⟩ : ∃ q, q = jSto1 L 10 (.int (i32 (nd1))) := ⟨_, rfl⟩
    rw [← eL1091]
    have gL1091_0 : jGet L1091 0 = some (.ref 66) := eL1091 ▸ jg_ne (by decide) gL_0 rfl
    have gL1091_6 : jGet L1091 6 = some (.int (i32 (0))) := eL1091 ▸ jg_ne (by decide) gL_6 rfl
    have gL1091_7 : jGet L1091 7 = some (.int (i32 (0))) := eL1091 ▸ jg_ne (by decide) gL_7 rfl
    have gL1091_5 : jGet L1091 5 = some (.int (i32 (0))) := eL1091 ▸ jg_ne (by decide) gL_5 rfl
    have gL1091_1 : jGet L1091 1 = some (.int (i32 (one))) := eL1091 ▸ jg_ne (by decide) gL_1 rfl
    have gL1091_4 : jGet L1091 4 = some (.int (i32 (s))) := eL1091 ▸ jg_ne (by decide) gL_4 rfl
    have gL1091_10 : jGet L1091 10 = some (.int (i32 (nd1))) := eL1091 ▸ jg_eq
    refine jx_ld (pc_q := 246) (l_q := L1091) (st_q := [.int (i32 (0))]) rfl (jl_iload gL1091_7) ?_
    refine jx_if_eq (pc_q := 249) (tg := 278) rfl rfl rfl (by decide) (by decide) (fun h1092 => ?_) (fun h1092 => ?_)
    · have _q := h1092
      refine jx_ld (pc_q := 279) (l_q := L1091) (st_q := [.ref 66]) rfl (jl_aloadn gL1091_0) ?_
      refine jx_ld (pc_q := 281) (l_q := L1091) (st_q := [.int (i32 (nd1)), .ref 66]) rfl (jl_iload gL1091_10) ?_
      refine jx_vr (pc_q := 284) (as := [.int (i32 (nd1))]) (st := []) rfl rfl rfl rfl ⟨rfl, rfl, Nat.le_of_ble_eq_true rfl⟩ rfl rfl (c_readRest_w (dd := d) (k := 9) (hE := REw_all X 9) (hd := by omega) (hW := hW1077) (x := nd1) (lo := (one + 1)) (ln := ln) (e_ln := show G1073 9 = ln from ((hF1078.1 9 rfl).trans (fx_9))) (le := le) (e_le := show A1074 4 (ln).toNat = le from (congrFun ((hF1078.2 4 rfl).trans (hFx.2 4 rfl)) _).trans (e_le)) (at0 := at1) (e_at0 := show G1073 10 = at1 from ((hF1078.1 10 rfl).trans (ex_at1))) (fk := fk1) (e_fk := show G1073 16 = fk1 from ((hF1078.1 16 rfl).trans (ex_fk1))) (op0 := op1) (e_op0 := show G1073 15 = op1 from ((hF1078.1 15 rfl).trans (ex_op1))) (nd := nd2_1075) (e_nd := show G1073 31 = nd2_1075 from (e1080)) (tk0 := tk1) (e_tk0 := show G1073 11 = tk1 from ((hF1078.1 11 rfl).trans (ex_tk1))) (ec := ec2_1076) (e_ec := show ecn A1074 (G1073 31) = ec2_1076 from e1081) (sy := sy) (e_sy := show G1073 19 = sy from ((hF1078.1 19 rfl).trans ((hFx.1 19 rfl).trans (e_sy)))) (i_SV := (SV_ext (((hF1078.1 29 rfl).trans (hFx.1 29 rfl))) (((hF1078.2 14 rfl).trans (hFx.2 14 rfl))) i_SV)) (h_x := ⟨(Int.le_trans (by decide : (-2147483648 : Int) ≤ 0) b_nd1.1), (Int.le_trans b_nd1.2 (by decide : (6999 : Int) ≤ 2147483647))⟩)  (p_0 := by omega) (p_1 := by omega) (p_2 := by omega) (p_3 := by omega) (p_4 := by omega) (p_5 := by omega) (p_6 := by omega) (p_7 := by omega) (p_8 := by omega) (p_9 := (fun _ => (wE_var p1084 (by omega) (by omega) iv_9 (kq (P := kVal) (show A1074 7 (s).toNat = ks from (congrFun (hF1078.2 7 rfl) _).trans (ex_ks)) iv_11)))) (p_10 := by omega)) (fun o V_q hq => ?_)
      obtain ⟨G1093, A1094, r1095, at2_1096, fk2_1097, op2_1098, nd2_1099, tk2_1100, ec2_1101, rfl, rfl, hW1102, hF1103, hQ1104, b1105, e1106, e1107, e1108, e1109, e1110, e1111, p1112, p1113, p1114, p1115, p1116, p1117, q1118⟩ := hq
      have hF1119 := Fr_tr hF1087 hF1103 (Fr_sub (by decide)) (Fr_sub (by decide))
      have hP1120 := Pf_tr hP1088 hQ1104 (by omega)
      have sf1121 : ND A1094 (one) (33) (0) (0) (0) (0) (0) (0) := ND_ag (by omega) (Ag_pf hQ1104 (by omega)) sf1089
      have sf1122 : NdM A1094 (nd) (nd1) (sy) := NdM_pf hQ1104 (by omega) (by omega) sf1090
      have sf1123 : ND A1094 (nd1) (2) (s) (0) (0) (0) (0) (0) := ND_ag (by omega) (Ag_pf hQ1104 (by omega)) p1084
      have sf1124 : NdM A1094 (nd1) (nd1 + 1) (sy) := NdM_pf hQ1104 (by omega) (by omega) p1085
      have bat2_1096 : (0 : Int) ≤ at2_1096 ∧ at2_1096 ≤ 3002 := e1106 ▸ hW1102.1 10
      have bfk2_1097 : (0 : Int) ≤ fk2_1097 ∧ fk2_1097 ≤ 6 := e1107 ▸ hW1102.1 16
      have bop2_1098 : (-2147483648 : Int) ≤ op2_1098 ∧ op2_1098 ≤ 2147483647 := e1108 ▸ hW1102.1 15
      have bnd2_1099 : (0 : Int) ≤ nd2_1099 ∧ nd2_1099 ≤ 6999 := e1109 ▸ hW1102.1 31
      have ztk2_1100 := tz_b tk2_1100
      have btk2_1100 : (0 : Int) ≤ tk2_1100 ∧ tk2_1100 ≤ 5 := e1110 ▸ hW1102.1 11
      refine .inr ⟨_, rfl, ?_⟩
      rcases q1118 with ⟨a1125, a1126, a1127, a1128, a1129, a1130⟩ | ⟨a1131, a1132, a1133⟩ | ⟨a1134, a1135, a1136, a1137, a1138, a1139, a1140⟩
      · have _q : True := trivial
        exfalso
        omega
      · have _q : True := trivial
        refine jx_ld (pc_q := 285) (l_q := jSto1 L1091 2 (.int (i32 (r1095)))) (st_q := []) rfl rfl ?_
        obtain ⟨L1141, eL1141⟩ : ∃ q, q = jSto1 L1091 2 (.int (i32 (r1095))) := ⟨_, rfl⟩
        rw [← eL1141]
        have gL1141_0 : jGet L1141 0 = some (.ref 66) := eL1141 ▸ jg_ne (by decide) gL1091_0 rfl
        have gL1141_6 : jGet L1141 6 = some (.int (i32 (0))) := eL1141 ▸ jg_ne (by decide) gL1091_6 rfl
        have gL1141_7 : jGet L1141 7 = some (.int (i32 (0))) := eL1141 ▸ jg_ne (by decide) gL1091_7 rfl
        have gL1141_5 : jGet L1141 5 = some (.int (i32 (0))) := eL1141 ▸ jg_ne (by decide) gL1091_5 rfl
        have gL1141_1 : jGet L1141 1 = some (.int (i32 (one))) := eL1141 ▸ jg_ne (by decide) gL1091_1 rfl
        have gL1141_4 : jGet L1141 4 = some (.int (i32 (s))) := eL1141 ▸ jg_ne (by decide) gL1091_4 rfl
        have gL1141_10 : jGet L1141 10 = some (.int (i32 (nd1))) := eL1141 ▸ jg_ne (by decide) gL1091_10 rfl
        have gL1141_2 : jGet L1141 2 = some (.int (i32 (r1095))) := eL1141 ▸ jg_eq
        refine jx_go (tg := 293) rfl rfl ?_
        have z1142 := tz_f (tk2_1100)
        exact c_readGuard_w_at_293p (X := X) (d := d) (Vs := Vs) (sb := sb) (c0 := c0) (c1 := c1) (G := G) (A := A) (T := T) (ln := ln) (le := le) (at0 := at0) (fk := fk) (op0 := op0) (nd := nd) (tk0 := tk0) (li := li) (ec := ec) (sy := sy) (hd := hd) (hW := hW) (e_ln := e_ln) (e_le := e_le) (e_at0 := e_at0) (e_fk := e_fk) (e_op0 := e_op0) (e_nd := e_nd) (e_tk0 := e_tk0) (e_li := e_li) (e_ec := e_ec) (e_sy := e_sy) (i_SV := i_SV) (p_0 := p_0) (p_1 := p_1) (p_2 := p_2) (p_3 := p_3) (p_4 := p_4) L1141 G1093 A1094 (one) (r1095) (at2_1096) (tk2_1100) (fk2_1097) (nd2_1099) (op2_1098) (ec2_1101) gL1141_0 gL1141_1 gL1141_2 hW1102 hF1119 hP1120 ((e1106)) ((e1110)) ((e1107)) ((e1109)) ((e1108)) (e1111) (((hF1103.1 9 rfl).trans ((hF1078.1 9 rfl).trans (fx_9)))) (by omega) (by omega) (by omega) (by omega) (by omega) (by omega) (by omega) (by omega) (by omega) (by omega)
      · have _q : True := trivial
        refine jx_ld (pc_q := 285) (l_q := jSto1 L1091 2 (.int (i32 (r1095)))) (st_q := []) rfl rfl ?_
        obtain ⟨L1143, eL1143⟩ : ∃ q, q = jSto1 L1091 2 (.int (i32 (r1095))) := ⟨_, rfl⟩
        rw [← eL1143]
        have gL1143_0 : jGet L1143 0 = some (.ref 66) := eL1143 ▸ jg_ne (by decide) gL1091_0 rfl
        have gL1143_6 : jGet L1143 6 = some (.int (i32 (0))) := eL1143 ▸ jg_ne (by decide) gL1091_6 rfl
        have gL1143_7 : jGet L1143 7 = some (.int (i32 (0))) := eL1143 ▸ jg_ne (by decide) gL1091_7 rfl
        have gL1143_5 : jGet L1143 5 = some (.int (i32 (0))) := eL1143 ▸ jg_ne (by decide) gL1091_5 rfl
        have gL1143_1 : jGet L1143 1 = some (.int (i32 (one))) := eL1143 ▸ jg_ne (by decide) gL1091_1 rfl
        have gL1143_4 : jGet L1143 4 = some (.int (i32 (s))) := eL1143 ▸ jg_ne (by decide) gL1091_4 rfl
        have gL1143_10 : jGet L1143 10 = some (.int (i32 (nd1))) := eL1143 ▸ jg_ne (by decide) gL1091_10 rfl
        have gL1143_2 : jGet L1143 2 = some (.int (i32 (r1095))) := eL1143 ▸ jg_eq
        refine jx_go (tg := 293) rfl rfl ?_
        have z1144 := tz_f (tk2_1100)
        exact c_readGuard_w_at_293 (X := X) (d := d) (Vs := Vs) (sb := sb) (c0 := c0) (c1 := c1) (G := G) (A := A) (T := T) (ln := ln) (le := le) (at0 := at0) (fk := fk) (op0 := op0) (nd := nd) (tk0 := tk0) (li := li) (ec := ec) (sy := sy) (hd := hd) (hW := hW) (e_ln := e_ln) (e_le := e_le) (e_at0 := e_at0) (e_fk := e_fk) (e_op0 := e_op0) (e_nd := e_nd) (e_tk0 := e_tk0) (e_li := e_li) (e_ec := e_ec) (e_sy := e_sy) (i_SV := i_SV) (p_0 := p_0) (p_1 := p_1) (p_2 := p_2) (p_3 := p_3) (p_4 := p_4) L1143 G1093 A1094 (one) (r1095) (at2_1096) (tk2_1100) (fk2_1097) (nd2_1099) (op2_1098) (ec2_1101) gL1143_0 gL1143_1 gL1143_2 hW1102 hF1119 hP1120 ((e1106)) ((e1110)) ((e1107)) ((e1109)) ((e1108)) (e1111) (((hF1103.1 9 rfl).trans ((hF1078.1 9 rfl).trans (fx_9)))) (by omega) (by omega) (by omega) (by omega) (by omega) (by omega) (by omega) (by omega) (by omega) (by omega) (by omega) (sf1121) ((wE_mono (by omega) (by omega) (by omega) a1137)) (by omega) ((NdM_w (NdM_app (sy := sy) sf1122 (NdM_app (sy := sy) sf1124 a1139 (by omega) (by omega) (by omega)) (by omega) (by omega) (by omega)) (by omega) (by omega) (by omega)))
    · have _q := h1092
      exact absurd h1092 (by omega)
  · have _q := h1072
    exact absurd h1072 (by omega)
set_option maxRecDepth 20000 in
set_option maxHeartbeats 4000000 in
theorem c_readGuard_w_at_157_1_1 {X : jX} {d : Nat} {Vs : Nat → Prop} {sb : Int} {c0 c1 : jC} {G : Nat → Int} {A : Nat → Nat → Int} {T : jH} {ln le at0 fk op0 nd tk0 li ec sy : Int} (hd : 71 ≤ d + 1) (hW : Wk G A) (e_ln : G 9 = ln) (e_le : A 4 (ln).toNat = le) (e_at0 : G 10 = at0) (e_fk : G 16 = fk) (e_op0 : G 15 = op0) (e_nd : G 31 = nd) (e_tk0 : G 11 = tk0) (e_li : G 3 = li) (e_ec : ecn A (G 31) = ec) (e_sy : G 19 = sy) (i_SV : SV Vs sb G A) (p_0 : 0 ≤ op0 ∧ op0 ≤ 8) (p_1 : fk = 0) (p_2 : nd ≤ 2 * at0 - tz tk0 + 42) (p_3 : at0 ≤ le) (p_4 : ln < li) : ∀ (L : jL) (Gx : Nat → Int) (Ax : Nat → Nat → Int) (one pl s ix at1 tk1 fk1 nd1 op1 ks ec1 : Int), jGet L 0 = some (.ref 66) → jGet L 6 = some (.int (i32 (1))) → jGet L 7 = some (.int (i32 (1))) → jGet L 8 = some (.int (i32 (ks))) → jGet L 1 = some (.int (i32 one)) → jGet L 3 = some (.int (i32 pl)) → jGet L 4 = some (.int (i32 s)) → jGet L 5 = some (.int (i32 ix)) → Wk Gx Ax → Fr [9, 10, 11, 12, 13, 14, 15, 16, 17, 18, 31] [15, 16, 17, 18, 19, 20, 21, 22, 24, 28] G A Gx Ax → Pf nd A Ax → Gx 10 = at1 → Gx 11 = tk1 → Gx 16 = fk1 → Gx 31 = nd1 → Gx 15 = op1 → Ax 7 (s).toNat = ks → ecn Ax (Gx 31) = ec1 → Gx 9 = ln → ((-2147483648 : Int) ≤ one ∧ one ≤ 2147483647) → ((-2147483648 : Int) ≤ pl ∧ pl ≤ 2147483647) → ((-2147483648 : Int) ≤ s ∧ s ≤ 2147483647) → ((-2147483648 : Int) ≤ ix ∧ ix ≤ 2147483647) → (at0 ≤ at1) → (at1 ≤ le) → (nd ≤ nd1) → (op1 = op0) → (one = nd) → (one ≤ 6998 ∧ one < nd1) → (fk1 = 0) → (nd1 - nd ≤ (2 * at1 - tz tk1) - (2 * at0 - tz tk0)) → (0 ≤ s ∧ s ≤ 201) → (-3000 ≤ pl ∧ pl ≤ 3002) → (SY Vs sb (s)) → (ND Ax (one) (33) (0) (0) (0) (0) (0) (0)) → (tz tk1 = 1) → (wE Ax Vs sb (20) (ix) (one + 1) (nd1)) → (ix + 1 = nd1) → (nd1 - nd + 5 * (ec1 - ec) ≤ (2 * at1 - tz tk1) - (2 * at0 - tz tk0) - 5 - tz tk1) → (NdM Ax (nd) (nd1) (sy)) → wj X d jm303 (157, L, [], rV c0 c1 Gx Ax T) (fun o V_q => ∃ (G_q : Nat → Int) (A_q : Nat → Nat → Int) (r : Int) (at2 : Int) (fk2 : Int) (nd2 : Int) (ln2 : Int) (ec2 : Int), V_q = rV c0 c1 G_q A_q T ∧ o = .inl (some (.int (i32 r))) ∧ Wk G_q A_q ∧ Fr [9, 10, 11, 12, 13, 14, 15, 16, 17, 18, 31] [15, 16, 17, 18, 19, 20, 21, 22, 24, 28] G A G_q A_q ∧ Pf nd A A_q ∧ ((-2147483648 : Int) ≤ r ∧ r ≤ 2147483647) ∧ G_q 10 = at2 ∧ G_q 16 = fk2 ∧ G_q 31 = nd2 ∧ G_q 9 = ln2 ∧ ecn A_q (G_q 31) = ec2 ∧ (at0 ≤ at2) ∧ (at2 ≤ le) ∧ (nd ≤ nd2) ∧ (0 ≤ r) ∧ (r ≤ nd2) ∧ (((1 ≤ fk2) ∧ (ln2 = ln) ∧ (nd2 - nd ≤ 2 * at2 - 2 * at0 + 12)) ∨ ((fk2 = 0) ∧ (ln2 = ln + 1) ∧ (nd2 - nd ≤ 2 * at2 - (2 * at0 - tz tk0) + 0) ∧ (nd ≤ r) ∧ (r < nd2) ∧ (wU A_q Vs sb (r) (nd) (nd2)) ∧ (NX A_q (r)) ∧ (nd2 - nd + 5 * (ec2 - ec) ≤ 2 * at2 - (2 * at0 - tz tk0) + 0) ∧ (NdM A_q (nd) (nd2) (sy))))) := by
  have hF0 : Fr [9, 10, 11, 12, 13, 14, 15, 16, 17, 18, 31] [15, 16, 17, 18, 19, 20, 21, 22, 24, 28] G A G A := Fr_rf
  have hP0 : Pf nd A A := Pf_rf
  have b_ln : (0 : Int) ≤ ln ∧ ln ≤ 3000 := e_ln ▸ hW.1 9
  have b_le : (0 : Int) ≤ le ∧ le ≤ 3000 := e_le ▸ hW.2 4 _
  have b_at0 : (0 : Int) ≤ at0 ∧ at0 ≤ 3002 := e_at0 ▸ hW.1 10
  have b_fk : (0 : Int) ≤ fk ∧ fk ≤ 6 := e_fk ▸ hW.1 16
  have b_op0 : (-2147483648 : Int) ≤ op0 ∧ op0 ≤ 2147483647 := e_op0 ▸ hW.1 15
  have b_nd : (0 : Int) ≤ nd ∧ nd ≤ 6999 := e_nd ▸ hW.1 31
  have z_tk0 := tz_f tk0
  have b_tk0 : (0 : Int) ≤ tk0 ∧ tk0 ≤ 5 := e_tk0 ▸ hW.1 11
  have b_li : (0 : Int) ≤ li ∧ li ≤ 3000 := e_li ▸ hW.1 3
  have b_sy : (0 : Int) ≤ sy ∧ sy ≤ 202 := e_sy ▸ hW.1 19
  intro L Gx Ax one pl s ix at1 tk1 fk1 nd1 op1 ks ec1 gL_0 gL_6 gL_7 gL_8 gL_1 gL_3 gL_4 gL_5 hWx hFx hPx ex_at1 ex_tk1 ex_fk1 ex_nd1 ex_op1 ex_ks ex_ec1 fx_9 rx_one rx_pl rx_s rx_ix iv_0 iv_1 iv_2 iv_3 iv_4 iv_5 iv_6 iv_7 iv_8 iv_9 iv_10 iv_11 iv_12 iv_13 iv_14 iv_15 iv_16
  have b_at1 : (0 : Int) ≤ at1 ∧ at1 ≤ 3002 := ex_at1 ▸ hWx.1 10
  have z_tk1 := tz_f tk1
  have b_tk1 : (0 : Int) ≤ tk1 ∧ tk1 ≤ 5 := ex_tk1 ▸ hWx.1 11
  have b_fk1 : (0 : Int) ≤ fk1 ∧ fk1 ≤ 6 := ex_fk1 ▸ hWx.1 16
  have b_nd1 : (0 : Int) ≤ nd1 ∧ nd1 ≤ 6999 := ex_nd1 ▸ hWx.1 31
  have b_op1 : (-2147483648 : Int) ≤ op1 ∧ op1 ≤ 2147483647 := ex_op1 ▸ hWx.1 15
  have b_ks : (0 : Int) ≤ ks ∧ ks ≤ 14 := ex_ks ▸ hWx.2 7 _
  refine jx_ld (pc_q := 159) (l_q := L) (st_q := [.int (i32 (1))]) rfl (jl_iload gL_7) ?_
  refine jx_if_eq (pc_q := 162) (tg := 189) rfl rfl rfl (by decide) (by decide) (fun h1145 => ?_) (fun h1145 => ?_)
  · have _q := h1145
    exact absurd h1145 (by omega)
  · have _q := h1145
    refine jx_ld (pc_q := 164) (l_q := L) (st_q := [.int (i32 (1))]) rfl (jl_iload gL_6) ?_
    refine jx_if_eq (pc_q := 167) (tg := 181) rfl rfl rfl (by decide) (by decide) (fun h1146 => ?_) (fun h1146 => ?_)
    · have _q := h1146
      exact absurd h1146 (by omega)
    · have _q := h1146
      refine jx_ld (pc_q := 169) (l_q := L) (st_q := [.int (i32 (ks))]) rfl (jl_iload gL_8) ?_
      refine jx_ar (pc_q := 170) (st_q := [.int (i32 (4)), .int (i32 (ks))]) rfl rfl rfl rfl ?_
      refine jx_icmp_ne (pc_q := 173) (tg := 177) rfl rfl rfl (Int.le_trans (by decide : (-2147483648 : Int) ≤ 0) b_ks.1) (Int.le_trans b_ks.2 (by decide : (14 : Int) ≤ 2147483647)) (by decide) (by decide) (fun h1147 => ?_) (fun h1147 => ?_)
      · have _q := h1147
        refine jx_ar (pc_q := 178) (st_q := [.int (i32 (0))]) rfl rfl rfl rfl ?_
        refine jx_go (tg := 207) rfl rfl ?_
        refine jx_ld (pc_q := 209) (l_q := jSto1 L 9 (.int (i32 (0)))) (st_q := []) rfl rfl ?_
        obtain ⟨L1148, eL1148⟩ : ∃ q, q = jSto1 L 9 (.int (i32 (0))) := ⟨_, rfl⟩
        rw [← eL1148]
        have gL1148_0 : jGet L1148 0 = some (.ref 66) := eL1148 ▸ jg_ne (by decide) gL_0 rfl
        have gL1148_6 : jGet L1148 6 = some (.int (i32 (1))) := eL1148 ▸ jg_ne (by decide) gL_6 rfl
        have gL1148_7 : jGet L1148 7 = some (.int (i32 (1))) := eL1148 ▸ jg_ne (by decide) gL_7 rfl
        have gL1148_8 : jGet L1148 8 = some (.int (i32 (ks))) := eL1148 ▸ jg_ne (by decide) gL_8 rfl
        have gL1148_1 : jGet L1148 1 = some (.int (i32 (one))) := eL1148 ▸ jg_ne (by decide) gL_1 rfl
        have gL1148_3 : jGet L1148 3 = some (.int (i32 (pl))) := eL1148 ▸ jg_ne (by decide) gL_3 rfl
        have gL1148_4 : jGet L1148 4 = some (.int (i32 (s))) := eL1148 ▸ jg_ne (by decide) gL_4 rfl
        have gL1148_5 : jGet L1148 5 = some (.int (i32 (ix))) := eL1148 ▸ jg_ne (by decide) gL_5 rfl
        have gL1148_9 : jGet L1148 9 = some (.int (i32 (0))) := eL1148 ▸ jg_eq
        refine jx_ld (pc_q := 211) (l_q := L1148) (st_q := [.int (i32 (0))]) rfl (jl_iload gL1148_9) ?_
        refine jx_if_ne (pc_q := 214) (tg := 222) rfl rfl rfl (by decide) (by decide) (fun h1149 => ?_) (fun h1149 => ?_)
        · have _q := h1149
          exact absurd h1149 (by omega)
        · have _q := h1149
          refine jx_ld (pc_q := 215) (l_q := L1148) (st_q := [.ref 66]) rfl (jl_aloadn gL1148_0) ?_
          refine jx_ar (pc_q := 216) (st_q := [.int (i32 (4)), .ref 66]) rfl rfl rfl rfl ?_
          refine jx_ld (pc_q := 217) (l_q := L1148) (st_q := [.int (i32 (pl)), .int (i32 (4)), .ref 66]) rfl (jl_iloadn gL1148_3) ?_
          refine jx_vr (pc_q := 220) (as := [.int (i32 (4)), .int (i32 (pl))]) (st := []) rfl rfl rfl rfl ⟨rfl, rfl, Nat.le_of_ble_eq_true rfl⟩ rfl rfl (c_fail (dd := d) (hd := by omega) (hW := hWx) (kind := 4) (place := pl) (fk := fk1) (e_fk := show Gx 16 = fk1 from (ex_fk1))  (h_kind := ⟨(by decide), (by decide)⟩) (h_place := ⟨(Int.le_trans (by decide : (-2147483648 : Int) ≤ -2147483648) rx_pl.1), (Int.le_trans rx_pl.2 (by decide : (2147483647 : Int) ≤ 2147483647))⟩)  (p_0 := by omega) (p_1 := by omega)) (fun o V_q hq => ?_)
          obtain ⟨G1150, A1151, fk2_1152, rfl, rfl, hW1153, hF1154, e1155, p1156, -⟩ := hq
          have hF1158 := Fr_tr hFx hF1154 (Fr_sub (by decide)) (Fr_sub (by decide))
          have hP1159 := Pf_f hPx hF1154 (by decide)
          have sf1160 : ND A1151 (one) (33) (0) (0) (0) (0) (0) (0) := ND_ag (by omega) (Ag_fr hF1154 (by decide)) iv_11
          have sf1161 : wE A1151 Vs sb (20) (ix) (one + 1) (nd1) := wE_ag (by omega) (Sg_fr hF1154 (by decide)) (Ag_fr hF1154 (by decide)) iv_13
          have sf1162 : NdM A1151 (nd) (nd1) (sy) := NdM_f hF1154 (by decide) iv_16
          have ec1163 : ecn A1151 (G1150 31) = ec1 := (ecn_f (hF1154.2 15 rfl) (hF1154.1 31 rfl)).trans ex_ec1
          have bfk2_1152 : (0 : Int) ≤ fk2_1152 ∧ fk2_1152 ≤ 6 := e1155 ▸ hW1153.1 16
          refine .inl ⟨rfl, ?_⟩
          refine jx_ar (pc_q := 221) (st_q := [.int (i32 (0))]) rfl rfl rfl rfl ?_
          refine jx_rt (v := some (.int (i32 (0)))) rfl rfl rfl rfl rfl rfl ?_
          exact ⟨_, _, _, at1, fk2_1152, nd1, ln, ec1, rfl, rfl, hW1153, hF1158, hP1159, by omega, ((hF1154.1 10 rfl).trans (ex_at1)), (e1155), ((hF1154.1 31 rfl).trans (ex_nd1)), ((hF1154.1 9 rfl).trans (fx_9)), ec1163, by omega, by omega, by omega, by omega, by omega, by first | exact Or.inl (⟨by omega, by omega, by omega⟩)⟩
      · have _q := h1147
        refine jx_ar (pc_q := 174) (st_q := [.int (i32 (1))]) rfl rfl rfl rfl ?_
        refine jx_go (tg := 207) rfl rfl ?_
        refine jx_ld (pc_q := 209) (l_q := jSto1 L 9 (.int (i32 (1)))) (st_q := []) rfl rfl ?_
        obtain ⟨L1164, eL1164⟩ : ∃ q, q = jSto1 L 9 (.int (i32 (1))) := ⟨_, rfl⟩
        rw [← eL1164]
        have gL1164_0 : jGet L1164 0 = some (.ref 66) := eL1164 ▸ jg_ne (by decide) gL_0 rfl
        have gL1164_6 : jGet L1164 6 = some (.int (i32 (1))) := eL1164 ▸ jg_ne (by decide) gL_6 rfl
        have gL1164_7 : jGet L1164 7 = some (.int (i32 (1))) := eL1164 ▸ jg_ne (by decide) gL_7 rfl
        have gL1164_8 : jGet L1164 8 = some (.int (i32 (ks))) := eL1164 ▸ jg_ne (by decide) gL_8 rfl
        have gL1164_1 : jGet L1164 1 = some (.int (i32 (one))) := eL1164 ▸ jg_ne (by decide) gL_1 rfl
        have gL1164_3 : jGet L1164 3 = some (.int (i32 (pl))) := eL1164 ▸ jg_ne (by decide) gL_3 rfl
        have gL1164_4 : jGet L1164 4 = some (.int (i32 (s))) := eL1164 ▸ jg_ne (by decide) gL_4 rfl
        have gL1164_5 : jGet L1164 5 = some (.int (i32 (ix))) := eL1164 ▸ jg_ne (by decide) gL_5 rfl
        have gL1164_9 : jGet L1164 9 = some (.int (i32 (1))) := eL1164 ▸ jg_eq
        refine jx_ld (pc_q := 211) (l_q := L1164) (st_q := [.int (i32 (1))]) rfl (jl_iload gL1164_9) ?_
        refine jx_if_ne (pc_q := 214) (tg := 222) rfl rfl rfl (by decide) (by decide) (fun h1165 => ?_) (fun h1165 => ?_)
        · have _q := h1165
          have z1166 := tz_f (tk1)
          exact c_readGuard_w_at_222_1_1 (X := X) (d := d) (Vs := Vs) (sb := sb) (c0 := c0) (c1 := c1) (G := G) (A := A) (T := T) (ln := ln) (le := le) (at0 := at0) (fk := fk) (op0 := op0) (nd := nd) (tk0 := tk0) (li := li) (ec := ec) (sy := sy) (hd := hd) (hW := hW) (e_ln := e_ln) (e_le := e_le) (e_at0 := e_at0) (e_fk := e_fk) (e_op0 := e_op0) (e_nd := e_nd) (e_tk0 := e_tk0) (e_li := e_li) (e_ec := e_ec) (e_sy := e_sy) (i_SV := i_SV) (p_0 := p_0) (p_1 := p_1) (p_2 := p_2) (p_3 := p_3) (p_4 := p_4) L1164 Gx Ax (one) (s) (ix) (at1) (tk1) (fk1) (nd1) (op1) (ks) (ec1) gL1164_0 gL1164_6 gL1164_7 gL1164_1 gL1164_4 gL1164_5 hWx hFx hPx ((ex_at1)) ((ex_tk1)) ((ex_fk1)) ((ex_nd1)) ((ex_op1)) ((ex_ks)) (ex_ec1) ((fx_9)) (by omega) (by omega) (by omega) (by omega) (by omega) (by omega) (by omega) (by omega) (by omega) (by omega) (by omega) (by omega) (iv_10) (iv_11) (by omega) (by omega) (iv_13) (by omega) (by omega) (iv_16)
        · have _q := h1165
          exact absurd h1165 (by omega)
set_option maxRecDepth 20000 in
set_option maxHeartbeats 4000000 in
theorem c_readGuard_w_at_157_1_0 {X : jX} {d : Nat} {Vs : Nat → Prop} {sb : Int} {c0 c1 : jC} {G : Nat → Int} {A : Nat → Nat → Int} {T : jH} {ln le at0 fk op0 nd tk0 li ec sy : Int} (hd : 71 ≤ d + 1) (hW : Wk G A) (e_ln : G 9 = ln) (e_le : A 4 (ln).toNat = le) (e_at0 : G 10 = at0) (e_fk : G 16 = fk) (e_op0 : G 15 = op0) (e_nd : G 31 = nd) (e_tk0 : G 11 = tk0) (e_li : G 3 = li) (e_ec : ecn A (G 31) = ec) (e_sy : G 19 = sy) (i_SV : SV Vs sb G A) (p_0 : 0 ≤ op0 ∧ op0 ≤ 8) (p_1 : fk = 0) (p_2 : nd ≤ 2 * at0 - tz tk0 + 42) (p_3 : at0 ≤ le) (p_4 : ln < li) : ∀ (L : jL) (Gx : Nat → Int) (Ax : Nat → Nat → Int) (one pl s ix at1 tk1 fk1 nd1 op1 ks ec1 : Int), jGet L 0 = some (.ref 66) → jGet L 6 = some (.int (i32 (1))) → jGet L 7 = some (.int (i32 (0))) → jGet L 8 = some (.int (i32 (ks))) → jGet L 1 = some (.int (i32 one)) → jGet L 3 = some (.int (i32 pl)) → jGet L 4 = some (.int (i32 s)) → jGet L 5 = some (.int (i32 ix)) → Wk Gx Ax → Fr [9, 10, 11, 12, 13, 14, 15, 16, 17, 18, 31] [15, 16, 17, 18, 19, 20, 21, 22, 24, 28] G A Gx Ax → Pf nd A Ax → Gx 10 = at1 → Gx 11 = tk1 → Gx 16 = fk1 → Gx 31 = nd1 → Gx 15 = op1 → Ax 7 (s).toNat = ks → ecn Ax (Gx 31) = ec1 → Gx 9 = ln → ((-2147483648 : Int) ≤ one ∧ one ≤ 2147483647) → ((-2147483648 : Int) ≤ pl ∧ pl ≤ 2147483647) → ((-2147483648 : Int) ≤ s ∧ s ≤ 2147483647) → ((-2147483648 : Int) ≤ ix ∧ ix ≤ 2147483647) → (at0 ≤ at1) → (at1 ≤ le) → (nd ≤ nd1) → (op1 = op0) → (one = nd) → (one ≤ 6998 ∧ one < nd1) → (fk1 = 0) → (nd1 - nd ≤ (2 * at1 - tz tk1) - (2 * at0 - tz tk0)) → (0 ≤ s ∧ s ≤ 201) → (-3000 ≤ pl ∧ pl ≤ 3002) → (SY Vs sb (s)) → (ND Ax (one) (33) (0) (0) (0) (0) (0) (0)) → (wE Ax Vs sb (20) (ix) (one + 1) (nd1)) → (ix + 1 = nd1) → (nd1 - nd + 5 * (ec1 - ec) ≤ (2 * at1 - tz tk1) - (2 * at0 - tz tk0) - 5 - tz tk1) → (NdM Ax (nd) (nd1) (sy)) → wj X d jm303 (157, L, [], rV c0 c1 Gx Ax T) (fun o V_q => ∃ (G_q : Nat → Int) (A_q : Nat → Nat → Int) (r : Int) (at2 : Int) (fk2 : Int) (nd2 : Int) (ln2 : Int) (ec2 : Int), V_q = rV c0 c1 G_q A_q T ∧ o = .inl (some (.int (i32 r))) ∧ Wk G_q A_q ∧ Fr [9, 10, 11, 12, 13, 14, 15, 16, 17, 18, 31] [15, 16, 17, 18, 19, 20, 21, 22, 24, 28] G A G_q A_q ∧ Pf nd A A_q ∧ ((-2147483648 : Int) ≤ r ∧ r ≤ 2147483647) ∧ G_q 10 = at2 ∧ G_q 16 = fk2 ∧ G_q 31 = nd2 ∧ G_q 9 = ln2 ∧ ecn A_q (G_q 31) = ec2 ∧ (at0 ≤ at2) ∧ (at2 ≤ le) ∧ (nd ≤ nd2) ∧ (0 ≤ r) ∧ (r ≤ nd2) ∧ (((1 ≤ fk2) ∧ (ln2 = ln) ∧ (nd2 - nd ≤ 2 * at2 - 2 * at0 + 12)) ∨ ((fk2 = 0) ∧ (ln2 = ln + 1) ∧ (nd2 - nd ≤ 2 * at2 - (2 * at0 - tz tk0) + 0) ∧ (nd ≤ r) ∧ (r < nd2) ∧ (wU A_q Vs sb (r) (nd) (nd2)) ∧ (NX A_q (r)) ∧ (nd2 - nd + 5 * (ec2 - ec) ≤ 2 * at2 - (2 * at0 - tz tk0) + 0) ∧ (NdM A_q (nd) (nd2) (sy))))) := by
  have hF0 : Fr [9, 10, 11, 12, 13, 14, 15, 16, 17, 18, 31] [15, 16, 17, 18, 19, 20, 21, 22, 24, 28] G A G A := Fr_rf
  have hP0 : Pf nd A A := Pf_rf
  have b_ln : (0 : Int) ≤ ln ∧ ln ≤ 3000 := e_ln ▸ hW.1 9
  have b_le : (0 : Int) ≤ le ∧ le ≤ 3000 := e_le ▸ hW.2 4 _
  have b_at0 : (0 : Int) ≤ at0 ∧ at0 ≤ 3002 := e_at0 ▸ hW.1 10
  have b_fk : (0 : Int) ≤ fk ∧ fk ≤ 6 := e_fk ▸ hW.1 16
  have b_op0 : (-2147483648 : Int) ≤ op0 ∧ op0 ≤ 2147483647 := e_op0 ▸ hW.1 15
  have b_nd : (0 : Int) ≤ nd ∧ nd ≤ 6999 := e_nd ▸ hW.1 31
  have z_tk0 := tz_f tk0
  have b_tk0 : (0 : Int) ≤ tk0 ∧ tk0 ≤ 5 := e_tk0 ▸ hW.1 11
  have b_li : (0 : Int) ≤ li ∧ li ≤ 3000 := e_li ▸ hW.1 3
  have b_sy : (0 : Int) ≤ sy ∧ sy ≤ 202 := e_sy ▸ hW.1 19
  intro L Gx Ax one pl s ix at1 tk1 fk1 nd1 op1 ks ec1 gL_0 gL_6 gL_7 gL_8 gL_1 gL_3 gL_4 gL_5 hWx hFx hPx ex_at1 ex_tk1 ex_fk1 ex_nd1 ex_op1 ex_ks ex_ec1 fx_9 rx_one rx_pl rx_s rx_ix iv_0 iv_1 iv_2 iv_3 iv_4 iv_5 iv_6 iv_7 iv_8 iv_9 iv_10 iv_11 iv_12 iv_13 iv_14 iv_15
  have b_at1 : (0 : Int) ≤ at1 ∧ at1 ≤ 3002 := ex_at1 ▸ hWx.1 10
  have z_tk1 := tz_f tk1
  have b_tk1 : (0 : Int) ≤ tk1 ∧ tk1 ≤ 5 := ex_tk1 ▸ hWx.1 11
  have b_fk1 : (0 : Int) ≤ fk1 ∧ fk1 ≤ 6 := ex_fk1 ▸ hWx.1 16
  have b_nd1 : (0 : Int) ≤ nd1 ∧ nd1 ≤ 6999 := ex_nd1 ▸ hWx.1 31
  have b_op1 : (-2147483648 : Int) ≤ op1 ∧ op1 ≤ 2147483647 := ex_op1 ▸ hWx.1 15
  have b_ks : (0 : Int) ≤ ks ∧ ks ≤ 14 := ex_ks ▸ hWx.2 7 _
  refine jx_ld (pc_q := 159) (l_q := L) (st_q := [.int (i32 (0))]) rfl (jl_iload gL_7) ?_
  refine jx_if_eq (pc_q := 162) (tg := 189) rfl rfl rfl (by decide) (by decide) (fun h1167 => ?_) (fun h1167 => ?_)
  · have _q := h1167
    refine jx_ld (pc_q := 191) (l_q := L) (st_q := [.int (i32 (1))]) rfl (jl_iload gL_6) ?_
    refine jx_if_eq (pc_q := 194) (tg := 202) rfl rfl rfl (by decide) (by decide) (fun h1168 => ?_) (fun h1168 => ?_)
    · have _q := h1168
      exact absurd h1168 (by omega)
    · have _q := h1168
      refine jx_ld (pc_q := 196) (l_q := L) (st_q := [.int (i32 (ks))]) rfl (jl_iload gL_8) ?_
      refine jx_st (pc_q := 199) (as := [.int (i32 (ks))]) (st := []) rfl rfl ⟨rfl, Nat.le_of_ble_eq_true rfl⟩ rfl rfl rfl (c_isArray (dd := d) (hd := by omega) (k := ks)   (h_k := ⟨(Int.le_trans (by decide : (-2147483648 : Int) ≤ 0) b_ks.1), (Int.le_trans b_ks.2 (by decide : (14 : Int) ≤ 2147483647))⟩)  ) (fun o V_q hq => ?_)
      obtain ⟨r1169, rfl, rfl, b1170, q1171⟩ := hq
      refine .inr ⟨_, rfl, ?_⟩
      rcases q1171 with ⟨rfl, a1172⟩ | rfl
      · have _q : True := trivial
        refine jx_go (tg := 207) rfl rfl ?_
        refine jx_ld (pc_q := 209) (l_q := jSto1 L 9 (.int (i32 (1)))) (st_q := []) rfl rfl ?_
        obtain ⟨L1173, eL1173⟩ : ∃ q, q = jSto1 L 9 (.int (i32 (1))) := ⟨_, rfl⟩
        rw [← eL1173]
        have gL1173_0 : jGet L1173 0 = some (.ref 66) := eL1173 ▸ jg_ne (by decide) gL_0 rfl
        have gL1173_6 : jGet L1173 6 = some (.int (i32 (1))) := eL1173 ▸ jg_ne (by decide) gL_6 rfl
        have gL1173_7 : jGet L1173 7 = some (.int (i32 (0))) := eL1173 ▸ jg_ne (by decide) gL_7 rfl
        have gL1173_8 : jGet L1173 8 = some (.int (i32 (ks))) := eL1173 ▸ jg_ne (by decide) gL_8 rfl
        have gL1173_1 : jGet L1173 1 = some (.int (i32 (one))) := eL1173 ▸ jg_ne (by decide) gL_1 rfl
        have gL1173_3 : jGet L1173 3 = some (.int (i32 (pl))) := eL1173 ▸ jg_ne (by decide) gL_3 rfl
        have gL1173_4 : jGet L1173 4 = some (.int (i32 (s))) := eL1173 ▸ jg_ne (by decide) gL_4 rfl
        have gL1173_5 : jGet L1173 5 = some (.int (i32 (ix))) := eL1173 ▸ jg_ne (by decide) gL_5 rfl
        have gL1173_9 : jGet L1173 9 = some (.int (i32 (1))) := eL1173 ▸ jg_eq
        refine jx_ld (pc_q := 211) (l_q := L1173) (st_q := [.int (i32 (1))]) rfl (jl_iload gL1173_9) ?_
        refine jx_if_ne (pc_q := 214) (tg := 222) rfl rfl rfl (by decide) (by decide) (fun h1174 => ?_) (fun h1174 => ?_)
        · have _q := h1174
          have z1175 := tz_f (tk1)
          exact c_readGuard_w_at_222_1_0 (X := X) (d := d) (Vs := Vs) (sb := sb) (c0 := c0) (c1 := c1) (G := G) (A := A) (T := T) (ln := ln) (le := le) (at0 := at0) (fk := fk) (op0 := op0) (nd := nd) (tk0 := tk0) (li := li) (ec := ec) (sy := sy) (hd := hd) (hW := hW) (e_ln := e_ln) (e_le := e_le) (e_at0 := e_at0) (e_fk := e_fk) (e_op0 := e_op0) (e_nd := e_nd) (e_tk0 := e_tk0) (e_li := e_li) (e_ec := e_ec) (e_sy := e_sy) (i_SV := i_SV) (p_0 := p_0) (p_1 := p_1) (p_2 := p_2) (p_3 := p_3) (p_4 := p_4) L1173 Gx Ax (one) (s) (ix) (at1) (tk1) (fk1) (nd1) (op1) (ks) (ec1) gL1173_0 gL1173_6 gL1173_7 gL1173_1 gL1173_4 gL1173_5 hWx hFx hPx ((ex_at1)) ((ex_tk1)) ((ex_fk1)) ((ex_nd1)) ((ex_op1)) ((ex_ks)) (ex_ec1) ((fx_9)) (by omega) (by omega) (by omega) (by omega) (by omega) (by omega) (by omega) (by omega) (by omega) (by omega) (by omega) (by omega) (iv_10) (iv_11) (a1172) (iv_12) (by omega) (by omega) (iv_15)
        · have _q := h1174
          exact absurd h1174 (by omega)
      · have _q : True := trivial
        refine jx_go (tg := 207) rfl rfl ?_
        refine jx_ld (pc_q := 209) (l_q := jSto1 L 9 (.int (i32 (0)))) (st_q := []) rfl rfl ?_
        obtain ⟨L1176, eL1176⟩ : ∃ q, q = jSto1 L 9 (.int (i32 (0))) := ⟨_, rfl⟩
        rw [← eL1176]
        have gL1176_0 : jGet L1176 0 = some (.ref 66) := eL1176 ▸ jg_ne (by decide) gL_0 rfl
        have gL1176_6 : jGet L1176 6 = some (.int (i32 (1))) := eL1176 ▸ jg_ne (by decide) gL_6 rfl
        have gL1176_7 : jGet L1176 7 = some (.int (i32 (0))) := eL1176 ▸ jg_ne (by decide) gL_7 rfl
        have gL1176_8 : jGet L1176 8 = some (.int (i32 (ks))) := eL1176 ▸ jg_ne (by decide) gL_8 rfl
        have gL1176_1 : jGet L1176 1 = some (.int (i32 (one))) := eL1176 ▸ jg_ne (by decide) gL_1 rfl
        have gL1176_3 : jGet L1176 3 = some (.int (i32 (pl))) := eL1176 ▸ jg_ne (by decide) gL_3 rfl
        have gL1176_4 : jGet L1176 4 = some (.int (i32 (s))) := eL1176 ▸ jg_ne (by decide) gL_4 rfl
        have gL1176_5 : jGet L1176 5 = some (.int (i32 (ix))) := eL1176 ▸ jg_ne (by decide) gL_5 rfl
        have gL1176_9 : jGet L1176 9 = some (.int (i32 (0))) := eL1176 ▸ jg_eq
        refine jx_ld (pc_q := 211) (l_q := L1176) (st_q := [.int (i32 (0))]) rfl (jl_iload gL1176_9) ?_
        refine jx_if_ne (pc_q := 214) (tg := 222) rfl rfl rfl (by decide) (by decide) (fun h1177 => ?_) (fun h1177 => ?_)
        · have _q := h1177
          exact absurd h1177 (by omega)
        · have _q := h1177
          refine jx_ld (pc_q := 215) (l_q := L1176) (st_q := [.ref 66]) rfl (jl_aloadn gL1176_0) ?_
          refine jx_ar (pc_q := 216) (st_q := [.int (i32 (4)), .ref 66]) rfl rfl rfl rfl ?_
          refine jx_ld (pc_q := 217) (l_q := L1176) (st_q := [.int (i32 (pl)), .int (i32 (4)), .ref 66]) rfl (jl_iloadn gL1176_3) ?_
          refine jx_vr (pc_q := 220) (as := [.int (i32 (4)), .int (i32 (pl))]) (st := []) rfl rfl rfl rfl ⟨rfl, rfl, Nat.le_of_ble_eq_true rfl⟩ rfl rfl (c_fail (dd := d) (hd := by omega) (hW := hWx) (kind := 4) (place := pl) (fk := fk1) (e_fk := show Gx 16 = fk1 from (ex_fk1))  (h_kind := ⟨(by decide), (by decide)⟩) (h_place := ⟨(Int.le_trans (by decide : (-2147483648 : Int) ≤ -2147483648) rx_pl.1), (Int.le_trans rx_pl.2 (by decide : (2147483647 : Int) ≤ 2147483647))⟩)  (p_0 := by omega) (p_1 := by omega)) (fun o V_q hq => ?_)
          obtain ⟨G1178, A1179, fk2_1180, rfl, rfl, hW1181, hF1182, e1183, p1184, -⟩ := hq
          have hF1186 := Fr_tr hFx hF1182 (Fr_sub (by decide)) (Fr_sub (by decide))
          have hP1187 := Pf_f hPx hF1182 (by decide)
          have sf1188 : ND A1179 (one) (33) (0) (0) (0) (0) (0) (0) := ND_ag (by omega) (Ag_fr hF1182 (by decide)) iv_11
          have sf1189 : wE A1179 Vs sb (20) (ix) (one + 1) (nd1) := wE_ag (by omega) (Sg_fr hF1182 (by decide)) (Ag_fr hF1182 (by decide)) iv_12
          have sf1190 : NdM A1179 (nd) (nd1) (sy) := NdM_f hF1182 (by decide) iv_15
          have ec1191 : ecn A1179 (G1178 31) = ec1 := (ecn_f (hF1182.2 15 rfl) (hF1182.1 31 rfl)).trans ex_ec1
          have bfk2_1180 : (0 : Int) ≤ fk2_1180 ∧ fk2_1180 ≤ 6 := e1183 ▸ hW1181.1 16
          refine .inl ⟨rfl, ?_⟩
          refine jx_ar (pc_q := 221) (st_q := [.int (i32 (0))]) rfl rfl rfl rfl ?_
          refine jx_rt (v := some (.int (i32 (0)))) rfl rfl rfl rfl rfl rfl ?_
          exact ⟨_, _, _, at1, fk2_1180, nd1, ln, ec1, rfl, rfl, hW1181, hF1186, hP1187, by omega, ((hF1182.1 10 rfl).trans (ex_at1)), (e1183), ((hF1182.1 31 rfl).trans (ex_nd1)), ((hF1182.1 9 rfl).trans (fx_9)), ec1191, by omega, by omega, by omega, by omega, by omega, by first | exact Or.inl (⟨by omega, by omega, by omega⟩)⟩
  · have _q := h1167
    exact absurd h1167 (by omega)
set_option maxRecDepth 20000 in
set_option maxHeartbeats 4000000 in
theorem c_readGuard_w_at_157_0_1 {X : jX} {d : Nat} {Vs : Nat → Prop} {sb : Int} {c0 c1 : jC} {G : Nat → Int} {A : Nat → Nat → Int} {T : jH} {ln le at0 fk op0 nd tk0 li ec sy : Int} (hd : 71 ≤ d + 1) (hW : Wk G A) (e_ln : G 9 = ln) (e_le : A 4 (ln).toNat = le) (e_at0 : G 10 = at0) (e_fk : G 16 = fk) (e_op0 : G 15 = op0) (e_nd : G 31 = nd) (e_tk0 : G 11 = tk0) (e_li : G 3 = li) (e_ec : ecn A (G 31) = ec) (e_sy : G 19 = sy) (i_SV : SV Vs sb G A) (p_0 : 0 ≤ op0 ∧ op0 ≤ 8) (p_1 : fk = 0) (p_2 : nd ≤ 2 * at0 - tz tk0 + 42) (p_3 : at0 ≤ le) (p_4 : ln < li) : ∀ (L : jL) (Gx : Nat → Int) (Ax : Nat → Nat → Int) (one pl s at1 tk1 fk1 nd1 op1 ks ec1 : Int), jGet L 0 = some (.ref 66) → jGet L 6 = some (.int (i32 (0))) → jGet L 7 = some (.int (i32 (1))) → jGet L 8 = some (.int (i32 (ks))) → jGet L 5 = some (.int (i32 (0))) → jGet L 1 = some (.int (i32 one)) → jGet L 3 = some (.int (i32 pl)) → jGet L 4 = some (.int (i32 s)) → Wk Gx Ax → Fr [9, 10, 11, 12, 13, 14, 15, 16, 17, 18, 31] [15, 16, 17, 18, 19, 20, 21, 22, 24, 28] G A Gx Ax → Pf nd A Ax → Gx 10 = at1 → Gx 11 = tk1 → Gx 16 = fk1 → Gx 31 = nd1 → Gx 15 = op1 → Ax 7 (s).toNat = ks → ecn Ax (Gx 31) = ec1 → Gx 9 = ln → ((-2147483648 : Int) ≤ one ∧ one ≤ 2147483647) → ((-2147483648 : Int) ≤ pl ∧ pl ≤ 2147483647) → ((-2147483648 : Int) ≤ s ∧ s ≤ 2147483647) → (at0 ≤ at1) → (at1 ≤ le) → (nd ≤ nd1) → (op1 = op0) → (one = nd) → (one ≤ 6998 ∧ one < nd1) → (fk1 = 0) → (nd1 - nd ≤ (2 * at1 - tz tk1) - (2 * at0 - tz tk0)) → (0 ≤ s ∧ s ≤ 201) → (-3000 ≤ pl ∧ pl ≤ 3002) → (SY Vs sb (s)) → (ND Ax (one) (33) (0) (0) (0) (0) (0) (0)) → (tz tk1 = 1) → (nd1 - nd + 5 * (ec1 - ec) ≤ (2 * at1 - tz tk1) - (2 * at0 - tz tk0) - tz tk1) → (NdM Ax (nd) (nd1) (sy)) → wj X d jm303 (157, L, [], rV c0 c1 Gx Ax T) (fun o V_q => ∃ (G_q : Nat → Int) (A_q : Nat → Nat → Int) (r : Int) (at2 : Int) (fk2 : Int) (nd2 : Int) (ln2 : Int) (ec2 : Int), V_q = rV c0 c1 G_q A_q T ∧ o = .inl (some (.int (i32 r))) ∧ Wk G_q A_q ∧ Fr [9, 10, 11, 12, 13, 14, 15, 16, 17, 18, 31] [15, 16, 17, 18, 19, 20, 21, 22, 24, 28] G A G_q A_q ∧ Pf nd A A_q ∧ ((-2147483648 : Int) ≤ r ∧ r ≤ 2147483647) ∧ G_q 10 = at2 ∧ G_q 16 = fk2 ∧ G_q 31 = nd2 ∧ G_q 9 = ln2 ∧ ecn A_q (G_q 31) = ec2 ∧ (at0 ≤ at2) ∧ (at2 ≤ le) ∧ (nd ≤ nd2) ∧ (0 ≤ r) ∧ (r ≤ nd2) ∧ (((1 ≤ fk2) ∧ (ln2 = ln) ∧ (nd2 - nd ≤ 2 * at2 - 2 * at0 + 12)) ∨ ((fk2 = 0) ∧ (ln2 = ln + 1) ∧ (nd2 - nd ≤ 2 * at2 - (2 * at0 - tz tk0) + 0) ∧ (nd ≤ r) ∧ (r < nd2) ∧ (wU A_q Vs sb (r) (nd) (nd2)) ∧ (NX A_q (r)) ∧ (nd2 - nd + 5 * (ec2 - ec) ≤ 2 * at2 - (2 * at0 - tz tk0) + 0) ∧ (NdM A_q (nd) (nd2) (sy))))) := by
  have hF0 : Fr [9, 10, 11, 12, 13, 14, 15, 16, 17, 18, 31] [15, 16, 17, 18, 19, 20, 21, 22, 24, 28] G A G A := Fr_rf
  have hP0 : Pf nd A A := Pf_rf
  have b_ln : (0 : Int) ≤ ln ∧ ln ≤ 3000 := e_ln ▸ hW.1 9
  have b_le : (0 : Int) ≤ le ∧ le ≤ 3000 := e_le ▸ hW.2 4 _
  have b_at0 : (0 : Int) ≤ at0 ∧ at0 ≤ 3002 := e_at0 ▸ hW.1 10
  have b_fk : (0 : Int) ≤ fk ∧ fk ≤ 6 := e_fk ▸ hW.1 16
  have b_op0 : (-2147483648 : Int) ≤ op0 ∧ op0 ≤ 2147483647 := e_op0 ▸ hW.1 15
  have b_nd : (0 : Int) ≤ nd ∧ nd ≤ 6999 := e_nd ▸ hW.1 31
  have z_tk0 := tz_f tk0
  have b_tk0 : (0 : Int) ≤ tk0 ∧ tk0 ≤ 5 := e_tk0 ▸ hW.1 11
  have b_li : (0 : Int) ≤ li ∧ li ≤ 3000 := e_li ▸ hW.1 3
  have b_sy : (0 : Int) ≤ sy ∧ sy ≤ 202 := e_sy ▸ hW.1 19
  intro L Gx Ax one pl s at1 tk1 fk1 nd1 op1 ks ec1 gL_0 gL_6 gL_7 gL_8 gL_5 gL_1 gL_3 gL_4 hWx hFx hPx ex_at1 ex_tk1 ex_fk1 ex_nd1 ex_op1 ex_ks ex_ec1 fx_9 rx_one rx_pl rx_s iv_0 iv_1 iv_2 iv_3 iv_4 iv_5 iv_6 iv_7 iv_8 iv_9 iv_10 iv_11 iv_12 iv_13 iv_14
  have b_at1 : (0 : Int) ≤ at1 ∧ at1 ≤ 3002 := ex_at1 ▸ hWx.1 10
  have z_tk1 := tz_f tk1
  have b_tk1 : (0 : Int) ≤ tk1 ∧ tk1 ≤ 5 := ex_tk1 ▸ hWx.1 11
  have b_fk1 : (0 : Int) ≤ fk1 ∧ fk1 ≤ 6 := ex_fk1 ▸ hWx.1 16
  have b_nd1 : (0 : Int) ≤ nd1 ∧ nd1 ≤ 6999 := ex_nd1 ▸ hWx.1 31
  have b_op1 : (-2147483648 : Int) ≤ op1 ∧ op1 ≤ 2147483647 := ex_op1 ▸ hWx.1 15
  have b_ks : (0 : Int) ≤ ks ∧ ks ≤ 14 := ex_ks ▸ hWx.2 7 _
  refine jx_ld (pc_q := 159) (l_q := L) (st_q := [.int (i32 (1))]) rfl (jl_iload gL_7) ?_
  refine jx_if_eq (pc_q := 162) (tg := 189) rfl rfl rfl (by decide) (by decide) (fun h1192 => ?_) (fun h1192 => ?_)
  · have _q := h1192
    exact absurd h1192 (by omega)
  · have _q := h1192
    refine jx_ld (pc_q := 164) (l_q := L) (st_q := [.int (i32 (0))]) rfl (jl_iload gL_6) ?_
    refine jx_if_eq (pc_q := 167) (tg := 181) rfl rfl rfl (by decide) (by decide) (fun h1193 => ?_) (fun h1193 => ?_)
    · have _q := h1193
      refine jx_ld (pc_q := 183) (l_q := L) (st_q := [.int (i32 (ks))]) rfl (jl_iload gL_8) ?_
      refine jx_st (pc_q := 186) (as := [.int (i32 (ks))]) (st := []) rfl rfl ⟨rfl, Nat.le_of_ble_eq_true rfl⟩ rfl rfl rfl (c_isChannel (dd := d) (hd := by omega) (k := ks)   (h_k := ⟨(Int.le_trans (by decide : (-2147483648 : Int) ≤ 0) b_ks.1), (Int.le_trans b_ks.2 (by decide : (14 : Int) ≤ 2147483647))⟩)  ) (fun o V_q hq => ?_)
      obtain ⟨r1194, rfl, rfl, b1195, q1196⟩ := hq
      refine .inr ⟨_, rfl, ?_⟩
      rcases q1196 with ⟨rfl, a1197⟩ | rfl
      · have _q : True := trivial
        refine jx_go (tg := 207) rfl rfl ?_
        refine jx_ld (pc_q := 209) (l_q := jSto1 L 9 (.int (i32 (1)))) (st_q := []) rfl rfl ?_
        obtain ⟨L1198, eL1198⟩ : ∃ q, q = jSto1 L 9 (.int (i32 (1))) := ⟨_, rfl⟩
        rw [← eL1198]
        have gL1198_0 : jGet L1198 0 = some (.ref 66) := eL1198 ▸ jg_ne (by decide) gL_0 rfl
        have gL1198_6 : jGet L1198 6 = some (.int (i32 (0))) := eL1198 ▸ jg_ne (by decide) gL_6 rfl
        have gL1198_7 : jGet L1198 7 = some (.int (i32 (1))) := eL1198 ▸ jg_ne (by decide) gL_7 rfl
        have gL1198_8 : jGet L1198 8 = some (.int (i32 (ks))) := eL1198 ▸ jg_ne (by decide) gL_8 rfl
        have gL1198_5 : jGet L1198 5 = some (.int (i32 (0))) := eL1198 ▸ jg_ne (by decide) gL_5 rfl
        have gL1198_1 : jGet L1198 1 = some (.int (i32 (one))) := eL1198 ▸ jg_ne (by decide) gL_1 rfl
        have gL1198_3 : jGet L1198 3 = some (.int (i32 (pl))) := eL1198 ▸ jg_ne (by decide) gL_3 rfl
        have gL1198_4 : jGet L1198 4 = some (.int (i32 (s))) := eL1198 ▸ jg_ne (by decide) gL_4 rfl
        have gL1198_9 : jGet L1198 9 = some (.int (i32 (1))) := eL1198 ▸ jg_eq
        refine jx_ld (pc_q := 211) (l_q := L1198) (st_q := [.int (i32 (1))]) rfl (jl_iload gL1198_9) ?_
        refine jx_if_ne (pc_q := 214) (tg := 222) rfl rfl rfl (by decide) (by decide) (fun h1199 => ?_) (fun h1199 => ?_)
        · have _q := h1199
          have z1200 := tz_f (tk1)
          exact c_readGuard_w_at_222_0_1 (X := X) (d := d) (Vs := Vs) (sb := sb) (c0 := c0) (c1 := c1) (G := G) (A := A) (T := T) (ln := ln) (le := le) (at0 := at0) (fk := fk) (op0 := op0) (nd := nd) (tk0 := tk0) (li := li) (ec := ec) (sy := sy) (hd := hd) (hW := hW) (e_ln := e_ln) (e_le := e_le) (e_at0 := e_at0) (e_fk := e_fk) (e_op0 := e_op0) (e_nd := e_nd) (e_tk0 := e_tk0) (e_li := e_li) (e_ec := e_ec) (e_sy := e_sy) (i_SV := i_SV) (p_0 := p_0) (p_1 := p_1) (p_2 := p_2) (p_3 := p_3) (p_4 := p_4) L1198 Gx Ax (one) (s) (at1) (tk1) (fk1) (nd1) (op1) (ks) (ec1) gL1198_0 gL1198_6 gL1198_7 gL1198_5 gL1198_1 gL1198_4 hWx hFx hPx ((ex_at1)) ((ex_tk1)) ((ex_fk1)) ((ex_nd1)) ((ex_op1)) ((ex_ks)) (ex_ec1) ((fx_9)) (by omega) (by omega) (by omega) (by omega) (by omega) (by omega) (by omega) (by omega) (by omega) (by omega) (by omega) (iv_10) (iv_11) (by omega) (a1197) (by omega) (iv_14)
        · have _q := h1199
          exact absurd h1199 (by omega)
      · have _q : True := trivial
        refine jx_go (tg := 207) rfl rfl ?_
        refine jx_ld (pc_q := 209) (l_q := jSto1 L 9 (.int (i32 (0)))) (st_q := []) rfl rfl ?_
        obtain ⟨L1201, eL1201⟩ : ∃ q, q = jSto1 L 9 (.int (i32 (0))) := ⟨_, rfl⟩
        rw [← eL1201]
        have gL1201_0 : jGet L1201 0 = some (.ref 66) := eL1201 ▸ jg_ne (by decide) gL_0 rfl
        have gL1201_6 : jGet L1201 6 = some (.int (i32 (0))) := eL1201 ▸ jg_ne (by decide) gL_6 rfl
        have gL1201_7 : jGet L1201 7 = some (.int (i32 (1))) := eL1201 ▸ jg_ne (by decide) gL_7 rfl
        have gL1201_8 : jGet L1201 8 = some (.int (i32 (ks))) := eL1201 ▸ jg_ne (by decide) gL_8 rfl
        have gL1201_5 : jGet L1201 5 = some (.int (i32 (0))) := eL1201 ▸ jg_ne (by decide) gL_5 rfl
        have gL1201_1 : jGet L1201 1 = some (.int (i32 (one))) := eL1201 ▸ jg_ne (by decide) gL_1 rfl
        have gL1201_3 : jGet L1201 3 = some (.int (i32 (pl))) := eL1201 ▸ jg_ne (by decide) gL_3 rfl
        have gL1201_4 : jGet L1201 4 = some (.int (i32 (s))) := eL1201 ▸ jg_ne (by decide) gL_4 rfl
        have gL1201_9 : jGet L1201 9 = some (.int (i32 (0))) := eL1201 ▸ jg_eq
        refine jx_ld (pc_q := 211) (l_q := L1201) (st_q := [.int (i32 (0))]) rfl (jl_iload gL1201_9) ?_
        refine jx_if_ne (pc_q := 214) (tg := 222) rfl rfl rfl (by decide) (by decide) (fun h1202 => ?_) (fun h1202 => ?_)
        · have _q := h1202
          exact absurd h1202 (by omega)
        · have _q := h1202
          refine jx_ld (pc_q := 215) (l_q := L1201) (st_q := [.ref 66]) rfl (jl_aloadn gL1201_0) ?_
          refine jx_ar (pc_q := 216) (st_q := [.int (i32 (4)), .ref 66]) rfl rfl rfl rfl ?_
          refine jx_ld (pc_q := 217) (l_q := L1201) (st_q := [.int (i32 (pl)), .int (i32 (4)), .ref 66]) rfl (jl_iloadn gL1201_3) ?_
          refine jx_vr (pc_q := 220) (as := [.int (i32 (4)), .int (i32 (pl))]) (st := []) rfl rfl rfl rfl ⟨rfl, rfl, Nat.le_of_ble_eq_true rfl⟩ rfl rfl (c_fail (dd := d) (hd := by omega) (hW := hWx) (kind := 4) (place := pl) (fk := fk1) (e_fk := show Gx 16 = fk1 from (ex_fk1))  (h_kind := ⟨(by decide), (by decide)⟩) (h_place := ⟨(Int.le_trans (by decide : (-2147483648 : Int) ≤ -2147483648) rx_pl.1), (Int.le_trans rx_pl.2 (by decide : (2147483647 : Int) ≤ 2147483647))⟩)  (p_0 := by omega) (p_1 := by omega)) (fun o V_q hq => ?_)
          obtain ⟨G1203, A1204, fk2_1205, rfl, rfl, hW1206, hF1207, e1208, p1209, -⟩ := hq
          have hF1211 := Fr_tr hFx hF1207 (Fr_sub (by decide)) (Fr_sub (by decide))
          have hP1212 := Pf_f hPx hF1207 (by decide)
          have sf1213 : ND A1204 (one) (33) (0) (0) (0) (0) (0) (0) := ND_ag (by omega) (Ag_fr hF1207 (by decide)) iv_11
          have sf1214 : NdM A1204 (nd) (nd1) (sy) := NdM_f hF1207 (by decide) iv_14
          have ec1215 : ecn A1204 (G1203 31) = ec1 := (ecn_f (hF1207.2 15 rfl) (hF1207.1 31 rfl)).trans ex_ec1
          have bfk2_1205 : (0 : Int) ≤ fk2_1205 ∧ fk2_1205 ≤ 6 := e1208 ▸ hW1206.1 16
          refine .inl ⟨rfl, ?_⟩
          refine jx_ar (pc_q := 221) (st_q := [.int (i32 (0))]) rfl rfl rfl rfl ?_
          refine jx_rt (v := some (.int (i32 (0)))) rfl rfl rfl rfl rfl rfl ?_
          exact ⟨_, _, _, at1, fk2_1205, nd1, ln, ec1, rfl, rfl, hW1206, hF1211, hP1212, by omega, ((hF1207.1 10 rfl).trans (ex_at1)), (e1208), ((hF1207.1 31 rfl).trans (ex_nd1)), ((hF1207.1 9 rfl).trans (fx_9)), ec1215, by omega, by omega, by omega, by omega, by omega, by first | exact Or.inl (⟨by omega, by omega, by omega⟩)⟩
    · have _q := h1193
      exact absurd h1193 (by omega)
set_option maxRecDepth 20000 in
set_option maxHeartbeats 4000000 in
theorem c_readGuard_w_at_157_0_0 {X : jX} {d : Nat} {Vs : Nat → Prop} {sb : Int} {c0 c1 : jC} {G : Nat → Int} {A : Nat → Nat → Int} {T : jH} {ln le at0 fk op0 nd tk0 li ec sy : Int} (hd : 71 ≤ d + 1) (hW : Wk G A) (e_ln : G 9 = ln) (e_le : A 4 (ln).toNat = le) (e_at0 : G 10 = at0) (e_fk : G 16 = fk) (e_op0 : G 15 = op0) (e_nd : G 31 = nd) (e_tk0 : G 11 = tk0) (e_li : G 3 = li) (e_ec : ecn A (G 31) = ec) (e_sy : G 19 = sy) (i_SV : SV Vs sb G A) (p_0 : 0 ≤ op0 ∧ op0 ≤ 8) (p_1 : fk = 0) (p_2 : nd ≤ 2 * at0 - tz tk0 + 42) (p_3 : at0 ≤ le) (p_4 : ln < li) : ∀ (L : jL) (Gx : Nat → Int) (Ax : Nat → Nat → Int) (one pl s at1 tk1 fk1 nd1 op1 ks ec1 : Int), jGet L 0 = some (.ref 66) → jGet L 6 = some (.int (i32 (0))) → jGet L 7 = some (.int (i32 (0))) → jGet L 8 = some (.int (i32 (ks))) → jGet L 5 = some (.int (i32 (0))) → jGet L 1 = some (.int (i32 one)) → jGet L 3 = some (.int (i32 pl)) → jGet L 4 = some (.int (i32 s)) → Wk Gx Ax → Fr [9, 10, 11, 12, 13, 14, 15, 16, 17, 18, 31] [15, 16, 17, 18, 19, 20, 21, 22, 24, 28] G A Gx Ax → Pf nd A Ax → Gx 10 = at1 → Gx 11 = tk1 → Gx 16 = fk1 → Gx 31 = nd1 → Gx 15 = op1 → Ax 7 (s).toNat = ks → ecn Ax (Gx 31) = ec1 → Gx 9 = ln → ((-2147483648 : Int) ≤ one ∧ one ≤ 2147483647) → ((-2147483648 : Int) ≤ pl ∧ pl ≤ 2147483647) → ((-2147483648 : Int) ≤ s ∧ s ≤ 2147483647) → (at0 ≤ at1) → (at1 ≤ le) → (nd ≤ nd1) → (op1 = op0) → (one = nd) → (one ≤ 6998 ∧ one < nd1) → (fk1 = 0) → (nd1 - nd ≤ (2 * at1 - tz tk1) - (2 * at0 - tz tk0)) → (0 ≤ s ∧ s ≤ 201) → (-3000 ≤ pl ∧ pl ≤ 3002) → (SY Vs sb (s)) → (ND Ax (one) (33) (0) (0) (0) (0) (0) (0)) → (nd1 - nd + 5 * (ec1 - ec) ≤ (2 * at1 - tz tk1) - (2 * at0 - tz tk0) - tz tk1) → (NdM Ax (nd) (nd1) (sy)) → wj X d jm303 (157, L, [], rV c0 c1 Gx Ax T) (fun o V_q => ∃ (G_q : Nat → Int) (A_q : Nat → Nat → Int) (r : Int) (at2 : Int) (fk2 : Int) (nd2 : Int) (ln2 : Int) (ec2 : Int), V_q = rV c0 c1 G_q A_q T ∧ o = .inl (some (.int (i32 r))) ∧ Wk G_q A_q ∧ Fr [9, 10, 11, 12, 13, 14, 15, 16, 17, 18, 31] [15, 16, 17, 18, 19, 20, 21, 22, 24, 28] G A G_q A_q ∧ Pf nd A A_q ∧ ((-2147483648 : Int) ≤ r ∧ r ≤ 2147483647) ∧ G_q 10 = at2 ∧ G_q 16 = fk2 ∧ G_q 31 = nd2 ∧ G_q 9 = ln2 ∧ ecn A_q (G_q 31) = ec2 ∧ (at0 ≤ at2) ∧ (at2 ≤ le) ∧ (nd ≤ nd2) ∧ (0 ≤ r) ∧ (r ≤ nd2) ∧ (((1 ≤ fk2) ∧ (ln2 = ln) ∧ (nd2 - nd ≤ 2 * at2 - 2 * at0 + 12)) ∨ ((fk2 = 0) ∧ (ln2 = ln + 1) ∧ (nd2 - nd ≤ 2 * at2 - (2 * at0 - tz tk0) + 0) ∧ (nd ≤ r) ∧ (r < nd2) ∧ (wU A_q Vs sb (r) (nd) (nd2)) ∧ (NX A_q (r)) ∧ (nd2 - nd + 5 * (ec2 - ec) ≤ 2 * at2 - (2 * at0 - tz tk0) + 0) ∧ (NdM A_q (nd) (nd2) (sy))))) := by
  have hF0 : Fr [9, 10, 11, 12, 13, 14, 15, 16, 17, 18, 31] [15, 16, 17, 18, 19, 20, 21, 22, 24, 28] G A G A := Fr_rf
  have hP0 : Pf nd A A := Pf_rf
  have b_ln : (0 : Int) ≤ ln ∧ ln ≤ 3000 := e_ln ▸ hW.1 9
  have b_le : (0 : Int) ≤ le ∧ le ≤ 3000 := e_le ▸ hW.2 4 _
  have b_at0 : (0 : Int) ≤ at0 ∧ at0 ≤ 3002 := e_at0 ▸ hW.1 10
  have b_fk : (0 : Int) ≤ fk ∧ fk ≤ 6 := e_fk ▸ hW.1 16
  have b_op0 : (-2147483648 : Int) ≤ op0 ∧ op0 ≤ 2147483647 := e_op0 ▸ hW.1 15
  have b_nd : (0 : Int) ≤ nd ∧ nd ≤ 6999 := e_nd ▸ hW.1 31
  have z_tk0 := tz_f tk0
  have b_tk0 : (0 : Int) ≤ tk0 ∧ tk0 ≤ 5 := e_tk0 ▸ hW.1 11
  have b_li : (0 : Int) ≤ li ∧ li ≤ 3000 := e_li ▸ hW.1 3
  have b_sy : (0 : Int) ≤ sy ∧ sy ≤ 202 := e_sy ▸ hW.1 19
  intro L Gx Ax one pl s at1 tk1 fk1 nd1 op1 ks ec1 gL_0 gL_6 gL_7 gL_8 gL_5 gL_1 gL_3 gL_4 hWx hFx hPx ex_at1 ex_tk1 ex_fk1 ex_nd1 ex_op1 ex_ks ex_ec1 fx_9 rx_one rx_pl rx_s iv_0 iv_1 iv_2 iv_3 iv_4 iv_5 iv_6 iv_7 iv_8 iv_9 iv_10 iv_11 iv_12 iv_13
  have b_at1 : (0 : Int) ≤ at1 ∧ at1 ≤ 3002 := ex_at1 ▸ hWx.1 10
  have z_tk1 := tz_f tk1
  have b_tk1 : (0 : Int) ≤ tk1 ∧ tk1 ≤ 5 := ex_tk1 ▸ hWx.1 11
  have b_fk1 : (0 : Int) ≤ fk1 ∧ fk1 ≤ 6 := ex_fk1 ▸ hWx.1 16
  have b_nd1 : (0 : Int) ≤ nd1 ∧ nd1 ≤ 6999 := ex_nd1 ▸ hWx.1 31
  have b_op1 : (-2147483648 : Int) ≤ op1 ∧ op1 ≤ 2147483647 := ex_op1 ▸ hWx.1 15
  have b_ks : (0 : Int) ≤ ks ∧ ks ≤ 14 := ex_ks ▸ hWx.2 7 _
  refine jx_ld (pc_q := 159) (l_q := L) (st_q := [.int (i32 (0))]) rfl (jl_iload gL_7) ?_
  refine jx_if_eq (pc_q := 162) (tg := 189) rfl rfl rfl (by decide) (by decide) (fun h1216 => ?_) (fun h1216 => ?_)
  · have _q := h1216
    refine jx_ld (pc_q := 191) (l_q := L) (st_q := [.int (i32 (0))]) rfl (jl_iload gL_6) ?_
    refine jx_if_eq (pc_q := 194) (tg := 202) rfl rfl rfl (by decide) (by decide) (fun h1217 => ?_) (fun h1217 => ?_)
    · have _q := h1217
      refine jx_ld (pc_q := 204) (l_q := L) (st_q := [.int (i32 (ks))]) rfl (jl_iload gL_8) ?_
      refine jx_st (pc_q := 207) (as := [.int (i32 (ks))]) (st := []) rfl rfl ⟨rfl, Nat.le_of_ble_eq_true rfl⟩ rfl rfl rfl (c_isValue (dd := d) (hd := by omega) (k := ks)   (h_k := ⟨(Int.le_trans (by decide : (-2147483648 : Int) ≤ 0) b_ks.1), (Int.le_trans b_ks.2 (by decide : (14 : Int) ≤ 2147483647))⟩)  ) (fun o V_q hq => ?_)
      obtain ⟨r1218, rfl, rfl, b1219, q1220⟩ := hq
      refine .inr ⟨_, rfl, ?_⟩
      rcases q1220 with ⟨rfl, a1221⟩ | rfl
      · have _q : True := trivial
        refine jx_ld (pc_q := 209) (l_q := jSto1 L 9 (.int (i32 (1)))) (st_q := []) rfl rfl ?_
        obtain ⟨L1222, eL1222⟩ : ∃ q, q = jSto1 L 9 (.int (i32 (1))) := ⟨_, rfl⟩
        rw [← eL1222]
        have gL1222_0 : jGet L1222 0 = some (.ref 66) := eL1222 ▸ jg_ne (by decide) gL_0 rfl
        have gL1222_6 : jGet L1222 6 = some (.int (i32 (0))) := eL1222 ▸ jg_ne (by decide) gL_6 rfl
        have gL1222_7 : jGet L1222 7 = some (.int (i32 (0))) := eL1222 ▸ jg_ne (by decide) gL_7 rfl
        have gL1222_8 : jGet L1222 8 = some (.int (i32 (ks))) := eL1222 ▸ jg_ne (by decide) gL_8 rfl
        have gL1222_5 : jGet L1222 5 = some (.int (i32 (0))) := eL1222 ▸ jg_ne (by decide) gL_5 rfl
        have gL1222_1 : jGet L1222 1 = some (.int (i32 (one))) := eL1222 ▸ jg_ne (by decide) gL_1 rfl
        have gL1222_3 : jGet L1222 3 = some (.int (i32 (pl))) := eL1222 ▸ jg_ne (by decide) gL_3 rfl
        have gL1222_4 : jGet L1222 4 = some (.int (i32 (s))) := eL1222 ▸ jg_ne (by decide) gL_4 rfl
        have gL1222_9 : jGet L1222 9 = some (.int (i32 (1))) := eL1222 ▸ jg_eq
        refine jx_ld (pc_q := 211) (l_q := L1222) (st_q := [.int (i32 (1))]) rfl (jl_iload gL1222_9) ?_
        refine jx_if_ne (pc_q := 214) (tg := 222) rfl rfl rfl (by decide) (by decide) (fun h1223 => ?_) (fun h1223 => ?_)
        · have _q := h1223
          have z1224 := tz_f (tk1)
          exact c_readGuard_w_at_222_0_0 (X := X) (d := d) (Vs := Vs) (sb := sb) (c0 := c0) (c1 := c1) (G := G) (A := A) (T := T) (ln := ln) (le := le) (at0 := at0) (fk := fk) (op0 := op0) (nd := nd) (tk0 := tk0) (li := li) (ec := ec) (sy := sy) (hd := hd) (hW := hW) (e_ln := e_ln) (e_le := e_le) (e_at0 := e_at0) (e_fk := e_fk) (e_op0 := e_op0) (e_nd := e_nd) (e_tk0 := e_tk0) (e_li := e_li) (e_ec := e_ec) (e_sy := e_sy) (i_SV := i_SV) (p_0 := p_0) (p_1 := p_1) (p_2 := p_2) (p_3 := p_3) (p_4 := p_4) L1222 Gx Ax (one) (s) (at1) (tk1) (fk1) (nd1) (op1) (ks) (ec1) gL1222_0 gL1222_6 gL1222_7 gL1222_5 gL1222_1 gL1222_4 hWx hFx hPx ((ex_at1)) ((ex_tk1)) ((ex_fk1)) ((ex_nd1)) ((ex_op1)) ((ex_ks)) (ex_ec1) ((fx_9)) (by omega) (by omega) (by omega) (by omega) (by omega) (by omega) (by omega) (by omega) (by omega) (by omega) (by omega) (iv_10) (iv_11) (a1221) (by omega) (iv_13)
        · have _q := h1223
          exact absurd h1223 (by omega)
      · have _q : True := trivial
        refine jx_ld (pc_q := 209) (l_q := jSto1 L 9 (.int (i32 (0)))) (st_q := []) rfl rfl ?_
        obtain ⟨L1225, eL1225⟩ : ∃ q, q = jSto1 L 9 (.int (i32 (0))) := ⟨_, rfl⟩
        rw [← eL1225]
        have gL1225_0 : jGet L1225 0 = some (.ref 66) := eL1225 ▸ jg_ne (by decide) gL_0 rfl
        have gL1225_6 : jGet L1225 6 = some (.int (i32 (0))) := eL1225 ▸ jg_ne (by decide) gL_6 rfl
        have gL1225_7 : jGet L1225 7 = some (.int (i32 (0))) := eL1225 ▸ jg_ne (by decide) gL_7 rfl
        have gL1225_8 : jGet L1225 8 = some (.int (i32 (ks))) := eL1225 ▸ jg_ne (by decide) gL_8 rfl
        have gL1225_5 : jGet L1225 5 = some (.int (i32 (0))) := eL1225 ▸ jg_ne (by decide) gL_5 rfl
        have gL1225_1 : jGet L1225 1 = some (.int (i32 (one))) := eL1225 ▸ jg_ne (by decide) gL_1 rfl
        have gL1225_3 : jGet L1225 3 = some (.int (i32 (pl))) := eL1225 ▸ jg_ne (by decide) gL_3 rfl
        have gL1225_4 : jGet L1225 4 = some (.int (i32 (s))) := eL1225 ▸ jg_ne (by decide) gL_4 rfl
        have gL1225_9 : jGet L1225 9 = some (.int (i32 (0))) := eL1225 ▸ jg_eq
        refine jx_ld (pc_q := 211) (l_q := L1225) (st_q := [.int (i32 (0))]) rfl (jl_iload gL1225_9) ?_
        refine jx_if_ne (pc_q := 214) (tg := 222) rfl rfl rfl (by decide) (by decide) (fun h1226 => ?_) (fun h1226 => ?_)
        · have _q := h1226
          exact absurd h1226 (by omega)
        · have _q := h1226
          refine jx_ld (pc_q := 215) (l_q := L1225) (st_q := [.ref 66]) rfl (jl_aloadn gL1225_0) ?_
          refine jx_ar (pc_q := 216) (st_q := [.int (i32 (4)), .ref 66]) rfl rfl rfl rfl ?_
          refine jx_ld (pc_q := 217) (l_q := L1225) (st_q := [.int (i32 (pl)), .int (i32 (4)), .ref 66]) rfl (jl_iloadn gL1225_3) ?_
          refine jx_vr (pc_q := 220) (as := [.int (i32 (4)), .int (i32 (pl))]) (st := []) rfl rfl rfl rfl ⟨rfl, rfl, Nat.le_of_ble_eq_true rfl⟩ rfl rfl (c_fail (dd := d) (hd := by omega) (hW := hWx) (kind := 4) (place := pl) (fk := fk1) (e_fk := show Gx 16 = fk1 from (ex_fk1))  (h_kind := ⟨(by decide), (by decide)⟩) (h_place := ⟨(Int.le_trans (by decide : (-2147483648 : Int) ≤ -2147483648) rx_pl.1), (Int.le_trans rx_pl.2 (by decide : (2147483647 : Int) ≤ 2147483647))⟩)  (p_0 := by omega) (p_1 := by omega)) (fun o V_q hq => ?_)
          obtain ⟨G1227, A1228, fk2_1229, rfl, rfl, hW1230, hF1231, e1232, p1233, -⟩ := hq
          have hF1235 := Fr_tr hFx hF1231 (Fr_sub (by decide)) (Fr_sub (by decide))
          have hP1236 := Pf_f hPx hF1231 (by decide)
          have sf1237 : ND A1228 (one) (33) (0) (0) (0) (0) (0) (0) := ND_ag (by omega) (Ag_fr hF1231 (by decide)) iv_11
          have sf1238 : NdM A1228 (nd) (nd1) (sy) := NdM_f hF1231 (by decide) iv_13
          have ec1239 : ecn A1228 (G1227 31) = ec1 := (ecn_f (hF1231.2 15 rfl) (hF1231.1 31 rfl)).trans ex_ec1
          have bfk2_1229 : (0 : Int) ≤ fk2_1229 ∧ fk2_1229 ≤ 6 := e1232 ▸ hW1230.1 16
          refine .inl ⟨rfl, ?_⟩
          refine jx_ar (pc_q := 221) (st_q := [.int (i32 (0))]) rfl rfl rfl rfl ?_
          refine jx_rt (v := some (.int (i32 (0)))) rfl rfl rfl rfl rfl rfl ?_
          exact ⟨_, _, _, at1, fk2_1229, nd1, ln, ec1, rfl, rfl, hW1230, hF1235, hP1236, by omega, ((hF1231.1 10 rfl).trans (ex_at1)), (e1232), ((hF1231.1 31 rfl).trans (ex_nd1)), ((hF1231.1 9 rfl).trans (fx_9)), ec1239, by omega, by omega, by omega, by omega, by omega, by first | exact Or.inl (⟨by omega, by omega, by omega⟩)⟩
    · have _q := h1217
      exact absurd h1217 (by omega)
  · have _q := h1216
    exact absurd h1216 (by omega)
set_option maxRecDepth 20000 in
set_option maxHeartbeats 4000000 in
theorem c_readGuard_w_at_108_1 {X : jX} {d : Nat} {Vs : Nat → Prop} {sb : Int} {c0 c1 : jC} {G : Nat → Int} {A : Nat → Nat → Int} {T : jH} {ln le at0 fk op0 nd tk0 li ec sy : Int} (hd : 71 ≤ d + 1) (hW : Wk G A) (e_ln : G 9 = ln) (e_le : A 4 (ln).toNat = le) (e_at0 : G 10 = at0) (e_fk : G 16 = fk) (e_op0 : G 15 = op0) (e_nd : G 31 = nd) (e_tk0 : G 11 = tk0) (e_li : G 3 = li) (e_ec : ecn A (G 31) = ec) (e_sy : G 19 = sy) (i_SV : SV Vs sb G A) (p_0 : 0 ≤ op0 ∧ op0 ≤ 8) (p_1 : fk = 0) (p_2 : nd ≤ 2 * at0 - tz tk0 + 42) (p_3 : at0 ≤ le) (p_4 : ln < li) : ∀ (L : jL) (Gx : Nat → Int) (Ax : Nat → Nat → Int) (one pl s ix at1 tk1 fk1 nd1 op1 ks ec1 : Int), jGet L 0 = some (.ref 66) → jGet L 6 = some (.int (i32 (1))) → jGet L 1 = some (.int (i32 one)) → jGet L 3 = some (.int (i32 pl)) → jGet L 4 = some (.int (i32 s)) → jGet L 5 = some (.int (i32 ix)) → Wk Gx Ax → Fr [9, 10, 11, 12, 13, 14, 15, 16, 17, 18, 31] [15, 16, 17, 18, 19, 20, 21, 22, 24, 28] G A Gx Ax → Pf nd A Ax → Gx 10 = at1 → Gx 11 = tk1 → Gx 16 = fk1 → Gx 31 = nd1 → Gx 15 = op1 → Ax 7 (s).toNat = ks → ecn Ax (Gx 31) = ec1 → Gx 9 = ln → ((-2147483648 : Int) ≤ one ∧ one ≤ 2147483647) → ((-2147483648 : Int) ≤ pl ∧ pl ≤ 2147483647) → ((-2147483648 : Int) ≤ s ∧ s ≤ 2147483647) → ((-2147483648 : Int) ≤ ix ∧ ix ≤ 2147483647) → (at0 ≤ at1) → (at1 ≤ le) → (nd ≤ nd1) → (op1 = op0) → (one = nd) → (one ≤ 6998 ∧ one < nd1) → (fk1 = 0) → (nd1 - nd ≤ (2 * at1 - tz tk1) - (2 * at0 - tz tk0)) → (0 ≤ s ∧ s ≤ 201) → (-3000 ≤ pl ∧ pl ≤ 3002) → (SY Vs sb (s)) → (ND Ax (one) (33) (0) (0) (0) (0) (0) (0)) → (wE Ax Vs sb (20) (ix) (one + 1) (nd1)) → (ix + 1 = nd1) → (nd1 - nd + 5 * (ec1 - ec) ≤ (2 * at1 - tz tk1) - (2 * at0 - tz tk0) - 5 - tz tk1) → (NdM Ax (nd) (nd1) (sy)) → wj X d jm303 (108, L, [], rV c0 c1 Gx Ax T) (fun o V_q => ∃ (G_q : Nat → Int) (A_q : Nat → Nat → Int) (r : Int) (at2 : Int) (fk2 : Int) (nd2 : Int) (ln2 : Int) (ec2 : Int), V_q = rV c0 c1 G_q A_q T ∧ o = .inl (some (.int (i32 r))) ∧ Wk G_q A_q ∧ Fr [9, 10, 11, 12, 13, 14, 15, 16, 17, 18, 31] [15, 16, 17, 18, 19, 20, 21, 22, 24, 28] G A G_q A_q ∧ Pf nd A A_q ∧ ((-2147483648 : Int) ≤ r ∧ r ≤ 2147483647) ∧ G_q 10 = at2 ∧ G_q 16 = fk2 ∧ G_q 31 = nd2 ∧ G_q 9 = ln2 ∧ ecn A_q (G_q 31) = ec2 ∧ (at0 ≤ at2) ∧ (at2 ≤ le) ∧ (nd ≤ nd2) ∧ (0 ≤ r) ∧ (r ≤ nd2) ∧ (((1 ≤ fk2) ∧ (ln2 = ln) ∧ (nd2 - nd ≤ 2 * at2 - 2 * at0 + 12)) ∨ ((fk2 = 0) ∧ (ln2 = ln + 1) ∧ (nd2 - nd ≤ 2 * at2 - (2 * at0 - tz tk0) + 0) ∧ (nd ≤ r) ∧ (r < nd2) ∧ (wU A_q Vs sb (r) (nd) (nd2)) ∧ (NX A_q (r)) ∧ (nd2 - nd + 5 * (ec2 - ec) ≤ 2 * at2 - (2 * at0 - tz tk0) + 0) ∧ (NdM A_q (nd) (nd2) (sy))))) := by
  have hF0 : Fr [9, 10, 11, 12, 13, 14, 15, 16, 17, 18, 31] [15, 16, 17, 18, 19, 20, 21, 22, 24, 28] G A G A := Fr_rf
  have hP0 : Pf nd A A := Pf_rf
  have b_ln : (0 : Int) ≤ ln ∧ ln ≤ 3000 := e_ln ▸ hW.1 9
  have b_le : (0 : Int) ≤ le ∧ le ≤ 3000 := e_le ▸ hW.2 4 _
  have b_at0 : (0 : Int) ≤ at0 ∧ at0 ≤ 3002 := e_at0 ▸ hW.1 10
  have b_fk : (0 : Int) ≤ fk ∧ fk ≤ 6 := e_fk ▸ hW.1 16
  have b_op0 : (-2147483648 : Int) ≤ op0 ∧ op0 ≤ 2147483647 := e_op0 ▸ hW.1 15
  have b_nd : (0 : Int) ≤ nd ∧ nd ≤ 6999 := e_nd ▸ hW.1 31
  have z_tk0 := tz_f tk0
  have b_tk0 : (0 : Int) ≤ tk0 ∧ tk0 ≤ 5 := e_tk0 ▸ hW.1 11
  have b_li : (0 : Int) ≤ li ∧ li ≤ 3000 := e_li ▸ hW.1 3
  have b_sy : (0 : Int) ≤ sy ∧ sy ≤ 202 := e_sy ▸ hW.1 19
  intro L Gx Ax one pl s ix at1 tk1 fk1 nd1 op1 ks ec1 gL_0 gL_6 gL_1 gL_3 gL_4 gL_5 hWx hFx hPx ex_at1 ex_tk1 ex_fk1 ex_nd1 ex_op1 ex_ks ex_ec1 fx_9 rx_one rx_pl rx_s rx_ix iv_0 iv_1 iv_2 iv_3 iv_4 iv_5 iv_6 iv_7 iv_8 iv_9 iv_10 iv_11 iv_12 iv_13 iv_14 iv_15
  have b_at1 : (0 : Int) ≤ at1 ∧ at1 ≤ 3002 := ex_at1 ▸ hWx.1 10
  have z_tk1 := tz_f tk1
  have b_tk1 : (0 : Int) ≤ tk1 ∧ tk1 ≤ 5 := ex_tk1 ▸ hWx.1 11
  have b_fk1 : (0 : Int) ≤ fk1 ∧ fk1 ≤ 6 := ex_fk1 ▸ hWx.1 16
  have b_nd1 : (0 : Int) ≤ nd1 ∧ nd1 ≤ 6999 := ex_nd1 ▸ hWx.1 31
  have b_op1 : (-2147483648 : Int) ≤ op1 ∧ op1 ≤ 2147483647 := ex_op1 ▸ hWx.1 15
  have b_ks : (0 : Int) ≤ ks ∧ ks ≤ 14 := ex_ks ▸ hWx.2 7 _
  refine jx_ld (pc_q := 109) (l_q := L) (st_q := [.ref 66]) rfl (jl_aloadn gL_0) ?_
  refine jx_ar (pc_q := 111) (st_q := [.int (i32 (63)), .ref 66]) rfl rfl rfl rfl ?_
  have b1240 : (-2147483648 : Int) ≤ Gx 13 ∧ Gx 13 ≤ 2147483647 := hWx.1 13
  refine jx_vr (pc_q := 114) (as := [.int (i32 (63))]) (st := []) rfl rfl rfl rfl ⟨rfl, rfl, Nat.le_of_ble_eq_true rfl⟩ rfl rfl (c_is (dd := d) (hd := by omega) (hW := hWx) (k := 63) (tk := tk1) (e_tk := show Gx 11 = tk1 from (ex_tk1)) (tn := Gx 13) (e_tn := show Gx 13 = Gx 13 from rfl)  (h_k := ⟨(by decide), (by decide)⟩)  ) (fun o V_q hq => ?_)
  obtain ⟨r1241, rfl, rfl, b1242, q1243⟩ := hq
  refine .inr ⟨_, rfl, ?_⟩
  rcases q1243 with ⟨rfl, a1244, a1245, a1246⟩ | rfl
  · have _q : True := trivial
    refine jx_ld (pc_q := 116) (l_q := jSto1 L 7 (.int (i32 (1)))) (st_q := []) rfl rfl ?_
    obtain ⟨L1247, eL1247⟩ : ∃ q, q = jSto1 L 7 (.int (i32 (1))) := ⟨_, rfl⟩
    rw [← eL1247]
    have gL1247_0 : jGet L1247 0 = some (.ref 66) := eL1247 ▸ jg_ne (by decide) gL_0 rfl
    have gL1247_6 : jGet L1247 6 = some (.int (i32 (1))) := eL1247 ▸ jg_ne (by decide) gL_6 rfl
    have gL1247_1 : jGet L1247 1 = some (.int (i32 (one))) := eL1247 ▸ jg_ne (by decide) gL_1 rfl
    have gL1247_3 : jGet L1247 3 = some (.int (i32 (pl))) := eL1247 ▸ jg_ne (by decide) gL_3 rfl
    have gL1247_4 : jGet L1247 4 = some (.int (i32 (s))) := eL1247 ▸ jg_ne (by decide) gL_4 rfl
    have gL1247_5 : jGet L1247 5 = some (.int (i32 (ix))) := eL1247 ▸ jg_ne (by decide) gL_5 rfl
    have gL1247_7 : jGet L1247 7 = some (.int (i32 (1))) := eL1247 ▸ jg_eq
    refine jx_ld (pc_q := 117) (l_q := L1247) (st_q := [.ref 66]) rfl (jl_aloadn gL1247_0) ?_
    refine jr_get (pc_q := 120) (i := 21) (v := .ref 74) rfl rfl (by decide) rfl rfl ?_
    refine jx_ld (pc_q := 122) (l_q := L1247) (st_q := [.int (i32 (s)), .ref 74]) rfl (jl_iload gL1247_4) ?_
    refine jr_ldv (pc_q := 123) (i := 7) (m := 260) (z := s) (y := ks) rfl (by decide) rfl (by decide) (by omega) (by omega) rfl (show Ax 7 (s).toNat = ks from (ex_ks)) ?_
    refine jx_ld (pc_q := 125) (l_q := jSto1 L1247 8 (.int (i32 (ks)))) (st_q := []) rfl rfl ?_
    obtain ⟨L1248, eL1248⟩ : ∃ q, q = jSto1 L1247 8 (.int (i32 (ks))) := ⟨_, rfl⟩
    rw [← eL1248]
    have gL1248_0 : jGet L1248 0 = some (.ref 66) := eL1248 ▸ jg_ne (by decide) gL1247_0 rfl
    have gL1248_6 : jGet L1248 6 = some (.int (i32 (1))) := eL1248 ▸ jg_ne (by decide) gL1247_6 rfl
    have gL1248_1 : jGet L1248 1 = some (.int (i32 (one))) := eL1248 ▸ jg_ne (by decide) gL1247_1 rfl
    have gL1248_3 : jGet L1248 3 = some (.int (i32 (pl))) := eL1248 ▸ jg_ne (by decide) gL1247_3 rfl
    have gL1248_4 : jGet L1248 4 = some (.int (i32 (s))) := eL1248 ▸ jg_ne (by decide) gL1247_4 rfl
    have gL1248_5 : jGet L1248 5 = some (.int (i32 (ix))) := eL1248 ▸ jg_ne (by decide) gL1247_5 rfl
    have gL1248_7 : jGet L1248 7 = some (.int (i32 (1))) := eL1248 ▸ jg_ne (by decide) gL1247_7 rfl
    have gL1248_8 : jGet L1248 8 = some (.int (i32 (ks))) := eL1248 ▸ jg_eq
    refine jx_ld (pc_q := 127) (l_q := L1248) (st_q := [.int (i32 (1))]) rfl (jl_iload gL1248_7) ?_
    refine jx_if_ne (pc_q := 130) (tg := 157) rfl rfl rfl (by decide) (by decide) (fun h1249 => ?_) (fun h1249 => ?_)
    · have _q := h1249
      have z1250 := tz_f (tk1)
      exact c_readGuard_w_at_157_1_1 (X := X) (d := d) (Vs := Vs) (sb := sb) (c0 := c0) (c1 := c1) (G := G) (A := A) (T := T) (ln := ln) (le := le) (at0 := at0) (fk := fk) (op0 := op0) (nd := nd) (tk0 := tk0) (li := li) (ec := ec) (sy := sy) (hd := hd) (hW := hW) (e_ln := e_ln) (e_le := e_le) (e_at0 := e_at0) (e_fk := e_fk) (e_op0 := e_op0) (e_nd := e_nd) (e_tk0 := e_tk0) (e_li := e_li) (e_ec := e_ec) (e_sy := e_sy) (i_SV := i_SV) (p_0 := p_0) (p_1 := p_1) (p_2 := p_2) (p_3 := p_3) (p_4 := p_4) L1248 Gx Ax (one) (pl) (s) (ix) (at1) (tk1) (fk1) (nd1) (op1) (ks) (ec1) gL1248_0 gL1248_6 gL1248_7 gL1248_8 gL1248_1 gL1248_3 gL1248_4 gL1248_5 hWx hFx hPx ((ex_at1)) ((ex_tk1)) ((ex_fk1)) ((ex_nd1)) ((ex_op1)) ((ex_ks)) (ex_ec1) ((fx_9)) (by omega) (by omega) (by omega) (by omega) (by omega) (by omega) (by omega) (by omega) (by omega) (by omega) (by omega) (by omega) (by omega) (by omega) (iv_10) (iv_11) (by omega) (iv_12) (by omega) (by omega) (iv_15)
    · have _q := h1249
      exact absurd h1249 (by omega)
  · have _q : True := trivial
    refine jx_ld (pc_q := 116) (l_q := jSto1 L 7 (.int (i32 (0)))) (st_q := []) rfl rfl ?_
    obtain ⟨L1251, eL1251⟩ : ∃ q, q = jSto1 L 7 (.int (i32 (0))) := ⟨_, rfl⟩
    rw [← eL1251]
    have gL1251_0 : jGet L1251 0 = some (.ref 66) := eL1251 ▸ jg_ne (by decide) gL_0 rfl
    have gL1251_6 : jGet L1251 6 = some (.int (i32 (1))) := eL1251 ▸ jg_ne (by decide) gL_6 rfl
    have gL1251_1 : jGet L1251 1 = some (.int (i32 (one))) := eL1251 ▸ jg_ne (by decide) gL_1 rfl
    have gL1251_3 : jGet L1251 3 = some (.int (i32 (pl))) := eL1251 ▸ jg_ne (by decide) gL_3 rfl
    have gL1251_4 : jGet L1251 4 = some (.int (i32 (s))) := eL1251 ▸ jg_ne (by decide) gL_4 rfl
    have gL1251_5 : jGet L1251 5 = some (.int (i32 (ix))) := eL1251 ▸ jg_ne (by decide) gL_5 rfl
    have gL1251_7 : jGet L1251 7 = some (.int (i32 (0))) := eL1251 ▸ jg_eq
    refine jx_ld (pc_q := 117) (l_q := L1251) (st_q := [.ref 66]) rfl (jl_aloadn gL1251_0) ?_
    refine jr_get (pc_q := 120) (i := 21) (v := .ref 74) rfl rfl (by decide) rfl rfl ?_
    refine jx_ld (pc_q := 122) (l_q := L1251) (st_q := [.int (i32 (s)), .ref 74]) rfl (jl_iload gL1251_4) ?_
    refine jr_ldv (pc_q := 123) (i := 7) (m := 260) (z := s) (y := ks) rfl (by decide) rfl (by decide) (by omega) (by omega) rfl (show Ax 7 (s).toNat = ks from (ex_ks)) ?_
    refine jx_ld (pc_q := 125) (l_q := jSto1 L1251 8 (.int (i32 (ks)))) (st_q := []) rfl rfl ?_
    obtain ⟨L1252, eL1252⟩ : ∃ q, q = jSto1 L1251 8 (.int (i32 (ks))) := ⟨_, rfl⟩
    rw [← eL1252]
    have gL1252_0 : jGet L1252 0 = some (.ref 66) := eL1252 ▸ jg_ne (by decide) gL1251_0 rfl
    have gL1252_6 : jGet L1252 6 = some (.int (i32 (1))) := eL1252 ▸ jg_ne (by decide) gL1251_6 rfl
    have gL1252_1 : jGet L1252 1 = some (.int (i32 (one))) := eL1252 ▸ jg_ne (by decide) gL1251_1 rfl
    have gL1252_3 : jGet L1252 3 = some (.int (i32 (pl))) := eL1252 ▸ jg_ne (by decide) gL1251_3 rfl
    have gL1252_4 : jGet L1252 4 = some (.int (i32 (s))) := eL1252 ▸ jg_ne (by decide) gL1251_4 rfl
    have gL1252_5 : jGet L1252 5 = some (.int (i32 (ix))) := eL1252 ▸ jg_ne (by decide) gL1251_5 rfl
    have gL1252_7 : jGet L1252 7 = some (.int (i32 (0))) := eL1252 ▸ jg_ne (by decide) gL1251_7 rfl
    have gL1252_8 : jGet L1252 8 = some (.int (i32 (ks))) := eL1252 ▸ jg_eq
    refine jx_ld (pc_q := 127) (l_q := L1252) (st_q := [.int (i32 (0))]) rfl (jl_iload gL1252_7) ?_
    refine jx_if_ne (pc_q := 130) (tg := 157) rfl rfl rfl (by decide) (by decide) (fun h1253 => ?_) (fun h1253 => ?_)
    · have _q := h1253
      exact absurd h1253 (by omega)
    · have _q := h1253
      refine jx_ld (pc_q := 131) (l_q := L1252) (st_q := [.ref 66]) rfl (jl_aloadn gL1252_0) ?_
      refine jx_ar (pc_q := 133) (st_q := [.int (i32 (38)), .ref 66]) rfl rfl rfl rfl ?_
      refine jx_vr (pc_q := 136) (as := [.int (i32 (38))]) (st := []) rfl rfl rfl rfl ⟨rfl, rfl, Nat.le_of_ble_eq_true rfl⟩ rfl rfl (c_is (dd := d) (hd := by omega) (hW := hWx) (k := 38) (tk := tk1) (e_tk := show Gx 11 = tk1 from (ex_tk1)) (tn := Gx 13) (e_tn := show Gx 13 = Gx 13 from rfl)  (h_k := ⟨(by decide), (by decide)⟩)  ) (fun o V_q hq => ?_)
      obtain ⟨r1254, rfl, rfl, b1255, q1256⟩ := hq
      refine .inr ⟨_, rfl, ?_⟩
      rcases q1256 with ⟨rfl, a1257, a1258, a1259⟩ | rfl
      · have _q : True := trivial
        refine jx_if_ne (pc_q := 139) (tg := 157) rfl rfl rfl (by decide) (by decide) (fun h1260 => ?_) (fun h1260 => ?_)
        · have _q := h1260
          have z1261 := tz_f (tk1)
          exact c_readGuard_w_at_157_1_0 (X := X) (d := d) (Vs := Vs) (sb := sb) (c0 := c0) (c1 := c1) (G := G) (A := A) (T := T) (ln := ln) (le := le) (at0 := at0) (fk := fk) (op0 := op0) (nd := nd) (tk0 := tk0) (li := li) (ec := ec) (sy := sy) (hd := hd) (hW := hW) (e_ln := e_ln) (e_le := e_le) (e_at0 := e_at0) (e_fk := e_fk) (e_op0 := e_op0) (e_nd := e_nd) (e_tk0 := e_tk0) (e_li := e_li) (e_ec := e_ec) (e_sy := e_sy) (i_SV := i_SV) (p_0 := p_0) (p_1 := p_1) (p_2 := p_2) (p_3 := p_3) (p_4 := p_4) L1252 Gx Ax (one) (pl) (s) (ix) (at1) (tk1) (fk1) (nd1) (op1) (ks) (ec1) gL1252_0 gL1252_6 gL1252_7 gL1252_8 gL1252_1 gL1252_3 gL1252_4 gL1252_5 hWx hFx hPx ((ex_at1)) ((ex_tk1)) ((ex_fk1)) ((ex_nd1)) ((ex_op1)) ((ex_ks)) (ex_ec1) ((fx_9)) (by omega) (by omega) (by omega) (by omega) (by omega) (by omega) (by omega) (by omega) (by omega) (by omega) (by omega) (by omega) (by omega) (by omega) (iv_10) (iv_11) (iv_12) (by omega) (by omega) (iv_15)
        · have _q := h1260
          exact absurd h1260 (by omega)
      · have _q : True := trivial
        refine jx_if_ne (pc_q := 139) (tg := 157) rfl rfl rfl (by decide) (by decide) (fun h1262 => ?_) (fun h1262 => ?_)
        · have _q := h1262
          exact absurd h1262 (by omega)
        · have _q := h1262
          refine jx_ld (pc_q := 140) (l_q := L1252) (st_q := [.ref 66]) rfl (jl_aloadn gL1252_0) ?_
          refine jx_vr (pc_q := 143) (as := []) (st := []) rfl rfl rfl rfl ⟨rfl, rfl, Nat.le_of_ble_eq_true rfl⟩ rfl rfl (c_operationAt (dd := d) (hd := by omega) (hW := hWx)  (tk := tk1) (e_tk := show Gx 11 = tk1 from (ex_tk1)) (tn := Gx 13) (e_tn := show Gx 13 = Gx 13 from rfl)    ) (fun o V_q hq => ?_)
          obtain ⟨r1263, rfl, rfl, b1264, q1265⟩ := hq
          refine .inr ⟨_, rfl, ?_⟩
          rcases q1265 with rfl | a1266
          · have _q : True := trivial
            refine jx_if_ne (pc_q := 146) (tg := 157) rfl rfl rfl (by decide) (by decide) (fun h1267 => ?_) (fun h1267 => ?_)
            · have _q := h1267
              exact absurd h1267 (by omega)
            · have _q := h1267
              refine jx_ld (pc_q := 147) (l_q := L1252) (st_q := [.ref 66]) rfl (jl_aloadn gL1252_0) ?_
              refine jx_ar (pc_q := 148) (st_q := [.int (i32 (1)), .ref 66]) rfl rfl rfl rfl ?_
              refine jx_ld (pc_q := 149) (l_q := L1252) (st_q := [.ref 66, .int (i32 (1)), .ref 66]) rfl (jl_aloadn gL1252_0) ?_
              have b1268 : (-3000 : Int) ≤ Gx 12 ∧ Gx 12 ≤ 3002 := hWx.1 12
              refine jr_get (pc_q := 152) (i := 12) (v := .int (i32 (Gx 12))) rfl rfl (by decide) rfl rfl ?_
              refine jx_vr (pc_q := 155) (as := [.int (i32 (1)), .int (i32 (Gx 12))]) (st := []) rfl rfl rfl rfl ⟨rfl, rfl, Nat.le_of_ble_eq_true rfl⟩ rfl rfl (c_fail (dd := d) (hd := by omega) (hW := hWx) (kind := 1) (place := Gx 12) (fk := fk1) (e_fk := show Gx 16 = fk1 from (ex_fk1))  (h_kind := ⟨(by decide), (by decide)⟩) (h_place := ⟨(Int.le_trans (by decide : (-2147483648 : Int) ≤ -3000) b1268.1), (Int.le_trans b1268.2 (by decide : (3002 : Int) ≤ 2147483647))⟩)  (p_0 := by omega) (p_1 := by omega)) (fun o V_q hq => ?_)
              obtain ⟨G1269, A1270, fk2_1271, rfl, rfl, hW1272, hF1273, e1274, p1275, -⟩ := hq
              have hF1277 := Fr_tr hFx hF1273 (Fr_sub (by decide)) (Fr_sub (by decide))
              have hP1278 := Pf_f hPx hF1273 (by decide)
              have sf1279 : ND A1270 (one) (33) (0) (0) (0) (0) (0) (0) := ND_ag (by omega) (Ag_fr hF1273 (by decide)) iv_11
              have sf1280 : wE A1270 Vs sb (20) (ix) (one + 1) (nd1) := wE_ag (by omega) (Sg_fr hF1273 (by decide)) (Ag_fr hF1273 (by decide)) iv_12
              have sf1281 : NdM A1270 (nd) (nd1) (sy) := NdM_f hF1273 (by decide) iv_15
              have ec1282 : ecn A1270 (G1269 31) = ec1 := (ecn_f (hF1273.2 15 rfl) (hF1273.1 31 rfl)).trans ex_ec1
              have bfk2_1271 : (0 : Int) ≤ fk2_1271 ∧ fk2_1271 ≤ 6 := e1274 ▸ hW1272.1 16
              refine .inl ⟨rfl, ?_⟩
              refine jx_ar (pc_q := 156) (st_q := [.int (i32 (0))]) rfl rfl rfl rfl ?_
              refine jx_rt (v := some (.int (i32 (0)))) rfl rfl rfl rfl rfl rfl ?_
              exact ⟨_, _, _, at1, fk2_1271, nd1, ln, ec1, rfl, rfl, hW1272, hF1277, hP1278, by omega, ((hF1273.1 10 rfl).trans (ex_at1)), (e1274), ((hF1273.1 31 rfl).trans (ex_nd1)), ((hF1273.1 9 rfl).trans (fx_9)), ec1282, by omega, by omega, by omega, by omega, by omega, by first | exact Or.inl (⟨by omega, by omega, by omega⟩)⟩
          · have _q : True := trivial
            refine jx_if_ne (pc_q := 146) (tg := 157) rfl rfl rfl (Int.le_trans (by decide : (-2147483648 : Int) ≤ -2147483648) b1264.1) (Int.le_trans b1264.2 (by decide : (2147483647 : Int) ≤ 2147483647)) (fun h1283 => ?_) (fun h1283 => ?_)
            · have _q := h1283
              have z1284 := tz_f (tk1)
              exact c_readGuard_w_at_157_1_0 (X := X) (d := d) (Vs := Vs) (sb := sb) (c0 := c0) (c1 := c1) (G := G) (A := A) (T := T) (ln := ln) (le := le) (at0 := at0) (fk := fk) (op0 := op0) (nd := nd) (tk0 := tk0) (li := li) (ec := ec) (sy := sy) (hd := hd) (hW := hW) (e_ln := e_ln) (e_le := e_le) (e_at0 := e_at0) (e_fk := e_fk) (e_op0 := e_op0) (e_nd := e_nd) (e_tk0 := e_tk0) (e_li := e_li) (e_ec := e_ec) (e_sy := e_sy) (i_SV := i_SV) (p_0 := p_0) (p_1 := p_1) (p_2 := p_2) (p_3 := p_3) (p_4 := p_4) L1252 Gx Ax (one) (pl) (s) (ix) (at1) (tk1) (fk1) (nd1) (op1) (ks) (ec1) gL1252_0 gL1252_6 gL1252_7 gL1252_8 gL1252_1 gL1252_3 gL1252_4 gL1252_5 hWx hFx hPx ((ex_at1)) ((ex_tk1)) ((ex_fk1)) ((ex_nd1)) ((ex_op1)) ((ex_ks)) (ex_ec1) ((fx_9)) (by omega) (by omega) (by omega) (by omega) (by omega) (by omega) (by omega) (by omega) (by omega) (by omega) (by omega) (by omega) (by omega) (by omega) (iv_10) (iv_11) (iv_12) (by omega) (by omega) (iv_15)
            · have _q := h1283
              refine jx_ld (pc_q := 147) (l_q := L1252) (st_q := [.ref 66]) rfl (jl_aloadn gL1252_0) ?_
              refine jx_ar (pc_q := 148) (st_q := [.int (i32 (1)), .ref 66]) rfl rfl rfl rfl ?_
              refine jx_ld (pc_q := 149) (l_q := L1252) (st_q := [.ref 66, .int (i32 (1)), .ref 66]) rfl (jl_aloadn gL1252_0) ?_
              have b1285 : (-3000 : Int) ≤ Gx 12 ∧ Gx 12 ≤ 3002 := hWx.1 12
              refine jr_get (pc_q := 152) (i := 12) (v := .int (i32 (Gx 12))) rfl rfl (by decide) rfl rfl ?_
              refine jx_vr (pc_q := 155) (as := [.int (i32 (1)), .int (i32 (Gx 12))]) (st := []) rfl rfl rfl rfl ⟨rfl, rfl, Nat.le_of_ble_eq_true rfl⟩ rfl rfl (c_fail (dd := d) (hd := by omega) (hW := hWx) (kind := 1) (place := Gx 12) (fk := fk1) (e_fk := show Gx 16 = fk1 from (ex_fk1))  (h_kind := ⟨(by decide), (by decide)⟩) (h_place := ⟨(Int.le_trans (by decide : (-2147483648 : Int) ≤ -3000) b1285.1), (Int.le_trans b1285.2 (by decide : (3002 : Int) ≤ 2147483647))⟩)  (p_0 := by omega) (p_1 := by omega)) (fun o V_q hq => ?_)
              obtain ⟨G1286, A1287, fk2_1288, rfl, rfl, hW1289, hF1290, e1291, p1292, -⟩ := hq
              have hF1294 := Fr_tr hFx hF1290 (Fr_sub (by decide)) (Fr_sub (by decide))
              have hP1295 := Pf_f hPx hF1290 (by decide)
              have sf1296 : ND A1287 (one) (33) (0) (0) (0) (0) (0) (0) := ND_ag (by omega) (Ag_fr hF1290 (by decide)) iv_11
              have sf1297 : wE A1287 Vs sb (20) (ix) (one + 1) (nd1) := wE_ag (by omega) (Sg_fr hF1290 (by decide)) (Ag_fr hF1290 (by decide)) iv_12
              have sf1298 : NdM A1287 (nd) (nd1) (sy) := NdM_f hF1290 (by decide) iv_15
              have ec1299 : ecn A1287 (G1286 31) = ec1 := (ecn_f (hF1290.2 15 rfl) (hF1290.1 31 rfl)).trans ex_ec1
              have bfk2_1288 : (0 : Int) ≤ fk2_1288 ∧ fk2_1288 ≤ 6 := e1291 ▸ hW1289.1 16
              refine .inl ⟨rfl, ?_⟩
              refine jx_ar (pc_q := 156) (st_q := [.int (i32 (0))]) rfl rfl rfl rfl ?_
              refine jx_rt (v := some (.int (i32 (0)))) rfl rfl rfl rfl rfl rfl ?_
              exact ⟨_, _, _, at1, fk2_1288, nd1, ln, ec1, rfl, rfl, hW1289, hF1294, hP1295, by omega, ((hF1290.1 10 rfl).trans (ex_at1)), (e1291), ((hF1290.1 31 rfl).trans (ex_nd1)), ((hF1290.1 9 rfl).trans (fx_9)), ec1299, by omega, by omega, by omega, by omega, by omega, by first | exact Or.inl (⟨by omega, by omega, by omega⟩)⟩
set_option maxRecDepth 20000 in
set_option maxHeartbeats 4000000 in
theorem c_readGuard_w_at_108_0 {X : jX} {d : Nat} {Vs : Nat → Prop} {sb : Int} {c0 c1 : jC} {G : Nat → Int} {A : Nat → Nat → Int} {T : jH} {ln le at0 fk op0 nd tk0 li ec sy : Int} (hd : 71 ≤ d + 1) (hW : Wk G A) (e_ln : G 9 = ln) (e_le : A 4 (ln).toNat = le) (e_at0 : G 10 = at0) (e_fk : G 16 = fk) (e_op0 : G 15 = op0) (e_nd : G 31 = nd) (e_tk0 : G 11 = tk0) (e_li : G 3 = li) (e_ec : ecn A (G 31) = ec) (e_sy : G 19 = sy) (i_SV : SV Vs sb G A) (p_0 : 0 ≤ op0 ∧ op0 ≤ 8) (p_1 : fk = 0) (p_2 : nd ≤ 2 * at0 - tz tk0 + 42) (p_3 : at0 ≤ le) (p_4 : ln < li) : ∀ (L : jL) (Gx : Nat → Int) (Ax : Nat → Nat → Int) (one pl s at1 tk1 fk1 nd1 op1 ks ec1 : Int), jGet L 0 = some (.ref 66) → jGet L 6 = some (.int (i32 (0))) → jGet L 5 = some (.int (i32 (0))) → jGet L 1 = some (.int (i32 one)) → jGet L 3 = some (.int (i32 pl)) → jGet L 4 = some (.int (i32 s)) → Wk Gx Ax → Fr [9, 10, 11, 12, 13, 14, 15, 16, 17, 18, 31] [15, 16, 17, 18, 19, 20, 21, 22, 24, 28] G A Gx Ax → Pf nd A Ax → Gx 10 = at1 → Gx 11 = tk1 → Gx 16 = fk1 → Gx 31 = nd1 → Gx 15 = op1 → Ax 7 (s).toNat = ks → ecn Ax (Gx 31) = ec1 → Gx 9 = ln → ((-2147483648 : Int) ≤ one ∧ one ≤ 2147483647) → ((-2147483648 : Int) ≤ pl ∧ pl ≤ 2147483647) → ((-2147483648 : Int) ≤ s ∧ s ≤ 2147483647) → (at0 ≤ at1) → (at1 ≤ le) → (nd ≤ nd1) → (op1 = op0) → (one = nd) → (one ≤ 6998 ∧ one < nd1) → (fk1 = 0) → (nd1 - nd ≤ (2 * at1 - tz tk1) - (2 * at0 - tz tk0)) → (0 ≤ s ∧ s ≤ 201) → (-3000 ≤ pl ∧ pl ≤ 3002) → (SY Vs sb (s)) → (ND Ax (one) (33) (0) (0) (0) (0) (0) (0)) → (nd1 - nd + 5 * (ec1 - ec) ≤ (2 * at1 - tz tk1) - (2 * at0 - tz tk0) - tz tk1) → (NdM Ax (nd) (nd1) (sy)) → wj X d jm303 (108, L, [], rV c0 c1 Gx Ax T) (fun o V_q => ∃ (G_q : Nat → Int) (A_q : Nat → Nat → Int) (r : Int) (at2 : Int) (fk2 : Int) (nd2 : Int) (ln2 : Int) (ec2 : Int), V_q = rV c0 c1 G_q A_q T ∧ o = .inl (some (.int (i32 r))) ∧ Wk G_q A_q ∧ Fr [9, 10, 11, 12, 13, 14, 15, 16, 17, 18, 31] [15, 16, 17, 18, 19, 20, 21, 22, 24, 28] G A G_q A_q ∧ Pf nd A A_q ∧ ((-2147483648 : Int) ≤ r ∧ r ≤ 2147483647) ∧ G_q 10 = at2 ∧ G_q 16 = fk2 ∧ G_q 31 = nd2 ∧ G_q 9 = ln2 ∧ ecn A_q (G_q 31) = ec2 ∧ (at0 ≤ at2) ∧ (at2 ≤ le) ∧ (nd ≤ nd2) ∧ (0 ≤ r) ∧ (r ≤ nd2) ∧ (((1 ≤ fk2) ∧ (ln2 = ln) ∧ (nd2 - nd ≤ 2 * at2 - 2 * at0 + 12)) ∨ ((fk2 = 0) ∧ (ln2 = ln + 1) ∧ (nd2 - nd ≤ 2 * at2 - (2 * at0 - tz tk0) + 0) ∧ (nd ≤ r) ∧ (r < nd2) ∧ (wU A_q Vs sb (r) (nd) (nd2)) ∧ (NX A_q (r)) ∧ (nd2 - nd + 5 * (ec2 - ec) ≤ 2 * at2 - (2 * at0 - tz tk0) + 0) ∧ (NdM A_q (nd) (nd2) (sy))))) := by
  have hF0 : Fr [9, 10, 11, 12, 13, 14, 15, 16, 17, 18, 31] [15, 16, 17, 18, 19, 20, 21, 22, 24, 28] G A G A := Fr_rf
  have hP0 : Pf nd A A := Pf_rf
  have b_ln : (0 : Int) ≤ ln ∧ ln ≤ 3000 := e_ln ▸ hW.1 9
  have b_le : (0 : Int) ≤ le ∧ le ≤ 3000 := e_le ▸ hW.2 4 _
  have b_at0 : (0 : Int) ≤ at0 ∧ at0 ≤ 3002 := e_at0 ▸ hW.1 10
  have b_fk : (0 : Int) ≤ fk ∧ fk ≤ 6 := e_fk ▸ hW.1 16
  have b_op0 : (-2147483648 : Int) ≤ op0 ∧ op0 ≤ 2147483647 := e_op0 ▸ hW.1 15
  have b_nd : (0 : Int) ≤ nd ∧ nd ≤ 6999 := e_nd ▸ hW.1 31
  have z_tk0 := tz_f tk0
  have b_tk0 : (0 : Int) ≤ tk0 ∧ tk0 ≤ 5 := e_tk0 ▸ hW.1 11
  have b_li : (0 : Int) ≤ li ∧ li ≤ 3000 := e_li ▸ hW.1 3
  have b_sy : (0 : Int) ≤ sy ∧ sy ≤ 202 := e_sy ▸ hW.1 19
  intro L Gx Ax one pl s at1 tk1 fk1 nd1 op1 ks ec1 gL_0 gL_6 gL_5 gL_1 gL_3 gL_4 hWx hFx hPx ex_at1 ex_tk1 ex_fk1 ex_nd1 ex_op1 ex_ks ex_ec1 fx_9 rx_one rx_pl rx_s iv_0 iv_1 iv_2 iv_3 iv_4 iv_5 iv_6 iv_7 iv_8 iv_9 iv_10 iv_11 iv_12 iv_13
  have b_at1 : (0 : Int) ≤ at1 ∧ at1 ≤ 3002 := ex_at1 ▸ hWx.1 10
  have z_tk1 := tz_f tk1
  have b_tk1 : (0 : Int) ≤ tk1 ∧ tk1 ≤ 5 := ex_tk1 ▸ hWx.1 11
  have b_fk1 : (0 : Int) ≤ fk1 ∧ fk1 ≤ 6 := ex_fk1 ▸ hWx.1 16
  have b_nd1 : (0 : Int) ≤ nd1 ∧ nd1 ≤ 6999 := ex_nd1 ▸ hWx.1 31
  have b_op1 : (-2147483648 : Int) ≤ op1 ∧ op1 ≤ 2147483647 := ex_op1 ▸ hWx.1 15
  have b_ks : (0 : Int) ≤ ks ∧ ks ≤ 14 := ex_ks ▸ hWx.2 7 _
  refine jx_ld (pc_q := 109) (l_q := L) (st_q := [.ref 66]) rfl (jl_aloadn gL_0) ?_
  refine jx_ar (pc_q := 111) (st_q := [.int (i32 (63)), .ref 66]) rfl rfl rfl rfl ?_
  have b1300 : (-2147483648 : Int) ≤ Gx 13 ∧ Gx 13 ≤ 2147483647 := hWx.1 13
  refine jx_vr (pc_q := 114) (as := [.int (i32 (63))]) (st := []) rfl rfl rfl rfl ⟨rfl, rfl, Nat.le_of_ble_eq_true rfl⟩ rfl rfl (c_is (dd := d) (hd := by omega) (hW := hWx) (k := 63) (tk := tk1) (e_tk := show Gx 11 = tk1 from (ex_tk1)) (tn := Gx 13) (e_tn := show Gx 13 = Gx 13 from rfl)  (h_k := ⟨(by decide), (by decide)⟩)  ) (fun o V_q hq => ?_)
  obtain ⟨r1301, rfl, rfl, b1302, q1303⟩ := hq
  refine .inr ⟨_, rfl, ?_⟩
  rcases q1303 with ⟨rfl, a1304, a1305, a1306⟩ | rfl
  · have _q : True := trivial
    refine jx_ld (pc_q := 116) (l_q := jSto1 L 7 (.int (i32 (1)))) (st_q := []) rfl rfl ?_
    obtain ⟨L1307, eL1307⟩ : ∃ q, q = jSto1 L 7 (.int (i32 (1))) := ⟨_, rfl⟩
    rw [← eL1307]
    have gL1307_0 : jGet L1307 0 = some (.ref 66) := eL1307 ▸ jg_ne (by decide) gL_0 rfl
    have gL1307_6 : jGet L1307 6 = some (.int (i32 (0))) := eL1307 ▸ jg_ne (by decide) gL_6 rfl
    have gL1307_5 : jGet L1307 5 = some (.int (i32 (0))) := eL1307 ▸ jg_ne (by decide) gL_5 rfl
    have gL1307_1 : jGet L1307 1 = some (.int (i32 (one))) := eL1307 ▸ jg_ne (by decide) gL_1 rfl
    have gL1307_3 : jGet L1307 3 = some (.int (i32 (pl))) := eL1307 ▸ jg_ne (by decide) gL_3 rfl
    have gL1307_4 : jGet L1307 4 = some (.int (i32 (s))) := eL1307 ▸ jg_ne (by decide) gL_4 rfl
    have gL1307_7 : jGet L1307 7 = some (.int (i32 (1))) := eL1307 ▸ jg_eq
    refine jx_ld (pc_q := 117) (l_q := L1307) (st_q := [.ref 66]) rfl (jl_aloadn gL1307_0) ?_
    refine jr_get (pc_q := 120) (i := 21) (v := .ref 74) rfl rfl (by decide) rfl rfl ?_
    refine jx_ld (pc_q := 122) (l_q := L1307) (st_q := [.int (i32 (s)), .ref 74]) rfl (jl_iload gL1307_4) ?_
    refine jr_ldv (pc_q := 123) (i := 7) (m := 260) (z := s) (y := ks) rfl (by decide) rfl (by decide) (by omega) (by omega) rfl (show Ax 7 (s).toNat = ks from (ex_ks)) ?_
    refine jx_ld (pc_q := 125) (l_q := jSto1 L1307 8 (.int (i32 (ks)))) (st_q := []) rfl rfl ?_
    obtain ⟨L1308, eL1308⟩ : ∃ q, q = jSto1 L1307 8 (.int (i32 (ks))) := ⟨_, rfl⟩
    rw [← eL1308]
    have gL1308_0 : jGet L1308 0 = some (.ref 66) := eL1308 ▸ jg_ne (by decide) gL1307_0 rfl
    have gL1308_6 : jGet L1308 6 = some (.int (i32 (0))) := eL1308 ▸ jg_ne (by decide) gL1307_6 rfl
    have gL1308_5 : jGet L1308 5 = some (.int (i32 (0))) := eL1308 ▸ jg_ne (by decide) gL1307_5 rfl
    have gL1308_1 : jGet L1308 1 = some (.int (i32 (one))) := eL1308 ▸ jg_ne (by decide) gL1307_1 rfl
    have gL1308_3 : jGet L1308 3 = some (.int (i32 (pl))) := eL1308 ▸ jg_ne (by decide) gL1307_3 rfl
    have gL1308_4 : jGet L1308 4 = some (.int (i32 (s))) := eL1308 ▸ jg_ne (by decide) gL1307_4 rfl
    have gL1308_7 : jGet L1308 7 = some (.int (i32 (1))) := eL1308 ▸ jg_ne (by decide) gL1307_7 rfl
    have gL1308_8 : jGet L1308 8 = some (.int (i32 (ks))) := eL1308 ▸ jg_eq
    refine jx_ld (pc_q := 127) (l_q := L1308) (st_q := [.int (i32 (1))]) rfl (jl_iload gL1308_7) ?_
    refine jx_if_ne (pc_q := 130) (tg := 157) rfl rfl rfl (by decide) (by decide) (fun h1309 => ?_) (fun h1309 => ?_)
    · have _q := h1309
      have z1310 := tz_f (tk1)
      exact c_readGuard_w_at_157_0_1 (X := X) (d := d) (Vs := Vs) (sb := sb) (c0 := c0) (c1 := c1) (G := G) (A := A) (T := T) (ln := ln) (le := le) (at0 := at0) (fk := fk) (op0 := op0) (nd := nd) (tk0 := tk0) (li := li) (ec := ec) (sy := sy) (hd := hd) (hW := hW) (e_ln := e_ln) (e_le := e_le) (e_at0 := e_at0) (e_fk := e_fk) (e_op0 := e_op0) (e_nd := e_nd) (e_tk0 := e_tk0) (e_li := e_li) (e_ec := e_ec) (e_sy := e_sy) (i_SV := i_SV) (p_0 := p_0) (p_1 := p_1) (p_2 := p_2) (p_3 := p_3) (p_4 := p_4) L1308 Gx Ax (one) (pl) (s) (at1) (tk1) (fk1) (nd1) (op1) (ks) (ec1) gL1308_0 gL1308_6 gL1308_7 gL1308_8 gL1308_5 gL1308_1 gL1308_3 gL1308_4 hWx hFx hPx ((ex_at1)) ((ex_tk1)) ((ex_fk1)) ((ex_nd1)) ((ex_op1)) ((ex_ks)) (ex_ec1) ((fx_9)) (by omega) (by omega) (by omega) (by omega) (by omega) (by omega) (by omega) (by omega) (by omega) (by omega) (by omega) (by omega) (by omega) (iv_10) (iv_11) (by omega) (by omega) (iv_13)
    · have _q := h1309
      exact absurd h1309 (by omega)
  · have _q : True := trivial
    refine jx_ld (pc_q := 116) (l_q := jSto1 L 7 (.int (i32 (0)))) (st_q := []) rfl rfl ?_
    obtain ⟨L1311, eL1311⟩ : ∃ q, q = jSto1 L 7 (.int (i32 (0))) := ⟨_, rfl⟩
    rw [← eL1311]
    have gL1311_0 : jGet L1311 0 = some (.ref 66) := eL1311 ▸ jg_ne (by decide) gL_0 rfl
    have gL1311_6 : jGet L1311 6 = some (.int (i32 (0))) := eL1311 ▸ jg_ne (by decide) gL_6 rfl
    have gL1311_5 : jGet L1311 5 = some (.int (i32 (0))) := eL1311 ▸ jg_ne (by decide) gL_5 rfl
    have gL1311_1 : jGet L1311 1 = some (.int (i32 (one))) := eL1311 ▸ jg_ne (by decide) gL_1 rfl
    have gL1311_3 : jGet L1311 3 = some (.int (i32 (pl))) := eL1311 ▸ jg_ne (by decide) gL_3 rfl
    have gL1311_4 : jGet L1311 4 = some (.int (i32 (s))) := eL1311 ▸ jg_ne (by decide) gL_4 rfl
    have gL1311_7 : jGet L1311 7 = some (.int (i32 (0))) := eL1311 ▸ jg_eq
    refine jx_ld (pc_q := 117) (l_q := L1311) (st_q := [.ref 66]) rfl (jl_aloadn gL1311_0) ?_
    refine jr_get (pc_q := 120) (i := 21) (v := .ref 74) rfl rfl (by decide) rfl rfl ?_
    refine jx_ld (pc_q := 122) (l_q := L1311) (st_q := [.int (i32 (s)), .ref 74]) rfl (jl_iload gL1311_4) ?_
    refine jr_ldv (pc_q := 123) (i := 7) (m := 260) (z := s) (y := ks) rfl (by decide) rfl (by decide) (by omega) (by omega) rfl (show Ax 7 (s).toNat = ks from (ex_ks)) ?_
    refine jx_ld (pc_q := 125) (l_q := jSto1 L1311 8 (.int (i32 (ks)))) (st_q := []) rfl rfl ?_
    obtain ⟨L1312, eL1312⟩ : ∃ q, q = jSto1 L1311 8 (.int (i32 (ks))) := ⟨_, rfl⟩
    rw [← eL1312]
    have gL1312_0 : jGet L1312 0 = some (.ref 66) := eL1312 ▸ jg_ne (by decide) gL1311_0 rfl
    have gL1312_6 : jGet L1312 6 = some (.int (i32 (0))) := eL1312 ▸ jg_ne (by decide) gL1311_6 rfl
    have gL1312_5 : jGet L1312 5 = some (.int (i32 (0))) := eL1312 ▸ jg_ne (by decide) gL1311_5 rfl
    have gL1312_1 : jGet L1312 1 = some (.int (i32 (one))) := eL1312 ▸ jg_ne (by decide) gL1311_1 rfl
    have gL1312_3 : jGet L1312 3 = some (.int (i32 (pl))) := eL1312 ▸ jg_ne (by decide) gL1311_3 rfl
    have gL1312_4 : jGet L1312 4 = some (.int (i32 (s))) := eL1312 ▸ jg_ne (by decide) gL1311_4 rfl
    have gL1312_7 : jGet L1312 7 = some (.int (i32 (0))) := eL1312 ▸ jg_ne (by decide) gL1311_7 rfl
    have gL1312_8 : jGet L1312 8 = some (.int (i32 (ks))) := eL1312 ▸ jg_eq
    refine jx_ld (pc_q := 127) (l_q := L1312) (st_q := [.int (i32 (0))]) rfl (jl_iload gL1312_7) ?_
    refine jx_if_ne (pc_q := 130) (tg := 157) rfl rfl rfl (by decide) (by decide) (fun h1313 => ?_) (fun h1313 => ?_)
    · have _q := h1313
      exact absurd h1313 (by omega)
    · have _q := h1313
      refine jx_ld (pc_q := 131) (l_q := L1312) (st_q := [.ref 66]) rfl (jl_aloadn gL1312_0) ?_
      refine jx_ar (pc_q := 133) (st_q := [.int (i32 (38)), .ref 66]) rfl rfl rfl rfl ?_
      refine jx_vr (pc_q := 136) (as := [.int (i32 (38))]) (st := []) rfl rfl rfl rfl ⟨rfl, rfl, Nat.le_of_ble_eq_true rfl⟩ rfl rfl (c_is (dd := d) (hd := by omega) (hW := hWx) (k := 38) (tk := tk1) (e_tk := show Gx 11 = tk1 from (ex_tk1)) (tn := Gx 13) (e_tn := show Gx 13 = Gx 13 from rfl)  (h_k := ⟨(by decide), (by decide)⟩)  ) (fun o V_q hq => ?_)
      obtain ⟨r1314, rfl, rfl, b1315, q1316⟩ := hq
      refine .inr ⟨_, rfl, ?_⟩
      rcases q1316 with ⟨rfl, a1317, a1318, a1319⟩ | rfl
      · have _q : True := trivial
        refine jx_if_ne (pc_q := 139) (tg := 157) rfl rfl rfl (by decide) (by decide) (fun h1320 => ?_) (fun h1320 => ?_)
        · have _q := h1320
          have z1321 := tz_f (tk1)
          exact c_readGuard_w_at_157_0_0 (X := X) (d := d) (Vs := Vs) (sb := sb) (c0 := c0) (c1 := c1) (G := G) (A := A) (T := T) (ln := ln) (le := le) (at0 := at0) (fk := fk) (op0 := op0) (nd := nd) (tk0 := tk0) (li := li) (ec := ec) (sy := sy) (hd := hd) (hW := hW) (e_ln := e_ln) (e_le := e_le) (e_at0 := e_at0) (e_fk := e_fk) (e_op0 := e_op0) (e_nd := e_nd) (e_tk0 := e_tk0) (e_li := e_li) (e_ec := e_ec) (e_sy := e_sy) (i_SV := i_SV) (p_0 := p_0) (p_1 := p_1) (p_2 := p_2) (p_3 := p_3) (p_4 := p_4) L1312 Gx Ax (one) (pl) (s) (at1) (tk1) (fk1) (nd1) (op1) (ks) (ec1) gL1312_0 gL1312_6 gL1312_7 gL1312_8 gL1312_5 gL1312_1 gL1312_3 gL1312_4 hWx hFx hPx ((ex_at1)) ((ex_tk1)) ((ex_fk1)) ((ex_nd1)) ((ex_op1)) ((ex_ks)) (ex_ec1) ((fx_9)) (by omega) (by omega) (by omega) (by omega) (by omega) (by omega) (by omega) (by omega) (by omega) (by omega) (by omega) (by omega) (by omega) (iv_10) (iv_11) (by omega) (iv_13)
        · have _q := h1320
          exact absurd h1320 (by omega)
      · have _q : True := trivial
        refine jx_if_ne (pc_q := 139) (tg := 157) rfl rfl rfl (by decide) (by decide) (fun h1322 => ?_) (fun h1322 => ?_)
        · have _q := h1322
          exact absurd h1322 (by omega)
        · have _q := h1322
          refine jx_ld (pc_q := 140) (l_q := L1312) (st_q := [.ref 66]) rfl (jl_aloadn gL1312_0) ?_
          refine jx_vr (pc_q := 143) (as := []) (st := []) rfl rfl rfl rfl ⟨rfl, rfl, Nat.le_of_ble_eq_true rfl⟩ rfl rfl (c_operationAt (dd := d) (hd := by omega) (hW := hWx)  (tk := tk1) (e_tk := show Gx 11 = tk1 from (ex_tk1)) (tn := Gx 13) (e_tn := show Gx 13 = Gx 13 from rfl)    ) (fun o V_q hq => ?_)
          obtain ⟨r1323, rfl, rfl, b1324, q1325⟩ := hq
          refine .inr ⟨_, rfl, ?_⟩
          rcases q1325 with rfl | a1326
          · have _q : True := trivial
            refine jx_if_ne (pc_q := 146) (tg := 157) rfl rfl rfl (by decide) (by decide) (fun h1327 => ?_) (fun h1327 => ?_)
            · have _q := h1327
              exact absurd h1327 (by omega)
            · have _q := h1327
              refine jx_ld (pc_q := 147) (l_q := L1312) (st_q := [.ref 66]) rfl (jl_aloadn gL1312_0) ?_
              refine jx_ar (pc_q := 148) (st_q := [.int (i32 (1)), .ref 66]) rfl rfl rfl rfl ?_
              refine jx_ld (pc_q := 149) (l_q := L1312) (st_q := [.ref 66, .int (i32 (1)), .ref 66]) rfl (jl_aloadn gL1312_0) ?_
              have b1328 : (-3000 : Int) ≤ Gx 12 ∧ Gx 12 ≤ 3002 := hWx.1 12
              refine jr_get (pc_q := 152) (i := 12) (v := .int (i32 (Gx 12))) rfl rfl (by decide) rfl rfl ?_
              refine jx_vr (pc_q := 155) (as := [.int (i32 (1)), .int (i32 (Gx 12))]) (st := []) rfl rfl rfl rfl ⟨rfl, rfl, Nat.le_of_ble_eq_true rfl⟩ rfl rfl (c_fail (dd := d) (hd := by omega) (hW := hWx) (kind := 1) (place := Gx 12) (fk := fk1) (e_fk := show Gx 16 = fk1 from (ex_fk1))  (h_kind := ⟨(by decide), (by decide)⟩) (h_place := ⟨(Int.le_trans (by decide : (-2147483648 : Int) ≤ -3000) b1328.1), (Int.le_trans b1328.2 (by decide : (3002 : Int) ≤ 2147483647))⟩)  (p_0 := by omega) (p_1 := by omega)) (fun o V_q hq => ?_)
              obtain ⟨G1329, A1330, fk2_1331, rfl, rfl, hW1332, hF1333, e1334, p1335, -⟩ := hq
              have hF1337 := Fr_tr hFx hF1333 (Fr_sub (by decide)) (Fr_sub (by decide))
              have hP1338 := Pf_f hPx hF1333 (by decide)
              have sf1339 : ND A1330 (one) (33) (0) (0) (0) (0) (0) (0) := ND_ag (by omega) (Ag_fr hF1333 (by decide)) iv_11
              have sf1340 : NdM A1330 (nd) (nd1) (sy) := NdM_f hF1333 (by decide) iv_13
              have ec1341 : ecn A1330 (G1329 31) = ec1 := (ecn_f (hF1333.2 15 rfl) (hF1333.1 31 rfl)).trans ex_ec1
              have bfk2_1331 : (0 : Int) ≤ fk2_1331 ∧ fk2_1331 ≤ 6 := e1334 ▸ hW1332.1 16
              refine .inl ⟨rfl, ?_⟩
              refine jx_ar (pc_q := 156) (st_q := [.int (i32 (0))]) rfl rfl rfl rfl ?_
              refine jx_rt (v := some (.int (i32 (0)))) rfl rfl rfl rfl rfl rfl ?_
              exact ⟨_, _, _, at1, fk2_1331, nd1, ln, ec1, rfl, rfl, hW1332, hF1337, hP1338, by omega, ((hF1333.1 10 rfl).trans (ex_at1)), (e1334), ((hF1333.1 31 rfl).trans (ex_nd1)), ((hF1333.1 9 rfl).trans (fx_9)), ec1341, by omega, by omega, by omega, by omega, by omega, by first | exact Or.inl (⟨by omega, by omega, by omega⟩)⟩
          · have _q : True := trivial
            refine jx_if_ne (pc_q := 146) (tg := 157) rfl rfl rfl (Int.le_trans (by decide : (-2147483648 : Int) ≤ -2147483648) b1324.1) (Int.le_trans b1324.2 (by decide : (2147483647 : Int) ≤ 2147483647)) (fun h1342 => ?_) (fun h1342 => ?_)
            · have _q := h1342
              have z1343 := tz_f (tk1)
              exact c_readGuard_w_at_157_0_0 (X := X) (d := d) (Vs := Vs) (sb := sb) (c0 := c0) (c1 := c1) (G := G) (A := A) (T := T) (ln := ln) (le := le) (at0 := at0) (fk := fk) (op0 := op0) (nd := nd) (tk0 := tk0) (li := li) (ec := ec) (sy := sy) (hd := hd) (hW := hW) (e_ln := e_ln) (e_le := e_le) (e_at0 := e_at0) (e_fk := e_fk) (e_op0 := e_op0) (e_nd := e_nd) (e_tk0 := e_tk0) (e_li := e_li) (e_ec := e_ec) (e_sy := e_sy) (i_SV := i_SV) (p_0 := p_0) (p_1 := p_1) (p_2 := p_2) (p_3 := p_3) (p_4 := p_4) L1312 Gx Ax (one) (pl) (s) (at1) (tk1) (fk1) (nd1) (op1) (ks) (ec1) gL1312_0 gL1312_6 gL1312_7 gL1312_8 gL1312_5 gL1312_1 gL1312_3 gL1312_4 hWx hFx hPx ((ex_at1)) ((ex_tk1)) ((ex_fk1)) ((ex_nd1)) ((ex_op1)) ((ex_ks)) (ex_ec1) ((fx_9)) (by omega) (by omega) (by omega) (by omega) (by omega) (by omega) (by omega) (by omega) (by omega) (by omega) (by omega) (by omega) (by omega) (iv_10) (iv_11) (by omega) (iv_13)
            · have _q := h1342
              refine jx_ld (pc_q := 147) (l_q := L1312) (st_q := [.ref 66]) rfl (jl_aloadn gL1312_0) ?_
              refine jx_ar (pc_q := 148) (st_q := [.int (i32 (1)), .ref 66]) rfl rfl rfl rfl ?_
              refine jx_ld (pc_q := 149) (l_q := L1312) (st_q := [.ref 66, .int (i32 (1)), .ref 66]) rfl (jl_aloadn gL1312_0) ?_
              have b1344 : (-3000 : Int) ≤ Gx 12 ∧ Gx 12 ≤ 3002 := hWx.1 12
              refine jr_get (pc_q := 152) (i := 12) (v := .int (i32 (Gx 12))) rfl rfl (by decide) rfl rfl ?_
              refine jx_vr (pc_q := 155) (as := [.int (i32 (1)), .int (i32 (Gx 12))]) (st := []) rfl rfl rfl rfl ⟨rfl, rfl, Nat.le_of_ble_eq_true rfl⟩ rfl rfl (c_fail (dd := d) (hd := by omega) (hW := hWx) (kind := 1) (place := Gx 12) (fk := fk1) (e_fk := show Gx 16 = fk1 from (ex_fk1))  (h_kind := ⟨(by decide), (by decide)⟩) (h_place := ⟨(Int.le_trans (by decide : (-2147483648 : Int) ≤ -3000) b1344.1), (Int.le_trans b1344.2 (by decide : (3002 : Int) ≤ 2147483647))⟩)  (p_0 := by omega) (p_1 := by omega)) (fun o V_q hq => ?_)
              obtain ⟨G1345, A1346, fk2_1347, rfl, rfl, hW1348, hF1349, e1350, p1351, -⟩ := hq
              have hF1353 := Fr_tr hFx hF1349 (Fr_sub (by decide)) (Fr_sub (by decide))
              have hP1354 := Pf_f hPx hF1349 (by decide)
              have sf1355 : ND A1346 (one) (33) (0) (0) (0) (0) (0) (0) := ND_ag (by omega) (Ag_fr hF1349 (by decide)) iv_11
              have sf1356 : NdM A1346 (nd) (nd1) (sy) := NdM_f hF1349 (by decide) iv_13
              have ec1357 : ecn A1346 (G1345 31) = ec1 := (ecn_f (hF1349.2 15 rfl) (hF1349.1 31 rfl)).trans ex_ec1
              have bfk2_1347 : (0 : Int) ≤ fk2_1347 ∧ fk2_1347 ≤ 6 := e1350 ▸ hW1348.1 16
              refine .inl ⟨rfl, ?_⟩
              refine jx_ar (pc_q := 156) (st_q := [.int (i32 (0))]) rfl rfl rfl rfl ?_
              refine jx_rt (v := some (.int (i32 (0)))) rfl rfl rfl rfl rfl rfl ?_
              exact ⟨_, _, _, at1, fk2_1347, nd1, ln, ec1, rfl, rfl, hW1348, hF1353, hP1354, by omega, ((hF1349.1 10 rfl).trans (ex_at1)), (e1350), ((hF1349.1 31 rfl).trans (ex_nd1)), ((hF1349.1 9 rfl).trans (fx_9)), ec1357, by omega, by omega, by omega, by omega, by omega, by first | exact Or.inl (⟨by omega, by omega, by omega⟩)⟩
set_option maxRecDepth 20000 in
set_option maxHeartbeats 4000000 in
theorem c_readGuard_w {X : jX} {dd : Nat} {Vs : Nat → Prop} {sb : Int} {c0 c1 : jC} {G : Nat → Int} {A : Nat → Nat → Int} {T : jH} {ln le at0 fk op0 nd tk0 li ec sy : Int} (hd : 71 ≤ dd) (hW : Wk G A) (e_ln : G 9 = ln) (e_le : A 4 (ln).toNat = le) (e_at0 : G 10 = at0) (e_fk : G 16 = fk) (e_op0 : G 15 = op0) (e_nd : G 31 = nd) (e_tk0 : G 11 = tk0) (e_li : G 3 = li) (e_ec : ecn A (G 31) = ec) (e_sy : G 19 = sy) (i_SV : SV Vs sb G A) (p_0 : 0 ≤ op0 ∧ op0 ≤ 8) (p_1 : fk = 0) (p_2 : nd ≤ 2 * at0 - tz tk0 + 42) (p_3 : at0 ≤ le) (p_4 : ln < li) : wk X dd 303 [.ref 66] (rV c0 c1 G A T) (fun o V_q => ∃ (G_q : Nat → Int) (A_q : Nat → Nat → Int) (r : Int) (at2 : Int) (fk2 : Int) (nd2 : Int) (ln2 : Int) (ec2 : Int), V_q = rV c0 c1 G_q A_q T ∧ o = .inl (some (.int (i32 r))) ∧ Wk G_q A_q ∧ Fr [9, 10, 11, 12, 13, 14, 15, 16, 17, 18, 31] [15, 16, 17, 18, 19, 20, 21, 22, 24, 28] G A G_q A_q ∧ Pf nd A A_q ∧ ((-2147483648 : Int) ≤ r ∧ r ≤ 2147483647) ∧ G_q 10 = at2 ∧ G_q 16 = fk2 ∧ G_q 31 = nd2 ∧ G_q 9 = ln2 ∧ ecn A_q (G_q 31) = ec2 ∧ (at0 ≤ at2) ∧ (at2 ≤ le) ∧ (nd ≤ nd2) ∧ (0 ≤ r) ∧ (r ≤ nd2) ∧ (((1 ≤ fk2) ∧ (ln2 = ln) ∧ (nd2 - nd ≤ 2 * at2 - 2 * at0 + 12)) ∨ ((fk2 = 0) ∧ (ln2 = ln + 1) ∧ (nd2 - nd ≤ 2 * at2 - (2 * at0 - tz tk0) + 0) ∧ (nd ≤ r) ∧ (r < nd2) ∧ (wU A_q Vs sb (r) (nd) (nd2)) ∧ (NX A_q (r)) ∧ (nd2 - nd + 5 * (ec2 - ec) ≤ 2 * at2 - (2 * at0 - tz tk0) + 0) ∧ (NdM A_q (nd) (nd2) (sy))))) := by
  obtain ⟨d, rfl⟩ : ∃ d, dd = d + 1 := ⟨dd - 1, by omega⟩
  refine wk_of (e := jm303) rfl (Nat.le_of_ble_eq_true rfl) ?_
  show wj X d jm303 (0, [(0, .ref 66)], [], rV c0 c1 G A T) _
  have hF0 : Fr [9, 10, 11, 12, 13, 14, 15, 16, 17, 18, 31] [15, 16, 17, 18, 19, 20, 21, 22, 24, 28] G A G A := Fr_rf
  have hP0 : Pf nd A A := Pf_rf
  have b_ln : (0 : Int) ≤ ln ∧ ln ≤ 3000 := e_ln ▸ hW.1 9
  have b_le : (0 : Int) ≤ le ∧ le ≤ 3000 := e_le ▸ hW.2 4 _
  have b_at0 : (0 : Int) ≤ at0 ∧ at0 ≤ 3002 := e_at0 ▸ hW.1 10
  have b_fk : (0 : Int) ≤ fk ∧ fk ≤ 6 := e_fk ▸ hW.1 16
  have b_op0 : (-2147483648 : Int) ≤ op0 ∧ op0 ≤ 2147483647 := e_op0 ▸ hW.1 15
  have b_nd : (0 : Int) ≤ nd ∧ nd ≤ 6999 := e_nd ▸ hW.1 31
  have z_tk0 := tz_f tk0
  have b_tk0 : (0 : Int) ≤ tk0 ∧ tk0 ≤ 5 := e_tk0 ▸ hW.1 11
  have b_li : (0 : Int) ≤ li ∧ li ≤ 3000 := e_li ▸ hW.1 3
  have b_sy : (0 : Int) ≤ sy ∧ sy ≤ 202 := e_sy ▸ hW.1 19
  refine jx_ld (pc_q := 1) (l_q := [(0, .ref 66)]) (st_q := [.ref 66]) rfl (jl_aloadn rfl) ?_
  refine jx_ar (pc_q := 3) (st_q := [.int (i32 (33)), .ref 66]) rfl rfl rfl rfl ?_
  refine jx_ar (pc_q := 4) (st_q := [.int (i32 (0)), .int (i32 (33)), .ref 66]) rfl rfl rfl rfl ?_
  refine jx_ar (pc_q := 5) (st_q := [.int (i32 (0)), .int (i32 (0)), .int (i32 (33)), .ref 66]) rfl rfl rfl rfl ?_
  refine jx_ar (pc_q := 6) (st_q := [.int (i32 (0)), .int (i32 (0)), .int (i32 (0)), .int (i32 (33)), .ref 66]) rfl rfl rfl rfl ?_
  refine jx_ar (pc_q := 7) (st_q := [.int (i32 (0)), .int (i32 (0)), .int (i32 (0)), .int (i32 (0)), .int (i32 (33)), .ref 66]) rfl rfl rfl rfl ?_
  refine jx_vr (pc_q := 10) (as := [.int (i32 (33)), .int (i32 (0)), .int (i32 (0)), .int (i32 (0)), .int (i32 (0))]) (st := []) rfl rfl rfl rfl ⟨rfl, rfl, Nat.le_of_ble_eq_true rfl⟩ rfl rfl (c_node_l (dd := d) (hd := by omega) (hW := hW) (kind := 33) (a := 0) (b := 0) (c := 0) (e := 0) (nd := nd) (e_nd := show G 31 = nd from (e_nd)) (ec := ec) (e_ec := show ecn A (G 31) = ec from e_ec) (sy := sy) (e_sy := show G 19 = sy from (e_sy)) (ln := ln) (e_ln := show G 9 = ln from (e_ln)) (li := li) (e_li := show G 3 = li from (e_li))  (h_kind := ⟨(by decide), (by decide)⟩) (h_a := ⟨(by decide), (by decide)⟩) (h_b := ⟨(by decide), (by decide)⟩) (h_c := ⟨(by decide), (by decide)⟩) (h_e := ⟨(by decide), (by decide)⟩)  (p_0 := by omega) (p_1 := by omega) (p_2 := by omega) (p_3 := by omega)) (fun o V_q hq => ?_)
  obtain ⟨G1358, A1359, nd2_1360, ec2_1361, rfl, rfl, hW1362, hF1363, hQ1364, e1365, e1366, p1367, p1368, p1369, p1370, -⟩ := hq
  have hF1372 := Fr_tr hF0 hF1363 (Fr_sub (by decide)) (Fr_sub (by decide))
  have hP1373 := Pf_tr hP0 hQ1364 (by omega)
  have bnd2_1360 : (0 : Int) ≤ nd2_1360 ∧ nd2_1360 ≤ 6999 := e1365 ▸ hW1362.1 31
  refine .inr ⟨_, rfl, ?_⟩
  refine jx_ld (pc_q := 11) (l_q := jSto1 [(0, .ref 66)] 1 (.int (i32 (nd)))) (st_q := []) rfl rfl ?_
  obtain ⟨L1374, eL1374⟩ : ∃ q, q = jSto1 [(0, .ref 66)] 1 (.int (i32 (nd))) := ⟨_, rfl⟩
  rw [← eL1374]
  have gL1374_0 : jGet L1374 0 = some (.ref 66) := eL1374 ▸ jg_ne (by decide) (rfl : jGet [(0, .ref 66)] 0 = some (.ref 66)) rfl
  have gL1374_1 : jGet L1374 1 = some (.int (i32 (nd))) := eL1374 ▸ jg_eq
  refine jx_ar (pc_q := 12) (st_q := [.int (i32 (0))]) rfl rfl rfl rfl ?_
  refine jx_ld (pc_q := 13) (l_q := jSto1 L1374 2 (.int (i32 (0)))) (st_q := []) rfl rfl ?_
  obtain ⟨L1375, eL1375⟩ : ∃ q, q = jSto1 L1374 2 (.int (i32 (0))) := ⟨_, rfl⟩
  rw [← eL1375]
  have gL1375_0 : jGet L1375 0 = some (.ref 66) := eL1375 ▸ jg_ne (by decide) gL1374_0 rfl
  have gL1375_1 : jGet L1375 1 = some (.int (i32 (nd))) := eL1375 ▸ jg_ne (by decide) gL1374_1 rfl
  have gL1375_2 : jGet L1375 2 = some (.int (i32 (0))) := eL1375 ▸ jg_eq
  refine jx_ld (pc_q := 14) (l_q := L1375) (st_q := [.ref 66]) rfl (jl_aloadn gL1375_0) ?_
  have z1376 := tz_f (tk0)
  refine jr_get (pc_q := 17) (i := 11) (v := .int (i32 (tk0))) rfl rfl (by decide) (rFv_eq (by decide) (show G1358 11 = tk0 from ((hF1363.1 11 rfl).trans (e_tk0)))) rfl ?_
  refine jx_ar (pc_q := 18) (st_q := [.int (i32 (1)), .int (i32 (tk0))]) rfl rfl rfl rfl ?_
  refine jx_icmp_ne (pc_q := 21) (tg := 288) rfl rfl rfl (Int.le_trans (by decide : (-2147483648 : Int) ≤ 0) b_tk0.1) (Int.le_trans b_tk0.2 (by decide : (5 : Int) ≤ 2147483647)) (by decide) (by decide) (fun h1377 => ?_) (fun h1377 => ?_)
  · have _q := h1377
    refine jx_ld (pc_q := 289) (l_q := L1375) (st_q := [.ref 66]) rfl (jl_aloadn gL1375_0) ?_
    refine jx_vr (pc_q := 292) (as := []) (st := []) rfl rfl rfl rfl ⟨rfl, rfl, Nat.le_of_ble_eq_true rfl⟩ rfl rfl (REw_all X 9 (dd := d) (hd := by omega) (hW := hW1362)  (ln := ln) (e_ln := show G1358 9 = ln from ((hF1363.1 9 rfl).trans (e_ln))) (le := le) (e_le := show A1359 4 (ln).toNat = le from (congrFun (hF1363.2 4 rfl) _).trans (e_le)) (at0 := at0) (e_at0 := show G1358 10 = at0 from ((hF1363.1 10 rfl).trans (e_at0))) (fk := fk) (e_fk := show G1358 16 = fk from ((hF1363.1 16 rfl).trans (e_fk))) (op0 := op0) (e_op0 := show G1358 15 = op0 from ((hF1363.1 15 rfl).trans (e_op0))) (nd := nd2_1360) (e_nd := show G1358 31 = nd2_1360 from (e1365)) (tk0 := tk0) (e_tk0 := show G1358 11 = tk0 from ((hF1363.1 11 rfl).trans (e_tk0))) (ec := ec2_1361) (e_ec := show ecn A1359 (G1358 31) = ec2_1361 from e1366) (sy := sy) (e_sy := show G1358 19 = sy from ((hF1363.1 19 rfl).trans (e_sy))) (i_SV := (SV_ext ((hF1363.1 29 rfl)) ((hF1363.2 14 rfl)) i_SV))   (p_0 := by omega) (p_1 := by omega) (p_2 := by omega) (p_3 := by omega) (p_4 := by omega) (p_5 := by omega)) (fun o V_q hq => ?_)
    obtain ⟨G1378, A1379, r1380, at2_1381, fk2_1382, op2_1383, nd2_1384, tk2_1385, ec2_1386, rfl, rfl, hW1387, hF1388, hQ1389, b1390, e1391, e1392, e1393, e1394, e1395, e1396, p1397, p1398, p1399, p1400, p1401, p1402, q1403⟩ := hq
    have hF1404 := Fr_tr hF1372 hF1388 (Fr_sub (by decide)) (Fr_sub (by decide))
    have hP1405 := Pf_tr hP1373 hQ1389 (by omega)
    have sf1406 : ND A1379 (nd) (33) (0) (0) (0) (0) (0) (0) := ND_ag (by omega) (Ag_pf hQ1389 (by omega)) p1369
    have sf1407 : NdM A1379 (nd) (nd + 1) (sy) := NdM_pf hQ1389 (by omega) (by omega) p1370
    have bat2_1381 : (0 : Int) ≤ at2_1381 ∧ at2_1381 ≤ 3002 := e1391 ▸ hW1387.1 10
    have bfk2_1382 : (0 : Int) ≤ fk2_1382 ∧ fk2_1382 ≤ 6 := e1392 ▸ hW1387.1 16
    have bop2_1383 : (-2147483648 : Int) ≤ op2_1383 ∧ op2_1383 ≤ 2147483647 := e1393 ▸ hW1387.1 15
    have bnd2_1384 : (0 : Int) ≤ nd2_1384 ∧ nd2_1384 ≤ 6999 := e1394 ▸ hW1387.1 31
    have ztk2_1385 := tz_b tk2_1385
    have btk2_1385 : (0 : Int) ≤ tk2_1385 ∧ tk2_1385 ≤ 5 := e1395 ▸ hW1387.1 11
    refine .inr ⟨_, rfl, ?_⟩
    rcases q1403 with ⟨a1408, a1409, a1410, a1411, a1412, a1413⟩ | ⟨a1414, a1415, a1416⟩ | ⟨a1417, a1418, a1419, a1420, a1421, a1422, a1423, a1424⟩
    · have _q : True := trivial
      exfalso
      omega
    · have _q : True := trivial
      refine jx_ld (pc_q := 293) (l_q := jSto1 L1375 2 (.int (i32 (r1380)))) (st_q := []) rfl rfl ?_
      obtain ⟨L1425, eL1425⟩ : ∃ q, q = jSto1 L1375 2 (.int (i32 (r1380))) := ⟨_, rfl⟩
      rw [← eL1425]
      have gL1425_0 : jGet L1425 0 = some (.ref 66) := eL1425 ▸ jg_ne (by decide) gL1375_0 rfl
      have gL1425_1 : jGet L1425 1 = some (.int (i32 (nd))) := eL1425 ▸ jg_ne (by decide) gL1375_1 rfl
      have gL1425_2 : jGet L1425 2 = some (.int (i32 (r1380))) := eL1425 ▸ jg_eq
      have z1426 := tz_f (tk2_1385)
      exact c_readGuard_w_at_293p (X := X) (d := d) (Vs := Vs) (sb := sb) (c0 := c0) (c1 := c1) (G := G) (A := A) (T := T) (ln := ln) (le := le) (at0 := at0) (fk := fk) (op0 := op0) (nd := nd) (tk0 := tk0) (li := li) (ec := ec) (sy := sy) (hd := hd) (hW := hW) (e_ln := e_ln) (e_le := e_le) (e_at0 := e_at0) (e_fk := e_fk) (e_op0 := e_op0) (e_nd := e_nd) (e_tk0 := e_tk0) (e_li := e_li) (e_ec := e_ec) (e_sy := e_sy) (i_SV := i_SV) (p_0 := p_0) (p_1 := p_1) (p_2 := p_2) (p_3 := p_3) (p_4 := p_4) L1425 G1378 A1379 (nd) (r1380) (at2_1381) (tk2_1385) (fk2_1382) (nd2_1384) (op2_1383) (ec2_1386) gL1425_0 gL1425_1 gL1425_2 hW1387 hF1404 hP1405 ((e1391)) ((e1395)) ((e1392)) ((e1394)) ((e1393)) (e1396) (((hF1388.1 9 rfl).trans ((hF1363.1 9 rfl).trans (e_ln)))) (by omega) (by omega) (by omega) (by omega) (by omega) (by omega) (by omega) (by omega) (by omega) (by omega)
    · have _q : True := trivial
      refine jx_ld (pc_q := 293) (l_q := jSto1 L1375 2 (.int (i32 (r1380)))) (st_q := []) rfl rfl ?_
      obtain ⟨L1427, eL1427⟩ : ∃ q, q = jSto1 L1375 2 (.int (i32 (r1380))) := ⟨_, rfl⟩
      rw [← eL1427]
      have gL1427_0 : jGet L1427 0 = some (.ref 66) := eL1427 ▸ jg_ne (by decide) gL1375_0 rfl
      have gL1427_1 : jGet L1427 1 = some (.int (i32 (nd))) := eL1427 ▸ jg_ne (by decide) gL1375_1 rfl
      have gL1427_2 : jGet L1427 2 = some (.int (i32 (r1380))) := eL1427 ▸ jg_eq
      have z1428 := tz_f (tk2_1385)
      exact c_readGuard_w_at_293 (X := X) (d := d) (Vs := Vs) (sb := sb) (c0 := c0) (c1 := c1) (G := G) (A := A) (T := T) (ln := ln) (le := le) (at0 := at0) (fk := fk) (op0 := op0) (nd := nd) (tk0 := tk0) (li := li) (ec := ec) (sy := sy) (hd := hd) (hW := hW) (e_ln := e_ln) (e_le := e_le) (e_at0 := e_at0) (e_fk := e_fk) (e_op0 := e_op0) (e_nd := e_nd) (e_tk0 := e_tk0) (e_li := e_li) (e_ec := e_ec) (e_sy := e_sy) (i_SV := i_SV) (p_0 := p_0) (p_1 := p_1) (p_2 := p_2) (p_3 := p_3) (p_4 := p_4) L1427 G1378 A1379 (nd) (r1380) (at2_1381) (tk2_1385) (fk2_1382) (nd2_1384) (op2_1383) (ec2_1386) gL1427_0 gL1427_1 gL1427_2 hW1387 hF1404 hP1405 ((e1391)) ((e1395)) ((e1392)) ((e1394)) ((e1393)) (e1396) (((hF1388.1 9 rfl).trans ((hF1363.1 9 rfl).trans (e_ln)))) (by omega) (by omega) (by omega) (by omega) (by omega) (by omega) (by omega) (by omega) (by omega) (by omega) (by omega) (sf1406) ((wE_mono (by omega) (by omega) (by omega) a1420)) (by omega) ((NdM_w (NdM_app (sy := sy) sf1407 a1422 (by omega) (by omega) (by omega)) (by omega) (by omega) (by omega)))
  · have _q := h1377
    refine jx_ld (pc_q := 22) (l_q := L1375) (st_q := [.ref 66]) rfl (jl_aloadn gL1375_0) ?_
    have b1429 : (-3000 : Int) ≤ G 12 ∧ G 12 ≤ 3002 := hW.1 12
    refine jr_get (pc_q := 25) (i := 12) (v := .int (i32 (G 12))) rfl rfl (by decide) (rFv_eq (by decide) (show G1358 12 = G 12 from (hF1363.1 12 rfl))) rfl ?_
    refine jx_ld (pc_q := 26) (l_q := jSto1 L1375 3 (.int (i32 (G 12)))) (st_q := []) rfl rfl ?_
    obtain ⟨L1430, eL1430⟩ : ∃ q, q = jSto1 L1375 3 (.int (i32 (G 12))) := ⟨_, rfl⟩
    rw [← eL1430]
    have gL1430_0 : jGet L1430 0 = some (.ref 66) := eL1430 ▸ jg_ne (by decide) gL1375_0 rfl
    have gL1430_1 : jGet L1430 1 = some (.int (i32 (nd))) := eL1430 ▸ jg_ne (by decide) gL1375_1 rfl
    have gL1430_2 : jGet L1430 2 = some (.int (i32 (0))) := eL1430 ▸ jg_ne (by decide) gL1375_2 rfl
    have gL1430_3 : jGet L1430 3 = some (.int (i32 (G 12))) := eL1430 ▸ jg_eq
    refine jx_ld (pc_q := 27) (l_q := L1430) (st_q := [.ref 66]) rfl (jl_aloadn gL1430_0) ?_
    refine jx_vr (pc_q := 30) (as := []) (st := []) rfl rfl rfl rfl ⟨rfl, rfl, Nat.le_of_ble_eq_true rfl⟩ rfl rfl (c_lookUp (dd := d) (hd := by omega) (hW := hW1362)  (fk := fk) (e_fk := show G1358 16 = fk from ((hF1363.1 16 rfl).trans (e_fk))) (i_SV := (SV_ext ((hF1363.1 29 rfl)) ((hF1363.2 14 rfl)) i_SV))   ) (fun o V_q hq => ?_)
    obtain ⟨G1431, A1432, r1433, fk2_1434, rfl, rfl, hW1435, hF1436, b1437, e1438, q1439⟩ := hq
    have hF1440 := Fr_tr hF1372 hF1436 (Fr_sub (by decide)) (Fr_sub (by decide))
    have hP1441 := Pf_f hP1373 hF1436 (by decide)
    have sf1442 : ND A1432 (nd) (33) (0) (0) (0) (0) (0) (0) := ND_ag (by omega) (Ag_fr hF1436 (by decide)) p1369
    have sf1443 : NdM A1432 (nd) (nd + 1) (sy) := NdM_f hF1436 (by decide) p1370
    have ec1444 : ecn A1432 (G1431 31) = ec2_1361 := (ecn_f (hF1436.2 15 rfl) (hF1436.1 31 rfl)).trans e1366
    have bfk2_1434 : (0 : Int) ≤ fk2_1434 ∧ fk2_1434 ≤ 6 := e1438 ▸ hW1435.1 16
    refine .inr ⟨_, rfl, ?_⟩
    rcases q1439 with ⟨a1445, a1446⟩ | ⟨a1447, a1448, a1449, a1450⟩
    · have _q : True := trivial
      refine jx_ld (pc_q := 32) (l_q := jSto1 L1430 4 (.int (i32 (r1433)))) (st_q := []) rfl rfl ?_
      obtain ⟨L1451, eL1451⟩ : ∃ q, q = jSto1 L1430 4 (.int (i32 (r1433))) := ⟨_, rfl⟩
      rw [← eL1451]
      have gL1451_0 : jGet L1451 0 = some (.ref 66) := eL1451 ▸ jg_ne (by decide) gL1430_0 rfl
      have gL1451_1 : jGet L1451 1 = some (.int (i32 (nd))) := eL1451 ▸ jg_ne (by decide) gL1430_1 rfl
      have gL1451_2 : jGet L1451 2 = some (.int (i32 (0))) := eL1451 ▸ jg_ne (by decide) gL1430_2 rfl
      have gL1451_3 : jGet L1451 3 = some (.int (i32 (G 12))) := eL1451 ▸ jg_ne (by decide) gL1430_3 rfl
      have gL1451_4 : jGet L1451 4 = some (.int (i32 (r1433))) := eL1451 ▸ jg_eq
      refine jx_ld (pc_q := 33) (l_q := L1451) (st_q := [.ref 66]) rfl (jl_aloadn gL1451_0) ?_
      refine jx_vr (pc_q := 36) (as := []) (st := []) rfl rfl rfl rfl ⟨rfl, rfl, Nat.le_of_ble_eq_true rfl⟩ rfl rfl (c_bad (dd := d) (hd := by omega) (hW := hW1435)  (fk := fk2_1434) (e_fk := show G1431 16 = fk2_1434 from (e1438))    ) (fun o V_q hq => ?_)
      obtain ⟨r1452, rfl, rfl, b1453, q1454⟩ := hq
      refine .inr ⟨_, rfl, ?_⟩
      rcases q1454 with ⟨rfl, a1455⟩ | ⟨rfl, a1456⟩
      · have _q : True := trivial
        refine jx_if_eq (pc_q := 39) (tg := 41) rfl rfl rfl (by decide) (by decide) (fun h1457 => ?_) (fun h1457 => ?_)
        · have _q := h1457
          exact absurd h1457 (by omega)
        · have _q := h1457
          refine jx_ar (pc_q := 40) (st_q := [.int (i32 (0))]) rfl rfl rfl rfl ?_
          refine jx_rt (v := some (.int (i32 (0)))) rfl rfl rfl rfl rfl rfl ?_
          exact ⟨_, _, _, at0, fk2_1434, nd2_1360, ln, ec2_1361, rfl, rfl, hW1435, hF1440, hP1441, by omega, ((hF1436.1 10 rfl).trans ((hF1363.1 10 rfl).trans (e_at0))), (e1438), ((hF1436.1 31 rfl).trans (e1365)), ((hF1436.1 9 rfl).trans ((hF1363.1 9 rfl).trans (e_ln))), ec1444, by omega, by omega, by omega, by omega, by omega, by first | exact Or.inl (⟨by omega, by omega, by omega⟩)⟩
      · have _q : True := trivial
        exfalso
        omega
    · have _q : True := trivial
      refine jx_ld (pc_q := 32) (l_q := jSto1 L1430 4 (.int (i32 (r1433)))) (st_q := []) rfl rfl ?_
      obtain ⟨L1458, eL1458⟩ : ∃ q, q = jSto1 L1430 4 (.int (i32 (r1433))) := ⟨_, rfl⟩
      rw [← eL1458]
      have gL1458_0 : jGet L1458 0 = some (.ref 66) := eL1458 ▸ jg_ne (by decide) gL1430_0 rfl
      have gL1458_1 : jGet L1458 1 = some (.int (i32 (nd))) := eL1458 ▸ jg_ne (by decide) gL1430_1 rfl
      have gL1458_2 : jGet L1458 2 = some (.int (i32 (0))) := eL1458 ▸ jg_ne (by decide) gL1430_2 rfl
      have gL1458_3 : jGet L1458 3 = some (.int (i32 (G 12))) := eL1458 ▸ jg_ne (by decide) gL1430_3 rfl
      have gL1458_4 : jGet L1458 4 = some (.int (i32 (r1433))) := eL1458 ▸ jg_eq
      refine jx_ld (pc_q := 33) (l_q := L1458) (st_q := [.ref 66]) rfl (jl_aloadn gL1458_0) ?_
      refine jx_vr (pc_q := 36) (as := []) (st := []) rfl rfl rfl rfl ⟨rfl, rfl, Nat.le_of_ble_eq_true rfl⟩ rfl rfl (c_bad (dd := d) (hd := by omega) (hW := hW1435)  (fk := fk2_1434) (e_fk := show G1431 16 = fk2_1434 from (e1438))    ) (fun o V_q hq => ?_)
      obtain ⟨r1459, rfl, rfl, b1460, q1461⟩ := hq
      refine .inr ⟨_, rfl, ?_⟩
      rcases q1461 with ⟨rfl, a1462⟩ | ⟨rfl, a1463⟩
      · have _q : True := trivial
        exfalso
        omega
      · have _q : True := trivial
        refine jx_if_eq (pc_q := 39) (tg := 41) rfl rfl rfl (by decide) (by decide) (fun h1464 => ?_) (fun h1464 => ?_)
        · have _q := h1464
          refine jx_ld (pc_q := 42) (l_q := L1458) (st_q := [.ref 66]) rfl (jl_aloadn gL1458_0) ?_
          refine jx_vr (pc_q := 45) (as := []) (st := []) rfl rfl rfl rfl ⟨rfl, rfl, Nat.le_of_ble_eq_true rfl⟩ rfl rfl (c_next (dd := d) (hd := by omega) (hW := hW1435)  (ln := ln) (e_ln := show G1431 9 = ln from ((hF1436.1 9 rfl).trans ((hF1363.1 9 rfl).trans (e_ln)))) (le := le) (e_le := show A1432 4 (ln).toNat = le from (congrFun ((hF1436.2 4 rfl).trans (hF1363.2 4 rfl)) _).trans (e_le)) (at0 := at0) (e_at0 := show G1431 10 = at0 from ((hF1436.1 10 rfl).trans ((hF1363.1 10 rfl).trans (e_at0))))    (p_0 := by omega)) (fun o V_q hq => ?_)
          obtain ⟨G1465, A1466, at2_1467, tk2_1468, rfl, rfl, hW1469, hF1470, e1471, e1472, p1473, p1474, p1475, -⟩ := hq
          have hF1477 := Fr_tr hF1440 hF1470 (Fr_sub (by decide)) (Fr_sub (by decide))
          have hP1478 := Pf_f hP1441 hF1470 (by decide)
          have sf1479 : ND A1466 (nd) (33) (0) (0) (0) (0) (0) (0) := ND_ag (by omega) (Ag_fr hF1470 (by decide)) sf1442
          have sf1480 : NdM A1466 (nd) (nd + 1) (sy) := NdM_f hF1470 (by decide) sf1443
          have ec1481 : ecn A1466 (G1465 31) = ec2_1361 := (ecn_f (hF1470.2 15 rfl) (hF1470.1 31 rfl)).trans ec1444
          have bat2_1467 : (0 : Int) ≤ at2_1467 ∧ at2_1467 ≤ 3002 := e1471 ▸ hW1469.1 10
          have ztk2_1468 := tz_b tk2_1468
          have btk2_1468 : (0 : Int) ≤ tk2_1468 ∧ tk2_1468 ≤ 5 := e1472 ▸ hW1469.1 11
          refine .inl ⟨rfl, ?_⟩
          have pz1482 : at0 + tz tk2_1468 ≤ at2_1467 := by omega
          refine jx_ar (pc_q := 46) (st_q := [.int (i32 (0))]) rfl rfl rfl rfl ?_
          refine jx_ld (pc_q := 48) (l_q := jSto1 L1458 5 (.int (i32 (0)))) (st_q := []) rfl rfl ?_
          obtain ⟨L1483, eL1483⟩ : ∃ q, q = jSto1 L1458 5 (.int (i32 (0))) := ⟨_, rfl⟩
          rw [← eL1483]
          have gL1483_0 : jGet L1483 0 = some (.ref 66) := eL1483 ▸ jg_ne (by decide) gL1458_0 rfl
          have gL1483_1 : jGet L1483 1 = some (.int (i32 (nd))) := eL1483 ▸ jg_ne (by decide) gL1458_1 rfl
          have gL1483_2 : jGet L1483 2 = some (.int (i32 (0))) := eL1483 ▸ jg_ne (by decide) gL1458_2 rfl
          have gL1483_3 : jGet L1483 3 = some (.int (i32 (G 12))) := eL1483 ▸ jg_ne (by decide) gL1458_3 rfl
          have gL1483_4 : jGet L1483 4 = some (.int (i32 (r1433))) := eL1483 ▸ jg_ne (by decide) gL1458_4 rfl
          have gL1483_5 : jGet L1483 5 = some (.int (i32 (0))) := eL1483 ▸ jg_eq
          refine jx_ld (pc_q := 49) (l_q := L1483) (st_q := [.ref 66]) rfl (jl_aloadn gL1483_0) ?_
          refine jx_ar (pc_q := 51) (st_q := [.int (i32 (91)), .ref 66]) rfl rfl rfl rfl ?_
          have b1484 : (-2147483648 : Int) ≤ G1465 13 ∧ G1465 13 ≤ 2147483647 := hW1469.1 13
          refine jx_vr (pc_q := 54) (as := [.int (i32 (91))]) (st := []) rfl rfl rfl rfl ⟨rfl, rfl, Nat.le_of_ble_eq_true rfl⟩ rfl rfl (c_is (dd := d) (hd := by omega) (hW := hW1469) (k := 91) (tk := tk2_1468) (e_tk := show G1465 11 = tk2_1468 from (e1472)) (tn := G1465 13) (e_tn := show G1465 13 = G1465 13 from rfl)  (h_k := ⟨(by decide), (by decide)⟩)  ) (fun o V_q hq => ?_)
          obtain ⟨r1485, rfl, rfl, b1486, q1487⟩ := hq
          refine .inr ⟨_, rfl, ?_⟩
          rcases q1487 with ⟨rfl, a1488, a1489, a1490⟩ | rfl
          · have _q : True := trivial
            refine jx_ld (pc_q := 56) (l_q := jSto1 L1483 6 (.int (i32 (1)))) (st_q := []) rfl rfl ?_
            obtain ⟨L1491, eL1491⟩ : ∃ q, q = jSto1 L1483 6 (.int (i32 (1))) := ⟨_, rfl⟩
            rw [← eL1491]
            have gL1491_0 : jGet L1491 0 = some (.ref 66) := eL1491 ▸ jg_ne (by decide) gL1483_0 rfl
            have gL1491_1 : jGet L1491 1 = some (.int (i32 (nd))) := eL1491 ▸ jg_ne (by decide) gL1483_1 rfl
            have gL1491_2 : jGet L1491 2 = some (.int (i32 (0))) := eL1491 ▸ jg_ne (by decide) gL1483_2 rfl
            have gL1491_3 : jGet L1491 3 = some (.int (i32 (G 12))) := eL1491 ▸ jg_ne (by decide) gL1483_3 rfl
            have gL1491_4 : jGet L1491 4 = some (.int (i32 (r1433))) := eL1491 ▸ jg_ne (by decide) gL1483_4 rfl
            have gL1491_5 : jGet L1491 5 = some (.int (i32 (0))) := eL1491 ▸ jg_ne (by decide) gL1483_5 rfl
            have gL1491_6 : jGet L1491 6 = some (.int (i32 (1))) := eL1491 ▸ jg_eq
            refine jx_ld (pc_q := 58) (l_q := L1491) (st_q := [.int (i32 (1))]) rfl (jl_iload gL1491_6) ?_
            refine jx_if_eq (pc_q := 61) (tg := 99) rfl rfl rfl (by decide) (by decide) (fun h1492 => ?_) (fun h1492 => ?_)
            · have _q := h1492
              exact absurd h1492 (by omega)
            · have _q := h1492
              refine jx_ld (pc_q := 62) (l_q := L1491) (st_q := [.ref 66]) rfl (jl_aloadn gL1491_0) ?_
              refine jr_get (pc_q := 65) (i := 21) (v := .ref 74) rfl rfl (by decide) rfl rfl ?_
              refine jx_ld (pc_q := 67) (l_q := L1491) (st_q := [.int (i32 (r1433)), .ref 74]) rfl (jl_iload gL1491_4) ?_
              have b1493 : (0 : Int) ≤ A 7 (r1433).toNat ∧ A 7 (r1433).toNat ≤ 14 := hW.2 7 _
              refine jr_ldv (pc_q := 68) (i := 7) (m := 260) (z := r1433) (y := A 7 (r1433).toNat) rfl (by decide) rfl (by decide) (by omega) (by omega) rfl (show A1466 7 (r1433).toNat = A 7 (r1433).toNat from (congrFun ((hF1470.2 7 rfl).trans ((hF1436.2 7 rfl).trans (hF1363.2 7 rfl))) _)) ?_
              refine jx_st (pc_q := 71) (as := [.int (i32 (A 7 (r1433).toNat))]) (st := []) rfl rfl ⟨rfl, Nat.le_of_ble_eq_true rfl⟩ rfl rfl rfl (c_isArray (dd := d) (hd := by omega) (k := A 7 (r1433).toNat)   (h_k := ⟨(Int.le_trans (by decide : (-2147483648 : Int) ≤ 0) b1493.1), (Int.le_trans b1493.2 (by decide : (14 : Int) ≤ 2147483647))⟩)  ) (fun o V_q hq => ?_)
              obtain ⟨r1494, rfl, rfl, b1495, q1496⟩ := hq
              refine .inr ⟨_, rfl, ?_⟩
              rcases q1496 with ⟨rfl, a1497⟩ | rfl
              · have _q : True := trivial
                refine jx_if_ne (pc_q := 74) (tg := 93) rfl rfl rfl (by decide) (by decide) (fun h1498 => ?_) (fun h1498 => ?_)
                · have _q := h1498
                  refine jx_ld (pc_q := 94) (l_q := L1491) (st_q := [.ref 66]) rfl (jl_aloadn gL1491_0) ?_
                  refine jx_vr (pc_q := 97) (as := []) (st := []) rfl rfl rfl rfl ⟨rfl, rfl, Nat.le_of_ble_eq_true rfl⟩ rfl rfl (c_readIndex_w (dd := d) (k := 9) (hE := REw_all X 9) (hd := by omega) (hW := hW1469)  (ln := ln) (e_ln := show G1465 9 = ln from ((hF1470.1 9 rfl).trans ((hF1436.1 9 rfl).trans ((hF1363.1 9 rfl).trans (e_ln))))) (le := le) (e_le := show A1466 4 (ln).toNat = le from (congrFun ((hF1470.2 4 rfl).trans ((hF1436.2 4 rfl).trans (hF1363.2 4 rfl))) _).trans (e_le)) (at0 := at2_1467) (e_at0 := show G1465 10 = at2_1467 from (e1471)) (fk := fk2_1434) (e_fk := show G1465 16 = fk2_1434 from ((hF1470.1 16 rfl).trans (e1438))) (op0 := op0) (e_op0 := show G1465 15 = op0 from ((hF1470.1 15 rfl).trans ((hF1436.1 15 rfl).trans ((hF1363.1 15 rfl).trans (e_op0))))) (nd := nd2_1360) (e_nd := show G1465 31 = nd2_1360 from ((hF1470.1 31 rfl).trans ((hF1436.1 31 rfl).trans (e1365)))) (tk0 := tk2_1468) (e_tk0 := show G1465 11 = tk2_1468 from (e1472)) (ec := ec2_1361) (e_ec := show ecn A1466 (G1465 31) = ec2_1361 from ec1481) (sy := sy) (e_sy := show G1465 19 = sy from ((hF1470.1 19 rfl).trans ((hF1436.1 19 rfl).trans ((hF1363.1 19 rfl).trans (e_sy))))) (i_SV := (SV_ext (((hF1470.1 29 rfl).trans ((hF1436.1 29 rfl).trans (hF1363.1 29 rfl)))) (((hF1470.2 14 rfl).trans ((hF1436.2 14 rfl).trans (hF1363.2 14 rfl)))) i_SV))   (p_0 := by omega) (p_1 := by omega) (p_2 := by omega) (p_3 := by omega) (p_4 := by omega) (p_5 := by omega) (p_6 := by omega) (p_7 := by omega) (p_8 := by omega)) (fun o V_q hq => ?_)
                  obtain ⟨G1499, A1500, r1501, at2_1502, fk2_1503, op2_1504, nd2_1505, tk2_1506, ec2_1507, rfl, rfl, hW1508, hF1509, hQ1510, b1511, e1512, e1513, e1514, e1515, e1516, e1517, p1518, p1519, p1520, p1521, p1522, p1523, q1524⟩ := hq
                  have hF1525 := Fr_tr hF1477 hF1509 (Fr_sub (by decide)) (Fr_sub (by decide))
                  have hP1526 := Pf_tr hP1478 hQ1510 (by omega)
                  have sf1527 : ND A1500 (nd) (33) (0) (0) (0) (0) (0) (0) := ND_ag (by omega) (Ag_pf hQ1510 (by omega)) sf1479
                  have sf1528 : NdM A1500 (nd) (nd + 1) (sy) := NdM_pf hQ1510 (by omega) (by omega) sf1480
                  have bat2_1502 : (0 : Int) ≤ at2_1502 ∧ at2_1502 ≤ 3002 := e1512 ▸ hW1508.1 10
                  have bfk2_1503 : (0 : Int) ≤ fk2_1503 ∧ fk2_1503 ≤ 6 := e1513 ▸ hW1508.1 16
                  have bop2_1504 : (-2147483648 : Int) ≤ op2_1504 ∧ op2_1504 ≤ 2147483647 := e1514 ▸ hW1508.1 15
                  have bnd2_1505 : (0 : Int) ≤ nd2_1505 ∧ nd2_1505 ≤ 6999 := e1515 ▸ hW1508.1 31
                  have ztk2_1506 := tz_b tk2_1506
                  have btk2_1506 : (0 : Int) ≤ tk2_1506 ∧ tk2_1506 ≤ 5 := e1516 ▸ hW1508.1 11
                  refine .inr ⟨_, rfl, ?_⟩
                  rcases q1524 with ⟨a1529, a1530, a1531⟩ | ⟨a1532, a1533, a1534, a1535, a1536, a1537, a1538⟩
                  · have _q : True := trivial
                    refine jx_ld (pc_q := 99) (l_q := jSto1 L1491 5 (.int (i32 (r1501)))) (st_q := []) rfl rfl ?_
                    obtain ⟨L1539, eL1539⟩ : ∃ q, q = jSto1 L1491 5 (.int (i32 (r1501))) := ⟨_, rfl⟩
                    rw [← eL1539]
                    have gL1539_0 : jGet L1539 0 = some (.ref 66) := eL1539 ▸ jg_ne (by decide) gL1491_0 rfl
                    have gL1539_1 : jGet L1539 1 = some (.int (i32 (nd))) := eL1539 ▸ jg_ne (by decide) gL1491_1 rfl
                    have gL1539_2 : jGet L1539 2 = some (.int (i32 (0))) := eL1539 ▸ jg_ne (by decide) gL1491_2 rfl
                    have gL1539_3 : jGet L1539 3 = some (.int (i32 (G 12))) := eL1539 ▸ jg_ne (by decide) gL1491_3 rfl
                    have gL1539_4 : jGet L1539 4 = some (.int (i32 (r1433))) := eL1539 ▸ jg_ne (by decide) gL1491_4 rfl
                    have gL1539_6 : jGet L1539 6 = some (.int (i32 (1))) := eL1539 ▸ jg_ne (by decide) gL1491_6 rfl
                    have gL1539_5 : jGet L1539 5 = some (.int (i32 (r1501))) := eL1539 ▸ jg_eq
                    refine jx_ld (pc_q := 100) (l_q := L1539) (st_q := [.ref 66]) rfl (jl_aloadn gL1539_0) ?_
                    refine jx_vr (pc_q := 103) (as := []) (st := []) rfl rfl rfl rfl ⟨rfl, rfl, Nat.le_of_ble_eq_true rfl⟩ rfl rfl (c_bad (dd := d) (hd := by omega) (hW := hW1508)  (fk := fk2_1503) (e_fk := show G1499 16 = fk2_1503 from (e1513))    ) (fun o V_q hq => ?_)
                    obtain ⟨r1540, rfl, rfl, b1541, q1542⟩ := hq
                    refine .inr ⟨_, rfl, ?_⟩
                    rcases q1542 with ⟨rfl, a1543⟩ | ⟨rfl, a1544⟩
                    · have _q : True := trivial
                      refine jx_if_eq (pc_q := 106) (tg := 108) rfl rfl rfl (by decide) (by decide) (fun h1545 => ?_) (fun h1545 => ?_)
                      · have _q := h1545
                        exact absurd h1545 (by omega)
                      · have _q := h1545
                        refine jx_ar (pc_q := 107) (st_q := [.int (i32 (0))]) rfl rfl rfl rfl ?_
                        refine jx_rt (v := some (.int (i32 (0)))) rfl rfl rfl rfl rfl rfl ?_
                        exact ⟨_, _, _, at2_1502, fk2_1503, nd2_1505, ln, ec2_1507, rfl, rfl, hW1508, hF1525, hP1526, by omega, (e1512), (e1513), (e1515), ((hF1509.1 9 rfl).trans ((hF1470.1 9 rfl).trans ((hF1436.1 9 rfl).trans ((hF1363.1 9 rfl).trans (e_ln))))), e1517, by omega, by omega, by omega, by omega, by omega, by first | exact Or.inl (⟨by omega, by omega, by omega⟩)⟩
                    · have _q : True := trivial
                      exfalso
                      omega
                  · have _q : True := trivial
                    refine jx_ld (pc_q := 99) (l_q := jSto1 L1491 5 (.int (i32 (r1501)))) (st_q := []) rfl rfl ?_
                    obtain ⟨L1546, eL1546⟩ : ∃ q, q = jSto1 L1491 5 (.int (i32 (r1501))) := ⟨_, rfl⟩
                    rw [← eL1546]
                    have gL1546_0 : jGet L1546 0 = some (.ref 66) := eL1546 ▸ jg_ne (by decide) gL1491_0 rfl
                    have gL1546_1 : jGet L1546 1 = some (.int (i32 (nd))) := eL1546 ▸ jg_ne (by decide) gL1491_1 rfl
                    have gL1546_2 : jGet L1546 2 = some (.int (i32 (0))) := eL1546 ▸ jg_ne (by decide) gL1491_2 rfl
                    have gL1546_3 : jGet L1546 3 = some (.int (i32 (G 12))) := eL1546 ▸ jg_ne (by decide) gL1491_3 rfl
                    have gL1546_4 : jGet L1546 4 = some (.int (i32 (r1433))) := eL1546 ▸ jg_ne (by decide) gL1491_4 rfl
                    have gL1546_6 : jGet L1546 6 = some (.int (i32 (1))) := eL1546 ▸ jg_ne (by decide) gL1491_6 rfl
                    have gL1546_5 : jGet L1546 5 = some (.int (i32 (r1501))) := eL1546 ▸ jg_eq
                    refine jx_ld (pc_q := 100) (l_q := L1546) (st_q := [.ref 66]) rfl (jl_aloadn gL1546_0) ?_
                    refine jx_vr (pc_q := 103) (as := []) (st := []) rfl rfl rfl rfl ⟨rfl, rfl, Nat.le_of_ble_eq_true rfl⟩ rfl rfl (c_bad (dd := d) (hd := by omega) (hW := hW1508)  (fk := fk2_1503) (e_fk := show G1499 16 = fk2_1503 from (e1513))    ) (fun o V_q hq => ?_)
                    obtain ⟨r1547, rfl, rfl, b1548, q1549⟩ := hq
                    refine .inr ⟨_, rfl, ?_⟩
                    rcases q1549 with ⟨rfl, a1550⟩ | ⟨rfl, a1551⟩
                    · have _q : True := trivial
                      exfalso
                      omega
                    · have _q : True := trivial
                      refine jx_if_eq (pc_q := 106) (tg := 108) rfl rfl rfl (by decide) (by decide) (fun h1552 => ?_) (fun h1552 => ?_)
                      · have _q := h1552
                        have z1553 := tz_f (tk2_1506)
                        exact c_readGuard_w_at_108_1 (X := X) (d := d) (Vs := Vs) (sb := sb) (c0 := c0) (c1 := c1) (G := G) (A := A) (T := T) (ln := ln) (le := le) (at0 := at0) (fk := fk) (op0 := op0) (nd := nd) (tk0 := tk0) (li := li) (ec := ec) (sy := sy) (hd := hd) (hW := hW) (e_ln := e_ln) (e_le := e_le) (e_at0 := e_at0) (e_fk := e_fk) (e_op0 := e_op0) (e_nd := e_nd) (e_tk0 := e_tk0) (e_li := e_li) (e_ec := e_ec) (e_sy := e_sy) (i_SV := i_SV) (p_0 := p_0) (p_1 := p_1) (p_2 := p_2) (p_3 := p_3) (p_4 := p_4) L1546 G1499 A1500 (nd) (G 12) (r1433) (r1501) (at2_1502) (tk2_1506) (fk2_1503) (nd2_1505) (op2_1504) (A 7 (r1433).toNat) (ec2_1507) gL1546_0 gL1546_6 gL1546_1 gL1546_3 gL1546_4 gL1546_5 hW1508 hF1525 hP1526 ((e1512)) ((e1516)) ((e1513)) ((e1515)) ((e1514)) ((congrFun ((hF1509.2 7 rfl).trans ((hF1470.2 7 rfl).trans ((hF1436.2 7 rfl).trans (hF1363.2 7 rfl)))) _)) (e1517) (((hF1509.1 9 rfl).trans ((hF1470.1 9 rfl).trans ((hF1436.1 9 rfl).trans ((hF1363.1 9 rfl).trans (e_ln)))))) (by omega) (by omega) (by omega) (by omega) (by omega) (by omega) (by omega) (by omega) (by omega) (by omega) (by omega) (by omega) (by omega) (by omega) (a1450) (sf1527) ((wE_mono (by omega) (by omega) (by omega) a1535)) (by omega) (by omega) ((NdM_w (NdM_app (sy := sy) sf1528 a1537 (by omega) (by omega) (by omega)) (by omega) (by omega) (by omega)))
                      · have _q := h1552
                        exact absurd h1552 (by omega)
                · have _q := h1498
                  exact absurd h1498 (by omega)
              · have _q : True := trivial
                refine jx_if_ne (pc_q := 74) (tg := 93) rfl rfl rfl (by decide) (by decide) (fun h1554 => ?_) (fun h1554 => ?_)
                · have _q := h1554
                  exact absurd h1554 (by omega)
                · have _q := h1554
                  refine jx_ld (pc_q := 75) (l_q := L1491) (st_q := [.ref 66]) rfl (jl_aloadn gL1491_0) ?_
                  refine jr_get (pc_q := 78) (i := 21) (v := .ref 74) rfl rfl (by decide) rfl rfl ?_
                  refine jx_ld (pc_q := 80) (l_q := L1491) (st_q := [.int (i32 (r1433)), .ref 74]) rfl (jl_iload gL1491_4) ?_
                  refine jr_ldv (pc_q := 81) (i := 7) (m := 260) (z := r1433) (y := A 7 (r1433).toNat) rfl (by decide) rfl (by decide) (by omega) (by omega) rfl (show A1466 7 (r1433).toNat = A 7 (r1433).toNat from (congrFun ((hF1470.2 7 rfl).trans ((hF1436.2 7 rfl).trans (hF1363.2 7 rfl))) _)) ?_
                  refine jx_ar (pc_q := 82) (st_q := [.int (i32 (4)), .int (i32 (A 7 (r1433).toNat))]) rfl rfl rfl rfl ?_
                  refine jx_icmp_eq (pc_q := 85) (tg := 93) rfl rfl rfl (Int.le_trans (by decide : (-2147483648 : Int) ≤ 0) b1493.1) (Int.le_trans b1493.2 (by decide : (14 : Int) ≤ 2147483647)) (by decide) (by decide) (fun h1555 => ?_) (fun h1555 => ?_)
                  · have _q := h1555
                    refine jx_ld (pc_q := 94) (l_q := L1491) (st_q := [.ref 66]) rfl (jl_aloadn gL1491_0) ?_
                    refine jx_vr (pc_q := 97) (as := []) (st := []) rfl rfl rfl rfl ⟨rfl, rfl, Nat.le_of_ble_eq_true rfl⟩ rfl rfl (c_readIndex_w (dd := d) (k := 9) (hE := REw_all X 9) (hd := by omega) (hW := hW1469)  (ln := ln) (e_ln := show G1465 9 = ln from ((hF1470.1 9 rfl).trans ((hF1436.1 9 rfl).trans ((hF1363.1 9 rfl).trans (e_ln))))) (le := le) (e_le := show A1466 4 (ln).toNat = le from (congrFun ((hF1470.2 4 rfl).trans ((hF1436.2 4 rfl).trans (hF1363.2 4 rfl))) _).trans (e_le)) (at0 := at2_1467) (e_at0 := show G1465 10 = at2_1467 from (e1471)) (fk := fk2_1434) (e_fk := show G1465 16 = fk2_1434 from ((hF1470.1 16 rfl).trans (e1438))) (op0 := op0) (e_op0 := show G1465 15 = op0 from ((hF1470.1 15 rfl).trans ((hF1436.1 15 rfl).trans ((hF1363.1 15 rfl).trans (e_op0))))) (nd := nd2_1360) (e_nd := show G1465 31 = nd2_1360 from ((hF1470.1 31 rfl).trans ((hF1436.1 31 rfl).trans (e1365)))) (tk0 := tk2_1468) (e_tk0 := show G1465 11 = tk2_1468 from (e1472)) (ec := ec2_1361) (e_ec := show ecn A1466 (G1465 31) = ec2_1361 from ec1481) (sy := sy) (e_sy := show G1465 19 = sy from ((hF1470.1 19 rfl).trans ((hF1436.1 19 rfl).trans ((hF1363.1 19 rfl).trans (e_sy))))) (i_SV := (SV_ext (((hF1470.1 29 rfl).trans ((hF1436.1 29 rfl).trans (hF1363.1 29 rfl)))) (((hF1470.2 14 rfl).trans ((hF1436.2 14 rfl).trans (hF1363.2 14 rfl)))) i_SV))   (p_0 := by omega) (p_1 := by omega) (p_2 := by omega) (p_3 := by omega) (p_4 := by omega) (p_5 := by omega) (p_6 := by omega) (p_7 := by omega) (p_8 := by omega)) (fun o V_q hq => ?_)
                    obtain ⟨G1556, A1557, r1558, at2_1559, fk2_1560, op2_1561, nd2_1562, tk2_1563, ec2_1564, rfl, rfl, hW1565, hF1566, hQ1567, b1568, e1569, e1570, e1571, e1572, e1573, e1574, p1575, p1576, p1577, p1578, p1579, p1580, q1581⟩ := hq
                    have hF1582 := Fr_tr hF1477 hF1566 (Fr_sub (by decide)) (Fr_sub (by decide))
                    have hP1583 := Pf_tr hP1478 hQ1567 (by omega)
                    have sf1584 : ND A1557 (nd) (33) (0) (0) (0) (0) (0) (0) := ND_ag (by omega) (Ag_pf hQ1567 (by omega)) sf1479
                    have sf1585 : NdM A1557 (nd) (nd + 1) (sy) := NdM_pf hQ1567 (by omega) (by omega) sf1480
                    have bat2_1559 : (0 : Int) ≤ at2_1559 ∧ at2_1559 ≤ 3002 := e1569 ▸ hW1565.1 10
                    have bfk2_1560 : (0 : Int) ≤ fk2_1560 ∧ fk2_1560 ≤ 6 := e1570 ▸ hW1565.1 16
                    have bop2_1561 : (-2147483648 : Int) ≤ op2_1561 ∧ op2_1561 ≤ 2147483647 := e1571 ▸ hW1565.1 15
                    have bnd2_1562 : (0 : Int) ≤ nd2_1562 ∧ nd2_1562 ≤ 6999 := e1572 ▸ hW1565.1 31
                    have ztk2_1563 := tz_b tk2_1563
                    have btk2_1563 : (0 : Int) ≤ tk2_1563 ∧ tk2_1563 ≤ 5 := e1573 ▸ hW1565.1 11
                    refine .inr ⟨_, rfl, ?_⟩
                    rcases q1581 with ⟨a1586, a1587, a1588⟩ | ⟨a1589, a1590, a1591, a1592, a1593, a1594, a1595⟩
                    · have _q : True := trivial
                      refine jx_ld (pc_q := 99) (l_q := jSto1 L1491 5 (.int (i32 (r1558)))) (st_q := []) rfl rfl ?_
                      obtain ⟨L1596, eL1596⟩ : ∃ q, q = jSto1 L1491 5 (.int (i32 (r1558))) := ⟨_, rfl⟩
                      rw [← eL1596]
                      have gL1596_0 : jGet L1596 0 = some (.ref 66) := eL1596 ▸ jg_ne (by decide) gL1491_0 rfl
                      have gL1596_1 : jGet L1596 1 = some (.int (i32 (nd))) := eL1596 ▸ jg_ne (by decide) gL1491_1 rfl
                      have gL1596_2 : jGet L1596 2 = some (.int (i32 (0))) := eL1596 ▸ jg_ne (by decide) gL1491_2 rfl
                      have gL1596_3 : jGet L1596 3 = some (.int (i32 (G 12))) := eL1596 ▸ jg_ne (by decide) gL1491_3 rfl
                      have gL1596_4 : jGet L1596 4 = some (.int (i32 (r1433))) := eL1596 ▸ jg_ne (by decide) gL1491_4 rfl
                      have gL1596_6 : jGet L1596 6 = some (.int (i32 (1))) := eL1596 ▸ jg_ne (by decide) gL1491_6 rfl
                      have gL1596_5 : jGet L1596 5 = some (.int (i32 (r1558))) := eL1596 ▸ jg_eq
                      refine jx_ld (pc_q := 100) (l_q := L1596) (st_q := [.ref 66]) rfl (jl_aloadn gL1596_0) ?_
                      refine jx_vr (pc_q := 103) (as := []) (st := []) rfl rfl rfl rfl ⟨rfl, rfl, Nat.le_of_ble_eq_true rfl⟩ rfl rfl (c_bad (dd := d) (hd := by omega) (hW := hW1565)  (fk := fk2_1560) (e_fk := show G1556 16 = fk2_1560 from (e1570))    ) (fun o V_q hq => ?_)
                      obtain ⟨r1597, rfl, rfl, b1598, q1599⟩ := hq
                      refine .inr ⟨_, rfl, ?_⟩
                      rcases q1599 with ⟨rfl, a1600⟩ | ⟨rfl, a1601⟩
                      · have _q : True := trivial
                        refine jx_if_eq (pc_q := 106) (tg := 108) rfl rfl rfl (by decide) (by decide) (fun h1602 => ?_) (fun h1602 => ?_)
                        · have _q := h1602
                          exact absurd h1602 (by omega)
                        · have _q := h1602
                          refine jx_ar (pc_q := 107) (st_q := [.int (i32 (0))]) rfl rfl rfl rfl ?_
                          refine jx_rt (v := some (.int (i32 (0)))) rfl rfl rfl rfl rfl rfl ?_
                          exact ⟨_, _, _, at2_1559, fk2_1560, nd2_1562, ln, ec2_1564, rfl, rfl, hW1565, hF1582, hP1583, by omega, (e1569), (e1570), (e1572), ((hF1566.1 9 rfl).trans ((hF1470.1 9 rfl).trans ((hF1436.1 9 rfl).trans ((hF1363.1 9 rfl).trans (e_ln))))), e1574, by omega, by omega, by omega, by omega, by omega, by first | exact Or.inl (⟨by omega, by omega, by omega⟩)⟩
                      · have _q : True := trivial
                        exfalso
                        omega
                    · have _q : True := trivial
                      refine jx_ld (pc_q := 99) (l_q := jSto1 L1491 5 (.int (i32 (r1558)))) (st_q := []) rfl rfl ?_
                      obtain ⟨L1603, eL1603⟩ : ∃ q, q = jSto1 L1491 5 (.int (i32 (r1558))) := ⟨_, rfl⟩
                      rw [← eL1603]
                      have gL1603_0 : jGet L1603 0 = some (.ref 66) := eL1603 ▸ jg_ne (by decide) gL1491_0 rfl
                      have gL1603_1 : jGet L1603 1 = some (.int (i32 (nd))) := eL1603 ▸ jg_ne (by decide) gL1491_1 rfl
                      have gL1603_2 : jGet L1603 2 = some (.int (i32 (0))) := eL1603 ▸ jg_ne (by decide) gL1491_2 rfl
                      have gL1603_3 : jGet L1603 3 = some (.int (i32 (G 12))) := eL1603 ▸ jg_ne (by decide) gL1491_3 rfl
                      have gL1603_4 : jGet L1603 4 = some (.int (i32 (r1433))) := eL1603 ▸ jg_ne (by decide) gL1491_4 rfl
                      have gL1603_6 : jGet L1603 6 = some (.int (i32 (1))) := eL1603 ▸ jg_ne (by decide) gL1491_6 rfl
                      have gL1603_5 : jGet L1603 5 = some (.int (i32 (r1558))) := eL1603 ▸ jg_eq
                      refine jx_ld (pc_q := 100) (l_q := L1603) (st_q := [.ref 66]) rfl (jl_aloadn gL1603_0) ?_
                      refine jx_vr (pc_q := 103) (as := []) (st := []) rfl rfl rfl rfl ⟨rfl, rfl, Nat.le_of_ble_eq_true rfl⟩ rfl rfl (c_bad (dd := d) (hd := by omega) (hW := hW1565)  (fk := fk2_1560) (e_fk := show G1556 16 = fk2_1560 from (e1570))    ) (fun o V_q hq => ?_)
                      obtain ⟨r1604, rfl, rfl, b1605, q1606⟩ := hq
                      refine .inr ⟨_, rfl, ?_⟩
                      rcases q1606 with ⟨rfl, a1607⟩ | ⟨rfl, a1608⟩
                      · have _q : True := trivial
                        exfalso
                        omega
                      · have _q : True := trivial
                        refine jx_if_eq (pc_q := 106) (tg := 108) rfl rfl rfl (by decide) (by decide) (fun h1609 => ?_) (fun h1609 => ?_)
                        · have _q := h1609
                          have z1610 := tz_f (tk2_1563)
                          exact c_readGuard_w_at_108_1 (X := X) (d := d) (Vs := Vs) (sb := sb) (c0 := c0) (c1 := c1) (G := G) (A := A) (T := T) (ln := ln) (le := le) (at0 := at0) (fk := fk) (op0 := op0) (nd := nd) (tk0 := tk0) (li := li) (ec := ec) (sy := sy) (hd := hd) (hW := hW) (e_ln := e_ln) (e_le := e_le) (e_at0 := e_at0) (e_fk := e_fk) (e_op0 := e_op0) (e_nd := e_nd) (e_tk0 := e_tk0) (e_li := e_li) (e_ec := e_ec) (e_sy := e_sy) (i_SV := i_SV) (p_0 := p_0) (p_1 := p_1) (p_2 := p_2) (p_3 := p_3) (p_4 := p_4) L1603 G1556 A1557 (nd) (G 12) (r1433) (r1558) (at2_1559) (tk2_1563) (fk2_1560) (nd2_1562) (op2_1561) (A 7 (r1433).toNat) (ec2_1564) gL1603_0 gL1603_6 gL1603_1 gL1603_3 gL1603_4 gL1603_5 hW1565 hF1582 hP1583 ((e1569)) ((e1573)) ((e1570)) ((e1572)) ((e1571)) ((congrFun ((hF1566.2 7 rfl).trans ((hF1470.2 7 rfl).trans ((hF1436.2 7 rfl).trans (hF1363.2 7 rfl)))) _)) (e1574) (((hF1566.1 9 rfl).trans ((hF1470.1 9 rfl).trans ((hF1436.1 9 rfl).trans ((hF1363.1 9 rfl).trans (e_ln)))))) (by omega) (by omega) (by omega) (by omega) (by omega) (by omega) (by omega) (by omega) (by omega) (by omega) (by omega) (by omega) (by omega) (by omega) (a1450) (sf1584) ((wE_mono (by omega) (by omega) (by omega) a1592)) (by omega) (by omega) ((NdM_w (NdM_app (sy := sy) sf1585 a1594 (by omega) (by omega) (by omega)) (by omega) (by omega) (by omega)))
                        · have _q := h1609
                          exact absurd h1609 (by omega)
                  · have _q := h1555
                    refine jx_ld (pc_q := 86) (l_q := L1491) (st_q := [.ref 66]) rfl (jl_aloadn gL1491_0) ?_
                    refine jx_ar (pc_q := 87) (st_q := [.int (i32 (4)), .ref 66]) rfl rfl rfl rfl ?_
                    refine jx_ld (pc_q := 88) (l_q := L1491) (st_q := [.int (i32 (G 12)), .int (i32 (4)), .ref 66]) rfl (jl_iloadn gL1491_3) ?_
                    refine jx_vr (pc_q := 91) (as := [.int (i32 (4)), .int (i32 (G 12))]) (st := []) rfl rfl rfl rfl ⟨rfl, rfl, Nat.le_of_ble_eq_true rfl⟩ rfl rfl (c_fail (dd := d) (hd := by omega) (hW := hW1469) (kind := 4) (place := G 12) (fk := fk2_1434) (e_fk := show G1465 16 = fk2_1434 from ((hF1470.1 16 rfl).trans (e1438)))  (h_kind := ⟨(by decide), (by decide)⟩) (h_place := ⟨(Int.le_trans (by decide : (-2147483648 : Int) ≤ -3000) b1429.1), (Int.le_trans b1429.2 (by decide : (3002 : Int) ≤ 2147483647))⟩)  (p_0 := by omega) (p_1 := by omega)) (fun o V_q hq => ?_)
                    obtain ⟨G1611, A1612, fk2_1613, rfl, rfl, hW1614, hF1615, e1616, p1617, -⟩ := hq
                    have hF1619 := Fr_tr hF1477 hF1615 (Fr_sub (by decide)) (Fr_sub (by decide))
                    have hP1620 := Pf_f hP1478 hF1615 (by decide)
                    have sf1621 : ND A1612 (nd) (33) (0) (0) (0) (0) (0) (0) := ND_ag (by omega) (Ag_fr hF1615 (by decide)) sf1479
                    have sf1622 : NdM A1612 (nd) (nd + 1) (sy) := NdM_f hF1615 (by decide) sf1480
                    have ec1623 : ecn A1612 (G1611 31) = ec2_1361 := (ecn_f (hF1615.2 15 rfl) (hF1615.1 31 rfl)).trans ec1481
                    have bfk2_1613 : (0 : Int) ≤ fk2_1613 ∧ fk2_1613 ≤ 6 := e1616 ▸ hW1614.1 16
                    refine .inl ⟨rfl, ?_⟩
                    refine jx_ar (pc_q := 92) (st_q := [.int (i32 (0))]) rfl rfl rfl rfl ?_
                    refine jx_rt (v := some (.int (i32 (0)))) rfl rfl rfl rfl rfl rfl ?_
                    exact ⟨_, _, _, at2_1467, fk2_1613, nd2_1360, ln, ec2_1361, rfl, rfl, hW1614, hF1619, hP1620, by omega, ((hF1615.1 10 rfl).trans (e1471)), (e1616), ((hF1615.1 31 rfl).trans ((hF1470.1 31 rfl).trans ((hF1436.1 31 rfl).trans (e1365)))), ((hF1615.1 9 rfl).trans ((hF1470.1 9 rfl).trans ((hF1436.1 9 rfl).trans ((hF1363.1 9 rfl).trans (e_ln))))), ec1623, by omega, by omega, by omega, by omega, by omega, by first | exact Or.inl (⟨by omega, by omega, by omega⟩)⟩
          · have _q : True := trivial
            refine jx_ld (pc_q := 56) (l_q := jSto1 L1483 6 (.int (i32 (0)))) (st_q := []) rfl rfl ?_
            obtain ⟨L1624, eL1624⟩ : ∃ q, q = jSto1 L1483 6 (.int (i32 (0))) := ⟨_, rfl⟩
            rw [← eL1624]
            have gL1624_0 : jGet L1624 0 = some (.ref 66) := eL1624 ▸ jg_ne (by decide) gL1483_0 rfl
            have gL1624_1 : jGet L1624 1 = some (.int (i32 (nd))) := eL1624 ▸ jg_ne (by decide) gL1483_1 rfl
            have gL1624_2 : jGet L1624 2 = some (.int (i32 (0))) := eL1624 ▸ jg_ne (by decide) gL1483_2 rfl
            have gL1624_3 : jGet L1624 3 = some (.int (i32 (G 12))) := eL1624 ▸ jg_ne (by decide) gL1483_3 rfl
            have gL1624_4 : jGet L1624 4 = some (.int (i32 (r1433))) := eL1624 ▸ jg_ne (by decide) gL1483_4 rfl
            have gL1624_5 : jGet L1624 5 = some (.int (i32 (0))) := eL1624 ▸ jg_ne (by decide) gL1483_5 rfl
            have gL1624_6 : jGet L1624 6 = some (.int (i32 (0))) := eL1624 ▸ jg_eq
            refine jx_ld (pc_q := 58) (l_q := L1624) (st_q := [.int (i32 (0))]) rfl (jl_iload gL1624_6) ?_
            refine jx_if_eq (pc_q := 61) (tg := 99) rfl rfl rfl (by decide) (by decide) (fun h1625 => ?_) (fun h1625 => ?_)
            · have _q := h1625
              refine jx_ld (pc_q := 100) (l_q := L1624) (st_q := [.ref 66]) rfl (jl_aloadn gL1624_0) ?_
              refine jx_vr (pc_q := 103) (as := []) (st := []) rfl rfl rfl rfl ⟨rfl, rfl, Nat.le_of_ble_eq_true rfl⟩ rfl rfl (c_bad (dd := d) (hd := by omega) (hW := hW1469)  (fk := fk2_1434) (e_fk := show G1465 16 = fk2_1434 from ((hF1470.1 16 rfl).trans (e1438)))    ) (fun o V_q hq => ?_)
              obtain ⟨r1626, rfl, rfl, b1627, q1628⟩ := hq
              refine .inr ⟨_, rfl, ?_⟩
              rcases q1628 with ⟨rfl, a1629⟩ | ⟨rfl, a1630⟩
              · have _q : True := trivial
                exfalso
                omega
              · have _q : True := trivial
                refine jx_if_eq (pc_q := 106) (tg := 108) rfl rfl rfl (by decide) (by decide) (fun h1631 => ?_) (fun h1631 => ?_)
                · have _q := h1631
                  have z1632 := tz_f (tk2_1468)
                  exact c_readGuard_w_at_108_0 (X := X) (d := d) (Vs := Vs) (sb := sb) (c0 := c0) (c1 := c1) (G := G) (A := A) (T := T) (ln := ln) (le := le) (at0 := at0) (fk := fk) (op0 := op0) (nd := nd) (tk0 := tk0) (li := li) (ec := ec) (sy := sy) (hd := hd) (hW := hW) (e_ln := e_ln) (e_le := e_le) (e_at0 := e_at0) (e_fk := e_fk) (e_op0 := e_op0) (e_nd := e_nd) (e_tk0 := e_tk0) (e_li := e_li) (e_ec := e_ec) (e_sy := e_sy) (i_SV := i_SV) (p_0 := p_0) (p_1 := p_1) (p_2 := p_2) (p_3 := p_3) (p_4 := p_4) L1624 G1465 A1466 (nd) (G 12) (r1433) (at2_1467) (tk2_1468) (fk2_1434) (nd2_1360) (op0) (A 7 (r1433).toNat) (ec2_1361) gL1624_0 gL1624_6 gL1624_5 gL1624_1 gL1624_3 gL1624_4 hW1469 hF1477 hP1478 ((e1471)) ((e1472)) (((hF1470.1 16 rfl).trans (e1438))) (((hF1470.1 31 rfl).trans ((hF1436.1 31 rfl).trans (e1365)))) (((hF1470.1 15 rfl).trans ((hF1436.1 15 rfl).trans ((hF1363.1 15 rfl).trans (e_op0))))) ((congrFun ((hF1470.2 7 rfl).trans ((hF1436.2 7 rfl).trans (hF1363.2 7 rfl))) _)) (ec1481) (((hF1470.1 9 rfl).trans ((hF1436.1 9 rfl).trans ((hF1363.1 9 rfl).trans (e_ln))))) (by omega) (by omega) (by omega) (by omega) (by omega) (by omega) (by omega) (by omega) (by omega) (by omega) (by omega) (by omega) (by omega) (a1450) (sf1479) (by omega) ((NdM_w sf1480 (by omega) (by omega) (by omega)))
                · have _q := h1631
                  exact absurd h1631 (by omega)
            · have _q := h1625
              exact absurd h1625 (by omega)
        · have _q := h1464
          exact absurd h1464 (by omega)
