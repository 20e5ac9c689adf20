set_option maxRecDepth 20000 in
set_option maxHeartbeats 4000000 in
theorem c_readGuard_w_at_359p {X : jX} {d : Nat} {Vs : Nat → Prop} {sb : Int} {c0 c1 : jC} {G : Nat → Int} {A : Nat → Nat → Int} {T : jH} {ln le at0 fk op0 nd tk0 li ec : Int} (hd : 71 ≤ d + 1) (hW : Wk G A) (e_ln : G 9 = ln) (e_le : A 4 (ln).toNat = le) (e_at0 : G 10 = at0) (e_fk : G 16 = fk) (e_op0 : G 15 = op0) (e_nd : G 31 = nd) (e_tk0 : G 11 = tk0) (e_li : G 3 = li) (e_ec : ecn A (G 31) = ec) (i_SV : SV Vs sb G A) (p_0 : 0 ≤ op0 ∧ op0 ≤ 8) (p_1 : fk = 0) (p_2 : nd ≤ 2 * at0 - tz tk0 + 42) (p_3 : at0 ≤ le) (p_4 : ln < li) : ∀ (L : jL) (Gx : Nat → Int) (Ax : Nat → Nat → Int) (one at1 tk1 fk1 nd1 op1 ec1 : Int), jGet L 0 = some (.ref 66) → jGet L 1 = some (.int (i32 one)) → Wk Gx Ax → Fr [9, 10, 11, 12, 13, 14, 15, 16, 17, 18, 31] [15, 16, 17, 18, 19, 20, 21, 22, 24, 28] G A Gx Ax → Pf nd A Ax → Gx 10 = at1 → Gx 11 = tk1 → Gx 16 = fk1 → Gx 31 = nd1 → Gx 15 = op1 → ecn Ax (Gx 31) = ec1 → Gx 9 = ln → ((-2147483648 : Int) ≤ one ∧ one ≤ 2147483647) → (at0 ≤ at1) → (at1 ≤ le) → (nd ≤ nd1) → (op1 = op0) → (one = nd) → (one ≤ 6998 ∧ one < nd1) → (1 ≤ fk1) → (nd1 - nd ≤ (2 * at1 - tz tk1) - (2 * at0 - tz tk0) + 6) → wj X d jm303 (359, L, [], rV c0 c1 Gx Ax T) (fun o V' => ∃ (G' : Nat → Int) (A' : Nat → Nat → Int) (r : Int) (at2 : Int) (fk2 : Int) (nd2 : Int) (ln2 : Int) (ec2 : Int), V' = rV c0 c1 G' A' T ∧ o = .inl (some (.int (i32 r))) ∧ Wk G' A' ∧ Fr [9, 10, 11, 12, 13, 14, 15, 16, 17, 18, 31] [15, 16, 17, 18, 19, 20, 21, 22, 24, 28] G A G' A' ∧ Pf nd A A' ∧ ((-2147483648 : Int) ≤ r ∧ r ≤ 2147483647) ∧ G' 10 = at2 ∧ G' 16 = fk2 ∧ G' 31 = nd2 ∧ G' 9 = ln2 ∧ ecn A' (G' 31) = ec2 ∧ (at0 ≤ at2) ∧ (at2 ≤ le) ∧ (nd ≤ nd2) ∧ (0 ≤ r) ∧ (r ≤ nd2) ∧ (((1 ≤ fk2) ∧ (ln2 = ln) ∧ (nd2 - nd ≤ 2 * at2 - 2 * at0 + 12)) ∨ ((fk2 = 0) ∧ (ln2 = ln + 1) ∧ (nd2 - nd ≤ 2 * at2 - (2 * at0 - tz tk0) + 0) ∧ (nd ≤ r) ∧ (r < nd2) ∧ (wU A' Vs sb (r) (nd) (nd2)) ∧ (NX A' (r)) ∧ (nd2 - nd + 5 * (ec2 - ec) ≤ 2 * at2 - (2 * at0 - tz tk0) + 0)))) := by
  have hF0 : Fr [9, 10, 11, 12, 13, 14, 15, 16, 17, 18, 31] [15, 16, 17, 18, 19, 20, 21, 22, 24, 28] G A G A := Fr_rf
  have hP0 : Pf nd A A := Pf_rf
  have b_ln : (0 : Int) ≤ ln ∧ ln ≤ 3000 := e_ln ▸ hW.1 9
  have b_le : (0 : Int) ≤ le ∧ le ≤ 3000 := e_le ▸ hW.2 4 _
  have b_at0 : (0 : Int) ≤ at0 ∧ at0 ≤ 3002 := e_at0 ▸ hW.1 10
  have b_fk : (0 : Int) ≤ fk ∧ fk ≤ 6 := e_fk ▸ hW.1 16
  have b_op0 : (-2147483648 : Int) ≤ op0 ∧ op0 ≤ 2147483647 := e_op0 ▸ hW.1 15
  have b_nd : (0 : Int) ≤ nd ∧ nd ≤ 6999 := e_nd ▸ hW.1 31
  have z_tk0 := tz_f tk0
  have b_tk0 : (0 : Int) ≤ tk0 ∧ tk0 ≤ 5 := e_tk0 ▸ hW.1 11
  have b_li : (0 : Int) ≤ li ∧ li ≤ 3000 := e_li ▸ hW.1 3
  intro L Gx Ax one at1 tk1 fk1 nd1 op1 ec1 gL_0 gL_1 hWx hFx hPx ex_at1 ex_tk1 ex_fk1 ex_nd1 ex_op1 ex_ec1 fx_9 rx_one iv_0 iv_1 iv_2 iv_3 iv_4 iv_5 iv_6 iv_7
  have b_at1 : (0 : Int) ≤ at1 ∧ at1 ≤ 3002 := ex_at1 ▸ hWx.1 10
  have z_tk1 := tz_f tk1
  have b_tk1 : (0 : Int) ≤ tk1 ∧ tk1 ≤ 5 := ex_tk1 ▸ hWx.1 11
  have b_fk1 : (0 : Int) ≤ fk1 ∧ fk1 ≤ 6 := ex_fk1 ▸ hWx.1 16
  have b_nd1 : (0 : Int) ≤ nd1 ∧ nd1 ≤ 6999 := ex_nd1 ▸ hWx.1 31
  have b_op1 : (-2147483648 : Int) ≤ op1 ∧ op1 ≤ 2147483647 := ex_op1 ▸ hWx.1 15
  refine jx_ld (pc' := 360) (l' := L) (st' := [.ref 66]) rfl (jl_aloadn gL_0) ?_
  refine jx_vr (pc' := 363) (as := []) (st := []) rfl rfl rfl rfl ⟨rfl, rfl, Nat.le_of_ble_eq_true rfl⟩ rfl rfl (c_endLine (dd := d) (hd := by omega) (hW := hWx)  (ln := ln) (e_ln := show Gx 9 = ln from (fx_9)) (li := li) (e_li := show Gx 3 = li from ((hFx.1 3 rfl).trans (e_li))) (fk := fk1) (e_fk := show Gx 16 = fk1 from (ex_fk1)) (tk0 := tk1) (e_tk0 := show Gx 11 = tk1 from (ex_tk1))    (p_0 := by omega)) (fun o V' hq => ?_)
  obtain ⟨G1, A2, ln2_3, fk2_4, rfl, rfl, hW5, hF6, e7, e8, q9⟩ := hq
  have hF10 := Fr_tr hFx hF6 (Fr_sub (by decide)) (Fr_sub (by decide))
  have hP11 := Pf_f hPx hF6 (by decide)
  have ec12 : ecn A2 (G1 31) = ec1 := (ecn_f (hF6.2 15 rfl) (hF6.1 31 rfl)).trans ex_ec1
  have bln2_3 : (0 : Int) ≤ ln2_3 ∧ ln2_3 ≤ 3000 := e7 ▸ hW5.1 9
  have bfk2_4 : (0 : Int) ≤ fk2_4 ∧ fk2_4 ≤ 6 := e8 ▸ hW5.1 16
  refine .inl ⟨rfl, ?_⟩
  rcases q9 with ⟨a13, a14, a15, a16, a17⟩ | ⟨a18, a19⟩
  · have _q : True := trivial
    exfalso
    omega
  · have _q : True := trivial
    refine jx_ld (pc' := 364) (l' := L) (st' := [.int (i32 (one))]) rfl (jl_iloadn gL_1) ?_
    refine jx_rt (v := some (.int (i32 (one)))) rfl rfl rfl rfl rfl rfl ?_
    exact ⟨_, _, _, at1, fk2_4, nd1, ln2_3, ec1, rfl, rfl, hW5, hF10, hP11, by omega, ((hF6.1 10 rfl).trans (ex_at1)), (e8), ((hF6.1 31 rfl).trans (ex_nd1)), (e7), ec12, by omega, by omega, by omega, by omega, by omega, by first | exact Or.inl (⟨by omega, by omega, by omega⟩)⟩
set_option maxRecDepth 20000 in
set_option maxHeartbeats 4000000 in
theorem c_readGuard_w_at_348p {X : jX} {d : Nat} {Vs : Nat → Prop} {sb : Int} {c0 c1 : jC} {G : Nat → Int} {A : Nat → Nat → Int} {T : jH} {ln le at0 fk op0 nd tk0 li ec : Int} (hd : 71 ≤ d + 1) (hW : Wk G A) (e_ln : G 9 = ln) (e_le : A 4 (ln).toNat = le) (e_at0 : G 10 = at0) (e_fk : G 16 = fk) (e_op0 : G 15 = op0) (e_nd : G 31 = nd) (e_tk0 : G 11 = tk0) (e_li : G 3 = li) (e_ec : ecn A (G 31) = ec) (i_SV : SV Vs sb G A) (p_0 : 0 ≤ op0 ∧ op0 ≤ 8) (p_1 : fk = 0) (p_2 : nd ≤ 2 * at0 - tz tk0 + 42) (p_3 : at0 ≤ le) (p_4 : ln < li) : ∀ (L : jL) (Gx : Nat → Int) (Ax : Nat → Nat → Int) (one at1 tk1 fk1 nd1 op1 ec1 : Int), jGet L 0 = some (.ref 66) → jGet L 1 = some (.int (i32 one)) → Wk Gx Ax → Fr [9, 10, 11, 12, 13, 14, 15, 16, 17, 18, 31] [15, 16, 17, 18, 19, 20, 21, 22, 24, 28] G A Gx Ax → Pf nd A Ax → Gx 10 = at1 → Gx 11 = tk1 → Gx 16 = fk1 → Gx 31 = nd1 → Gx 15 = op1 → ecn Ax (Gx 31) = ec1 → Gx 9 = ln → ((-2147483648 : Int) ≤ one ∧ one ≤ 2147483647) → (at0 ≤ at1) → (at1 ≤ le) → (nd ≤ nd1) → (op1 = op0) → (one = nd) → (one ≤ 6998 ∧ one < nd1) → (1 ≤ fk1) → (nd1 - nd ≤ (2 * at1 - tz tk1) - (2 * at0 - tz tk0) + 6) → wj X d jm303 (348, L, [], rV c0 c1 Gx Ax T) (fun o V' => ∃ (G' : Nat → Int) (A' : Nat → Nat → Int) (r : Int) (at2 : Int) (fk2 : Int) (nd2 : Int) (ln2 : Int) (ec2 : Int), V' = rV c0 c1 G' A' T ∧ o = .inl (some (.int (i32 r))) ∧ Wk G' A' ∧ Fr [9, 10, 11, 12, 13, 14, 15, 16, 17, 18, 31] [15, 16, 17, 18, 19, 20, 21, 22, 24, 28] G A G' A' ∧ Pf nd A A' ∧ ((-2147483648 : Int) ≤ r ∧ r ≤ 2147483647) ∧ G' 10 = at2 ∧ G' 16 = fk2 ∧ G' 31 = nd2 ∧ G' 9 = ln2 ∧ ecn A' (G' 31) = ec2 ∧ (at0 ≤ at2) ∧ (at2 ≤ le) ∧ (nd ≤ nd2) ∧ (0 ≤ r) ∧ (r ≤ nd2) ∧ (((1 ≤ fk2) ∧ (ln2 = ln) ∧ (nd2 - nd ≤ 2 * at2 - 2 * at0 + 12)) ∨ ((fk2 = 0) ∧ (ln2 = ln + 1) ∧ (nd2 - nd ≤ 2 * at2 - (2 * at0 - tz tk0) + 0) ∧ (nd ≤ r) ∧ (r < nd2) ∧ (wU A' Vs sb (r) (nd) (nd2)) ∧ (NX A' (r)) ∧ (nd2 - nd + 5 * (ec2 - ec) ≤ 2 * at2 - (2 * at0 - tz tk0) + 0)))) := by
  have hF0 : Fr [9, 10, 11, 12, 13, 14, 15, 16, 17, 18, 31] [15, 16, 17, 18, 19, 20, 21, 22, 24, 28] G A G A := Fr_rf
  have hP0 : Pf nd A A := Pf_rf
  have b_ln : (0 : Int) ≤ ln ∧ ln ≤ 3000 := e_ln ▸ hW.1 9
  have b_le : (0 : Int) ≤ le ∧ le ≤ 3000 := e_le ▸ hW.2 4 _
  have b_at0 : (0 : Int) ≤ at0 ∧ at0 ≤ 3002 := e_at0 ▸ hW.1 10
  have b_fk : (0 : Int) ≤ fk ∧ fk ≤ 6 := e_fk ▸ hW.1 16
  have b_op0 : (-2147483648 : Int) ≤ op0 ∧ op0 ≤ 2147483647 := e_op0 ▸ hW.1 15
  have b_nd : (0 : Int) ≤ nd ∧ nd ≤ 6999 := e_nd ▸ hW.1 31
  have z_tk0 := tz_f tk0
  have b_tk0 : (0 : Int) ≤ tk0 ∧ tk0 ≤ 5 := e_tk0 ▸ hW.1 11
  have b_li : (0 : Int) ≤ li ∧ li ≤ 3000 := e_li ▸ hW.1 3
  intro L Gx Ax one at1 tk1 fk1 nd1 op1 ec1 gL_0 gL_1 hWx hFx hPx ex_at1 ex_tk1 ex_fk1 ex_nd1 ex_op1 ex_ec1 fx_9 rx_one iv_0 iv_1 iv_2 iv_3 iv_4 iv_5 iv_6 iv_7
  have b_at1 : (0 : Int) ≤ at1 ∧ at1 ≤ 3002 := ex_at1 ▸ hWx.1 10
  have z_tk1 := tz_f tk1
  have b_tk1 : (0 : Int) ≤ tk1 ∧ tk1 ≤ 5 := ex_tk1 ▸ hWx.1 11
  have b_fk1 : (0 : Int) ≤ fk1 ∧ fk1 ≤ 6 := ex_fk1 ▸ hWx.1 16
  have b_nd1 : (0 : Int) ≤ nd1 ∧ nd1 ≤ 6999 := ex_nd1 ▸ hWx.1 31
  have b_op1 : (-2147483648 : Int) ≤ op1 ∧ op1 ≤ 2147483647 := ex_op1 ▸ hWx.1 15
  refine jx_ld (pc' := 349) (l' := L) (st' := [.ref 66]) rfl (jl_aloadn gL_0) ?_
  refine jr_get (pc' := 352) (i := 36) (v := .ref 86) rfl rfl (by decide) rfl rfl ?_
  refine jx_ld (pc' := 353) (l' := L) (st' := [.int (i32 (one)), .ref 86]) rfl (jl_iloadn gL_1) ?_
  refine jx_ld (pc' := 354) (l' := L) (st' := [.ref 66, .int (i32 (one)), .ref 86]) rfl (jl_aloadn gL_0) ?_
  refine jx_ar (pc' := 355) (st' := [.int (i32 (0)), .ref 66, .int (i32 (one)), .ref 86]) rfl rfl rfl rfl ?_
  refine jx_vr (pc' := 358) (as := [.int (i32 (0))]) (st := [.int (i32 (one)), .ref 86]) rfl rfl rfl rfl ⟨rfl, rfl, Nat.le_of_ble_eq_true rfl⟩ rfl rfl (c_readReference_w (dd := d) (hd := by omega) (hW := hWx) (ch := 0) (ln := ln) (e_ln := show Gx 9 = ln from (fx_9)) (le := le) (e_le := show Ax 4 (ln).toNat = le from (congrFun (hFx.2 4 rfl) _).trans (e_le)) (at0 := at1) (e_at0 := show Gx 10 = at1 from (ex_at1)) (fk := fk1) (e_fk := show Gx 16 = fk1 from (ex_fk1)) (op0 := op1) (e_op0 := show Gx 15 = op1 from (ex_op1)) (nd := nd1) (e_nd := show Gx 31 = nd1 from (ex_nd1)) (tk0 := tk1) (e_tk0 := show Gx 11 = tk1 from (ex_tk1)) (ec := ec1) (e_ec := show ecn Ax (Gx 31) = ec1 from ex_ec1) (i_SV := (SV_ext ((hFx.1 29 rfl)) ((hFx.2 14 rfl)) i_SV)) (h_ch := ⟨(by decide), (by decide)⟩)  (p_0 := by omega) (p_1 := by omega) (p_2 := by omega) (p_3 := by omega) (p_4 := by omega)) (fun o V' hq => ?_)
  obtain ⟨G20, A21, r22, at2_23, fk2_24, op2_25, nd2_26, tk2_27, ec2_28, rfl, rfl, hW29, hF30, hQ31, b32, e33, e34, e35, e36, e37, e38, p39, p40, p41, p42, p43, p44, q45⟩ := hq
  have hF46 := Fr_tr hFx hF30 (Fr_sub (by decide)) (Fr_sub (by decide))
  have hP47 := Pf_tr hPx hQ31 (by omega)
  have bat2_23 : (0 : Int) ≤ at2_23 ∧ at2_23 ≤ 3002 := e33 ▸ hW29.1 10
  have bfk2_24 : (0 : Int) ≤ fk2_24 ∧ fk2_24 ≤ 6 := e34 ▸ hW29.1 16
  have bop2_25 : (-2147483648 : Int) ≤ op2_25 ∧ op2_25 ≤ 2147483647 := e35 ▸ hW29.1 15
  have bnd2_26 : (0 : Int) ≤ nd2_26 ∧ nd2_26 ≤ 6999 := e36 ▸ hW29.1 31
  have ztk2_27 := tz_b tk2_27
  have btk2_27 : (0 : Int) ≤ tk2_27 ∧ tk2_27 ≤ 5 := e37 ▸ hW29.1 11
  refine .inr ⟨_, rfl, ?_⟩
  rcases q45 with ⟨a48, a49, a50, a51, a52, a53⟩ | ⟨a54, a55, a56⟩ | ⟨a57, a58, a59, a60, a61, a62⟩
  · have _q : True := trivial
    refine jr_st (pc' := 359) (i := 19) (m := 7000) (z := one) (y := r22) rfl (by decide) rfl (by decide) (by omega) (by omega) rfl ?_
    have hW64 : Wk G20 (uA A21 19 (one).toNat (r22)) := Wk_a hW29 (show (-2147483648 : Int) ≤ r22 by omega) (show r22 ≤ (2147483647 : Int) by omega)
    have hF65 := Fr_a (z := r22) (k := 19) (n := (one).toNat) hF46 (by decide)
    obtain ⟨A63, eA63⟩ : ∃ q, q = uA A21 19 (one).toNat (r22) := ⟨_, rfl⟩
    rw [← eA63]
    rw [← eA63] at hW64 hF65
    have q66 : A63 19 (one).toNat = r22 := by rw [eA63]; exact uA_eq
    have hP67 : Pf nd A A63 := eA63 ▸ Pf_a hP47 (z := one) (by omega) (by omega)
    have ec68 : ecn A63 (G20 31) = ec2_28 := (ecn_e ((congrFun eA63 15).trans (uA_ne (by decide)))).trans e38
    have z69 := tz_f (tk2_27)
    exact c_readGuard_w_at_359p (X := X) (d := d) (Vs := Vs) (sb := sb) (c0 := c0) (c1 := c1) (G := G) (A := A) (T := T) (ln := ln) (le := le) (at0 := at0) (fk := fk) (op0 := op0) (nd := nd) (tk0 := tk0) (li := li) (ec := ec) (hd := hd) (hW := hW) (e_ln := e_ln) (e_le := e_le) (e_at0 := e_at0) (e_fk := e_fk) (e_op0 := e_op0) (e_nd := e_nd) (e_tk0 := e_tk0) (e_li := e_li) (e_ec := e_ec) (i_SV := i_SV) (p_0 := p_0) (p_1 := p_1) (p_2 := p_2) (p_3 := p_3) (p_4 := p_4) L G20 A63 (one) (at2_23) (tk2_27) (fk2_24) (nd2_26) (op2_25) (ec2_28) gL_0 gL_1 hW64 hF65 hP67 ((e33)) ((e37)) ((e34)) ((e36)) ((e35)) (ec68) (((hF30.1 9 rfl).trans (fx_9))) (by omega) (by omega) (by omega) (by omega) (by omega) (by omega) (by omega) (by omega) (by omega)
  · have _q : True := trivial
    exfalso
    omega
  · have _q : True := trivial
    exfalso
    omega
set_option maxRecDepth 20000 in
set_option maxHeartbeats 4000000 in
theorem c_readGuard_w_at_338p {X : jX} {d : Nat} {Vs : Nat → Prop} {sb : Int} {c0 c1 : jC} {G : Nat → Int} {A : Nat → Nat → Int} {T : jH} {ln le at0 fk op0 nd tk0 li ec : Int} (hd : 71 ≤ d + 1) (hW : Wk G A) (e_ln : G 9 = ln) (e_le : A 4 (ln).toNat = le) (e_at0 : G 10 = at0) (e_fk : G 16 = fk) (e_op0 : G 15 = op0) (e_nd : G 31 = nd) (e_tk0 : G 11 = tk0) (e_li : G 3 = li) (e_ec : ecn A (G 31) = ec) (i_SV : SV Vs sb G A) (p_0 : 0 ≤ op0 ∧ op0 ≤ 8) (p_1 : fk = 0) (p_2 : nd ≤ 2 * at0 - tz tk0 + 42) (p_3 : at0 ≤ le) (p_4 : ln < li) : ∀ (L : jL) (Gx : Nat → Int) (Ax : Nat → Nat → Int) (one at1 tk1 fk1 nd1 op1 ec1 : Int), jGet L 0 = some (.ref 66) → jGet L 1 = some (.int (i32 one)) → Wk Gx Ax → Fr [9, 10, 11, 12, 13, 14, 15, 16, 17, 18, 31] [15, 16, 17, 18, 19, 20, 21, 22, 24, 28] G A Gx Ax → Pf nd A Ax → Gx 10 = at1 → Gx 11 = tk1 → Gx 16 = fk1 → Gx 31 = nd1 → Gx 15 = op1 → ecn Ax (Gx 31) = ec1 → Gx 9 = ln → ((-2147483648 : Int) ≤ one ∧ one ≤ 2147483647) → (at0 ≤ at1) → (at1 ≤ le) → (nd ≤ nd1) → (op1 = op0) → (one = nd) → (one ≤ 6998 ∧ one < nd1) → (1 ≤ fk1) → (nd1 - nd ≤ (2 * at1 - tz tk1) - (2 * at0 - tz tk0) + 6) → wj X d jm303 (338, L, [], rV c0 c1 Gx Ax T) (fun o V' => ∃ (G' : Nat → Int) (A' : Nat → Nat → Int) (r : Int) (at2 : Int) (fk2 : Int) (nd2 : Int) (ln2 : Int) (ec2 : Int), V' = rV c0 c1 G' A' T ∧ o = .inl (some (.int (i32 r))) ∧ Wk G' A' ∧ Fr [9, 10, 11, 12, 13, 14, 15, 16, 17, 18, 31] [15, 16, 17, 18, 19, 20, 21, 22, 24, 28] G A G' A' ∧ Pf nd A A' ∧ ((-2147483648 : Int) ≤ r ∧ r ≤ 2147483647) ∧ G' 10 = at2 ∧ G' 16 = fk2 ∧ G' 31 = nd2 ∧ G' 9 = ln2 ∧ ecn A' (G' 31) = ec2 ∧ (at0 ≤ at2) ∧ (at2 ≤ le) ∧ (nd ≤ nd2) ∧ (0 ≤ r) ∧ (r ≤ nd2) ∧ (((1 ≤ fk2) ∧ (ln2 = ln) ∧ (nd2 - nd ≤ 2 * at2 - 2 * at0 + 12)) ∨ ((fk2 = 0) ∧ (ln2 = ln + 1) ∧ (nd2 - nd ≤ 2 * at2 - (2 * at0 - tz tk0) + 0) ∧ (nd ≤ r) ∧ (r < nd2) ∧ (wU A' Vs sb (r) (nd) (nd2)) ∧ (NX A' (r)) ∧ (nd2 - nd + 5 * (ec2 - ec) ≤ 2 * at2 - (2 * at0 - tz tk0) + 0)))) := by
  have hF0 : Fr [9, 10, 11, 12, 13, 14, 15, 16, 17, 18, 31] [15, 16, 17, 18, 19, 20, 21, 22, 24, 28] G A G A := Fr_rf
  have hP0 : Pf nd A A := Pf_rf
  have b_ln : (0 : Int) ≤ ln ∧ ln ≤ 3000 := e_ln ▸ hW.1 9
  have b_le : (0 : Int) ≤ le ∧ le ≤ 3000 := e_le ▸ hW.2 4 _
  have b_at0 : (0 : Int) ≤ at0 ∧ at0 ≤ 3002 := e_at0 ▸ hW.1 10
  have b_fk : (0 : Int) ≤ fk ∧ fk ≤ 6 := e_fk ▸ hW.1 16
  have b_op0 : (-2147483648 : Int) ≤ op0 ∧ op0 ≤ 2147483647 := e_op0 ▸ hW.1 15
  have b_nd : (0 : Int) ≤ nd ∧ nd ≤ 6999 := e_nd ▸ hW.1 31
  have z_tk0 := tz_f tk0
  have b_tk0 : (0 : Int) ≤ tk0 ∧ tk0 ≤ 5 := e_tk0 ▸ hW.1 11
  have b_li : (0 : Int) ≤ li ∧ li ≤ 3000 := e_li ▸ hW.1 3
  intro L Gx Ax one at1 tk1 fk1 nd1 op1 ec1 gL_0 gL_1 hWx hFx hPx ex_at1 ex_tk1 ex_fk1 ex_nd1 ex_op1 ex_ec1 fx_9 rx_one iv_0 iv_1 iv_2 iv_3 iv_4 iv_5 iv_6 iv_7
  have b_at1 : (0 : Int) ≤ at1 ∧ at1 ≤ 3002 := ex_at1 ▸ hWx.1 10
  have z_tk1 := tz_f tk1
  have b_tk1 : (0 : Int) ≤ tk1 ∧ tk1 ≤ 5 := ex_tk1 ▸ hWx.1 11
  have b_fk1 : (0 : Int) ≤ fk1 ∧ fk1 ≤ 6 := ex_fk1 ▸ hWx.1 16
  have b_nd1 : (0 : Int) ≤ nd1 ∧ nd1 ≤ 6999 := ex_nd1 ▸ hWx.1 31
  have b_op1 : (-2147483648 : Int) ≤ op1 ∧ op1 ≤ 2147483647 := ex_op1 ▸ hWx.1 15
  refine jx_ld (pc' := 339) (l' := L) (st' := [.ref 66]) rfl (jl_aloadn gL_0) ?_
  refine jx_ld (pc' := 340) (l' := L) (st' := [.ref 66, .ref 66]) rfl (jl_aloadn gL_0) ?_
  refine jx_ar (pc' := 342) (st' := [.int (i32 (63)), .ref 66, .ref 66]) rfl rfl rfl rfl ?_
  have b70 : (-2147483648 : Int) ≤ Gx 13 ∧ Gx 13 ≤ 2147483647 := hWx.1 13
  refine jx_vr (pc' := 345) (as := [.int (i32 (63))]) (st := [.ref 66]) rfl rfl rfl rfl ⟨rfl, rfl, Nat.le_of_ble_eq_true rfl⟩ rfl rfl (c_is (dd := d) (hd := by omega) (hW := hWx) (k := 63) (tk := tk1) (e_tk := show Gx 11 = tk1 from (ex_tk1)) (tn := Gx 13) (e_tn := show Gx 13 = Gx 13 from rfl)  (h_k := ⟨(by decide), (by decide)⟩)  ) (fun o V' hq => ?_)
  obtain ⟨r71, rfl, rfl, b72, q73⟩ := hq
  refine .inr ⟨_, rfl, ?_⟩
  rcases q73 with ⟨rfl, a74, a75, a76⟩ | rfl
  · have _q : True := trivial
    refine jx_vr (pc' := 348) (as := [.int (i32 (1))]) (st := []) rfl rfl rfl rfl ⟨rfl, rfl, Nat.le_of_ble_eq_true rfl⟩ rfl rfl (c_need (dd := d) (hd := by omega) (hW := hWx) (g := 1) (ln := ln) (e_ln := show Gx 9 = ln from (fx_9)) (le := le) (e_le := show Ax 4 (ln).toNat = le from (congrFun (hFx.2 4 rfl) _).trans (e_le)) (at0 := at1) (e_at0 := show Gx 10 = at1 from (ex_at1)) (fk := fk1) (e_fk := show Gx 16 = fk1 from (ex_fk1)) (tk0 := tk1) (e_tk0 := show Gx 11 = tk1 from (ex_tk1))  (h_g := ⟨(by decide), (by decide)⟩)  (p_0 := by omega)) (fun o V' hq => ?_)
    obtain ⟨G77, A78, at2_79, tk2_80, fk2_81, rfl, rfl, hW82, hF83, e84, e85, e86, p87, p88, q89⟩ := hq
    have hF90 := Fr_tr hFx hF83 (Fr_sub (by decide)) (Fr_sub (by decide))
    have hP91 := Pf_f hPx hF83 (by decide)
    have ec92 : ecn A78 (G77 31) = ec1 := (ecn_f (hF83.2 15 rfl) (hF83.1 31 rfl)).trans ex_ec1
    have bat2_79 : (0 : Int) ≤ at2_79 ∧ at2_79 ≤ 3002 := e84 ▸ hW82.1 10
    have ztk2_80 := tz_b tk2_80
    have btk2_80 : (0 : Int) ≤ tk2_80 ∧ tk2_80 ≤ 5 := e85 ▸ hW82.1 11
    have bfk2_81 : (0 : Int) ≤ fk2_81 ∧ fk2_81 ≤ 6 := e86 ▸ hW82.1 16
    refine .inl ⟨rfl, ?_⟩
    rcases q89 with ⟨a93, a94, a95, a96⟩ | ⟨a97, a98, a99, a100⟩
    · have _q : True := trivial
      have z101 := tz_f (tk2_80)
      exact c_readGuard_w_at_348p (X := X) (d := d) (Vs := Vs) (sb := sb) (c0 := c0) (c1 := c1) (G := G) (A := A) (T := T) (ln := ln) (le := le) (at0 := at0) (fk := fk) (op0 := op0) (nd := nd) (tk0 := tk0) (li := li) (ec := ec) (hd := hd) (hW := hW) (e_ln := e_ln) (e_le := e_le) (e_at0 := e_at0) (e_fk := e_fk) (e_op0 := e_op0) (e_nd := e_nd) (e_tk0 := e_tk0) (e_li := e_li) (e_ec := e_ec) (i_SV := i_SV) (p_0 := p_0) (p_1 := p_1) (p_2 := p_2) (p_3 := p_3) (p_4 := p_4) L G77 A78 (one) (at2_79) (tk2_80) (fk2_81) (nd1) (op1) (ec1) gL_0 gL_1 hW82 hF90 hP91 ((e84)) ((e85)) ((e86)) (((hF83.1 31 rfl).trans (ex_nd1))) (((hF83.1 15 rfl).trans (ex_op1))) (ec92) (((hF83.1 9 rfl).trans (fx_9))) (by omega) (by omega) (by omega) (by omega) (by omega) (by omega) (by omega) (by omega) (by omega)
    · have _q : True := trivial
      exfalso
      omega
  · have _q : True := trivial
    refine jx_vr (pc' := 348) (as := [.int (i32 (0))]) (st := []) rfl rfl rfl rfl ⟨rfl, rfl, Nat.le_of_ble_eq_true rfl⟩ rfl rfl (c_need (dd := d) (hd := by omega) (hW := hWx) (g := 0) (ln := ln) (e_ln := show Gx 9 = ln from (fx_9)) (le := le) (e_le := show Ax 4 (ln).toNat = le from (congrFun (hFx.2 4 rfl) _).trans (e_le)) (at0 := at1) (e_at0 := show Gx 10 = at1 from (ex_at1)) (fk := fk1) (e_fk := show Gx 16 = fk1 from (ex_fk1)) (tk0 := tk1) (e_tk0 := show Gx 11 = tk1 from (ex_tk1))  (h_g := ⟨(by decide), (by decide)⟩)  (p_0 := by omega)) (fun o V' hq => ?_)
    obtain ⟨G102, A103, at2_104, tk2_105, fk2_106, rfl, rfl, hW107, hF108, e109, e110, e111, p112, p113, q114⟩ := hq
    have hF115 := Fr_tr hFx hF108 (Fr_sub (by decide)) (Fr_sub (by decide))
    have hP116 := Pf_f hPx hF108 (by decide)
    have ec117 : ecn A103 (G102 31) = ec1 := (ecn_f (hF108.2 15 rfl) (hF108.1 31 rfl)).trans ex_ec1
    have bat2_104 : (0 : Int) ≤ at2_104 ∧ at2_104 ≤ 3002 := e109 ▸ hW107.1 10
    have ztk2_105 := tz_b tk2_105
    have btk2_105 : (0 : Int) ≤ tk2_105 ∧ tk2_105 ≤ 5 := e110 ▸ hW107.1 11
    have bfk2_106 : (0 : Int) ≤ fk2_106 ∧ fk2_106 ≤ 6 := e111 ▸ hW107.1 16
    refine .inl ⟨rfl, ?_⟩
    rcases q114 with ⟨a118, a119, a120, a121⟩ | ⟨a122, a123, a124, a125⟩
    · have _q : True := trivial
      have z126 := tz_f (tk2_105)
      exact c_readGuard_w_at_348p (X := X) (d := d) (Vs := Vs) (sb := sb) (c0 := c0) (c1 := c1) (G := G) (A := A) (T := T) (ln := ln) (le := le) (at0 := at0) (fk := fk) (op0 := op0) (nd := nd) (tk0 := tk0) (li := li) (ec := ec) (hd := hd) (hW := hW) (e_ln := e_ln) (e_le := e_le) (e_at0 := e_at0) (e_fk := e_fk) (e_op0 := e_op0) (e_nd := e_nd) (e_tk0 := e_tk0) (e_li := e_li) (e_ec := e_ec) (i_SV := i_SV) (p_0 := p_0) (p_1 := p_1) (p_2 := p_2) (p_3 := p_3) (p_4 := p_4) L G102 A103 (one) (at2_104) (tk2_105) (fk2_106) (nd1) (op1) (ec1) gL_0 gL_1 hW107 hF115 hP116 ((e109)) ((e110)) ((e111)) (((hF108.1 31 rfl).trans (ex_nd1))) (((hF108.1 15 rfl).trans (ex_op1))) (ec117) (((hF108.1 9 rfl).trans (fx_9))) (by omega) (by omega) (by omega) (by omega) (by omega) (by omega) (by omega) (by omega) (by omega)
    · have _q : True := trivial
      exfalso
      omega
set_option maxRecDepth 20000 in
set_option maxHeartbeats 4000000 in
theorem c_readGuard_w_at_327p {X : jX} {d : Nat} {Vs : Nat → Prop} {sb : Int} {c0 c1 : jC} {G : Nat → Int} {A : Nat → Nat → Int} {T : jH} {ln le at0 fk op0 nd tk0 li ec : Int} (hd : 71 ≤ d + 1) (hW : Wk G A) (e_ln : G 9 = ln) (e_le : A 4 (ln).toNat = le) (e_at0 : G 10 = at0) (e_fk : G 16 = fk) (e_op0 : G 15 = op0) (e_nd : G 31 = nd) (e_tk0 : G 11 = tk0) (e_li : G 3 = li) (e_ec : ecn A (G 31) = ec) (i_SV : SV Vs sb G A) (p_0 : 0 ≤ op0 ∧ op0 ≤ 8) (p_1 : fk = 0) (p_2 : nd ≤ 2 * at0 - tz tk0 + 42) (p_3 : at0 ≤ le) (p_4 : ln < li) : ∀ (L : jL) (Gx : Nat → Int) (Ax : Nat → Nat → Int) (one at1 tk1 fk1 nd1 op1 ec1 : Int), jGet L 0 = some (.ref 66) → jGet L 1 = some (.int (i32 one)) → Wk Gx Ax → Fr [9, 10, 11, 12, 13, 14, 15, 16, 17, 18, 31] [15, 16, 17, 18, 19, 20, 21, 22, 24, 28] G A Gx Ax → Pf nd A Ax → Gx 10 = at1 → Gx 11 = tk1 → Gx 16 = fk1 → Gx 31 = nd1 → Gx 15 = op1 → ecn Ax (Gx 31) = ec1 → Gx 9 = ln → ((-2147483648 : Int) ≤ one ∧ one ≤ 2147483647) → (at0 ≤ at1) → (at1 ≤ le) → (nd ≤ nd1) → (op1 = op0) → (one = nd) → (one ≤ 6998 ∧ one < nd1) → (1 ≤ fk1) → (nd1 - nd ≤ (2 * at1 - tz tk1) - (2 * at0 - tz tk0) + 6) → wj X d jm303 (327, L, [], rV c0 c1 Gx Ax T) (fun o V' => ∃ (G' : Nat → Int) (A' : Nat → Nat → Int) (r : Int) (at2 : Int) (fk2 : Int) (nd2 : Int) (ln2 : Int) (ec2 : Int), V' = rV c0 c1 G' A' T ∧ o = .inl (some (.int (i32 r))) ∧ Wk G' A' ∧ Fr [9, 10, 11, 12, 13, 14, 15, 16, 17, 18, 31] [15, 16, 17, 18, 19, 20, 21, 22, 24, 28] G A G' A' ∧ Pf nd A A' ∧ ((-2147483648 : Int) ≤ r ∧ r ≤ 2147483647) ∧ G' 10 = at2 ∧ G' 16 = fk2 ∧ G' 31 = nd2 ∧ G' 9 = ln2 ∧ ecn A' (G' 31) = ec2 ∧ (at0 ≤ at2) ∧ (at2 ≤ le) ∧ (nd ≤ nd2) ∧ (0 ≤ r) ∧ (r ≤ nd2) ∧ (((1 ≤ fk2) ∧ (ln2 = ln) ∧ (nd2 - nd ≤ 2 * at2 - 2 * at0 + 12)) ∨ ((fk2 = 0) ∧ (ln2 = ln + 1) ∧ (nd2 - nd ≤ 2 * at2 - (2 * at0 - tz tk0) + 0) ∧ (nd ≤ r) ∧ (r < nd2) ∧ (wU A' Vs sb (r) (nd) (nd2)) ∧ (NX A' (r)) ∧ (nd2 - nd + 5 * (ec2 - ec) ≤ 2 * at2 - (2 * at0 - tz tk0) + 0)))) := by
  have hF0 : Fr [9, 10, 11, 12, 13, 14, 15, 16, 17, 18, 31] [15, 16, 17, 18, 19, 20, 21, 22, 24, 28] G A G A := Fr_rf
  have hP0 : Pf nd A A := Pf_rf
  have b_ln : (0 : Int) ≤ ln ∧ ln ≤ 3000 := e_ln ▸ hW.1 9
  have b_le : (0 : Int) ≤ le ∧ le ≤ 3000 := e_le ▸ hW.2 4 _
  have b_at0 : (0 : Int) ≤ at0 ∧ at0 ≤ 3002 := e_at0 ▸ hW.1 10
  have b_fk : (0 : Int) ≤ fk ∧ fk ≤ 6 := e_fk ▸ hW.1 16
  have b_op0 : (-2147483648 : Int) ≤ op0 ∧ op0 ≤ 2147483647 := e_op0 ▸ hW.1 15
  have b_nd : (0 : Int) ≤ nd ∧ nd ≤ 6999 := e_nd ▸ hW.1 31
  have z_tk0 := tz_f tk0
  have b_tk0 : (0 : Int) ≤ tk0 ∧ tk0 ≤ 5 := e_tk0 ▸ hW.1 11
  have b_li : (0 : Int) ≤ li ∧ li ≤ 3000 := e_li ▸ hW.1 3
  intro L Gx Ax one at1 tk1 fk1 nd1 op1 ec1 gL_0 gL_1 hWx hFx hPx ex_at1 ex_tk1 ex_fk1 ex_nd1 ex_op1 ex_ec1 fx_9 rx_one iv_0 iv_1 iv_2 iv_3 iv_4 iv_5 iv_6 iv_7
  have b_at1 : (0 : Int) ≤ at1 ∧ at1 ≤ 3002 := ex_at1 ▸ hWx.1 10
  have z_tk1 := tz_f tk1
  have b_tk1 : (0 : Int) ≤ tk1 ∧ tk1 ≤ 5 := ex_tk1 ▸ hWx.1 11
  have b_fk1 : (0 : Int) ≤ fk1 ∧ fk1 ≤ 6 := ex_fk1 ▸ hWx.1 16
  have b_nd1 : (0 : Int) ≤ nd1 ∧ nd1 ≤ 6999 := ex_nd1 ▸ hWx.1 31
  have b_op1 : (-2147483648 : Int) ≤ op1 ∧ op1 ≤ 2147483647 := ex_op1 ▸ hWx.1 15
  refine jx_ld (pc' := 328) (l' := L) (st' := [.ref 66]) rfl (jl_aloadn gL_0) ?_
  refine jr_get (pc' := 331) (i := 35) (v := .ref 85) rfl rfl (by decide) rfl rfl ?_
  refine jx_ld (pc' := 332) (l' := L) (st' := [.int (i32 (one)), .ref 85]) rfl (jl_iloadn gL_1) ?_
  refine jx_ld (pc' := 333) (l' := L) (st' := [.ref 66, .int (i32 (one)), .ref 85]) rfl (jl_aloadn gL_0) ?_
  refine jx_ar (pc' := 334) (st' := [.int (i32 (1)), .ref 66, .int (i32 (one)), .ref 85]) rfl rfl rfl rfl ?_
  refine jx_vr (pc' := 337) (as := [.int (i32 (1))]) (st := [.int (i32 (one)), .ref 85]) rfl rfl rfl rfl ⟨rfl, rfl, Nat.le_of_ble_eq_true rfl⟩ rfl rfl (c_readReference_w (dd := d) (hd := by omega) (hW := hWx) (ch := 1) (ln := ln) (e_ln := show Gx 9 = ln from (fx_9)) (le := le) (e_le := show Ax 4 (ln).toNat = le from (congrFun (hFx.2 4 rfl) _).trans (e_le)) (at0 := at1) (e_at0 := show Gx 10 = at1 from (ex_at1)) (fk := fk1) (e_fk := show Gx 16 = fk1 from (ex_fk1)) (op0 := op1) (e_op0 := show Gx 15 = op1 from (ex_op1)) (nd := nd1) (e_nd := show Gx 31 = nd1 from (ex_nd1)) (tk0 := tk1) (e_tk0 := show Gx 11 = tk1 from (ex_tk1)) (ec := ec1) (e_ec := show ecn Ax (Gx 31) = ec1 from ex_ec1) (i_SV := (SV_ext ((hFx.1 29 rfl)) ((hFx.2 14 rfl)) i_SV)) (h_ch := ⟨(by decide), (by decide)⟩)  (p_0 := by omega) (p_1 := by omega) (p_2 := by omega) (p_3 := by omega) (p_4 := by omega)) (fun o V' hq => ?_)
  obtain ⟨G127, A128, r129, at2_130, fk2_131, op2_132, nd2_133, tk2_134, ec2_135, rfl, rfl, hW136, hF137, hQ138, b139, e140, e141, e142, e143, e144, e145, p146, p147, p148, p149, p150, p151, q152⟩ := hq
  have hF153 := Fr_tr hFx hF137 (Fr_sub (by decide)) (Fr_sub (by decide))
  have hP154 := Pf_tr hPx hQ138 (by omega)
  have bat2_130 : (0 : Int) ≤ at2_130 ∧ at2_130 ≤ 3002 := e140 ▸ hW136.1 10
  have bfk2_131 : (0 : Int) ≤ fk2_131 ∧ fk2_131 ≤ 6 := e141 ▸ hW136.1 16
  have bop2_132 : (-2147483648 : Int) ≤ op2_132 ∧ op2_132 ≤ 2147483647 := e142 ▸ hW136.1 15
  have bnd2_133 : (0 : Int) ≤ nd2_133 ∧ nd2_133 ≤ 6999 := e143 ▸ hW136.1 31
  have ztk2_134 := tz_b tk2_134
  have btk2_134 : (0 : Int) ≤ tk2_134 ∧ tk2_134 ≤ 5 := e144 ▸ hW136.1 11
  refine .inr ⟨_, rfl, ?_⟩
  rcases q152 with ⟨a155, a156, a157, a158, a159, a160⟩ | ⟨a161, a162, a163⟩ | ⟨a164, a165, a166, a167, a168, a169⟩
  · have _q : True := trivial
    refine jr_st (pc' := 338) (i := 18) (m := 7000) (z := one) (y := r129) rfl (by decide) rfl (by decide) (by omega) (by omega) rfl ?_
    have hW171 : Wk G127 (uA A128 18 (one).toNat (r129)) := Wk_a hW136 (show (-2147483648 : Int) ≤ r129 by omega) (show r129 ≤ (2147483647 : Int) by omega)
    have hF172 := Fr_a (z := r129) (k := 18) (n := (one).toNat) hF153 (by decide)
    obtain ⟨A170, eA170⟩ : ∃ q, q = uA A128 18 (one).toNat (r129) := ⟨_, rfl⟩
    rw [← eA170]
    rw [← eA170] at hW171 hF172
    have q173 : A170 18 (one).toNat = r129 := by rw [eA170]; exact uA_eq
    have hP174 : Pf nd A A170 := eA170 ▸ Pf_a hP154 (z := one) (by omega) (by omega)
    have ec175 : ecn A170 (G127 31) = ec2_135 := (ecn_e ((congrFun eA170 15).trans (uA_ne (by decide)))).trans e145
    have z176 := tz_f (tk2_134)
    exact c_readGuard_w_at_338p (X := X) (d := d) (Vs := Vs) (sb := sb) (c0 := c0) (c1 := c1) (G := G) (A := A) (T := T) (ln := ln) (le := le) (at0 := at0) (fk := fk) (op0 := op0) (nd := nd) (tk0 := tk0) (li := li) (ec := ec) (hd := hd) (hW := hW) (e_ln := e_ln) (e_le := e_le) (e_at0 := e_at0) (e_fk := e_fk) (e_op0 := e_op0) (e_nd := e_nd) (e_tk0 := e_tk0) (e_li := e_li) (e_ec := e_ec) (i_SV := i_SV) (p_0 := p_0) (p_1 := p_1) (p_2 := p_2) (p_3 := p_3) (p_4 := p_4) L G127 A170 (one) (at2_130) (tk2_134) (fk2_131) (nd2_133) (op2_132) (ec2_135) gL_0 gL_1 hW171 hF172 hP174 ((e140)) ((e144)) ((e141)) ((e143)) ((e142)) (ec175) (((hF137.1 9 rfl).trans (fx_9))) (by omega) (by omega) (by omega) (by omega) (by omega) (by omega) (by omega) (by omega) (by omega)
  · have _q : True := trivial
    exfalso
    omega
  · have _q : True := trivial
    exfalso
    omega
set_option maxRecDepth 20000 in
set_option maxHeartbeats 4000000 in
theorem c_readGuard_w_at_310p {X : jX} {d : Nat} {Vs : Nat → Prop} {sb : Int} {c0 c1 : jC} {G : Nat → Int} {A : Nat → Nat → Int} {T : jH} {ln le at0 fk op0 nd tk0 li ec : Int} (hd : 71 ≤ d + 1) (hW : Wk G A) (e_ln : G 9 = ln) (e_le : A 4 (ln).toNat = le) (e_at0 : G 10 = at0) (e_fk : G 16 = fk) (e_op0 : G 15 = op0) (e_nd : G 31 = nd) (e_tk0 : G 11 = tk0) (e_li : G 3 = li) (e_ec : ecn A (G 31) = ec) (i_SV : SV Vs sb G A) (p_0 : 0 ≤ op0 ∧ op0 ≤ 8) (p_1 : fk = 0) (p_2 : nd ≤ 2 * at0 - tz tk0 + 42) (p_3 : at0 ≤ le) (p_4 : ln < li) : ∀ (L : jL) (Gx : Nat → Int) (Ax : Nat → Nat → Int) (one at1 tk1 fk1 nd1 op1 ec1 : Int), jGet L 0 = some (.ref 66) → jGet L 1 = some (.int (i32 one)) → Wk Gx Ax → Fr [9, 10, 11, 12, 13, 14, 15, 16, 17, 18, 31] [15, 16, 17, 18, 19, 20, 21, 22, 24, 28] G A Gx Ax → Pf nd A Ax → Gx 10 = at1 → Gx 11 = tk1 → Gx 16 = fk1 → Gx 31 = nd1 → Gx 15 = op1 → ecn Ax (Gx 31) = ec1 → Gx 9 = ln → ((-2147483648 : Int) ≤ one ∧ one ≤ 2147483647) → (at0 ≤ at1) → (at1 ≤ le) → (nd ≤ nd1) → (op1 = op0) → (one = nd) → (one ≤ 6998 ∧ one < nd1) → (1 ≤ fk1) → (nd1 - nd ≤ (2 * at1 - tz tk1) - (2 * at0 - tz tk0) + 6) → wj X d jm303 (310, L, [], rV c0 c1 Gx Ax T) (fun o V' => ∃ (G' : Nat → Int) (A' : Nat → Nat → Int) (r : Int) (at2 : Int) (fk2 : Int) (nd2 : Int) (ln2 : Int) (ec2 : Int), V' = rV c0 c1 G' A' T ∧ o = .inl (some (.int (i32 r))) ∧ Wk G' A' ∧ Fr [9, 10, 11, 12, 13, 14, 15, 16, 17, 18, 31] [15, 16, 17, 18, 19, 20, 21, 22, 24, 28] G A G' A' ∧ Pf nd A A' ∧ ((-2147483648 : Int) ≤ r ∧ r ≤ 2147483647) ∧ G' 10 = at2 ∧ G' 16 = fk2 ∧ G' 31 = nd2 ∧ G' 9 = ln2 ∧ ecn A' (G' 31) = ec2 ∧ (at0 ≤ at2) ∧ (at2 ≤ le) ∧ (nd ≤ nd2) ∧ (0 ≤ r) ∧ (r ≤ nd2) ∧ (((1 ≤ fk2) ∧ (ln2 = ln) ∧ (nd2 - nd ≤ 2 * at2 - 2 * at0 + 12)) ∨ ((fk2 = 0) ∧ (ln2 = ln + 1) ∧ (nd2 - nd ≤ 2 * at2 - (2 * at0 - tz tk0) + 0) ∧ (nd ≤ r) ∧ (r < nd2) ∧ (wU A' Vs sb (r) (nd) (nd2)) ∧ (NX A' (r)) ∧ (nd2 - nd + 5 * (ec2 - ec) ≤ 2 * at2 - (2 * at0 - tz tk0) + 0)))) := by
  have hF0 : Fr [9, 10, 11, 12, 13, 14, 15, 16, 17, 18, 31] [15, 16, 17, 18, 19, 20, 21, 22, 24, 28] G A G A := Fr_rf
  have hP0 : Pf nd A A := Pf_rf
  have b_ln : (0 : Int) ≤ ln ∧ ln ≤ 3000 := e_ln ▸ hW.1 9
  have b_le : (0 : Int) ≤ le ∧ le ≤ 3000 := e_le ▸ hW.2 4 _
  have b_at0 : (0 : Int) ≤ at0 ∧ at0 ≤ 3002 := e_at0 ▸ hW.1 10
  have b_fk : (0 : Int) ≤ fk ∧ fk ≤ 6 := e_fk ▸ hW.1 16
  have b_op0 : (-2147483648 : Int) ≤ op0 ∧ op0 ≤ 2147483647 := e_op0 ▸ hW.1 15
  have b_nd : (0 : Int) ≤ nd ∧ nd ≤ 6999 := e_nd ▸ hW.1 31
  have z_tk0 := tz_f tk0
  have b_tk0 : (0 : Int) ≤ tk0 ∧ tk0 ≤ 5 := e_tk0 ▸ hW.1 11
  have b_li : (0 : Int) ≤ li ∧ li ≤ 3000 := e_li ▸ hW.1 3
  intro L Gx Ax one at1 tk1 fk1 nd1 op1 ec1 gL_0 gL_1 hWx hFx hPx ex_at1 ex_tk1 ex_fk1 ex_nd1 ex_op1 ex_ec1 fx_9 rx_one iv_0 iv_1 iv_2 iv_3 iv_4 iv_5 iv_6 iv_7
  have b_at1 : (0 : Int) ≤ at1 ∧ at1 ≤ 3002 := ex_at1 ▸ hWx.1 10
  have z_tk1 := tz_f tk1
  have b_tk1 : (0 : Int) ≤ tk1 ∧ tk1 ≤ 5 := ex_tk1 ▸ hWx.1 11
  have b_fk1 : (0 : Int) ≤ fk1 ∧ fk1 ≤ 6 := ex_fk1 ▸ hWx.1 16
  have b_nd1 : (0 : Int) ≤ nd1 ∧ nd1 ≤ 6999 := ex_nd1 ▸ hWx.1 31
  have b_op1 : (-2147483648 : Int) ≤ op1 ∧ op1 ≤ 2147483647 := ex_op1 ▸ hWx.1 15
  refine jx_ld (pc' := 311) (l' := L) (st' := [.ref 66]) rfl (jl_aloadn gL_0) ?_
  refine jx_ar (pc' := 313) (st' := [.int (i32 (7)), .ref 66]) rfl rfl rfl rfl ?_
  have b177 : (-2147483648 : Int) ≤ Gx 13 ∧ Gx 13 ≤ 2147483647 := hWx.1 13
  refine jx_vr (pc' := 316) (as := [.int (i32 (7))]) (st := []) rfl rfl rfl rfl ⟨rfl, rfl, Nat.le_of_ble_eq_true rfl⟩ rfl rfl (c_isKey (dd := d) (hd := by omega) (hW := hWx) (k := 7) (tk := tk1) (e_tk := show Gx 11 = tk1 from (ex_tk1)) (tn := Gx 13) (e_tn := show Gx 13 = Gx 13 from rfl)  (h_k := ⟨(by decide), (by decide)⟩)  ) (fun o V' hq => ?_)
  obtain ⟨r178, rfl, rfl, b179, q180⟩ := hq
  refine .inr ⟨_, rfl, ?_⟩
  rcases q180 with ⟨rfl, a181, a182, a183⟩ | rfl
  · have _q : True := trivial
    refine jx_if_eq (pc' := 319) (tg := 327) rfl rfl rfl (by decide) (by decide) (fun h184 => ?_) (fun h184 => ?_)
    · have _q := h184
      exact absurd h184 (by omega)
    · have _q := h184
      refine jx_ld (pc' := 320) (l' := L) (st' := [.ref 66]) rfl (jl_aloadn gL_0) ?_
      refine jx_ar (pc' := 321) (st' := [.int (i32 (1)), .ref 66]) rfl rfl rfl rfl ?_
      refine jx_vr (pc' := 324) (as := [.int (i32 (1))]) (st := []) rfl rfl rfl rfl ⟨rfl, rfl, Nat.le_of_ble_eq_true rfl⟩ rfl rfl (c_need (dd := d) (hd := by omega) (hW := hWx) (g := 1) (ln := ln) (e_ln := show Gx 9 = ln from (fx_9)) (le := le) (e_le := show Ax 4 (ln).toNat = le from (congrFun (hFx.2 4 rfl) _).trans (e_le)) (at0 := at1) (e_at0 := show Gx 10 = at1 from (ex_at1)) (fk := fk1) (e_fk := show Gx 16 = fk1 from (ex_fk1)) (tk0 := tk1) (e_tk0 := show Gx 11 = tk1 from (ex_tk1))  (h_g := ⟨(by decide), (by decide)⟩)  (p_0 := by omega)) (fun o V' hq => ?_)
      obtain ⟨G185, A186, at2_187, tk2_188, fk2_189, rfl, rfl, hW190, hF191, e192, e193, e194, p195, p196, q197⟩ := hq
      have hF198 := Fr_tr hFx hF191 (Fr_sub (by decide)) (Fr_sub (by decide))
      have hP199 := Pf_f hPx hF191 (by decide)
      have ec200 : ecn A186 (G185 31) = ec1 := (ecn_f (hF191.2 15 rfl) (hF191.1 31 rfl)).trans ex_ec1
      have bat2_187 : (0 : Int) ≤ at2_187 ∧ at2_187 ≤ 3002 := e192 ▸ hW190.1 10
      have ztk2_188 := tz_b tk2_188
      have btk2_188 : (0 : Int) ≤ tk2_188 ∧ tk2_188 ≤ 5 := e193 ▸ hW190.1 11
      have bfk2_189 : (0 : Int) ≤ fk2_189 ∧ fk2_189 ≤ 6 := e194 ▸ hW190.1 16
      refine .inl ⟨rfl, ?_⟩
      rcases q197 with ⟨a201, a202, a203, a204⟩ | ⟨a205, a206, a207, a208⟩
      · have _q : True := trivial
        refine jx_go (tg := 359) rfl rfl ?_
        have z209 := tz_f (tk2_188)
        exact c_readGuard_w_at_359p (X := X) (d := d) (Vs := Vs) (sb := sb) (c0 := c0) (c1 := c1) (G := G) (A := A) (T := T) (ln := ln) (le := le) (at0 := at0) (fk := fk) (op0 := op0) (nd := nd) (tk0 := tk0) (li := li) (ec := ec) (hd := hd) (hW := hW) (e_ln := e_ln) (e_le := e_le) (e_at0 := e_at0) (e_fk := e_fk) (e_op0 := e_op0) (e_nd := e_nd) (e_tk0 := e_tk0) (e_li := e_li) (e_ec := e_ec) (i_SV := i_SV) (p_0 := p_0) (p_1 := p_1) (p_2 := p_2) (p_3 := p_3) (p_4 := p_4) L G185 A186 (one) (at2_187) (tk2_188) (fk2_189) (nd1) (op1) (ec1) gL_0 gL_1 hW190 hF198 hP199 ((e192)) ((e193)) ((e194)) (((hF191.1 31 rfl).trans (ex_nd1))) (((hF191.1 15 rfl).trans (ex_op1))) (ec200) (((hF191.1 9 rfl).trans (fx_9))) (by omega) (by omega) (by omega) (by omega) (by omega) (by omega) (by omega) (by omega) (by omega)
      · have _q : True := trivial
        exfalso
        omega
  · have _q : True := trivial
    refine jx_if_eq (pc' := 319) (tg := 327) rfl rfl rfl (by decide) (by decide) (fun h210 => ?_) (fun h210 => ?_)
    · have _q := h210
      have z211 := tz_f (tk1)
      exact c_readGuard_w_at_327p (X := X) (d := d) (Vs := Vs) (sb := sb) (c0 := c0) (c1 := c1) (G := G) (A := A) (T := T) (ln := ln) (le := le) (at0 := at0) (fk := fk) (op0 := op0) (nd := nd) (tk0 := tk0) (li := li) (ec := ec) (hd := hd) (hW := hW) (e_ln := e_ln) (e_le := e_le) (e_at0 := e_at0) (e_fk := e_fk) (e_op0 := e_op0) (e_nd := e_nd) (e_tk0 := e_tk0) (e_li := e_li) (e_ec := e_ec) (i_SV := i_SV) (p_0 := p_0) (p_1 := p_1) (p_2 := p_2) (p_3 := p_3) (p_4 := p_4) L Gx Ax (one) (at1) (tk1) (fk1) (nd1) (op1) (ec1) gL_0 gL_1 hWx hFx hPx ((ex_at1)) ((ex_tk1)) ((ex_fk1)) ((ex_nd1)) ((ex_op1)) (ex_ec1) ((fx_9)) (by omega) (by omega) (by omega) (by omega) (by omega) (by omega) (by omega) (by omega) (by omega)
    · have _q := h210
      exact absurd h210 (by omega)
set_option maxRecDepth 20000 in
set_option maxHeartbeats 4000000 in
theorem c_readGuard_w_at_293 {X : jX} {d : Nat} {Vs : Nat → Prop} {sb : Int} {c0 c1 : jC} {G : Nat → Int} {A : Nat → Nat → Int} {T : jH} {ln le at0 fk op0 nd tk0 li ec : Int} (hd : 71 ≤ d + 1) (hW : Wk G A) (e_ln : G 9 = ln) (e_le : A 4 (ln).toNat = le) (e_at0 : G 10 = at0) (e_fk : G 16 = fk) (e_op0 : G 15 = op0) (e_nd : G 31 = nd) (e_tk0 : G 11 = tk0) (e_li : G 3 = li) (e_ec : ecn A (G 31) = ec) (i_SV : SV Vs sb G A) (p_0 : 0 ≤ op0 ∧ op0 ≤ 8) (p_1 : fk = 0) (p_2 : nd ≤ 2 * at0 - tz tk0 + 42) (p_3 : at0 ≤ le) (p_4 : ln < li) : ∀ (L : jL) (Gx : Nat → Int) (Ax : Nat → Nat → Int) (one e at1 tk1 fk1 nd1 op1 ec1 : Int), jGet L 0 = some (.ref 66) → jGet L 1 = some (.int (i32 one)) → jGet L 2 = some (.int (i32 e)) → Wk Gx Ax → Fr [9, 10, 11, 12, 13, 14, 15, 16, 17, 18, 31] [15, 16, 17, 18, 19, 20, 21, 22, 24, 28] G A Gx Ax → Pf nd A Ax → Gx 10 = at1 → Gx 11 = tk1 → Gx 16 = fk1 → Gx 31 = nd1 → Gx 15 = op1 → ecn Ax (Gx 31) = ec1 → Gx 9 = ln → ((-2147483648 : Int) ≤ one ∧ one ≤ 2147483647) → ((-2147483648 : Int) ≤ e ∧ e ≤ 2147483647) → (at0 ≤ at1) → (at1 ≤ le) → (nd ≤ nd1) → (op1 = op0) → (one = nd) → (one ≤ 6998 ∧ one < nd1) → (fk1 = 0) → (nd1 - nd ≤ (2 * at1 - tz tk1) - (2 * at0 - tz tk0) + 1) → (0 ≤ e ∧ e ≤ nd1) → (ND Ax (one) (33) (0) (0) (0) (0) (0) (0)) → (wE Ax Vs sb (22) (e) (one + 1) (nd1)) → (nd1 - nd + 5 * (ec1 - ec) ≤ (2 * at1 - tz tk1) - (2 * at0 - tz tk0) + 1 - tz tk1) → wj X d jm303 (293, L, [], rV c0 c1 Gx Ax T) (fun o V' => ∃ (G' : Nat → Int) (A' : Nat → Nat → Int) (r : Int) (at2 : Int) (fk2 : Int) (nd2 : Int) (ln2 : Int) (ec2 : Int), V' = rV c0 c1 G' A' T ∧ o = .inl (some (.int (i32 r))) ∧ Wk G' A' ∧ Fr [9, 10, 11, 12, 13, 14, 15, 16, 17, 18, 31] [15, 16, 17, 18, 19, 20, 21, 22, 24, 28] G A G' A' ∧ Pf nd A A' ∧ ((-2147483648 : Int) ≤ r ∧ r ≤ 2147483647) ∧ G' 10 = at2 ∧ G' 16 = fk2 ∧ G' 31 = nd2 ∧ G' 9 = ln2 ∧ ecn A' (G' 31) = ec2 ∧ (at0 ≤ at2) ∧ (at2 ≤ le) ∧ (nd ≤ nd2) ∧ (0 ≤ r) ∧ (r ≤ nd2) ∧ (((1 ≤ fk2) ∧ (ln2 = ln) ∧ (nd2 - nd ≤ 2 * at2 - 2 * at0 + 12)) ∨ ((fk2 = 0) ∧ (ln2 = ln + 1) ∧ (nd2 - nd ≤ 2 * at2 - (2 * at0 - tz tk0) + 0) ∧ (nd ≤ r) ∧ (r < nd2) ∧ (wU A' Vs sb (r) (nd) (nd2)) ∧ (NX A' (r)) ∧ (nd2 - nd + 5 * (ec2 - ec) ≤ 2 * at2 - (2 * at0 - tz tk0) + 0)))) := by
  have hF0 : Fr [9, 10, 11, 12, 13, 14, 15, 16, 17, 18, 31] [15, 16, 17, 18, 19, 20, 21, 22, 24, 28] G A G A := Fr_rf
  have hP0 : Pf nd A A := Pf_rf
  have b_ln : (0 : Int) ≤ ln ∧ ln ≤ 3000 := e_ln ▸ hW.1 9
  have b_le : (0 : Int) ≤ le ∧ le ≤ 3000 := e_le ▸ hW.2 4 _
  have b_at0 : (0 : Int) ≤ at0 ∧ at0 ≤ 3002 := e_at0 ▸ hW.1 10
  have b_fk : (0 : Int) ≤ fk ∧ fk ≤ 6 := e_fk ▸ hW.1 16
  have b_op0 : (-2147483648 : Int) ≤ op0 ∧ op0 ≤ 2147483647 := e_op0 ▸ hW.1 15
  have b_nd : (0 : Int) ≤ nd ∧ nd ≤ 6999 := e_nd ▸ hW.1 31
  have z_tk0 := tz_f tk0
  have b_tk0 : (0 : Int) ≤ tk0 ∧ tk0 ≤ 5 := e_tk0 ▸ hW.1 11
  have b_li : (0 : Int) ≤ li ∧ li ≤ 3000 := e_li ▸ hW.1 3
  intro L Gx Ax one e at1 tk1 fk1 nd1 op1 ec1 gL_0 gL_1 gL_2 hWx hFx hPx ex_at1 ex_tk1 ex_fk1 ex_nd1 ex_op1 ex_ec1 fx_9 rx_one rx_e iv_0 iv_1 iv_2 iv_3 iv_4 iv_5 iv_6 iv_7 iv_8 iv_9 iv_10 iv_11
  have b_at1 : (0 : Int) ≤ at1 ∧ at1 ≤ 3002 := ex_at1 ▸ hWx.1 10
  have z_tk1 := tz_f tk1
  have b_tk1 : (0 : Int) ≤ tk1 ∧ tk1 ≤ 5 := ex_tk1 ▸ hWx.1 11
  have b_fk1 : (0 : Int) ≤ fk1 ∧ fk1 ≤ 6 := ex_fk1 ▸ hWx.1 16
  have b_nd1 : (0 : Int) ≤ nd1 ∧ nd1 ≤ 6999 := ex_nd1 ▸ hWx.1 31
  have b_op1 : (-2147483648 : Int) ≤ op1 ∧ op1 ≤ 2147483647 := ex_op1 ▸ hWx.1 15
  refine jx_ld (pc' := 294) (l' := L) (st' := [.ref 66]) rfl (jl_aloadn gL_0) ?_
  refine jr_get (pc' := 297) (i := 34) (v := .ref 84) rfl rfl (by decide) rfl rfl ?_
  refine jx_ld (pc' := 298) (l' := L) (st' := [.int (i32 (one)), .ref 84]) rfl (jl_iloadn gL_1) ?_
  refine jx_ld (pc' := 299) (l' := L) (st' := [.int (i32 (e)), .int (i32 (one)), .ref 84]) rfl (jl_iloadn gL_2) ?_
  refine jr_st (pc' := 300) (i := 17) (m := 7000) (z := one) (y := e) rfl (by decide) rfl (by decide) (by omega) (by omega) rfl ?_
  have hW213 : Wk Gx (uA Ax 17 (one).toNat (e)) := Wk_a hWx (show (-2147483648 : Int) ≤ e by omega) (show e ≤ (2147483647 : Int) by omega)
  have hF214 := Fr_a (z := e) (k := 17) (n := (one).toNat) hFx (by decide)
  obtain ⟨A212, eA212⟩ : ∃ q, q = uA Ax 17 (one).toNat (e) := ⟨_, rfl⟩
  rw [← eA212]
  rw [← eA212] at hW213 hF214
  have q215 : A212 17 (one).toNat = e := by rw [eA212]; exact uA_eq
  have hP216 : Pf nd A A212 := eA212 ▸ Pf_a hPx (z := one) (by omega) (by omega)
  have sf217 : ND A212 (one) (33) (e) (0) (0) (0) (0) (0) := ND_a eA212 iv_9
  have sf218 : wE A212 Vs sb (22) (e) (one + 1) (nd1) := wE_ag (by omega) (Sg_ne eA212 rfl) (Ag_st eA212 (by omega) (by omega)) iv_10
  have ec219 : ecn A212 (Gx 31) = ec1 := (ecn_e ((congrFun eA212 15).trans (uA_ne (by decide)))).trans ex_ec1
  refine jx_ld (pc' := 301) (l' := L) (st' := [.ref 66]) rfl (jl_aloadn gL_0) ?_
  refine jx_ld (pc' := 302) (l' := L) (st' := [.ref 66, .ref 66]) rfl (jl_aloadn gL_0) ?_
  refine jx_ar (pc' := 304) (st' := [.int (i32 (38)), .ref 66, .ref 66]) rfl rfl rfl rfl ?_
  have b220 : (-2147483648 : Int) ≤ Gx 13 ∧ Gx 13 ≤ 2147483647 := hWx.1 13
  refine jx_vr (pc' := 307) (as := [.int (i32 (38))]) (st := [.ref 66]) rfl rfl rfl rfl ⟨rfl, rfl, Nat.le_of_ble_eq_true rfl⟩ rfl rfl (c_is (dd := d) (hd := by omega) (hW := hW213) (k := 38) (tk := tk1) (e_tk := show Gx 11 = tk1 from (ex_tk1)) (tn := Gx 13) (e_tn := show Gx 13 = Gx 13 from rfl)  (h_k := ⟨(by decide), (by decide)⟩)  ) (fun o V' hq => ?_)
  obtain ⟨r221, rfl, rfl, b222, q223⟩ := hq
  refine .inr ⟨_, rfl, ?_⟩
  rcases q223 with ⟨rfl, a224, a225, a226⟩ | rfl
  · have _q : True := trivial
    refine jx_vr (pc' := 310) (as := [.int (i32 (1))]) (st := []) rfl rfl rfl rfl ⟨rfl, rfl, Nat.le_of_ble_eq_true rfl⟩ rfl rfl (c_need (dd := d) (hd := by omega) (hW := hW213) (g := 1) (ln := ln) (e_ln := show Gx 9 = ln from (fx_9)) (le := le) (e_le := show A212 4 (ln).toNat = le from (congrFun (((congrFun eA212 4).trans (uA_ne (by decide))).trans (hFx.2 4 rfl)) _).trans (e_le)) (at0 := at1) (e_at0 := show Gx 10 = at1 from (ex_at1)) (fk := fk1) (e_fk := show Gx 16 = fk1 from (ex_fk1)) (tk0 := tk1) (e_tk0 := show Gx 11 = tk1 from (ex_tk1))  (h_g := ⟨(by decide), (by decide)⟩)  (p_0 := by omega)) (fun o V' hq => ?_)
    obtain ⟨G227, A228, at2_229, tk2_230, fk2_231, rfl, rfl, hW232, hF233, e234, e235, e236, p237, p238, q239⟩ := hq
    have hF240 := Fr_tr hF214 hF233 (Fr_sub (by decide)) (Fr_sub (by decide))
    have hP241 := Pf_f hP216 hF233 (by decide)
    have sf242 : ND A228 (one) (33) (e) (0) (0) (0) (0) (0) := ND_ag (by omega) (Ag_fr hF233 (by decide)) sf217
    have sf243 : wE A228 Vs sb (22) (e) (one + 1) (nd1) := wE_ag (by omega) (Sg_fr hF233 (by decide)) (Ag_fr hF233 (by decide)) sf218
    have ec244 : ecn A228 (G227 31) = ec1 := (ecn_f (hF233.2 15 rfl) (hF233.1 31 rfl)).trans ec219
    have bat2_229 : (0 : Int) ≤ at2_229 ∧ at2_229 ≤ 3002 := e234 ▸ hW232.1 10
    have ztk2_230 := tz_b tk2_230
    have btk2_230 : (0 : Int) ≤ tk2_230 ∧ tk2_230 ≤ 5 := e235 ▸ hW232.1 11
    have bfk2_231 : (0 : Int) ≤ fk2_231 ∧ fk2_231 ≤ 6 := e236 ▸ hW232.1 16
    refine .inl ⟨rfl, ?_⟩
    rcases q239 with ⟨a245, a246, a247, a248⟩ | ⟨a249, a250, a251, a252⟩
    · have _q : True := trivial
      have z253 := tz_f (tk2_230)
      exact c_readGuard_w_at_310p (X := X) (d := d) (Vs := Vs) (sb := sb) (c0 := c0) (c1 := c1) (G := G) (A := A) (T := T) (ln := ln) (le := le) (at0 := at0) (fk := fk) (op0 := op0) (nd := nd) (tk0 := tk0) (li := li) (ec := ec) (hd := hd) (hW := hW) (e_ln := e_ln) (e_le := e_le) (e_at0 := e_at0) (e_fk := e_fk) (e_op0 := e_op0) (e_nd := e_nd) (e_tk0 := e_tk0) (e_li := e_li) (e_ec := e_ec) (i_SV := i_SV) (p_0 := p_0) (p_1 := p_1) (p_2 := p_2) (p_3 := p_3) (p_4 := p_4) L G227 A228 (one) (at2_229) (tk2_230) (fk2_231) (nd1) (op1) (ec1) gL_0 gL_1 hW232 hF240 hP241 ((e234)) ((e235)) ((e236)) (((hF233.1 31 rfl).trans (ex_nd1))) (((hF233.1 15 rfl).trans (ex_op1))) (ec244) (((hF233.1 9 rfl).trans (fx_9))) (by omega) (by omega) (by omega) (by omega) (by omega) (by omega) (by omega) (by omega) (by omega)
    · have _q : True := trivial
      have pz254 : at1 + tz tk2_230 ≤ at2_229 := by omega
      refine jx_ld (pc' := 311) (l' := L) (st' := [.ref 66]) rfl (jl_aloadn gL_0) ?_
      refine jx_ar (pc' := 313) (st' := [.int (i32 (7)), .ref 66]) rfl rfl rfl rfl ?_
      have b255 : (-2147483648 : Int) ≤ G227 13 ∧ G227 13 ≤ 2147483647 := hW232.1 13
      refine jx_vr (pc' := 316) (as := [.int (i32 (7))]) (st := []) rfl rfl rfl rfl ⟨rfl, rfl, Nat.le_of_ble_eq_true rfl⟩ rfl rfl (c_isKey (dd := d) (hd := by omega) (hW := hW232) (k := 7) (tk := tk2_230) (e_tk := show G227 11 = tk2_230 from (e235)) (tn := G227 13) (e_tn := show G227 13 = G227 13 from rfl)  (h_k := ⟨(by decide), (by decide)⟩)  ) (fun o V' hq => ?_)
      obtain ⟨r256, rfl, rfl, b257, q258⟩ := hq
      refine .inr ⟨_, rfl, ?_⟩
      rcases q258 with ⟨rfl, a259, a260, a261⟩ | rfl
      · have _q : True := trivial
        refine jx_if_eq (pc' := 319) (tg := 327) rfl rfl rfl (by decide) (by decide) (fun h262 => ?_) (fun h262 => ?_)
        · have _q := h262
          exact absurd h262 (by omega)
        · have _q := h262
          refine jx_ld (pc' := 320) (l' := L) (st' := [.ref 66]) rfl (jl_aloadn gL_0) ?_
          refine jx_ar (pc' := 321) (st' := [.int (i32 (1)), .ref 66]) rfl rfl rfl rfl ?_
          refine jx_vr (pc' := 324) (as := [.int (i32 (1))]) (st := []) rfl rfl rfl rfl ⟨rfl, rfl, Nat.le_of_ble_eq_true rfl⟩ rfl rfl (c_need (dd := d) (hd := by omega) (hW := hW232) (g := 1) (ln := ln) (e_ln := show G227 9 = ln from ((hF233.1 9 rfl).trans (fx_9))) (le := le) (e_le := show A228 4 (ln).toNat = le from (congrFun ((hF233.2 4 rfl).trans (((congrFun eA212 4).trans (uA_ne (by decide))).trans (hFx.2 4 rfl))) _).trans (e_le)) (at0 := at2_229) (e_at0 := show G227 10 = at2_229 from (e234)) (fk := fk2_231) (e_fk := show G227 16 = fk2_231 from (e236)) (tk0 := tk2_230) (e_tk0 := show G227 11 = tk2_230 from (e235))  (h_g := ⟨(by decide), (by decide)⟩)  (p_0 := by omega)) (fun o V' hq => ?_)
          obtain ⟨G263, A264, at2_265, tk2_266, fk2_267, rfl, rfl, hW268, hF269, e270, e271, e272, p273, p274, q275⟩ := hq
          have hF276 := Fr_tr hF240 hF269 (Fr_sub (by decide)) (Fr_sub (by decide))
          have hP277 := Pf_f hP241 hF269 (by decide)
          have sf278 : ND A264 (one) (33) (e) (0) (0) (0) (0) (0) := ND_ag (by omega) (Ag_fr hF269 (by decide)) sf242
          have sf279 : wE A264 Vs sb (22) (e) (one + 1) (nd1) := wE_ag (by omega) (Sg_fr hF269 (by decide)) (Ag_fr hF269 (by decide)) sf243
          have ec280 : ecn A264 (G263 31) = ec1 := (ecn_f (hF269.2 15 rfl) (hF269.1 31 rfl)).trans ec244
          have bat2_265 : (0 : Int) ≤ at2_265 ∧ at2_265 ≤ 3002 := e270 ▸ hW268.1 10
          have ztk2_266 := tz_b tk2_266
          have btk2_266 : (0 : Int) ≤ tk2_266 ∧ tk2_266 ≤ 5 := e271 ▸ hW268.1 11
          have bfk2_267 : (0 : Int) ≤ fk2_267 ∧ fk2_267 ≤ 6 := e272 ▸ hW268.1 16
          refine .inl ⟨rfl, ?_⟩
          rcases q275 with ⟨a281, a282, a283, a284⟩ | ⟨a285, a286, a287, a288⟩
          · have _q : True := trivial
            refine jx_go (tg := 359) rfl rfl ?_
            have z289 := tz_f (tk2_266)
            exact c_readGuard_w_at_359p (X := X) (d := d) (Vs := Vs) (sb := sb) (c0 := c0) (c1 := c1) (G := G) (A := A) (T := T) (ln := ln) (le := le) (at0 := at0) (fk := fk) (op0 := op0) (nd := nd) (tk0 := tk0) (li := li) (ec := ec) (hd := hd) (hW := hW) (e_ln := e_ln) (e_le := e_le) (e_at0 := e_at0) (e_fk := e_fk) (e_op0 := e_op0) (e_nd := e_nd) (e_tk0 := e_tk0) (e_li := e_li) (e_ec := e_ec) (i_SV := i_SV) (p_0 := p_0) (p_1 := p_1) (p_2 := p_2) (p_3 := p_3) (p_4 := p_4) L G263 A264 (one) (at2_265) (tk2_266) (fk2_267) (nd1) (op1) (ec1) gL_0 gL_1 hW268 hF276 hP277 ((e270)) ((e271)) ((e272)) (((hF269.1 31 rfl).trans ((hF233.1 31 rfl).trans (ex_nd1)))) (((hF269.1 15 rfl).trans ((hF233.1 15 rfl).trans (ex_op1)))) (ec280) (((hF269.1 9 rfl).trans ((hF233.1 9 rfl).trans (fx_9)))) (by omega) (by omega) (by omega) (by omega) (by omega) (by omega) (by omega) (by omega) (by omega)
          · have _q : True := trivial
            have pz290 : at2_229 + tz tk2_266 ≤ at2_265 := by omega
            refine jx_go (tg := 359) rfl rfl ?_
            refine jx_ld (pc' := 360) (l' := L) (st' := [.ref 66]) rfl (jl_aloadn gL_0) ?_
            refine jx_vr (pc' := 363) (as := []) (st := []) rfl rfl rfl rfl ⟨rfl, rfl, Nat.le_of_ble_eq_true rfl⟩ rfl rfl (c_endLine (dd := d) (hd := by omega) (hW := hW268)  (ln := ln) (e_ln := show G263 9 = ln from ((hF269.1 9 rfl).trans ((hF233.1 9 rfl).trans (fx_9)))) (li := li) (e_li := show G263 3 = li from ((hF269.1 3 rfl).trans ((hF233.1 3 rfl).trans ((hFx.1 3 rfl).trans (e_li))))) (fk := fk2_267) (e_fk := show G263 16 = fk2_267 from (e272)) (tk0 := tk2_266) (e_tk0 := show G263 11 = tk2_266 from (e271))    (p_0 := by omega)) (fun o V' hq => ?_)
            obtain ⟨G291, A292, ln2_293, fk2_294, rfl, rfl, hW295, hF296, e297, e298, q299⟩ := hq
            have hF300 := Fr_tr hF276 hF296 (Fr_sub (by decide)) (Fr_sub (by decide))
            have hP301 := Pf_f hP277 hF296 (by decide)
            have sf302 : ND A292 (one) (33) (e) (0) (0) (0) (0) (0) := ND_ag (by omega) (Ag_fr hF296 (by decide)) sf278
            have sf303 : wE A292 Vs sb (22) (e) (one + 1) (nd1) := wE_ag (by omega) (Sg_fr hF296 (by decide)) (Ag_fr hF296 (by decide)) sf279
            have ec304 : ecn A292 (G291 31) = ec1 := (ecn_f (hF296.2 15 rfl) (hF296.1 31 rfl)).trans ec280
            have bln2_293 : (0 : Int) ≤ ln2_293 ∧ ln2_293 ≤ 3000 := e297 ▸ hW295.1 9
            have bfk2_294 : (0 : Int) ≤ fk2_294 ∧ fk2_294 ≤ 6 := e298 ▸ hW295.1 16
            refine .inl ⟨rfl, ?_⟩
            rcases q299 with ⟨a305, a306, a307, a308, a309⟩ | ⟨a310, a311⟩
            · have _q : True := trivial
              refine jx_ld (pc' := 364) (l' := L) (st' := [.int (i32 (one))]) rfl (jl_iloadn gL_1) ?_
              refine jx_rt (v := some (.int (i32 (one)))) rfl rfl rfl rfl rfl rfl ?_
              exact ⟨_, _, _, at2_265, fk2_294, nd1, ln2_293, ec1, rfl, rfl, hW295, hF300, hP301, by omega, ((hF296.1 10 rfl).trans (e270)), (e298), ((hF296.1 31 rfl).trans ((hF269.1 31 rfl).trans ((hF233.1 31 rfl).trans (ex_nd1)))), (e297), ec304, by omega, by omega, by omega, by omega, by omega, by first | exact Or.inr ((⟨by omega, by omega, by omega, by omega, by omega, (wU_sk sf302 (by omega) (by omega) (wE_mono (by omega) (by omega) (by omega) sf303)), (NX_nd sf302), by omega⟩))⟩
            · have _q : True := trivial
              refine jx_ld (pc' := 364) (l' := L) (st' := [.int (i32 (one))]) rfl (jl_iloadn gL_1) ?_
              refine jx_rt (v := some (.int (i32 (one)))) rfl rfl rfl rfl rfl rfl ?_
              exact ⟨_, _, _, at2_265, fk2_294, nd1, ln2_293, ec1, rfl, rfl, hW295, hF300, hP301, by omega, ((hF296.1 10 rfl).trans (e270)), (e298), ((hF296.1 31 rfl).trans ((hF269.1 31 rfl).trans ((hF233.1 31 rfl).trans (ex_nd1)))), (e297), ec304, by omega, by omega, by omega, by omega, by omega, by first | exact Or.inl (⟨by omega, by omega, by omega⟩)⟩
      · have _q : True := trivial
        refine jx_if_eq (pc' := 319) (tg := 327) rfl rfl rfl (by decide) (by decide) (fun h312 => ?_) (fun h312 => ?_)
        · have _q := h312
          refine jx_ld (pc' := 328) (l' := L) (st' := [.ref 66]) rfl (jl_aloadn gL_0) ?_
          refine jr_get (pc' := 331) (i := 35) (v := .ref 85) rfl rfl (by decide) rfl rfl ?_
          refine jx_ld (pc' := 332) (l' := L) (st' := [.int (i32 (one)), .ref 85]) rfl (jl_iloadn gL_1) ?_
          refine jx_ld (pc' := 333) (l' := L) (st' := [.ref 66, .int (i32 (one)), .ref 85]) rfl (jl_aloadn gL_0) ?_
          refine jx_ar (pc' := 334) (st' := [.int (i32 (1)), .ref 66, .int (i32 (one)), .ref 85]) rfl rfl rfl rfl ?_
          refine jx_vr (pc' := 337) (as := [.int (i32 (1))]) (st := [.int (i32 (one)), .ref 85]) rfl rfl rfl rfl ⟨rfl, rfl, Nat.le_of_ble_eq_true rfl⟩ rfl rfl (c_readReference_w (dd := d) (hd := by omega) (hW := hW232) (ch := 1) (ln := ln) (e_ln := show G227 9 = ln from ((hF233.1 9 rfl).trans (fx_9))) (le := le) (e_le := show A228 4 (ln).toNat = le from (congrFun ((hF233.2 4 rfl).trans (((congrFun eA212 4).trans (uA_ne (by decide))).trans (hFx.2 4 rfl))) _).trans (e_le)) (at0 := at2_229) (e_at0 := show G227 10 = at2_229 from (e234)) (fk := fk2_231) (e_fk := show G227 16 = fk2_231 from (e236)) (op0 := op1) (e_op0 := show G227 15 = op1 from ((hF233.1 15 rfl).trans (ex_op1))) (nd := nd1) (e_nd := show G227 31 = nd1 from ((hF233.1 31 rfl).trans (ex_nd1))) (tk0 := tk2_230) (e_tk0 := show G227 11 = tk2_230 from (e235)) (ec := ec1) (e_ec := show ecn A228 (G227 31) = ec1 from ec244) (i_SV := (SV_ext (((hF233.1 29 rfl).trans (hFx.1 29 rfl))) (((hF233.2 14 rfl).trans (((congrFun eA212 14).trans (uA_ne (by decide))).trans (hFx.2 14 rfl)))) i_SV)) (h_ch := ⟨(by decide), (by decide)⟩)  (p_0 := by omega) (p_1 := by omega) (p_2 := by omega) (p_3 := by omega) (p_4 := by omega)) (fun o V' hq => ?_)
          obtain ⟨G313, A314, r315, at2_316, fk2_317, op2_318, nd2_319, tk2_320, ec2_321, rfl, rfl, hW322, hF323, hQ324, b325, e326, e327, e328, e329, e330, e331, p332, p333, p334, p335, p336, p337, q338⟩ := hq
          have hF339 := Fr_tr hF240 hF323 (Fr_sub (by decide)) (Fr_sub (by decide))
          have k340 : A314 17 (one).toNat = e := (hQ324 17 _ rfl (by omega)).trans (show A228 17 (one).toNat = e from (congrFun (hF233.2 17 rfl) _).trans (q215))
          have hP341 := Pf_tr hP241 hQ324 (by omega)
          have sf342 : ND A314 (one) (33) (e) (0) (0) (0) (0) (0) := ND_ag (by omega) (Ag_pf hQ324 (by omega)) sf242
          have sf343 : wE A314 Vs sb (22) (e) (one + 1) (nd1) := wE_ag (by omega) (Sg_fr hF323 (by decide)) (Ag_pf hQ324 (by omega)) sf243
          have bat2_316 : (0 : Int) ≤ at2_316 ∧ at2_316 ≤ 3002 := e326 ▸ hW322.1 10
          have bfk2_317 : (0 : Int) ≤ fk2_317 ∧ fk2_317 ≤ 6 := e327 ▸ hW322.1 16
          have bop2_318 : (-2147483648 : Int) ≤ op2_318 ∧ op2_318 ≤ 2147483647 := e328 ▸ hW322.1 15
          have bnd2_319 : (0 : Int) ≤ nd2_319 ∧ nd2_319 ≤ 6999 := e329 ▸ hW322.1 31
          have ztk2_320 := tz_b tk2_320
          have btk2_320 : (0 : Int) ≤ tk2_320 ∧ tk2_320 ≤ 5 := e330 ▸ hW322.1 11
          refine .inr ⟨_, rfl, ?_⟩
          rcases q338 with ⟨a344, a345, a346, a347, a348, a349⟩ | ⟨a350, a351, a352⟩ | ⟨a353, a354, a355, a356, a357, a358⟩
          · have _q : True := trivial
            exfalso
            omega
          · have _q : True := trivial
            refine jr_st (pc' := 338) (i := 18) (m := 7000) (z := one) (y := r315) rfl (by decide) rfl (by decide) (by omega) (by omega) rfl ?_
            have hW360 : Wk G313 (uA A314 18 (one).toNat (r315)) := Wk_a hW322 (show (-2147483648 : Int) ≤ r315 by omega) (show r315 ≤ (2147483647 : Int) by omega)
            have hF361 := Fr_a (z := r315) (k := 18) (n := (one).toNat) hF339 (by decide)
            obtain ⟨A359, eA359⟩ : ∃ q, q = uA A314 18 (one).toNat (r315) := ⟨_, rfl⟩
            rw [← eA359]
            rw [← eA359] at hW360 hF361
            have q362 : A359 18 (one).toNat = r315 := by rw [eA359]; exact uA_eq
            have hP363 : Pf nd A A359 := eA359 ▸ Pf_a hP341 (z := one) (by omega) (by omega)
            have sf364 : ND A359 (one) (33) (e) (r315) (0) (0) (0) (0) := ND_b eA359 sf342
            have sf365 : wE A359 Vs sb (22) (e) (one + 1) (nd1) := wE_ag (by omega) (Sg_ne eA359 rfl) (Ag_st eA359 (by omega) (by omega)) sf343
            have ec366 : ecn A359 (G313 31) = ec2_321 := (ecn_e ((congrFun eA359 15).trans (uA_ne (by decide)))).trans e331
            have z367 := tz_f (tk2_320)
            exact c_readGuard_w_at_338p (X := X) (d := d) (Vs := Vs) (sb := sb) (c0 := c0) (c1 := c1) (G := G) (A := A) (T := T) (ln := ln) (le := le) (at0 := at0) (fk := fk) (op0 := op0) (nd := nd) (tk0 := tk0) (li := li) (ec := ec) (hd := hd) (hW := hW) (e_ln := e_ln) (e_le := e_le) (e_at0 := e_at0) (e_fk := e_fk) (e_op0 := e_op0) (e_nd := e_nd) (e_tk0 := e_tk0) (e_li := e_li) (e_ec := e_ec) (i_SV := i_SV) (p_0 := p_0) (p_1 := p_1) (p_2 := p_2) (p_3 := p_3) (p_4 := p_4) L G313 A359 (one) (at2_316) (tk2_320) (fk2_317) (nd2_319) (op2_318) (ec2_321) gL_0 gL_1 hW360 hF361 hP363 ((e326)) ((e330)) ((e327)) ((e329)) ((e328)) (ec366) (((hF323.1 9 rfl).trans ((hF233.1 9 rfl).trans (fx_9)))) (by omega) (by omega) (by omega) (by omega) (by omega) (by omega) (by omega) (by omega) (by omega)
          · have _q : True := trivial
            refine jr_st (pc' := 338) (i := 18) (m := 7000) (z := one) (y := r315) rfl (by decide) rfl (by decide) (by omega) (by omega) rfl ?_
            have hW369 : Wk G313 (uA A314 18 (one).toNat (r315)) := Wk_a hW322 (show (-2147483648 : Int) ≤ r315 by omega) (show r315 ≤ (2147483647 : Int) by omega)
            have hF370 := Fr_a (z := r315) (k := 18) (n := (one).toNat) hF339 (by decide)
            obtain ⟨A368, eA368⟩ : ∃ q, q = uA A314 18 (one).toNat (r315) := ⟨_, rfl⟩
            rw [← eA368]
            rw [← eA368] at hW369 hF370
            have q371 : A368 18 (one).toNat = r315 := by rw [eA368]; exact uA_eq
            have hP372 : Pf nd A A368 := eA368 ▸ Pf_a hP341 (z := one) (by omega) (by omega)
            have sf373 : ND A368 (one) (33) (e) (r315) (0) (0) (0) (0) := ND_b eA368 sf342
            have sf374 : wE A368 Vs sb (22) (e) (one + 1) (nd1) := wE_ag (by omega) (Sg_ne eA368 rfl) (Ag_st eA368 (by omega) (by omega)) sf343
            have sf375 : wR A368 Vs sb (20) (1) (r315) (nd1) (nd2_319) := wR_ag (by omega) (Sg_ne eA368 rfl) (Ag_st eA368 (by omega) (by omega)) a356
            have ec376 : ecn A368 (G313 31) = ec2_321 := (ecn_e ((congrFun eA368 15).trans (uA_ne (by decide)))).trans e331
            refine jx_ld (pc' := 339) (l' := L) (st' := [.ref 66]) rfl (jl_aloadn gL_0) ?_
            refine jx_ld (pc' := 340) (l' := L) (st' := [.ref 66, .ref 66]) rfl (jl_aloadn gL_0) ?_
            refine jx_ar (pc' := 342) (st' := [.int (i32 (63)), .ref 66, .ref 66]) rfl rfl rfl rfl ?_
            have b377 : (-2147483648 : Int) ≤ G313 13 ∧ G313 13 ≤ 2147483647 := hW322.1 13
            refine jx_vr (pc' := 345) (as := [.int (i32 (63))]) (st := [.ref 66]) rfl rfl rfl rfl ⟨rfl, rfl, Nat.le_of_ble_eq_true rfl⟩ rfl rfl (c_is (dd := d) (hd := by omega) (hW := hW369) (k := 63) (tk := tk2_320) (e_tk := show G313 11 = tk2_320 from (e330)) (tn := G313 13) (e_tn := show G313 13 = G313 13 from rfl)  (h_k := ⟨(by decide), (by decide)⟩)  ) (fun o V' hq => ?_)
            obtain ⟨r378, rfl, rfl, b379, q380⟩ := hq
            refine .inr ⟨_, rfl, ?_⟩
            rcases q380 with ⟨rfl, a381, a382, a383⟩ | rfl
            · have _q : True := trivial
              refine jx_vr (pc' := 348) (as := [.int (i32 (1))]) (st := []) rfl rfl rfl rfl ⟨rfl, rfl, Nat.le_of_ble_eq_true rfl⟩ rfl rfl (c_need (dd := d) (hd := by omega) (hW := hW369) (g := 1) (ln := ln) (e_ln := show G313 9 = ln from ((hF323.1 9 rfl).trans ((hF233.1 9 rfl).trans (fx_9)))) (le := le) (e_le := show A368 4 (ln).toNat = le from (congrFun (((congrFun eA368 4).trans (uA_ne (by decide))).trans ((hF323.2 4 rfl).trans ((hF233.2 4 rfl).trans (((congrFun eA212 4).trans (uA_ne (by decide))).trans (hFx.2 4 rfl))))) _).trans (e_le)) (at0 := at2_316) (e_at0 := show G313 10 = at2_316 from (e326)) (fk := fk2_317) (e_fk := show G313 16 = fk2_317 from (e327)) (tk0 := tk2_320) (e_tk0 := show G313 11 = tk2_320 from (e330))  (h_g := ⟨(by decide), (by decide)⟩)  (p_0 := by omega)) (fun o V' hq => ?_)
              obtain ⟨G384, A385, at2_386, tk2_387, fk2_388, rfl, rfl, hW389, hF390, e391, e392, e393, p394, p395, q396⟩ := hq
              have hF397 := Fr_tr hF370 hF390 (Fr_sub (by decide)) (Fr_sub (by decide))
              have hP398 := Pf_f hP372 hF390 (by decide)
              have sf399 : ND A385 (one) (33) (e) (r315) (0) (0) (0) (0) := ND_ag (by omega) (Ag_fr hF390 (by decide)) sf373
              have sf400 : wE A385 Vs sb (22) (e) (one + 1) (nd1) := wE_ag (by omega) (Sg_fr hF390 (by decide)) (Ag_fr hF390 (by decide)) sf374
              have sf401 : wR A385 Vs sb (20) (1) (r315) (nd1) (nd2_319) := wR_ag (by omega) (Sg_fr hF390 (by decide)) (Ag_fr hF390 (by decide)) sf375
              have ec402 : ecn A385 (G384 31) = ec2_321 := (ecn_f (hF390.2 15 rfl) (hF390.1 31 rfl)).trans ec376
              have bat2_386 : (0 : Int) ≤ at2_386 ∧ at2_386 ≤ 3002 := e391 ▸ hW389.1 10
              have ztk2_387 := tz_b tk2_387
              have btk2_387 : (0 : Int) ≤ tk2_387 ∧ tk2_387 ≤ 5 := e392 ▸ hW389.1 11
              have bfk2_388 : (0 : Int) ≤ fk2_388 ∧ fk2_388 ≤ 6 := e393 ▸ hW389.1 16
              refine .inl ⟨rfl, ?_⟩
              rcases q396 with ⟨a403, a404, a405, a406⟩ | ⟨a407, a408, a409, a410⟩
              · have _q : True := trivial
                have z411 := tz_f (tk2_387)
                exact c_readGuard_w_at_348p (X := X) (d := d) (Vs := Vs) (sb := sb) (c0 := c0) (c1 := c1) (G := G) (A := A) (T := T) (ln := ln) (le := le) (at0 := at0) (fk := fk) (op0 := op0) (nd := nd) (tk0 := tk0) (li := li) (ec := ec) (hd := hd) (hW := hW) (e_ln := e_ln) (e_le := e_le) (e_at0 := e_at0) (e_fk := e_fk) (e_op0 := e_op0) (e_nd := e_nd) (e_tk0 := e_tk0) (e_li := e_li) (e_ec := e_ec) (i_SV := i_SV) (p_0 := p_0) (p_1 := p_1) (p_2 := p_2) (p_3 := p_3) (p_4 := p_4) L G384 A385 (one) (at2_386) (tk2_387) (fk2_388) (nd2_319) (op2_318) (ec2_321) gL_0 gL_1 hW389 hF397 hP398 ((e391)) ((e392)) ((e393)) (((hF390.1 31 rfl).trans (e329))) (((hF390.1 15 rfl).trans (e328))) (ec402) (((hF390.1 9 rfl).trans ((hF323.1 9 rfl).trans ((hF233.1 9 rfl).trans (fx_9))))) (by omega) (by omega) (by omega) (by omega) (by omega) (by omega) (by omega) (by omega) (by omega)
              · have _q : True := trivial
                have pz412 : at2_316 + tz tk2_387 ≤ at2_386 := by omega
                refine jx_ld (pc' := 349) (l' := L) (st' := [.ref 66]) rfl (jl_aloadn gL_0) ?_
                refine jr_get (pc' := 352) (i := 36) (v := .ref 86) rfl rfl (by decide) rfl rfl ?_
                refine jx_ld (pc' := 353) (l' := L) (st' := [.int (i32 (one)), .ref 86]) rfl (jl_iloadn gL_1) ?_
                refine jx_ld (pc' := 354) (l' := L) (st' := [.ref 66, .int (i32 (one)), .ref 86]) rfl (jl_aloadn gL_0) ?_
                refine jx_ar (pc' := 355) (st' := [.int (i32 (0)), .ref 66, .int (i32 (one)), .ref 86]) rfl rfl rfl rfl ?_
                refine jx_vr (pc' := 358) (as := [.int (i32 (0))]) (st := [.int (i32 (one)), .ref 86]) rfl rfl rfl rfl ⟨rfl, rfl, Nat.le_of_ble_eq_true rfl⟩ rfl rfl (c_readReference_w (dd := d) (hd := by omega) (hW := hW389) (ch := 0) (ln := ln) (e_ln := show G384 9 = ln from ((hF390.1 9 rfl).trans ((hF323.1 9 rfl).trans ((hF233.1 9 rfl).trans (fx_9))))) (le := le) (e_le := show A385 4 (ln).toNat = le from (congrFun ((hF390.2 4 rfl).trans (((congrFun eA368 4).trans (uA_ne (by decide))).trans ((hF323.2 4 rfl).trans ((hF233.2 4 rfl).trans (((congrFun eA212 4).trans (uA_ne (by decide))).trans (hFx.2 4 rfl)))))) _).trans (e_le)) (at0 := at2_386) (e_at0 := show G384 10 = at2_386 from (e391)) (fk := fk2_388) (e_fk := show G384 16 = fk2_388 from (e393)) (op0 := op2_318) (e_op0 := show G384 15 = op2_318 from ((hF390.1 15 rfl).trans (e328))) (nd := nd2_319) (e_nd := show G384 31 = nd2_319 from ((hF390.1 31 rfl).trans (e329))) (tk0 := tk2_387) (e_tk0 := show G384 11 = tk2_387 from (e392)) (ec := ec2_321) (e_ec := show ecn A385 (G384 31) = ec2_321 from ec402) (i_SV := (SV_ext (((hF390.1 29 rfl).trans ((hF323.1 29 rfl).trans ((hF233.1 29 rfl).trans (hFx.1 29 rfl))))) (((hF390.2 14 rfl).trans (((congrFun eA368 14).trans (uA_ne (by decide))).trans ((hF323.2 14 rfl).trans ((hF233.2 14 rfl).trans (((congrFun eA212 14).trans (uA_ne (by decide))).trans (hFx.2 14 rfl))))))) i_SV)) (h_ch := ⟨(by decide), (by decide)⟩)  (p_0 := by omega) (p_1 := by omega) (p_2 := by omega) (p_3 := by omega) (p_4 := by omega)) (fun o V' hq => ?_)
                obtain ⟨G413, A414, r415, at2_416, fk2_417, op2_418, nd2_419, tk2_420, ec2_421, rfl, rfl, hW422, hF423, hQ424, b425, e426, e427, e428, e429, e430, e431, p432, p433, p434, p435, p436, p437, q438⟩ := hq
                have hF439 := Fr_tr hF397 hF423 (Fr_sub (by decide)) (Fr_sub (by decide))
                have k440 : A414 17 (one).toNat = e := (hQ424 17 _ rfl (by omega)).trans (show A385 17 (one).toNat = e from (congrFun ((hF390.2 17 rfl).trans ((congrFun eA368 17).trans (uA_ne (by decide)))) _).trans (k340))
                have k441 : A414 18 (one).toNat = r315 := (hQ424 18 _ rfl (by omega)).trans (show A385 18 (one).toNat = r315 from (congrFun (hF390.2 18 rfl) _).trans (q371))
                have hP442 := Pf_tr hP398 hQ424 (by omega)
                have sf443 : ND A414 (one) (33) (e) (r315) (0) (0) (0) (0) := ND_ag (by omega) (Ag_pf hQ424 (by omega)) sf399
                have sf444 : wE A414 Vs sb (22) (e) (one + 1) (nd1) := wE_ag (by omega) (Sg_fr hF423 (by decide)) (Ag_pf hQ424 (by omega)) sf400
                have sf445 : wR A414 Vs sb (20) (1) (r315) (nd1) (nd2_319) := wR_ag (by omega) (Sg_fr hF423 (by decide)) (Ag_pf hQ424 (by omega)) sf401
                have bat2_416 : (0 : Int) ≤ at2_416 ∧ at2_416 ≤ 3002 := e426 ▸ hW422.1 10
                have bfk2_417 : (0 : Int) ≤ fk2_417 ∧ fk2_417 ≤ 6 := e427 ▸ hW422.1 16
                have bop2_418 : (-2147483648 : Int) ≤ op2_418 ∧ op2_418 ≤ 2147483647 := e428 ▸ hW422.1 15
                have bnd2_419 : (0 : Int) ≤ nd2_419 ∧ nd2_419 ≤ 6999 := e429 ▸ hW422.1 31
                have ztk2_420 := tz_b tk2_420
                have btk2_420 : (0 : Int) ≤ tk2_420 ∧ tk2_420 ≤ 5 := e430 ▸ hW422.1 11
                refine .inr ⟨_, rfl, ?_⟩
                rcases q438 with ⟨a446, a447, a448, a449, a450, a451⟩ | ⟨a452, a453, a454⟩ | ⟨a455, a456, a457, a458, a459, a460⟩
                · have _q : True := trivial
                  exfalso
                  omega
                · have _q : True := trivial
                  refine jr_st (pc' := 359) (i := 19) (m := 7000) (z := one) (y := r415) rfl (by decide) rfl (by decide) (by omega) (by omega) rfl ?_
                  have hW462 : Wk G413 (uA A414 19 (one).toNat (r415)) := Wk_a hW422 (show (-2147483648 : Int) ≤ r415 by omega) (show r415 ≤ (2147483647 : Int) by omega)
                  have hF463 := Fr_a (z := r415) (k := 19) (n := (one).toNat) hF439 (by decide)
                  obtain ⟨A461, eA461⟩ : ∃ q, q = uA A414 19 (one).toNat (r415) := ⟨_, rfl⟩
                  rw [← eA461]
                  rw [← eA461] at hW462 hF463
                  have q464 : A461 19 (one).toNat = r415 := by rw [eA461]; exact uA_eq
                  have hP465 : Pf nd A A461 := eA461 ▸ Pf_a hP442 (z := one) (by omega) (by omega)
                  have sf466 : ND A461 (one) (33) (e) (r315) (r415) (0) (0) (0) := ND_c eA461 sf443
                  have sf467 : wE A461 Vs sb (22) (e) (one + 1) (nd1) := wE_ag (by omega) (Sg_ne eA461 rfl) (Ag_st eA461 (by omega) (by omega)) sf444
                  have sf468 : wR A461 Vs sb (20) (1) (r315) (nd1) (nd2_319) := wR_ag (by omega) (Sg_ne eA461 rfl) (Ag_st eA461 (by omega) (by omega)) sf445
                  have ec469 : ecn A461 (G413 31) = ec2_421 := (ecn_e ((congrFun eA461 15).trans (uA_ne (by decide)))).trans e431
                  have z470 := tz_f (tk2_420)
                  exact c_readGuard_w_at_359p (X := X) (d := d) (Vs := Vs) (sb := sb) (c0 := c0) (c1 := c1) (G := G) (A := A) (T := T) (ln := ln) (le := le) (at0 := at0) (fk := fk) (op0 := op0) (nd := nd) (tk0 := tk0) (li := li) (ec := ec) (hd := hd) (hW := hW) (e_ln := e_ln) (e_le := e_le) (e_at0 := e_at0) (e_fk := e_fk) (e_op0 := e_op0) (e_nd := e_nd) (e_tk0 := e_tk0) (e_li := e_li) (e_ec := e_ec) (i_SV := i_SV) (p_0 := p_0) (p_1 := p_1) (p_2 := p_2) (p_3 := p_3) (p_4 := p_4) L G413 A461 (one) (at2_416) (tk2_420) (fk2_417) (nd2_419) (op2_418) (ec2_421) gL_0 gL_1 hW462 hF463 hP465 ((e426)) ((e430)) ((e427)) ((e429)) ((e428)) (ec469) (((hF423.1 9 rfl).trans ((hF390.1 9 rfl).trans ((hF323.1 9 rfl).trans ((hF233.1 9 rfl).trans (fx_9)))))) (by omega) (by omega) (by omega) (by omega) (by omega) (by omega) (by omega) (by omega) (by omega)
                · have _q : True := trivial
                  refine jr_st (pc' := 359) (i := 19) (m := 7000) (z := one) (y := r415) rfl (by decide) rfl (by decide) (by omega) (by omega) rfl ?_
                  have hW472 : Wk G413 (uA A414 19 (one).toNat (r415)) := Wk_a hW422 (show (-2147483648 : Int) ≤ r415 by omega) (show r415 ≤ (2147483647 : Int) by omega)
                  have hF473 := Fr_a (z := r415) (k := 19) (n := (one).toNat) hF439 (by decide)
                  obtain ⟨A471, eA471⟩ : ∃ q, q = uA A414 19 (one).toNat (r415) := ⟨_, rfl⟩
                  rw [← eA471]
                  rw [← eA471] at hW472 hF473
                  have q474 : A471 19 (one).toNat = r415 := by rw [eA471]; exact uA_eq
                  have hP475 : Pf nd A A471 := eA471 ▸ Pf_a hP442 (z := one) (by omega) (by omega)
                  have sf476 : ND A471 (one) (33) (e) (r315) (r415) (0) (0) (0) := ND_c eA471 sf443
                  have sf477 : wE A471 Vs sb (22) (e) (one + 1) (nd1) := wE_ag (by omega) (Sg_ne eA471 rfl) (Ag_st eA471 (by omega) (by omega)) sf444
                  have sf478 : wR A471 Vs sb (20) (1) (r315) (nd1) (nd2_319) := wR_ag (by omega) (Sg_ne eA471 rfl) (Ag_st eA471 (by omega) (by omega)) sf445
                  have sf479 : wR A471 Vs sb (20) (0) (r415) (nd2_319) (nd2_419) := wR_ag (by omega) (Sg_ne eA471 rfl) (Ag_st eA471 (by omega) (by omega)) a458
                  have ec480 : ecn A471 (G413 31) = ec2_421 := (ecn_e ((congrFun eA471 15).trans (uA_ne (by decide)))).trans e431
                  refine jx_ld (pc' := 360) (l' := L) (st' := [.ref 66]) rfl (jl_aloadn gL_0) ?_
                  refine jx_vr (pc' := 363) (as := []) (st := []) rfl rfl rfl rfl ⟨rfl, rfl, Nat.le_of_ble_eq_true rfl⟩ rfl rfl (c_endLine (dd := d) (hd := by omega) (hW := hW472)  (ln := ln) (e_ln := show G413 9 = ln from ((hF423.1 9 rfl).trans ((hF390.1 9 rfl).trans ((hF323.1 9 rfl).trans ((hF233.1 9 rfl).trans (fx_9)))))) (li := li) (e_li := show G413 3 = li from ((hF423.1 3 rfl).trans ((hF390.1 3 rfl).trans ((hF323.1 3 rfl).trans ((hF233.1 3 rfl).trans ((hFx.1 3 rfl).trans (e_li))))))) (fk := fk2_417) (e_fk := show G413 16 = fk2_417 from (e427)) (tk0 := tk2_420) (e_tk0 := show G413 11 = tk2_420 from (e430))    (p_0 := by omega)) (fun o V' hq => ?_)
                  obtain ⟨G481, A482, ln2_483, fk2_484, rfl, rfl, hW485, hF486, e487, e488, q489⟩ := hq
                  have hF490 := Fr_tr hF473 hF486 (Fr_sub (by decide)) (Fr_sub (by decide))
                  have hP491 := Pf_f hP475 hF486 (by decide)
                  have sf492 : ND A482 (one) (33) (e) (r315) (r415) (0) (0) (0) := ND_ag (by omega) (Ag_fr hF486 (by decide)) sf476
                  have sf493 : wE A482 Vs sb (22) (e) (one + 1) (nd1) := wE_ag (by omega) (Sg_fr hF486 (by decide)) (Ag_fr hF486 (by decide)) sf477
                  have sf494 : wR A482 Vs sb (20) (1) (r315) (nd1) (nd2_319) := wR_ag (by omega) (Sg_fr hF486 (by decide)) (Ag_fr hF486 (by decide)) sf478
                  have sf495 : wR A482 Vs sb (20) (0) (r415) (nd2_319) (nd2_419) := wR_ag (by omega) (Sg_fr hF486 (by decide)) (Ag_fr hF486 (by decide)) sf479
                  have ec496 : ecn A482 (G481 31) = ec2_421 := (ecn_f (hF486.2 15 rfl) (hF486.1 31 rfl)).trans ec480
                  have bln2_483 : (0 : Int) ≤ ln2_483 ∧ ln2_483 ≤ 3000 := e487 ▸ hW485.1 9
                  have bfk2_484 : (0 : Int) ≤ fk2_484 ∧ fk2_484 ≤ 6 := e488 ▸ hW485.1 16
                  refine .inl ⟨rfl, ?_⟩
                  rcases q489 with ⟨a497, a498, a499, a500, a501⟩ | ⟨a502, a503⟩
                  · have _q : True := trivial
                    refine jx_ld (pc' := 364) (l' := L) (st' := [.int (i32 (one))]) rfl (jl_iloadn gL_1) ?_
                    refine jx_rt (v := some (.int (i32 (one)))) rfl rfl rfl rfl rfl rfl ?_
                    exact ⟨_, _, _, at2_416, fk2_484, nd2_419, ln2_483, ec2_421, rfl, rfl, hW485, hF490, hP491, by omega, ((hF486.1 10 rfl).trans (e426)), (e488), ((hF486.1 31 rfl).trans (e429)), (e487), ec496, by omega, by omega, by omega, by omega, by omega, by first | exact Or.inr ((⟨by omega, by omega, by omega, by omega, by omega, (wU_bo (m := nd1) (k := nd2_319) sf492 (by omega) (by omega) (by omega) (by omega) (by omega) (wE_mono (by omega) (by omega) (by omega) sf493) (wR_mono (by omega) (by omega) (by omega) sf494) (wR_mono (by omega) (by omega) (by omega) sf495)), (NX_nd sf492), by omega⟩))⟩
                  · have _q : True := trivial
                    refine jx_ld (pc' := 364) (l' := L) (st' := [.int (i32 (one))]) rfl (jl_iloadn gL_1) ?_
                    refine jx_rt (v := some (.int (i32 (one)))) rfl rfl rfl rfl rfl rfl ?_
                    exact ⟨_, _, _, at2_416, fk2_484, nd2_419, ln2_483, ec2_421, rfl, rfl, hW485, hF490, hP491, by omega, ((hF486.1 10 rfl).trans (e426)), (e488), ((hF486.1 31 rfl).trans (e429)), (e487), ec496, by omega, by omega, by omega, by omega, by omega, by first | exact Or.inl (⟨by omega, by omega, by omega⟩)⟩
            · have _q : True := trivial
              refine jx_vr (pc' := 348) (as := [.int (i32 (0))]) (st := []) rfl rfl rfl rfl ⟨rfl, rfl, Nat.le_of_ble_eq_true rfl⟩ rfl rfl (c_need (dd := d) (hd := by omega) (hW := hW369) (g := 0) (ln := ln) (e_ln := show G313 9 = ln from ((hF323.1 9 rfl).trans ((hF233.1 9 rfl).trans (fx_9)))) (le := le) (e_le := show A368 4 (ln).toNat = le from (congrFun (((congrFun eA368 4).trans (uA_ne (by decide))).trans ((hF323.2 4 rfl).trans ((hF233.2 4 rfl).trans (((congrFun eA212 4).trans (uA_ne (by decide))).trans (hFx.2 4 rfl))))) _).trans (e_le)) (at0 := at2_316) (e_at0 := show G313 10 = at2_316 from (e326)) (fk := fk2_317) (e_fk := show G313 16 = fk2_317 from (e327)) (tk0 := tk2_320) (e_tk0 := show G313 11 = tk2_320 from (e330))  (h_g := ⟨(by decide), (by decide)⟩)  (p_0 := by omega)) (fun o V' hq => ?_)
              obtain ⟨G504, A505, at2_506, tk2_507, fk2_508, rfl, rfl, hW509, hF510, e511, e512, e513, p514, p515, q516⟩ := hq
              have hF517 := Fr_tr hF370 hF510 (Fr_sub (by decide)) (Fr_sub (by decide))
              have hP518 := Pf_f hP372 hF510 (by decide)
              have sf519 : ND A505 (one) (33) (e) (r315) (0) (0) (0) (0) := ND_ag (by omega) (Ag_fr hF510 (by decide)) sf373
              have sf520 : wE A505 Vs sb (22) (e) (one + 1) (nd1) := wE_ag (by omega) (Sg_fr hF510 (by decide)) (Ag_fr hF510 (by decide)) sf374
              have sf521 : wR A505 Vs sb (20) (1) (r315) (nd1) (nd2_319) := wR_ag (by omega) (Sg_fr hF510 (by decide)) (Ag_fr hF510 (by decide)) sf375
              have ec522 : ecn A505 (G504 31) = ec2_321 := (ecn_f (hF510.2 15 rfl) (hF510.1 31 rfl)).trans ec376
              have bat2_506 : (0 : Int) ≤ at2_506 ∧ at2_506 ≤ 3002 := e511 ▸ hW509.1 10
              have ztk2_507 := tz_b tk2_507
              have btk2_507 : (0 : Int) ≤ tk2_507 ∧ tk2_507 ≤ 5 := e512 ▸ hW509.1 11
              have bfk2_508 : (0 : Int) ≤ fk2_508 ∧ fk2_508 ≤ 6 := e513 ▸ hW509.1 16
              refine .inl ⟨rfl, ?_⟩
              rcases q516 with ⟨a523, a524, a525, a526⟩ | ⟨a527, a528, a529, a530⟩
              · have _q : True := trivial
                have z531 := tz_f (tk2_507)
                exact c_readGuard_w_at_348p (X := X) (d := d) (Vs := Vs) (sb := sb) (c0 := c0) (c1 := c1) (G := G) (A := A) (T := T) (ln := ln) (le := le) (at0 := at0) (fk := fk) (op0 := op0) (nd := nd) (tk0 := tk0) (li := li) (ec := ec) (hd := hd) (hW := hW) (e_ln := e_ln) (e_le := e_le) (e_at0 := e_at0) (e_fk := e_fk) (e_op0 := e_op0) (e_nd := e_nd) (e_tk0 := e_tk0) (e_li := e_li) (e_ec := e_ec) (i_SV := i_SV) (p_0 := p_0) (p_1 := p_1) (p_2 := p_2) (p_3 := p_3) (p_4 := p_4) L G504 A505 (one) (at2_506) (tk2_507) (fk2_508) (nd2_319) (op2_318) (ec2_321) gL_0 gL_1 hW509 hF517 hP518 ((e511)) ((e512)) ((e513)) (((hF510.1 31 rfl).trans (e329))) (((hF510.1 15 rfl).trans (e328))) (ec522) (((hF510.1 9 rfl).trans ((hF323.1 9 rfl).trans ((hF233.1 9 rfl).trans (fx_9))))) (by omega) (by omega) (by omega) (by omega) (by omega) (by omega) (by omega) (by omega) (by omega)
              · have _q : True := trivial
                exfalso
                omega
        · have _q := h312
          exact absurd h312 (by omega)
  · have _q : True := trivial
    refine jx_vr (pc' := 310) (as := [.int (i32 (0))]) (st := []) rfl rfl rfl rfl ⟨rfl, rfl, Nat.le_of_ble_eq_true rfl⟩ rfl rfl (c_need (dd := d) (hd := by omega) (hW := hW213) (g := 0) (ln := ln) (e_ln := show Gx 9 = ln from (fx_9)) (le := le) (e_le := show A212 4 (ln).toNat = le from (congrFun (((congrFun eA212 4).trans (uA_ne (by decide))).trans (hFx.2 4 rfl)) _).trans (e_le)) (at0 := at1) (e_at0 := show Gx 10 = at1 from (ex_at1)) (fk := fk1) (e_fk := show Gx 16 = fk1 from (ex_fk1)) (tk0 := tk1) (e_tk0 := show Gx 11 = tk1 from (ex_tk1))  (h_g := ⟨(by decide), (by decide)⟩)  (p_0 := by omega)) (fun o V' hq => ?_)
    obtain ⟨G532, A533, at2_534, tk2_535, fk2_536, rfl, rfl, hW537, hF538, e539, e540, e541, p542, p543, q544⟩ := hq
    have hF545 := Fr_tr hF214 hF538 (Fr_sub (by decide)) (Fr_sub (by decide))
    have hP546 := Pf_f hP216 hF538 (by decide)
    have sf547 : ND A533 (one) (33) (e) (0) (0) (0) (0) (0) := ND_ag (by omega) (Ag_fr hF538 (by decide)) sf217
    have sf548 : wE A533 Vs sb (22) (e) (one + 1) (nd1) := wE_ag (by omega) (Sg_fr hF538 (by decide)) (Ag_fr hF538 (by decide)) sf218
    have ec549 : ecn A533 (G532 31) = ec1 := (ecn_f (hF538.2 15 rfl) (hF538.1 31 rfl)).trans ec219
    have bat2_534 : (0 : Int) ≤ at2_534 ∧ at2_534 ≤ 3002 := e539 ▸ hW537.1 10
    have ztk2_535 := tz_b tk2_535
    have btk2_535 : (0 : Int) ≤ tk2_535 ∧ tk2_535 ≤ 5 := e540 ▸ hW537.1 11
    have bfk2_536 : (0 : Int) ≤ fk2_536 ∧ fk2_536 ≤ 6 := e541 ▸ hW537.1 16
    refine .inl ⟨rfl, ?_⟩
    rcases q544 with ⟨a550, a551, a552, a553⟩ | ⟨a554, a555, a556, a557⟩
    · have _q : True := trivial
      have z558 := tz_f (tk2_535)
      exact c_readGuard_w_at_310p (X := X) (d := d) (Vs := Vs) (sb := sb) (c0 := c0) (c1 := c1) (G := G) (A := A) (T := T) (ln := ln) (le := le) (at0 := at0) (fk := fk) (op0 := op0) (nd := nd) (tk0 := tk0) (li := li) (ec := ec) (hd := hd) (hW := hW) (e_ln := e_ln) (e_le := e_le) (e_at0 := e_at0) (e_fk := e_fk) (e_op0 := e_op0) (e_nd := e_nd) (e_tk0 := e_tk0) (e_li := e_li) (e_ec := e_ec) (i_SV := i_SV) (p_0 := p_0) (p_1 := p_1) (p_2 := p_2) (p_3 := p_3) (p_4 := p_4) L G532 A533 (one) (at2_534) (tk2_535) (fk2_536) (nd1) (op1) (ec1) gL_0 gL_1 hW537 hF545 hP546 ((e539)) ((e540)) ((e541)) (((hF538.1 31 rfl).trans (ex_nd1))) (((hF538.1 15 rfl).trans (ex_op1))) (ec549) (((hF538.1 9 rfl).trans (fx_9))) (by omega) (by omega) (by omega) (by omega) (by omega) (by omega) (by omega) (by omega) (by omega)
    · have _q : True := trivial
      exfalso
      omega
set_option maxRecDepth 20000 in
set_option maxHeartbeats 4000000 in
theorem c_readGuard_w_at_293p {X : jX} {d : Nat} {Vs : Nat → Prop} {sb : Int} {c0 c1 : jC} {G : Nat → Int} {A : Nat → Nat → Int} {T : jH} {ln le at0 fk op0 nd tk0 li ec : Int} (hd : 71 ≤ d + 1) (hW : Wk G A) (e_ln : G 9 = ln) (e_le : A 4 (ln).toNat = le) (e_at0 : G 10 = at0) (e_fk : G 16 = fk) (e_op0 : G 15 = op0) (e_nd : G 31 = nd) (e_tk0 : G 11 = tk0) (e_li : G 3 = li) (e_ec : ecn A (G 31) = ec) (i_SV : SV Vs sb G A) (p_0 : 0 ≤ op0 ∧ op0 ≤ 8) (p_1 : fk = 0) (p_2 : nd ≤ 2 * at0 - tz tk0 + 42) (p_3 : at0 ≤ le) (p_4 : ln < li) : ∀ (L : jL) (Gx : Nat → Int) (Ax : Nat → Nat → Int) (one e at1 tk1 fk1 nd1 op1 ec1 : Int), jGet L 0 = some (.ref 66) → jGet L 1 = some (.int (i32 one)) → jGet L 2 = some (.int (i32 e)) → Wk Gx Ax → Fr [9, 10, 11, 12, 13, 14, 15, 16, 17, 18, 31] [15, 16, 17, 18, 19, 20, 21, 22, 24, 28] G A Gx Ax → Pf nd A Ax → Gx 10 = at1 → Gx 11 = tk1 → Gx 16 = fk1 → Gx 31 = nd1 → Gx 15 = op1 → ecn Ax (Gx 31) = ec1 → Gx 9 = ln → ((-2147483648 : Int) ≤ one ∧ one ≤ 2147483647) → ((-2147483648 : Int) ≤ e ∧ e ≤ 2147483647) → (at0 ≤ at1) → (at1 ≤ le) → (nd ≤ nd1) → (op1 = op0) → (one = nd) → (one ≤ 6998 ∧ one < nd1) → (1 ≤ fk1) → (nd1 - nd ≤ (2 * at1 - tz tk1) - (2 * at0 - tz tk0) + 5) → wj X d jm303 (293, L, [], rV c0 c1 Gx Ax T) (fun o V' => ∃ (G' : Nat → Int) (A' : Nat → Nat → Int) (r : Int) (at2 : Int) (fk2 : Int) (nd2 : Int) (ln2 : Int) (ec2 : Int), V' = rV c0 c1 G' A' T ∧ o = .inl (some (.int (i32 r))) ∧ Wk G' A' ∧ Fr [9, 10, 11, 12, 13, 14, 15, 16, 17, 18, 31] [15, 16, 17, 18, 19, 20, 21, 22, 24, 28] G A G' A' ∧ Pf nd A A' ∧ ((-2147483648 : Int) ≤ r ∧ r ≤ 2147483647) ∧ G' 10 = at2 ∧ G' 16 = fk2 ∧ G' 31 = nd2 ∧ G' 9 = ln2 ∧ ecn A' (G' 31) = ec2 ∧ (at0 ≤ at2) ∧ (at2 ≤ le) ∧ (nd ≤ nd2) ∧ (0 ≤ r) ∧ (r ≤ nd2) ∧ (((1 ≤ fk2) ∧ (ln2 = ln) ∧ (nd2 - nd ≤ 2 * at2 - 2 * at0 + 12)) ∨ ((fk2 = 0) ∧ (ln2 = ln + 1) ∧ (nd2 - nd ≤ 2 * at2 - (2 * at0 - tz tk0) + 0) ∧ (nd ≤ r) ∧ (r < nd2) ∧ (wU A' Vs sb (r) (nd) (nd2)) ∧ (NX A' (r)) ∧ (nd2 - nd + 5 * (ec2 - ec) ≤ 2 * at2 - (2 * at0 - tz tk0) + 0)))) := by
  have hF0 : Fr [9, 10, 11, 12, 13, 14, 15, 16, 17, 18, 31] [15, 16, 17, 18, 19, 20, 21, 22, 24, 28] G A G A := Fr_rf
  have hP0 : Pf nd A A := Pf_rf
  have b_ln : (0 : Int) ≤ ln ∧ ln ≤ 3000 := e_ln ▸ hW.1 9
  have b_le : (0 : Int) ≤ le ∧ le ≤ 3000 := e_le ▸ hW.2 4 _
  have b_at0 : (0 : Int) ≤ at0 ∧ at0 ≤ 3002 := e_at0 ▸ hW.1 10
  have b_fk : (0 : Int) ≤ fk ∧ fk ≤ 6 := e_fk ▸ hW.1 16
  have b_op0 : (-2147483648 : Int) ≤ op0 ∧ op0 ≤ 2147483647 := e_op0 ▸ hW.1 15
  have b_nd : (0 : Int) ≤ nd ∧ nd ≤ 6999 := e_nd ▸ hW.1 31
  have z_tk0 := tz_f tk0
  have b_tk0 : (0 : Int) ≤ tk0 ∧ tk0 ≤ 5 := e_tk0 ▸ hW.1 11
  have b_li : (0 : Int) ≤ li ∧ li ≤ 3000 := e_li ▸ hW.1 3
  intro L Gx Ax one e at1 tk1 fk1 nd1 op1 ec1 gL_0 gL_1 gL_2 hWx hFx hPx ex_at1 ex_tk1 ex_fk1 ex_nd1 ex_op1 ex_ec1 fx_9 rx_one rx_e iv_0 iv_1 iv_2 iv_3 iv_4 iv_5 iv_6 iv_7
  have b_at1 : (0 : Int) ≤ at1 ∧ at1 ≤ 3002 := ex_at1 ▸ hWx.1 10
  have z_tk1 := tz_f tk1
  have b_tk1 : (0 : Int) ≤ tk1 ∧ tk1 ≤ 5 := ex_tk1 ▸ hWx.1 11
  have b_fk1 : (0 : Int) ≤ fk1 ∧ fk1 ≤ 6 := ex_fk1 ▸ hWx.1 16
  have b_nd1 : (0 : Int) ≤ nd1 ∧ nd1 ≤ 6999 := ex_nd1 ▸ hWx.1 31
  have b_op1 : (-2147483648 : Int) ≤ op1 ∧ op1 ≤ 2147483647 := ex_op1 ▸ hWx.1 15
  refine jx_ld (pc' := 294) (l' := L) (st' := [.ref 66]) rfl (jl_aloadn gL_0) ?_
  refine jr_get (pc' := 297) (i := 34) (v := .ref 84) rfl rfl (by decide) rfl rfl ?_
  refine jx_ld (pc' := 298) (l' := L) (st' := [.int (i32 (one)), .ref 84]) rfl (jl_iloadn gL_1) ?_
  refine jx_ld (pc' := 299) (l' := L) (st' := [.int (i32 (e)), .int (i32 (one)), .ref 84]) rfl (jl_iloadn gL_2) ?_
  refine jr_st (pc' := 300) (i := 17) (m := 7000) (z := one) (y := e) rfl (by decide) rfl (by decide) (by omega) (by omega) rfl ?_
  have hW560 : Wk Gx (uA Ax 17 (one).toNat (e)) := Wk_a hWx (show (-2147483648 : Int) ≤ e by omega) (show e ≤ (2147483647 : Int) by omega)
  have hF561 := Fr_a (z := e) (k := 17) (n := (one).toNat) hFx (by decide)
  obtain ⟨A559, eA559⟩ : ∃ q, q = uA Ax 17 (one).toNat (e) := ⟨_, rfl⟩
  rw [← eA559]
  rw [← eA559] at hW560 hF561
  have q562 : A559 17 (one).toNat = e := by rw [eA559]; exact uA_eq
  have hP563 : Pf nd A A559 := eA559 ▸ Pf_a hPx (z := one) (by omega) (by omega)
  have ec564 : ecn A559 (Gx 31) = ec1 := (ecn_e ((congrFun eA559 15).trans (uA_ne (by decide)))).trans ex_ec1
  refine jx_ld (pc' := 301) (l' := L) (st' := [.ref 66]) rfl (jl_aloadn gL_0) ?_
  refine jx_ld (pc' := 302) (l' := L) (st' := [.ref 66, .ref 66]) rfl (jl_aloadn gL_0) ?_
  refine jx_ar (pc' := 304) (st' := [.int (i32 (38)), .ref 66, .ref 66]) rfl rfl rfl rfl ?_
  have b565 : (-2147483648 : Int) ≤ Gx 13 ∧ Gx 13 ≤ 2147483647 := hWx.1 13
  refine jx_vr (pc' := 307) (as := [.int (i32 (38))]) (st := [.ref 66]) rfl rfl rfl rfl ⟨rfl, rfl, Nat.le_of_ble_eq_true rfl⟩ rfl rfl (c_is (dd := d) (hd := by omega) (hW := hW560) (k := 38) (tk := tk1) (e_tk := show Gx 11 = tk1 from (ex_tk1)) (tn := Gx 13) (e_tn := show Gx 13 = Gx 13 from rfl)  (h_k := ⟨(by decide), (by decide)⟩)  ) (fun o V' hq => ?_)
  obtain ⟨r566, rfl, rfl, b567, q568⟩ := hq
  refine .inr ⟨_, rfl, ?_⟩
  rcases q568 with ⟨rfl, a569, a570, a571⟩ | rfl
  · have _q : True := trivial
    refine jx_vr (pc' := 310) (as := [.int (i32 (1))]) (st := []) rfl rfl rfl rfl ⟨rfl, rfl, Nat.le_of_ble_eq_true rfl⟩ rfl rfl (c_need (dd := d) (hd := by omega) (hW := hW560) (g := 1) (ln := ln) (e_ln := show Gx 9 = ln from (fx_9)) (le := le) (e_le := show A559 4 (ln).toNat = le from (congrFun (((congrFun eA559 4).trans (uA_ne (by decide))).trans (hFx.2 4 rfl)) _).trans (e_le)) (at0 := at1) (e_at0 := show Gx 10 = at1 from (ex_at1)) (fk := fk1) (e_fk := show Gx 16 = fk1 from (ex_fk1)) (tk0 := tk1) (e_tk0 := show Gx 11 = tk1 from (ex_tk1))  (h_g := ⟨(by decide), (by decide)⟩)  (p_0 := by omega)) (fun o V' hq => ?_)
    obtain ⟨G572, A573, at2_574, tk2_575, fk2_576, rfl, rfl, hW577, hF578, e579, e580, e581, p582, p583, q584⟩ := hq
    have hF585 := Fr_tr hF561 hF578 (Fr_sub (by decide)) (Fr_sub (by decide))
    have hP586 := Pf_f hP563 hF578 (by decide)
    have ec587 : ecn A573 (G572 31) = ec1 := (ecn_f (hF578.2 15 rfl) (hF578.1 31 rfl)).trans ec564
    have bat2_574 : (0 : Int) ≤ at2_574 ∧ at2_574 ≤ 3002 := e579 ▸ hW577.1 10
    have ztk2_575 := tz_b tk2_575
    have btk2_575 : (0 : Int) ≤ tk2_575 ∧ tk2_575 ≤ 5 := e580 ▸ hW577.1 11
    have bfk2_576 : (0 : Int) ≤ fk2_576 ∧ fk2_576 ≤ 6 := e581 ▸ hW577.1 16
    refine .inl ⟨rfl, ?_⟩
    rcases q584 with ⟨a588, a589, a590, a591⟩ | ⟨a592, a593, a594, a595⟩
    · have _q : True := trivial
      have z596 := tz_f (tk2_575)
      exact c_readGuard_w_at_310p (X := X) (d := d) (Vs := Vs) (sb := sb) (c0 := c0) (c1 := c1) (G := G) (A := A) (T := T) (ln := ln) (le := le) (at0 := at0) (fk := fk) (op0 := op0) (nd := nd) (tk0 := tk0) (li := li) (ec := ec) (hd := hd) (hW := hW) (e_ln := e_ln) (e_le := e_le) (e_at0 := e_at0) (e_fk := e_fk) (e_op0 := e_op0) (e_nd := e_nd) (e_tk0 := e_tk0) (e_li := e_li) (e_ec := e_ec) (i_SV := i_SV) (p_0 := p_0) (p_1 := p_1) (p_2 := p_2) (p_3 := p_3) (p_4 := p_4) L G572 A573 (one) (at2_574) (tk2_575) (fk2_576) (nd1) (op1) (ec1) gL_0 gL_1 hW577 hF585 hP586 ((e579)) ((e580)) ((e581)) (((hF578.1 31 rfl).trans (ex_nd1))) (((hF578.1 15 rfl).trans (ex_op1))) (ec587) (((hF578.1 9 rfl).trans (fx_9))) (by omega) (by omega) (by omega) (by omega) (by omega) (by omega) (by omega) (by omega) (by omega)
    · have _q : True := trivial
      exfalso
      omega
  · have _q : True := trivial
    refine jx_vr (pc' := 310) (as := [.int (i32 (0))]) (st := []) rfl rfl rfl rfl ⟨rfl, rfl, Nat.le_of_ble_eq_true rfl⟩ rfl rfl (c_need (dd := d) (hd := by omega) (hW := hW560) (g := 0) (ln := ln) (e_ln := show Gx 9 = ln from (fx_9)) (le := le) (e_le := show A559 4 (ln).toNat = le from (congrFun (((congrFun eA559 4).trans (uA_ne (by decide))).trans (hFx.2 4 rfl)) _).trans (e_le)) (at0 := at1) (e_at0 := show Gx 10 = at1 from (ex_at1)) (fk := fk1) (e_fk := show Gx 16 = fk1 from (ex_fk1)) (tk0 := tk1) (e_tk0 := show Gx 11 = tk1 from (ex_tk1))  (h_g := ⟨(by decide), (by decide)⟩)  (p_0 := by omega)) (fun o V' hq => ?_)
    obtain ⟨G597, A598, at2_599, tk2_600, fk2_601, rfl, rfl, hW602, hF603, e604, e605, e606, p607, p608, q609⟩ := hq
    have hF610 := Fr_tr hF561 hF603 (Fr_sub (by decide)) (Fr_sub (by decide))
    have hP611 := Pf_f hP563 hF603 (by decide)
    have ec612 : ecn A598 (G597 31) = ec1 := (ecn_f (hF603.2 15 rfl) (hF603.1 31 rfl)).trans ec564
    have bat2_599 : (0 : Int) ≤ at2_599 ∧ at2_599 ≤ 3002 := e604 ▸ hW602.1 10
    have ztk2_600 := tz_b tk2_600
    have btk2_600 : (0 : Int) ≤ tk2_600 ∧ tk2_600 ≤ 5 := e605 ▸ hW602.1 11
    have bfk2_601 : (0 : Int) ≤ fk2_601 ∧ fk2_601 ≤ 6 := e606 ▸ hW602.1 16
    refine .inl ⟨rfl, ?_⟩
    rcases q609 with ⟨a613, a614, a615, a616⟩ | ⟨a617, a618, a619, a620⟩
    · have _q : True := trivial
      have z621 := tz_f (tk2_600)
      exact c_readGuard_w_at_310p (X := X) (d := d) (Vs := Vs) (sb := sb) (c0 := c0) (c1 := c1) (G := G) (A := A) (T := T) (ln := ln) (le := le) (at0 := at0) (fk := fk) (op0 := op0) (nd := nd) (tk0 := tk0) (li := li) (ec := ec) (hd := hd) (hW := hW) (e_ln := e_ln) (e_le := e_le) (e_at0 := e_at0) (e_fk := e_fk) (e_op0 := e_op0) (e_nd := e_nd) (e_tk0 := e_tk0) (e_li := e_li) (e_ec := e_ec) (i_SV := i_SV) (p_0 := p_0) (p_1 := p_1) (p_2 := p_2) (p_3 := p_3) (p_4 := p_4) L G597 A598 (one) (at2_599) (tk2_600) (fk2_601) (nd1) (op1) (ec1) gL_0 gL_1 hW602 hF610 hP611 ((e604)) ((e605)) ((e606)) (((hF603.1 31 rfl).trans (ex_nd1))) (((hF603.1 15 rfl).trans (ex_op1))) (ec612) (((hF603.1 9 rfl).trans (fx_9))) (by omega) (by omega) (by omega) (by omega) (by omega) (by omega) (by omega) (by omega) (by omega)
    · have _q : True := trivial
      exfalso
      omega
set_option maxRecDepth 20000 in
set_option maxHeartbeats 4000000 in
theorem c_readGuard_w_at_222_1_1 {X : jX} {d : Nat} {Vs : Nat → Prop} {sb : Int} {c0 c1 : jC} {G : Nat → Int} {A : Nat → Nat → Int} {T : jH} {ln le at0 fk op0 nd tk0 li ec : Int} (hd : 71 ≤ d + 1) (hW : Wk G A) (e_ln : G 9 = ln) (e_le : A 4 (ln).toNat = le) (e_at0 : G 10 = at0) (e_fk : G 16 = fk) (e_op0 : G 15 = op0) (e_nd : G 31 = nd) (e_tk0 : G 11 = tk0) (e_li : G 3 = li) (e_ec : ecn A (G 31) = ec) (i_SV : SV Vs sb G A) (p_0 : 0 ≤ op0 ∧ op0 ≤ 8) (p_1 : fk = 0) (p_2 : nd ≤ 2 * at0 - tz tk0 + 42) (p_3 : at0 ≤ le) (p_4 : ln < li) : ∀ (L : jL) (Gx : Nat → Int) (Ax : Nat → Nat → Int) (one s ix at1 tk1 fk1 nd1 op1 ks ec1 : Int), jGet L 0 = some (.ref 66) → jGet L 6 = some (.int (i32 (1))) → jGet L 7 = some (.int (i32 (1))) → jGet L 1 = some (.int (i32 one)) → jGet L 4 = some (.int (i32 s)) → jGet L 5 = some (.int (i32 ix)) → Wk Gx Ax → Fr [9, 10, 11, 12, 13, 14, 15, 16, 17, 18, 31] [15, 16, 17, 18, 19, 20, 21, 22, 24, 28] G A Gx Ax → Pf nd A Ax → Gx 10 = at1 → Gx 11 = tk1 → Gx 16 = fk1 → Gx 31 = nd1 → Gx 15 = op1 → Ax 7 (s).toNat = ks → ecn Ax (Gx 31) = ec1 → Gx 9 = ln → ((-2147483648 : Int) ≤ one ∧ one ≤ 2147483647) → ((-2147483648 : Int) ≤ s ∧ s ≤ 2147483647) → ((-2147483648 : Int) ≤ ix ∧ ix ≤ 2147483647) → (at0 ≤ at1) → (at1 ≤ le) → (nd ≤ nd1) → (op1 = op0) → (one = nd) → (one ≤ 6998 ∧ one < nd1) → (fk1 = 0) → (nd1 - nd ≤ (2 * at1 - tz tk1) - (2 * at0 - tz tk0)) → (0 ≤ s ∧ s ≤ 201) → (SY Vs sb (s)) → (ND Ax (one) (33) (0) (0) (0) (0) (0) (0)) → (tz tk1 = 1) → (ks = 4) → (wE Ax Vs sb (20) (ix) (one + 1) (nd1)) → (nd1 - nd + 5 * (ec1 - ec) ≤ (2 * at1 - tz tk1) - (2 * at0 - tz tk0) - 5 - tz tk1) → wj X d jm303 (222, L, [], rV c0 c1 Gx Ax T) (fun o V' => ∃ (G' : Nat → Int) (A' : Nat → Nat → Int) (r : Int) (at2 : Int) (fk2 : Int) (nd2 : Int) (ln2 : Int) (ec2 : Int), V' = rV c0 c1 G' A' T ∧ o = .inl (some (.int (i32 r))) ∧ Wk G' A' ∧ Fr [9, 10, 11, 12, 13, 14, 15, 16, 17, 18, 31] [15, 16, 17, 18, 19, 20, 21, 22, 24, 28] G A G' A' ∧ Pf nd A A' ∧ ((-2147483648 : Int) ≤ r ∧ r ≤ 2147483647) ∧ G' 10 = at2 ∧ G' 16 = fk2 ∧ G' 31 = nd2 ∧ G' 9 = ln2 ∧ ecn A' (G' 31) = ec2 ∧ (at0 ≤ at2) ∧ (at2 ≤ le) ∧ (nd ≤ nd2) ∧ (0 ≤ r) ∧ (r ≤ nd2) ∧ (((1 ≤ fk2) ∧ (ln2 = ln) ∧ (nd2 - nd ≤ 2 * at2 - 2 * at0 + 12)) ∨ ((fk2 = 0) ∧ (ln2 = ln + 1) ∧ (nd2 - nd ≤ 2 * at2 - (2 * at0 - tz tk0) + 0) ∧ (nd ≤ r) ∧ (r < nd2) ∧ (wU A' Vs sb (r) (nd) (nd2)) ∧ (NX A' (r)) ∧ (nd2 - nd + 5 * (ec2 - ec) ≤ 2 * at2 - (2 * at0 - tz tk0) + 0)))) := by
  have hF0 : Fr [9, 10, 11, 12, 13, 14, 15, 16, 17, 18, 31] [15, 16, 17, 18, 19, 20, 21, 22, 24, 28] G A G A := Fr_rf
  have hP0 : Pf nd A A := Pf_rf
  have b_ln : (0 : Int) ≤ ln ∧ ln ≤ 3000 := e_ln ▸ hW.1 9
  have b_le : (0 : Int) ≤ le ∧ le ≤ 3000 := e_le ▸ hW.2 4 _
  have b_at0 : (0 : Int) ≤ at0 ∧ at0 ≤ 3002 := e_at0 ▸ hW.1 10
  have b_fk : (0 : Int) ≤ fk ∧ fk ≤ 6 := e_fk ▸ hW.1 16
  have b_op0 : (-2147483648 : Int) ≤ op0 ∧ op0 ≤ 2147483647 := e_op0 ▸ hW.1 15
  have b_nd : (0 : Int) ≤ nd ∧ nd ≤ 6999 := e_nd ▸ hW.1 31
  have z_tk0 := tz_f tk0
  have b_tk0 : (0 : Int) ≤ tk0 ∧ tk0 ≤ 5 := e_tk0 ▸ hW.1 11
  have b_li : (0 : Int) ≤ li ∧ li ≤ 3000 := e_li ▸ hW.1 3
  intro L Gx Ax one s ix at1 tk1 fk1 nd1 op1 ks ec1 gL_0 gL_6 gL_7 gL_1 gL_4 gL_5 hWx hFx hPx ex_at1 ex_tk1 ex_fk1 ex_nd1 ex_op1 ex_ks ex_ec1 fx_9 rx_one rx_s rx_ix iv_0 iv_1 iv_2 iv_3 iv_4 iv_5 iv_6 iv_7 iv_8 iv_9 iv_10 iv_11 iv_12 iv_13 iv_14
  have b_at1 : (0 : Int) ≤ at1 ∧ at1 ≤ 3002 := ex_at1 ▸ hWx.1 10
  have z_tk1 := tz_f tk1
  have b_tk1 : (0 : Int) ≤ tk1 ∧ tk1 ≤ 5 := ex_tk1 ▸ hWx.1 11
  have b_fk1 : (0 : Int) ≤ fk1 ∧ fk1 ≤ 6 := ex_fk1 ▸ hWx.1 16
  have b_nd1 : (0 : Int) ≤ nd1 ∧ nd1 ≤ 6999 := ex_nd1 ▸ hWx.1 31
  have b_op1 : (-2147483648 : Int) ≤ op1 ∧ op1 ≤ 2147483647 := ex_op1 ▸ hWx.1 15
  have b_ks : (0 : Int) ≤ ks ∧ ks ≤ 14 := ex_ks ▸ hWx.2 7 _
  refine jx_ld (pc' := 223) (l' := L) (st' := [.ref 66]) rfl (jl_aloadn gL_0) ?_
  refine jx_ld (pc' := 225) (l' := L) (st' := [.int (i32 (1)), .ref 66]) rfl (jl_iload gL_6) ?_
  refine jx_if_eq (pc' := 228) (tg := 232) rfl rfl rfl (by decide) (by decide) (fun h622 => ?_) (fun h622 => ?_)
  · have _q := h622
    exact absurd h622 (by omega)
  · have _q := h622
    refine jx_ar (pc' := 229) (st' := [.int (i32 (3)), .ref 66]) rfl rfl rfl rfl ?_
    refine jx_go (tg := 233) rfl rfl ?_
    refine jx_ld (pc' := 235) (l' := L) (st' := [.int (i32 (s)), .int (i32 (3)), .ref 66]) rfl (jl_iload gL_4) ?_
    refine jx_ld (pc' := 237) (l' := L) (st' := [.int (i32 (ix)), .int (i32 (s)), .int (i32 (3)), .ref 66]) rfl (jl_iload gL_5) ?_
    refine jx_ar (pc' := 238) (st' := [.int (i32 (0)), .int (i32 (ix)), .int (i32 (s)), .int (i32 (3)), .ref 66]) rfl rfl rfl rfl ?_
    refine jx_ar (pc' := 239) (st' := [.int (i32 (0)), .int (i32 (0)), .int (i32 (ix)), .int (i32 (s)), .int (i32 (3)), .ref 66]) rfl rfl rfl rfl ?_
    refine jx_vr (pc' := 242) (as := [.int (i32 (3)), .int (i32 (s)), .int (i32 (ix)), .int (i32 (0)), .int (i32 (0))]) (st := []) rfl rfl rfl rfl ⟨rfl, rfl, Nat.le_of_ble_eq_true rfl⟩ rfl rfl (c_node_e (dd := d) (hd := by omega) (hW := hWx) (kind := 3) (a := s) (b := ix) (c := 0) (e := 0) (nd := nd1) (e_nd := show Gx 31 = nd1 from (ex_nd1)) (ec := ec1) (e_ec := show ecn Ax (Gx 31) = ec1 from ex_ec1)  (h_kind := ⟨(by decide), (by decide)⟩) (h_a := ⟨(Int.le_trans (by decide : (-2147483648 : Int) ≤ -2147483648) rx_s.1), (Int.le_trans rx_s.2 (by decide : (2147483647 : Int) ≤ 2147483647))⟩) (h_b := ⟨(Int.le_trans (by decide : (-2147483648 : Int) ≤ -2147483648) rx_ix.1), (Int.le_trans rx_ix.2 (by decide : (2147483647 : Int) ≤ 2147483647))⟩) (h_c := ⟨(by decide), (by decide)⟩) (h_e := ⟨(by decide), (by decide)⟩)  (p_0 := by omega) (p_1 := by omega) (p_2 := by omega)) (fun o V' hq => ?_)
    obtain ⟨G623, A624, nd2_625, ec2_626, rfl, rfl, hW627, hF628, hQ629, e630, e631, p632, p633, p634, -⟩ := hq
    have hF636 := Fr_tr hFx hF628 (Fr_sub (by decide)) (Fr_sub (by decide))
    have hP637 := Pf_tr hPx hQ629 (by omega)
    have sf638 : ND A624 (one) (33) (0) (0) (0) (0) (0) (0) := ND_ag (by omega) (Ag_pf hQ629 (by omega)) iv_10
    have sf639 : wE A624 Vs sb (20) (ix) (one + 1) (nd1) := wE_ag (by omega) (Sg_fr hF628 (by decide)) (Ag_pf hQ629 (by omega)) iv_13
    have bnd2_625 : (0 : Int) ≤ nd2_625 ∧ nd2_625 ≤ 6999 := e630 ▸ hW627.1 31
    refine .inr ⟨_, rfl, ?_⟩
    refine jx_ld (pc' := 244) (l' := jSto1 L 10 (.int (i32 (nd1)))) (st' := []) rfl rfl ?_
    obtain ⟨L640, eL640⟩ : ∃ q, q = jSto1 L 10 (.int (i32 (nd1))) := ⟨_, rfl⟩
    rw [← eL640]
    have gL640_0 : jGet L640 0 = some (.ref 66) := eL640 ▸ jg_ne (by decide) gL_0 rfl
    have gL640_6 : jGet L640 6 = some (.int (i32 (1))) := eL640 ▸ jg_ne (by decide) gL_6 rfl
    have gL640_7 : jGet L640 7 = some (.int (i32 (1))) := eL640 ▸ jg_ne (by decide) gL_7 rfl
    have gL640_1 : jGet L640 1 = some (.int (i32 (one))) := eL640 ▸ jg_ne (by decide) gL_1 rfl
    have gL640_4 : jGet L640 4 = some (.int (i32 (s))) := eL640 ▸ jg_ne (by decide) gL_4 rfl
    have gL640_5 : jGet L640 5 = some (.int (i32 (ix))) := eL640 ▸ jg_ne (by decide) gL_5 rfl
    have gL640_10 : jGet L640 10 = some (.int (i32 (nd1))) := eL640 ▸ jg_eq
    refine jx_ld (pc' := 246) (l' := L640) (st' := [.int (i32 (1))]) rfl (jl_iload gL640_7) ?_
    refine jx_if_eq (pc' := 249) (tg := 278) rfl rfl rfl (by decide) (by decide) (fun h641 => ?_) (fun h641 => ?_)
    · have _q := h641
      exact absurd h641 (by omega)
    · have _q := h641
      refine jx_ld (pc' := 250) (l' := L640) (st' := [.ref 66]) rfl (jl_aloadn gL640_0) ?_
      refine jr_get (pc' := 253) (i := 35) (v := .ref 85) rfl rfl (by decide) rfl rfl ?_
      refine jx_ld (pc' := 254) (l' := L640) (st' := [.int (i32 (one)), .ref 85]) rfl (jl_iloadn gL640_1) ?_
      refine jx_ld (pc' := 256) (l' := L640) (st' := [.int (i32 (nd1)), .int (i32 (one)), .ref 85]) rfl (jl_iload gL640_10) ?_
      refine jr_st (pc' := 257) (i := 18) (m := 7000) (z := one) (y := nd1) rfl (by decide) rfl (by decide) (by omega) (by omega) rfl ?_
      have hW643 : Wk G623 (uA A624 18 (one).toNat (nd1)) := Wk_a hW627 (show (-2147483648 : Int) ≤ nd1 by omega) (show nd1 ≤ (2147483647 : Int) by omega)
      have hF644 := Fr_a (z := nd1) (k := 18) (n := (one).toNat) hF636 (by decide)
      obtain ⟨A642, eA642⟩ : ∃ q, q = uA A624 18 (one).toNat (nd1) := ⟨_, rfl⟩
      rw [← eA642]
      rw [← eA642] at hW643 hF644
      have q645 : A642 18 (one).toNat = nd1 := by rw [eA642]; exact uA_eq
      have hP646 : Pf nd A A642 := eA642 ▸ Pf_a hP637 (z := one) (by omega) (by omega)
      have sf647 : ND A642 (one) (33) (0) (nd1) (0) (0) (0) (0) := ND_b eA642 sf638
      have sf648 : wE A642 Vs sb (20) (ix) (one + 1) (nd1) := wE_ag (by omega) (Sg_ne eA642 rfl) (Ag_st eA642 (by omega) (by omega)) sf639
      have sf649 : ND A642 (nd1) (3) (s) (ix) (0) (0) (0) (0) := ND_ag (by omega) (Ag_st eA642 (by omega) (by omega)) p634
      have ec650 : ecn A642 (G623 31) = ec2_626 := (ecn_e ((congrFun eA642 15).trans (uA_ne (by decide)))).trans e631
      refine jx_ld (pc' := 258) (l' := L640) (st' := [.ref 66]) rfl (jl_aloadn gL640_0) ?_
      refine jx_vr (pc' := 261) (as := []) (st := []) rfl rfl rfl rfl ⟨rfl, rfl, Nat.le_of_ble_eq_true rfl⟩ rfl rfl (c_next (dd := d) (hd := by omega) (hW := hW643)  (ln := ln) (e_ln := show G623 9 = ln from ((hF628.1 9 rfl).trans (fx_9))) (le := le) (e_le := show A642 4 (ln).toNat = le from (congrFun (((congrFun eA642 4).trans (uA_ne (by decide))).trans ((hF628.2 4 rfl).trans (hFx.2 4 rfl))) _).trans (e_le)) (at0 := at1) (e_at0 := show G623 10 = at1 from ((hF628.1 10 rfl).trans (ex_at1)))    (p_0 := by omega)) (fun o V' hq => ?_)
      obtain ⟨G651, A652, at2_653, tk2_654, rfl, rfl, hW655, hF656, e657, e658, p659, p660, p661, -⟩ := hq
      have hF663 := Fr_tr hF644 hF656 (Fr_sub (by decide)) (Fr_sub (by decide))
      have hP664 := Pf_f hP646 hF656 (by decide)
      have sf665 : ND A652 (one) (33) (0) (nd1) (0) (0) (0) (0) := ND_ag (by omega) (Ag_fr hF656 (by decide)) sf647
      have sf666 : wE A652 Vs sb (20) (ix) (one + 1) (nd1) := wE_ag (by omega) (Sg_fr hF656 (by decide)) (Ag_fr hF656 (by decide)) sf648
      have sf667 : ND A652 (nd1) (3) (s) (ix) (0) (0) (0) (0) := ND_ag (by omega) (Ag_fr hF656 (by decide)) sf649
      have ec668 : ecn A652 (G651 31) = ec2_626 := (ecn_f (hF656.2 15 rfl) (hF656.1 31 rfl)).trans ec650
      have bat2_653 : (0 : Int) ≤ at2_653 ∧ at2_653 ≤ 3002 := e657 ▸ hW655.1 10
      have ztk2_654 := tz_b tk2_654
      have btk2_654 : (0 : Int) ≤ tk2_654 ∧ tk2_654 ≤ 5 := e658 ▸ hW655.1 11
      refine .inl ⟨rfl, ?_⟩
      have pz669 : at1 + tz tk2_654 ≤ at2_653 := by omega
      refine jx_ld (pc' := 262) (l' := L640) (st' := [.ref 66]) rfl (jl_aloadn gL640_0) ?_
      refine jr_get (pc' := 265) (i := 36) (v := .ref 86) rfl rfl (by decide) rfl rfl ?_
      refine jx_ld (pc' := 266) (l' := L640) (st' := [.int (i32 (one)), .ref 86]) rfl (jl_iloadn gL640_1) ?_
      refine jx_ld (pc' := 267) (l' := L640) (st' := [.ref 66, .int (i32 (one)), .ref 86]) rfl (jl_aloadn gL640_0) ?_
      refine jx_ar (pc' := 268) (st' := [.int (i32 (0)), .ref 66, .int (i32 (one)), .ref 86]) rfl rfl rfl rfl ?_
      refine jx_vr (pc' := 271) (as := [.int (i32 (0))]) (st := [.int (i32 (one)), .ref 86]) rfl rfl rfl rfl ⟨rfl, rfl, Nat.le_of_ble_eq_true rfl⟩ rfl rfl (c_readReference_w (dd := d) (hd := by omega) (hW := hW655) (ch := 0) (ln := ln) (e_ln := show G651 9 = ln from ((hF656.1 9 rfl).trans ((hF628.1 9 rfl).trans (fx_9)))) (le := le) (e_le := show A652 4 (ln).toNat = le from (congrFun ((hF656.2 4 rfl).trans (((congrFun eA642 4).trans (uA_ne (by decide))).trans ((hF628.2 4 rfl).trans (hFx.2 4 rfl)))) _).trans (e_le)) (at0 := at2_653) (e_at0 := show G651 10 = at2_653 from (e657)) (fk := fk1) (e_fk := show G651 16 = fk1 from ((hF656.1 16 rfl).trans ((hF628.1 16 rfl).trans (ex_fk1)))) (op0 := op1) (e_op0 := show G651 15 = op1 from ((hF656.1 15 rfl).trans ((hF628.1 15 rfl).trans (ex_op1)))) (nd := nd2_625) (e_nd := show G651 31 = nd2_625 from ((hF656.1 31 rfl).trans (e630))) (tk0 := tk2_654) (e_tk0 := show G651 11 = tk2_654 from (e658)) (ec := ec2_626) (e_ec := show ecn A652 (G651 31) = ec2_626 from ec668) (i_SV := (SV_ext (((hF656.1 29 rfl).trans ((hF628.1 29 rfl).trans (hFx.1 29 rfl)))) (((hF656.2 14 rfl).trans (((congrFun eA642 14).trans (uA_ne (by decide))).trans ((hF628.2 14 rfl).trans (hFx.2 14 rfl))))) i_SV)) (h_ch := ⟨(by decide), (by decide)⟩)  (p_0 := by omega) (p_1 := by omega) (p_2 := by omega) (p_3 := by omega) (p_4 := by omega)) (fun o V' hq => ?_)
      obtain ⟨G670, A671, r672, at2_673, fk2_674, op2_675, nd2_676, tk2_677, ec2_678, rfl, rfl, hW679, hF680, hQ681, b682, e683, e684, e685, e686, e687, e688, p689, p690, p691, p692, p693, p694, q695⟩ := hq
      have hF696 := Fr_tr hF663 hF680 (Fr_sub (by decide)) (Fr_sub (by decide))
      have k697 : A671 18 (one).toNat = nd1 := (hQ681 18 _ rfl (by omega)).trans (show A652 18 (one).toNat = nd1 from (congrFun (hF656.2 18 rfl) _).trans (q645))
      have hP698 := Pf_tr hP664 hQ681 (by omega)
      have sf699 : ND A671 (one) (33) (0) (nd1) (0) (0) (0) (0) := ND_ag (by omega) (Ag_pf hQ681 (by omega)) sf665
      have sf700 : wE A671 Vs sb (20) (ix) (one + 1) (nd1) := wE_ag (by omega) (Sg_fr hF680 (by decide)) (Ag_pf hQ681 (by omega)) sf666
      have sf701 : ND A671 (nd1) (3) (s) (ix) (0) (0) (0) (0) := ND_ag (by omega) (Ag_pf hQ681 (by omega)) sf667
      have bat2_673 : (0 : Int) ≤ at2_673 ∧ at2_673 ≤ 3002 := e683 ▸ hW679.1 10
      have bfk2_674 : (0 : Int) ≤ fk2_674 ∧ fk2_674 ≤ 6 := e684 ▸ hW679.1 16
      have bop2_675 : (-2147483648 : Int) ≤ op2_675 ∧ op2_675 ≤ 2147483647 := e685 ▸ hW679.1 15
      have bnd2_676 : (0 : Int) ≤ nd2_676 ∧ nd2_676 ≤ 6999 := e686 ▸ hW679.1 31
      have ztk2_677 := tz_b tk2_677
      have btk2_677 : (0 : Int) ≤ tk2_677 ∧ tk2_677 ≤ 5 := e687 ▸ hW679.1 11
      refine .inr ⟨_, rfl, ?_⟩
      rcases q695 with ⟨a702, a703, a704, a705, a706, a707⟩ | ⟨a708, a709, a710⟩ | ⟨a711, a712, a713, a714, a715, a716⟩
      · have _q : True := trivial
        exfalso
        omega
      · have _q : True := trivial
        refine jr_st (pc' := 272) (i := 19) (m := 7000) (z := one) (y := r672) rfl (by decide) rfl (by decide) (by omega) (by omega) rfl ?_
        have hW718 : Wk G670 (uA A671 19 (one).toNat (r672)) := Wk_a hW679 (show (-2147483648 : Int) ≤ r672 by omega) (show r672 ≤ (2147483647 : Int) by omega)
        have hF719 := Fr_a (z := r672) (k := 19) (n := (one).toNat) hF696 (by decide)
        obtain ⟨A717, eA717⟩ : ∃ q, q = uA A671 19 (one).toNat (r672) := ⟨_, rfl⟩
        rw [← eA717]
        rw [← eA717] at hW718 hF719
        have q720 : A717 19 (one).toNat = r672 := by rw [eA717]; exact uA_eq
        have hP721 : Pf nd A A717 := eA717 ▸ Pf_a hP698 (z := one) (by omega) (by omega)
        have sf722 : ND A717 (one) (33) (0) (nd1) (r672) (0) (0) (0) := ND_c eA717 sf699
        have sf723 : wE A717 Vs sb (20) (ix) (one + 1) (nd1) := wE_ag (by omega) (Sg_ne eA717 rfl) (Ag_st eA717 (by omega) (by omega)) sf700
        have sf724 : ND A717 (nd1) (3) (s) (ix) (0) (0) (0) (0) := ND_ag (by omega) (Ag_st eA717 (by omega) (by omega)) sf701
        have ec725 : ecn A717 (G670 31) = ec2_678 := (ecn_e ((congrFun eA717 15).trans (uA_ne (by decide)))).trans e688
        refine jx_ld (pc' := 273) (l' := L640) (st' := [.ref 66]) rfl (jl_aloadn gL640_0) ?_
        refine jx_vr (pc' := 276) (as := []) (st := []) rfl rfl rfl rfl ⟨rfl, rfl, Nat.le_of_ble_eq_true rfl⟩ rfl rfl (c_endLine (dd := d) (hd := by omega) (hW := hW718)  (ln := ln) (e_ln := show G670 9 = ln from ((hF680.1 9 rfl).trans ((hF656.1 9 rfl).trans ((hF628.1 9 rfl).trans (fx_9))))) (li := li) (e_li := show G670 3 = li from ((hF680.1 3 rfl).trans ((hF656.1 3 rfl).trans ((hF628.1 3 rfl).trans ((hFx.1 3 rfl).trans (e_li)))))) (fk := fk2_674) (e_fk := show G670 16 = fk2_674 from (e684)) (tk0 := tk2_677) (e_tk0 := show G670 11 = tk2_677 from (e687))    (p_0 := by omega)) (fun o V' hq => ?_)
        obtain ⟨G726, A727, ln2_728, fk2_729, rfl, rfl, hW730, hF731, e732, e733, q734⟩ := hq
        have hF735 := Fr_tr hF719 hF731 (Fr_sub (by decide)) (Fr_sub (by decide))
        have hP736 := Pf_f hP721 hF731 (by decide)
        have sf737 : ND A727 (one) (33) (0) (nd1) (r672) (0) (0) (0) := ND_ag (by omega) (Ag_fr hF731 (by decide)) sf722
        have sf738 : wE A727 Vs sb (20) (ix) (one + 1) (nd1) := wE_ag (by omega) (Sg_fr hF731 (by decide)) (Ag_fr hF731 (by decide)) sf723
        have sf739 : ND A727 (nd1) (3) (s) (ix) (0) (0) (0) (0) := ND_ag (by omega) (Ag_fr hF731 (by decide)) sf724
        have ec740 : ecn A727 (G726 31) = ec2_678 := (ecn_f (hF731.2 15 rfl) (hF731.1 31 rfl)).trans ec725
        have bln2_728 : (0 : Int) ≤ ln2_728 ∧ ln2_728 ≤ 3000 := e732 ▸ hW730.1 9
        have bfk2_729 : (0 : Int) ≤ fk2_729 ∧ fk2_729 ≤ 6 := e733 ▸ hW730.1 16
        refine .inl ⟨rfl, ?_⟩
        rcases q734 with ⟨a741, a742, a743, a744, a745⟩ | ⟨a746, a747⟩
        · have _q : True := trivial
          exfalso
          omega
        · have _q : True := trivial
          refine jx_ld (pc' := 277) (l' := L640) (st' := [.int (i32 (one))]) rfl (jl_iloadn gL640_1) ?_
          refine jx_rt (v := some (.int (i32 (one)))) rfl rfl rfl rfl rfl rfl ?_
          exact ⟨_, _, _, at2_673, fk2_729, nd2_676, ln2_728, ec2_678, rfl, rfl, hW730, hF735, hP736, by omega, ((hF731.1 10 rfl).trans (e683)), (e733), ((hF731.1 31 rfl).trans (e686)), (e732), ec740, by omega, by omega, by omega, by omega, by omega, by first | exact Or.inl (⟨by omega, by omega, by omega⟩)⟩
      · have _q : True := trivial
        refine jr_st (pc' := 272) (i := 19) (m := 7000) (z := one) (y := r672) rfl (by decide) rfl (by decide) (by omega) (by omega) rfl ?_
        have hW749 : Wk G670 (uA A671 19 (one).toNat (r672)) := Wk_a hW679 (show (-2147483648 : Int) ≤ r672 by omega) (show r672 ≤ (2147483647 : Int) by omega)
        have hF750 := Fr_a (z := r672) (k := 19) (n := (one).toNat) hF696 (by decide)
        obtain ⟨A748, eA748⟩ : ∃ q, q = uA A671 19 (one).toNat (r672) := ⟨_, rfl⟩
        rw [← eA748]
        rw [← eA748] at hW749 hF750
        have q751 : A748 19 (one).toNat = r672 := by rw [eA748]; exact uA_eq
        have hP752 : Pf nd A A748 := eA748 ▸ Pf_a hP698 (z := one) (by omega) (by omega)
        have sf753 : ND A748 (one) (33) (0) (nd1) (r672) (0) (0) (0) := ND_c eA748 sf699
        have sf754 : wE A748 Vs sb (20) (ix) (one + 1) (nd1) := wE_ag (by omega) (Sg_ne eA748 rfl) (Ag_st eA748 (by omega) (by omega)) sf700
        have sf755 : ND A748 (nd1) (3) (s) (ix) (0) (0) (0) (0) := ND_ag (by omega) (Ag_st eA748 (by omega) (by omega)) sf701
        have sf756 : wR A748 Vs sb (20) (0) (r672) (nd2_625) (nd2_676) := wR_ag (by omega) (Sg_ne eA748 rfl) (Ag_st eA748 (by omega) (by omega)) a714
        have ec757 : ecn A748 (G670 31) = ec2_678 := (ecn_e ((congrFun eA748 15).trans (uA_ne (by decide)))).trans e688
        refine jx_ld (pc' := 273) (l' := L640) (st' := [.ref 66]) rfl (jl_aloadn gL640_0) ?_
        refine jx_vr (pc' := 276) (as := []) (st := []) rfl rfl rfl rfl ⟨rfl, rfl, Nat.le_of_ble_eq_true rfl⟩ rfl rfl (c_endLine (dd := d) (hd := by omega) (hW := hW749)  (ln := ln) (e_ln := show G670 9 = ln from ((hF680.1 9 rfl).trans ((hF656.1 9 rfl).trans ((hF628.1 9 rfl).trans (fx_9))))) (li := li) (e_li := show G670 3 = li from ((hF680.1 3 rfl).trans ((hF656.1 3 rfl).trans ((hF628.1 3 rfl).trans ((hFx.1 3 rfl).trans (e_li)))))) (fk := fk2_674) (e_fk := show G670 16 = fk2_674 from (e684)) (tk0 := tk2_677) (e_tk0 := show G670 11 = tk2_677 from (e687))    (p_0 := by omega)) (fun o V' hq => ?_)
        obtain ⟨G758, A759, ln2_760, fk2_761, rfl, rfl, hW762, hF763, e764, e765, q766⟩ := hq
        have hF767 := Fr_tr hF750 hF763 (Fr_sub (by decide)) (Fr_sub (by decide))
        have hP768 := Pf_f hP752 hF763 (by decide)
        have sf769 : ND A759 (one) (33) (0) (nd1) (r672) (0) (0) (0) := ND_ag (by omega) (Ag_fr hF763 (by decide)) sf753
        have sf770 : wE A759 Vs sb (20) (ix) (one + 1) (nd1) := wE_ag (by omega) (Sg_fr hF763 (by decide)) (Ag_fr hF763 (by decide)) sf754
        have sf771 : ND A759 (nd1) (3) (s) (ix) (0) (0) (0) (0) := ND_ag (by omega) (Ag_fr hF763 (by decide)) sf755
        have sf772 : wR A759 Vs sb (20) (0) (r672) (nd2_625) (nd2_676) := wR_ag (by omega) (Sg_fr hF763 (by decide)) (Ag_fr hF763 (by decide)) sf756
        have ec773 : ecn A759 (G758 31) = ec2_678 := (ecn_f (hF763.2 15 rfl) (hF763.1 31 rfl)).trans ec757
        have bln2_760 : (0 : Int) ≤ ln2_760 ∧ ln2_760 ≤ 3000 := e764 ▸ hW762.1 9
        have bfk2_761 : (0 : Int) ≤ fk2_761 ∧ fk2_761 ≤ 6 := e765 ▸ hW762.1 16
        refine .inl ⟨rfl, ?_⟩
        rcases q766 with ⟨a774, a775, a776, a777, a778⟩ | ⟨a779, a780⟩
        · have _q : True := trivial
          refine jx_ld (pc' := 277) (l' := L640) (st' := [.int (i32 (one))]) rfl (jl_iloadn gL640_1) ?_
          refine jx_rt (v := some (.int (i32 (one)))) rfl rfl rfl rfl rfl rfl ?_
          exact ⟨_, _, _, at2_673, fk2_761, nd2_676, ln2_760, ec2_678, rfl, rfl, hW762, hF767, hP768, by omega, ((hF763.1 10 rfl).trans (e683)), (e765), ((hF763.1 31 rfl).trans (e686)), (e764), ec773, by omega, by omega, by omega, by omega, by omega, by first | exact Or.inr ((⟨by omega, by omega, by omega, by omega, by omega, (wU_ch (m := (nd1 + 1)) sf769 (by omega) (by omega) (by omega) (by omega) (wR_elem sf771 (by omega) (by omega) iv_9 (kq (P := kRow (1)) (show A759 7 (s).toNat = ks from (congrFun ((hF763.2 7 rfl).trans (((congrFun eA748 7).trans (uA_ne (by decide))).trans ((hF680.2 7 rfl).trans ((hF656.2 7 rfl).trans (((congrFun eA642 7).trans (uA_ne (by decide))).trans (hF628.2 7 rfl)))))) _).trans (ex_ks)) (by first | exact .inr ⟨by omega, by omega⟩)) (wE_mono (by omega) (by omega) (by omega) sf770)) (wR_mono (by omega) (by omega) (by omega) sf772)), (NX_nd sf769), by omega⟩))⟩
        · have _q : True := trivial
          refine jx_ld (pc' := 277) (l' := L640) (st' := [.int (i32 (one))]) rfl (jl_iloadn gL640_1) ?_
          refine jx_rt (v := some (.int (i32 (one)))) rfl rfl rfl rfl rfl rfl ?_
          exact ⟨_, _, _, at2_673, fk2_761, nd2_676, ln2_760, ec2_678, rfl, rfl, hW762, hF767, hP768, by omega, ((hF763.1 10 rfl).trans (e683)), (e765), ((hF763.1 31 rfl).trans (e686)), (e764), ec773, by omega, by omega, by omega, by omega, by omega, by first | exact Or.inl (⟨by omega, by omega, by omega⟩)⟩
set_option maxRecDepth 20000 in
set_option maxHeartbeats 4000000 in
theorem c_readGuard_w_at_222_1_0 {X : jX} {d : Nat} {Vs : Nat → Prop} {sb : Int} {c0 c1 : jC} {G : Nat → Int} {A : Nat → Nat → Int} {T : jH} {ln le at0 fk op0 nd tk0 li ec : Int} (hd : 71 ≤ d + 1) (hW : Wk G A) (e_ln : G 9 = ln) (e_le : A 4 (ln).toNat = le) (e_at0 : G 10 = at0) (e_fk : G 16 = fk) (e_op0 : G 15 = op0) (e_nd : G 31 = nd) (e_tk0 : G 11 = tk0) (e_li : G 3 = li) (e_ec : ecn A (G 31) = ec) (i_SV : SV Vs sb G A) (p_0 : 0 ≤ op0 ∧ op0 ≤ 8) (p_1 : fk = 0) (p_2 : nd ≤ 2 * at0 - tz tk0 + 42) (p_3 : at0 ≤ le) (p_4 : ln < li) : ∀ (L : jL) (Gx : Nat → Int) (Ax : Nat → Nat → Int) (one s ix at1 tk1 fk1 nd1 op1 ks ec1 : Int), jGet L 0 = some (.ref 66) → jGet L 6 = some (.int (i32 (1))) → jGet L 7 = some (.int (i32 (0))) → jGet L 1 = some (.int (i32 one)) → jGet L 4 = some (.int (i32 s)) → jGet L 5 = some (.int (i32 ix)) → Wk Gx Ax → Fr [9, 10, 11, 12, 13, 14, 15, 16, 17, 18, 31] [15, 16, 17, 18, 19, 20, 21, 22, 24, 28] G A Gx Ax → Pf nd A Ax → Gx 10 = at1 → Gx 11 = tk1 → Gx 16 = fk1 → Gx 31 = nd1 → Gx 15 = op1 → Ax 7 (s).toNat = ks → ecn Ax (Gx 31) = ec1 → Gx 9 = ln → ((-2147483648 : Int) ≤ one ∧ one ≤ 2147483647) → ((-2147483648 : Int) ≤ s ∧ s ≤ 2147483647) → ((-2147483648 : Int) ≤ ix ∧ ix ≤ 2147483647) → (at0 ≤ at1) → (at1 ≤ le) → (nd ≤ nd1) → (op1 = op0) → (one = nd) → (one ≤ 6998 ∧ one < nd1) → (fk1 = 0) → (nd1 - nd ≤ (2 * at1 - tz tk1) - (2 * at0 - tz tk0)) → (0 ≤ s ∧ s ≤ 201) → (SY Vs sb (s)) → (ND Ax (one) (33) (0) (0) (0) (0) (0) (0)) → (kArr (ks)) → (wE Ax Vs sb (20) (ix) (one + 1) (nd1)) → (nd1 - nd + 5 * (ec1 - ec) ≤ (2 * at1 - tz tk1) - (2 * at0 - tz tk0) - 5 - tz tk1) → wj X d jm303 (222, L, [], rV c0 c1 Gx Ax T) (fun o V' => ∃ (G' : Nat → Int) (A' : Nat → Nat → Int) (r : Int) (at2 : Int) (fk2 : Int) (nd2 : Int) (ln2 : Int) (ec2 : Int), V' = rV c0 c1 G' A' T ∧ o = .inl (some (.int (i32 r))) ∧ Wk G' A' ∧ Fr [9, 10, 11, 12, 13, 14, 15, 16, 17, 18, 31] [15, 16, 17, 18, 19, 20, 21, 22, 24, 28] G A G' A' ∧ Pf nd A A' ∧ ((-2147483648 : Int) ≤ r ∧ r ≤ 2147483647) ∧ G' 10 = at2 ∧ G' 16 = fk2 ∧ G' 31 = nd2 ∧ G' 9 = ln2 ∧ ecn A' (G' 31) = ec2 ∧ (at0 ≤ at2) ∧ (at2 ≤ le) ∧ (nd ≤ nd2) ∧ (0 ≤ r) ∧ (r ≤ nd2) ∧ (((1 ≤ fk2) ∧ (ln2 = ln) ∧ (nd2 - nd ≤ 2 * at2 - 2 * at0 + 12)) ∨ ((fk2 = 0) ∧ (ln2 = ln + 1) ∧ (nd2 - nd ≤ 2 * at2 - (2 * at0 - tz tk0) + 0) ∧ (nd ≤ r) ∧ (r < nd2) ∧ (wU A' Vs sb (r) (nd) (nd2)) ∧ (NX A' (r)) ∧ (nd2 - nd + 5 * (ec2 - ec) ≤ 2 * at2 - (2 * at0 - tz tk0) + 0)))) := by
  have hF0 : Fr [9, 10, 11, 12, 13, 14, 15, 16, 17, 18, 31] [15, 16, 17, 18, 19, 20, 21, 22, 24, 28] G A G A := Fr_rf
  have hP0 : Pf nd A A := Pf_rf
  have b_ln : (0 : Int) ≤ ln ∧ ln ≤ 3000 := e_ln ▸ hW.1 9
  have b_le : (0 : Int) ≤ le ∧ le ≤ 3000 := e_le ▸ hW.2 4 _
  have b_at0 : (0 : Int) ≤ at0 ∧ at0 ≤ 3002 := e_at0 ▸ hW.1 10
  have b_fk : (0 : Int) ≤ fk ∧ fk ≤ 6 := e_fk ▸ hW.1 16
  have b_op0 : (-2147483648 : Int) ≤ op0 ∧ op0 ≤ 2147483647 := e_op0 ▸ hW.1 15
  have b_nd : (0 : Int) ≤ nd ∧ nd ≤ 6999 := e_nd ▸ hW.1 31
  have z_tk0 := tz_f tk0
  have b_tk0 : (0 : Int) ≤ tk0 ∧ tk0 ≤ 5 := e_tk0 ▸ hW.1 11
  have b_li : (0 : Int) ≤ li ∧ li ≤ 3000 := e_li ▸ hW.1 3
  intro L Gx Ax one s ix at1 tk1 fk1 nd1 op1 ks ec1 gL_0 gL_6 gL_7 gL_1 gL_4 gL_5 hWx hFx hPx ex_at1 ex_tk1 ex_fk1 ex_nd1 ex_op1 ex_ks ex_ec1 fx_9 rx_one rx_s rx_ix iv_0 iv_1 iv_2 iv_3 iv_4 iv_5 iv_6 iv_7 iv_8 iv_9 iv_10 iv_11 iv_12 iv_13
  have b_at1 : (0 : Int) ≤ at1 ∧ at1 ≤ 3002 := ex_at1 ▸ hWx.1 10
  have z_tk1 := tz_f tk1
  have b_tk1 : (0 : Int) ≤ tk1 ∧ tk1 ≤ 5 := ex_tk1 ▸ hWx.1 11
  have b_fk1 : (0 : Int) ≤ fk1 ∧ fk1 ≤ 6 := ex_fk1 ▸ hWx.1 16
  have b_nd1 : (0 : Int) ≤ nd1 ∧ nd1 ≤ 6999 := ex_nd1 ▸ hWx.1 31
  have b_op1 : (-2147483648 : Int) ≤ op1 ∧ op1 ≤ 2147483647 := ex_op1 ▸ hWx.1 15
  have b_ks : (0 : Int) ≤ ks ∧ ks ≤ 14 := ex_ks ▸ hWx.2 7 _
  refine jx_ld (pc' := 223) (l' := L) (st' := [.ref 66]) rfl (jl_aloadn gL_0) ?_
  refine jx_ld (pc' := 225) (l' := L) (st' := [.int (i32 (1)), .ref 66]) rfl (jl_iload gL_6) ?_
  refine jx_if_eq (pc' := 228) (tg := 232) rfl rfl rfl (by decide) (by decide) (fun h781 => ?_) (fun h781 => ?_)
  · have _q := h781
    exact absurd h781 (by omega)
  · have _q := h781
    refine jx_ar (pc' := 229) (st' := [.int (i32 (3)), .ref 66]) rfl rfl rfl rfl ?_
    refine jx_go (tg := 233) rfl rfl ?_
    refine jx_ld (pc' := 235) (l' := L) (st' := [.int (i32 (s)), .int (i32 (3)), .ref 66]) rfl (jl_iload gL_4) ?_
    refine jx_ld (pc' := 237) (l' := L) (st' := [.int (i32 (ix)), .int (i32 (s)), .int (i32 (3)), .ref 66]) rfl (jl_iload gL_5) ?_
    refine jx_ar (pc' := 238) (st' := [.int (i32 (0)), .int (i32 (ix)), .int (i32 (s)), .int (i32 (3)), .ref 66]) rfl rfl rfl rfl ?_
    refine jx_ar (pc' := 239) (st' := [.int (i32 (0)), .int (i32 (0)), .int (i32 (ix)), .int (i32 (s)), .int (i32 (3)), .ref 66]) rfl rfl rfl rfl ?_
    refine jx_vr (pc' := 242) (as := [.int (i32 (3)), .int (i32 (s)), .int (i32 (ix)), .int (i32 (0)), .int (i32 (0))]) (st := []) rfl rfl rfl rfl ⟨rfl, rfl, Nat.le_of_ble_eq_true rfl⟩ rfl rfl (c_node_e (dd := d) (hd := by omega) (hW := hWx) (kind := 3) (a := s) (b := ix) (c := 0) (e := 0) (nd := nd1) (e_nd := show Gx 31 = nd1 from (ex_nd1)) (ec := ec1) (e_ec := show ecn Ax (Gx 31) = ec1 from ex_ec1)  (h_kind := ⟨(by decide), (by decide)⟩) (h_a := ⟨(Int.le_trans (by decide : (-2147483648 : Int) ≤ -2147483648) rx_s.1), (Int.le_trans rx_s.2 (by decide : (2147483647 : Int) ≤ 2147483647))⟩) (h_b := ⟨(Int.le_trans (by decide : (-2147483648 : Int) ≤ -2147483648) rx_ix.1), (Int.le_trans rx_ix.2 (by decide : (2147483647 : Int) ≤ 2147483647))⟩) (h_c := ⟨(by decide), (by decide)⟩) (h_e := ⟨(by decide), (by decide)⟩)  (p_0 := by omega) (p_1 := by omega) (p_2 := by omega)) (fun o V' hq => ?_)
    obtain ⟨G782, A783, nd2_784, ec2_785, rfl, rfl, hW786, hF787, hQ788, e789, e790, p791, p792, p793, -⟩ := hq
    have hF795 := Fr_tr hFx hF787 (Fr_sub (by decide)) (Fr_sub (by decide))
    have hP796 := Pf_tr hPx hQ788 (by omega)
    have sf797 : ND A783 (one) (33) (0) (0) (0) (0) (0) (0) := ND_ag (by omega) (Ag_pf hQ788 (by omega)) iv_10
    have sf798 : wE A783 Vs sb (20) (ix) (one + 1) (nd1) := wE_ag (by omega) (Sg_fr hF787 (by decide)) (Ag_pf hQ788 (by omega)) iv_12
    have bnd2_784 : (0 : Int) ≤ nd2_784 ∧ nd2_784 ≤ 6999 := e789 ▸ hW786.1 31
    refine .inr ⟨_, rfl, ?_⟩
    refine jx_ld (pc' := 244) (l' := jSto1 L 10 (.int (i32 (nd1)))) (st' := []) rfl rfl ?_
    obtain ⟨L799, eL799⟩ : ∃ q, q = jSto1 L 10 (.int (i32 (nd1))) := ⟨_, rfl⟩
    rw [← eL799]
    have gL799_0 : jGet L799 0 = some (.ref 66) := eL799 ▸ jg_ne (by decide) gL_0 rfl
    have gL799_6 : jGet L799 6 = some (.int (i32 (1))) := eL799 ▸ jg_ne (by decide) gL_6 rfl
    have gL799_7 : jGet L799 7 = some (.int (i32 (0))) := eL799 ▸ jg_ne (by decide) gL_7 rfl
    have gL799_1 : jGet L799 1 = some (.int (i32 (one))) := eL799 ▸ jg_ne (by decide) gL_1 rfl
    have gL799_4 : jGet L799 4 = some (.int (i32 (s))) := eL799 ▸ jg_ne (by decide) gL_4 rfl
    have gL799_5 : jGet L799 5 = some (.int (i32 (ix))) := eL799 ▸ jg_ne (by decide) gL_5 rfl
    have gL799_10 : jGet L799 10 = some (.int (i32 (nd1))) := eL799 ▸ jg_eq
    refine jx_ld (pc' := 246) (l' := L799) (st' := [.int (i32 (0))]) rfl (jl_iload gL799_7) ?_
    refine jx_if_eq (pc' := 249) (tg := 278) rfl rfl rfl (by decide) (by decide) (fun h800 => ?_) (fun h800 => ?_)
    · have _q := h800
      refine jx_ld (pc' := 279) (l' := L799) (st' := [.ref 66]) rfl (jl_aloadn gL799_0) ?_
      refine jx_ld (pc' := 281) (l' := L799) (st' := [.int (i32 (nd1)), .ref 66]) rfl (jl_iload gL799_10) ?_
      refine jx_vr (pc' := 284) (as := [.int (i32 (nd1))]) (st := []) rfl rfl rfl rfl ⟨rfl, rfl, Nat.le_of_ble_eq_true rfl⟩ rfl rfl (c_readRest_w (dd := d) (k := 9) (hE := REw_all X 9) (hd := by omega) (hW := hW786) (x := nd1) (lo := (one + 1)) (ln := ln) (e_ln := show G782 9 = ln from ((hF787.1 9 rfl).trans (fx_9))) (le := le) (e_le := show A783 4 (ln).toNat = le from (congrFun ((hF787.2 4 rfl).trans (hFx.2 4 rfl)) _).trans (e_le)) (at0 := at1) (e_at0 := show G782 10 = at1 from ((hF787.1 10 rfl).trans (ex_at1))) (fk := fk1) (e_fk := show G782 16 = fk1 from ((hF787.1 16 rfl).trans (ex_fk1))) (op0 := op1) (e_op0 := show G782 15 = op1 from ((hF787.1 15 rfl).trans (ex_op1))) (nd := nd2_784) (e_nd := show G782 31 = nd2_784 from (e789)) (tk0 := tk1) (e_tk0 := show G782 11 = tk1 from ((hF787.1 11 rfl).trans (ex_tk1))) (ec := ec2_785) (e_ec := show ecn A783 (G782 31) = ec2_785 from e790) (i_SV := (SV_ext (((hF787.1 29 rfl).trans (hFx.1 29 rfl))) (((hF787.2 14 rfl).trans (hFx.2 14 rfl))) i_SV)) (h_x := ⟨(Int.le_trans (by decide : (-2147483648 : Int) ≤ 0) b_nd1.1), (Int.le_trans b_nd1.2 (by decide : (6999 : Int) ≤ 2147483647))⟩)  (p_0 := by omega) (p_1 := by omega) (p_2 := by omega) (p_3 := by omega) (p_4 := by omega) (p_5 := by omega) (p_6 := by omega) (p_7 := by omega) (p_8 := by omega) (p_9 := (fun _ => (wE_elem p793 (by omega) (by omega) iv_9 (kq (P := kArr) (show A783 7 (s).toNat = ks from (congrFun (hF787.2 7 rfl) _).trans (ex_ks)) iv_11) (wE_mono (by omega) (by omega) (by omega) sf798))))) (fun o V' hq => ?_)
      obtain ⟨G801, A802, r803, at2_804, fk2_805, op2_806, nd2_807, tk2_808, ec2_809, rfl, rfl, hW810, hF811, hQ812, b813, e814, e815, e816, e817, e818, e819, p820, p821, p822, p823, p824, p825, q826⟩ := hq
      have hF827 := Fr_tr hF795 hF811 (Fr_sub (by decide)) (Fr_sub (by decide))
      have hP828 := Pf_tr hP796 hQ812 (by omega)
      have sf829 : ND A802 (one) (33) (0) (0) (0) (0) (0) (0) := ND_ag (by omega) (Ag_pf hQ812 (by omega)) sf797
      have sf830 : wE A802 Vs sb (20) (ix) (one + 1) (nd1) := wE_ag (by omega) (Sg_fr hF811 (by decide)) (Ag_pf hQ812 (by omega)) sf798
      have sf831 : ND A802 (nd1) (3) (s) (ix) (0) (0) (0) (0) := ND_ag (by omega) (Ag_pf hQ812 (by omega)) p793
      have bat2_804 : (0 : Int) ≤ at2_804 ∧ at2_804 ≤ 3002 := e814 ▸ hW810.1 10
      have bfk2_805 : (0 : Int) ≤ fk2_805 ∧ fk2_805 ≤ 6 := e815 ▸ hW810.1 16
      have bop2_806 : (-2147483648 : Int) ≤ op2_806 ∧ op2_806 ≤ 2147483647 := e816 ▸ hW810.1 15
      have bnd2_807 : (0 : Int) ≤ nd2_807 ∧ nd2_807 ≤ 6999 := e817 ▸ hW810.1 31
      have ztk2_808 := tz_b tk2_808
      have btk2_808 : (0 : Int) ≤ tk2_808 ∧ tk2_808 ≤ 5 := e818 ▸ hW810.1 11
      refine .inr ⟨_, rfl, ?_⟩
      rcases q826 with ⟨a832, a833, a834, a835, a836, a837⟩ | ⟨a838, a839, a840⟩ | ⟨a841, a842, a843, a844, a845⟩
      · have _q : True := trivial
        exfalso
        omega
      · have _q : True := trivial
        refine jx_ld (pc' := 285) (l' := jSto1 L799 2 (.int (i32 (r803)))) (st' := []) rfl rfl ?_
        obtain ⟨L846, eL846⟩ : ∃ q, q = jSto1 L799 2 (.int (i32 (r803))) := ⟨_, rfl⟩
        rw [← eL846]
        have gL846_0 : jGet L846 0 = some (.ref 66) := eL846 ▸ jg_ne (by decide) gL799_0 rfl
        have gL846_6 : jGet L846 6 = some (.int (i32 (1))) := eL846 ▸ jg_ne (by decide) gL799_6 rfl
        have gL846_7 : jGet L846 7 = some (.int (i32 (0))) := eL846 ▸ jg_ne (by decide) gL799_7 rfl
        have gL846_1 : jGet L846 1 = some (.int (i32 (one))) := eL846 ▸ jg_ne (by decide) gL799_1 rfl
        have gL846_4 : jGet L846 4 = some (.int (i32 (s))) := eL846 ▸ jg_ne (by decide) gL799_4 rfl
        have gL846_5 : jGet L846 5 = some (.int (i32 (ix))) := eL846 ▸ jg_ne (by decide) gL799_5 rfl
        have gL846_10 : jGet L846 10 = some (.int (i32 (nd1))) := eL846 ▸ jg_ne (by decide) gL799_10 rfl
        have gL846_2 : jGet L846 2 = some (.int (i32 (r803))) := eL846 ▸ jg_eq
        refine jx_go (tg := 293) rfl rfl ?_
        have z847 := tz_f (tk2_808)
        exact c_readGuard_w_at_293p (X := X) (d := d) (Vs := Vs) (sb := sb) (c0 := c0) (c1 := c1) (G := G) (A := A) (T := T) (ln := ln) (le := le) (at0 := at0) (fk := fk) (op0 := op0) (nd := nd) (tk0 := tk0) (li := li) (ec := ec) (hd := hd) (hW := hW) (e_ln := e_ln) (e_le := e_le) (e_at0 := e_at0) (e_fk := e_fk) (e_op0 := e_op0) (e_nd := e_nd) (e_tk0 := e_tk0) (e_li := e_li) (e_ec := e_ec) (i_SV := i_SV) (p_0 := p_0) (p_1 := p_1) (p_2 := p_2) (p_3 := p_3) (p_4 := p_4) L846 G801 A802 (one) (r803) (at2_804) (tk2_808) (fk2_805) (nd2_807) (op2_806) (ec2_809) gL846_0 gL846_1 gL846_2 hW810 hF827 hP828 ((e814)) ((e818)) ((e815)) ((e817)) ((e816)) (e819) (((hF811.1 9 rfl).trans ((hF787.1 9 rfl).trans (fx_9)))) (by omega) (by omega) (by omega) (by omega) (by omega) (by omega) (by omega) (by omega) (by omega) (by omega)
      · have _q : True := trivial
        refine jx_ld (pc' := 285) (l' := jSto1 L799 2 (.int (i32 (r803)))) (st' := []) rfl rfl ?_
        obtain ⟨L848, eL848⟩ : ∃ q, q = jSto1 L799 2 (.int (i32 (r803))) := ⟨_, rfl⟩
        rw [← eL848]
        have gL848_0 : jGet L848 0 = some (.ref 66) := eL848 ▸ jg_ne (by decide) gL799_0 rfl
        have gL848_6 : jGet L848 6 = some (.int (i32 (1))) := eL848 ▸ jg_ne (by decide) gL799_6 rfl
        have gL848_7 : jGet L848 7 = some (.int (i32 (0))) := eL848 ▸ jg_ne (by decide) gL799_7 rfl
        have gL848_1 : jGet L848 1 = some (.int (i32 (one))) := eL848 ▸ jg_ne (by decide) gL799_1 rfl
        have gL848_4 : jGet L848 4 = some (.int (i32 (s))) := eL848 ▸ jg_ne (by decide) gL799_4 rfl
        have gL848_5 : jGet L848 5 = some (.int (i32 (ix))) := eL848 ▸ jg_ne (by decide) gL799_5 rfl
        have gL848_10 : jGet L848 10 = some (.int (i32 (nd1))) := eL848 ▸ jg_ne (by decide) gL799_10 rfl
        have gL848_2 : jGet L848 2 = some (.int (i32 (r803))) := eL848 ▸ jg_eq
        refine jx_go (tg := 293) rfl rfl ?_
        have z849 := tz_f (tk2_808)
        exact c_readGuard_w_at_293 (X := X) (d := d) (Vs := Vs) (sb := sb) (c0 := c0) (c1 := c1) (G := G) (A := A) (T := T) (ln := ln) (le := le) (at0 := at0) (fk := fk) (op0 := op0) (nd := nd) (tk0 := tk0) (li := li) (ec := ec) (hd := hd) (hW := hW) (e_ln := e_ln) (e_le := e_le) (e_at0 := e_at0) (e_fk := e_fk) (e_op0 := e_op0) (e_nd := e_nd) (e_tk0 := e_tk0) (e_li := e_li) (e_ec := e_ec) (i_SV := i_SV) (p_0 := p_0) (p_1 := p_1) (p_2 := p_2) (p_3 := p_3) (p_4 := p_4) L848 G801 A802 (one) (r803) (at2_804) (tk2_808) (fk2_805) (nd2_807) (op2_806) (ec2_809) gL848_0 gL848_1 gL848_2 hW810 hF827 hP828 ((e814)) ((e818)) ((e815)) ((e817)) ((e816)) (e819) (((hF811.1 9 rfl).trans ((hF787.1 9 rfl).trans (fx_9)))) (by omega) (by omega) (by omega) (by omega) (by omega) (by omega) (by omega) (by omega) (by omega) (by omega) (by omega) (sf829) ((wE_mono (by omega) (by omega) (by omega) a844)) (by omega)
    · have _q := h800
      exact absurd h800 (by omega)
set_option maxRecDepth 20000 in
set_option maxHeartbeats 4000000 in
theorem c_readGuard_w_at_222_0_1 {X : jX} {d : Nat} {Vs : Nat → Prop} {sb : Int} {c0 c1 : jC} {G : Nat → Int} {A : Nat → Nat → Int} {T : jH} {ln le at0 fk op0 nd tk0 li ec : Int} (hd : 71 ≤ d + 1) (hW : Wk G A) (e_ln : G 9 = ln) (e_le : A 4 (ln).toNat = le) (e_at0 : G 10 = at0) (e_fk : G 16 = fk) (e_op0 : G 15 = op0) (e_nd : G 31 = nd) (e_tk0 : G 11 = tk0) (e_li : G 3 = li) (e_ec : ecn A (G 31) = ec) (i_SV : SV Vs sb G A) (p_0 : 0 ≤ op0 ∧ op0 ≤ 8) (p_1 : fk = 0) (p_2 : nd ≤ 2 * at0 - tz tk0 + 42) (p_3 : at0 ≤ le) (p_4 : ln < li) : ∀ (L : jL) (Gx : Nat → Int) (Ax : Nat → Nat → Int) (one s at1 tk1 fk1 nd1 op1 ks ec1 : Int), jGet L 0 = some (.ref 66) → jGet L 6 = some (.int (i32 (0))) → jGet L 7 = some (.int (i32 (1))) → jGet L 5 = some (.int (i32 (0))) → jGet L 1 = some (.int (i32 one)) → jGet L 4 = some (.int (i32 s)) → Wk Gx Ax → Fr [9, 10, 11, 12, 13, 14, 15, 16, 17, 18, 31] [15, 16, 17, 18, 19, 20, 21, 22, 24, 28] G A Gx Ax → Pf nd A Ax → Gx 10 = at1 → Gx 11 = tk1 → Gx 16 = fk1 → Gx 31 = nd1 → Gx 15 = op1 → Ax 7 (s).toNat = ks → ecn Ax (Gx 31) = ec1 → Gx 9 = ln → ((-2147483648 : Int) ≤ one ∧ one ≤ 2147483647) → ((-2147483648 : Int) ≤ s ∧ s ≤ 2147483647) → (at0 ≤ at1) → (at1 ≤ le) → (nd ≤ nd1) → (op1 = op0) → (one = nd) → (one ≤ 6998 ∧ one < nd1) → (fk1 = 0) → (nd1 - nd ≤ (2 * at1 - tz tk1) - (2 * at0 - tz tk0)) → (0 ≤ s ∧ s ≤ 201) → (SY Vs sb (s)) → (ND Ax (one) (33) (0) (0) (0) (0) (0) (0)) → (tz tk1 = 1) → (kCh (ks)) → (nd1 - nd + 5 * (ec1 - ec) ≤ (2 * at1 - tz tk1) - (2 * at0 - tz tk0) - tz tk1) → wj X d jm303 (222, L, [], rV c0 c1 Gx Ax T) (fun o V' => ∃ (G' : Nat → Int) (A' : Nat → Nat → Int) (r : Int) (at2 : Int) (fk2 : Int) (nd2 : Int) (ln2 : Int) (ec2 : Int), V' = rV c0 c1 G' A' T ∧ o = .inl (some (.int (i32 r))) ∧ Wk G' A' ∧ Fr [9, 10, 11, 12, 13, 14, 15, 16, 17, 18, 31] [15, 16, 17, 18, 19, 20, 21, 22, 24, 28] G A G' A' ∧ Pf nd A A' ∧ ((-2147483648 : Int) ≤ r ∧ r ≤ 2147483647) ∧ G' 10 = at2 ∧ G' 16 = fk2 ∧ G' 31 = nd2 ∧ G' 9 = ln2 ∧ ecn A' (G' 31) = ec2 ∧ (at0 ≤ at2) ∧ (at2 ≤ le) ∧ (nd ≤ nd2) ∧ (0 ≤ r) ∧ (r ≤ nd2) ∧ (((1 ≤ fk2) ∧ (ln2 = ln) ∧ (nd2 - nd ≤ 2 * at2 - 2 * at0 + 12)) ∨ ((fk2 = 0) ∧ (ln2 = ln + 1) ∧ (nd2 - nd ≤ 2 * at2 - (2 * at0 - tz tk0) + 0) ∧ (nd ≤ r) ∧ (r < nd2) ∧ (wU A' Vs sb (r) (nd) (nd2)) ∧ (NX A' (r)) ∧ (nd2 - nd + 5 * (ec2 - ec) ≤ 2 * at2 - (2 * at0 - tz tk0) + 0)))) := by
  have hF0 : Fr [9, 10, 11, 12, 13, 14, 15, 16, 17, 18, 31] [15, 16, 17, 18, 19, 20, 21, 22, 24, 28] G A G A := Fr_rf
  have hP0 : Pf nd A A := Pf_rf
  have b_ln : (0 : Int) ≤ ln ∧ ln ≤ 3000 := e_ln ▸ hW.1 9
  have b_le : (0 : Int) ≤ le ∧ le ≤ 3000 := e_le ▸ hW.2 4 _
  have b_at0 : (0 : Int) ≤ at0 ∧ at0 ≤ 3002 := e_at0 ▸ hW.1 10
  have b_fk : (0 : Int) ≤ fk ∧ fk ≤ 6 := e_fk ▸ hW.1 16
  have b_op0 : (-2147483648 : Int) ≤ op0 ∧ op0 ≤ 2147483647 := e_op0 ▸ hW.1 15
  have b_nd : (0 : Int) ≤ nd ∧ nd ≤ 6999 := e_nd ▸ hW.1 31
  have z_tk0 := tz_f tk0
  have b_tk0 : (0 : Int) ≤ tk0 ∧ tk0 ≤ 5 := e_tk0 ▸ hW.1 11
  have b_li : (0 : Int) ≤ li ∧ li ≤ 3000 := e_li ▸ hW.1 3
  intro L Gx Ax one s at1 tk1 fk1 nd1 op1 ks ec1 gL_0 gL_6 gL_7 gL_5 gL_1 gL_4 hWx hFx hPx ex_at1 ex_tk1 ex_fk1 ex_nd1 ex_op1 ex_ks ex_ec1 fx_9 rx_one rx_s iv_0 iv_1 iv_2 iv_3 iv_4 iv_5 iv_6 iv_7 iv_8 iv_9 iv_10 iv_11 iv_12 iv_13
  have b_at1 : (0 : Int) ≤ at1 ∧ at1 ≤ 3002 := ex_at1 ▸ hWx.1 10
  have z_tk1 := tz_f tk1
  have b_tk1 : (0 : Int) ≤ tk1 ∧ tk1 ≤ 5 := ex_tk1 ▸ hWx.1 11
  have b_fk1 : (0 : Int) ≤ fk1 ∧ fk1 ≤ 6 := ex_fk1 ▸ hWx.1 16
  have b_nd1 : (0 : Int) ≤ nd1 ∧ nd1 ≤ 6999 := ex_nd1 ▸ hWx.1 31
  have b_op1 : (-2147483648 : Int) ≤ op1 ∧ op1 ≤ 2147483647 := ex_op1 ▸ hWx.1 15
  have b_ks : (0 : Int) ≤ ks ∧ ks ≤ 14 := ex_ks ▸ hWx.2 7 _
  refine jx_ld (pc' := 223) (l' := L) (st' := [.ref 66]) rfl (jl_aloadn gL_0) ?_
  refine jx_ld (pc' := 225) (l' := L) (st' := [.int (i32 (0)), .ref 66]) rfl (jl_iload gL_6) ?_
  refine jx_if_eq (pc' := 228) (tg := 232) rfl rfl rfl (by decide) (by decide) (fun h850 => ?_) (fun h850 => ?_)
  · have _q := h850
    refine jx_ar (pc' := 233) (st' := [.int (i32 (2)), .ref 66]) rfl rfl rfl rfl ?_
    refine jx_ld (pc' := 235) (l' := L) (st' := [.int (i32 (s)), .int (i32 (2)), .ref 66]) rfl (jl_iload gL_4) ?_
    refine jx_ld (pc' := 237) (l' := L) (st' := [.int (i32 (0)), .int (i32 (s)), .int (i32 (2)), .ref 66]) rfl (jl_iload gL_5) ?_
    refine jx_ar (pc' := 238) (st' := [.int (i32 (0)), .int (i32 (0)), .int (i32 (s)), .int (i32 (2)), .ref 66]) rfl rfl rfl rfl ?_
    refine jx_ar (pc' := 239) (st' := [.int (i32 (0)), .int (i32 (0)), .int (i32 (0)), .int (i32 (s)), .int (i32 (2)), .ref 66]) rfl rfl rfl rfl ?_
    refine jx_vr (pc' := 242) (as := [.int (i32 (2)), .int (i32 (s)), .int (i32 (0)), .int (i32 (0)), .int (i32 (0))]) (st := []) rfl rfl rfl rfl ⟨rfl, rfl, Nat.le_of_ble_eq_true rfl⟩ rfl rfl (c_node_o (dd := d) (hd := by omega) (hW := hWx) (kind := 2) (a := s) (b := 0) (c := 0) (e := 0) (nd := nd1) (e_nd := show Gx 31 = nd1 from (ex_nd1)) (ec := ec1) (e_ec := show ecn Ax (Gx 31) = ec1 from ex_ec1)  (h_kind := ⟨(by decide), (by decide)⟩) (h_a := ⟨(Int.le_trans (by decide : (-2147483648 : Int) ≤ -2147483648) rx_s.1), (Int.le_trans rx_s.2 (by decide : (2147483647 : Int) ≤ 2147483647))⟩) (h_b := ⟨(by decide), (by decide)⟩) (h_c := ⟨(by decide), (by decide)⟩) (h_e := ⟨(by decide), (by decide)⟩)  (p_0 := by omega) (p_1 := by omega) (p_2 := by omega)) (fun o V' hq => ?_)
    obtain ⟨G851, A852, nd2_853, ec2_854, rfl, rfl, hW855, hF856, hQ857, e858, e859, p860, p861, p862, -⟩ := hq
    have hF864 := Fr_tr hFx hF856 (Fr_sub (by decide)) (Fr_sub (by decide))
    have hP865 := Pf_tr hPx hQ857 (by omega)
    have sf866 : ND A852 (one) (33) (0) (0) (0) (0) (0) (0) := ND_ag (by omega) (Ag_pf hQ857 (by omega)) iv_10
    have bnd2_853 : (0 : Int) ≤ nd2_853 ∧ nd2_853 ≤ 6999 := e858 ▸ hW855.1 31
    refine .inr ⟨_, rfl, ?_⟩
    refine jx_ld (pc' := 244) (l' := jSto1 L 10 (.int (i32 (nd1)))) (st' := []) rfl rfl ?_
    obtain ⟨L867, eL867⟩ : ∃ q, q = jSto1 L 10 (.int (i32 (nd1))) := ⟨_, rfl⟩
    rw [← eL867]
    have gL867_0 : jGet L867 0 = some (.ref 66) := eL867 ▸ jg_ne (by decide) gL_0 rfl
    have gL867_6 : jGet L867 6 = some (.int (i32 (0))) := eL867 ▸ jg_ne (by decide) gL_6 rfl
    have gL867_7 : jGet L867 7 = some (.int (i32 (1))) := eL867 ▸ jg_ne (by decide) gL_7 rfl
    have gL867_5 : jGet L867 5 = some (.int (i32 (0))) := eL867 ▸ jg_ne (by decide) gL_5 rfl
    have gL867_1 : jGet L867 1 = some (.int (i32 (one))) := eL867 ▸ jg_ne (by decide) gL_1 rfl
    have gL867_4 : jGet L867 4 = some (.int (i32 (s))) := eL867 ▸ jg_ne (by decide) gL_4 rfl
    have gL867_10 : jGet L867 10 = some (.int (i32 (nd1))) := eL867 ▸ jg_eq
    refine jx_ld (pc' := 246) (l' := L867) (st' := [.int (i32 (1))]) rfl (jl_iload gL867_7) ?_
    refine jx_if_eq (pc' := 249) (tg := 278) rfl rfl rfl (by decide) (by decide) (fun h868 => ?_) (fun h868 => ?_)
    · have _q := h868
      exact absurd h868 (by omega)
    · have _q := h868
      refine jx_ld (pc' := 250) (l' := L867) (st' := [.ref 66]) rfl (jl_aloadn gL867_0) ?_
      refine jr_get (pc' := 253) (i := 35) (v := .ref 85) rfl rfl (by decide) rfl rfl ?_
      refine jx_ld (pc' := 254) (l' := L867) (st' := [.int (i32 (one)), .ref 85]) rfl (jl_iloadn gL867_1) ?_
      refine jx_ld (pc' := 256) (l' := L867) (st' := [.int (i32 (nd1)), .int (i32 (one)), .ref 85]) rfl (jl_iload gL867_10) ?_
      refine jr_st (pc' := 257) (i := 18) (m := 7000) (z := one) (y := nd1) rfl (by decide) rfl (by decide) (by omega) (by omega) rfl ?_
      have hW870 : Wk G851 (uA A852 18 (one).toNat (nd1)) := Wk_a hW855 (show (-2147483648 : Int) ≤ nd1 by omega) (show nd1 ≤ (2147483647 : Int) by omega)
      have hF871 := Fr_a (z := nd1) (k := 18) (n := (one).toNat) hF864 (by decide)
      obtain ⟨A869, eA869⟩ : ∃ q, q = uA A852 18 (one).toNat (nd1) := ⟨_, rfl⟩
      rw [← eA869]
      rw [← eA869] at hW870 hF871
      have q872 : A869 18 (one).toNat = nd1 := by rw [eA869]; exact uA_eq
      have hP873 : Pf nd A A869 := eA869 ▸ Pf_a hP865 (z := one) (by omega) (by omega)
      have sf874 : ND A869 (one) (33) (0) (nd1) (0) (0) (0) (0) := ND_b eA869 sf866
      have sf875 : ND A869 (nd1) (2) (s) (0) (0) (0) (0) (0) := ND_ag (by omega) (Ag_st eA869 (by omega) (by omega)) p862
      have ec876 : ecn A869 (G851 31) = ec2_854 := (ecn_e ((congrFun eA869 15).trans (uA_ne (by decide)))).trans e859
      refine jx_ld (pc' := 258) (l' := L867) (st' := [.ref 66]) rfl (jl_aloadn gL867_0) ?_
      refine jx_vr (pc' := 261) (as := []) (st := []) rfl rfl rfl rfl ⟨rfl, rfl, Nat.le_of_ble_eq_true rfl⟩ rfl rfl (c_next (dd := d) (hd := by omega) (hW := hW870)  (ln := ln) (e_ln := show G851 9 = ln from ((hF856.1 9 rfl).trans (fx_9))) (le := le) (e_le := show A869 4 (ln).toNat = le from (congrFun (((congrFun eA869 4).trans (uA_ne (by decide))).trans ((hF856.2 4 rfl).trans (hFx.2 4 rfl))) _).trans (e_le)) (at0 := at1) (e_at0 := show G851 10 = at1 from ((hF856.1 10 rfl).trans (ex_at1)))    (p_0 := by omega)) (fun o V' hq => ?_)
      obtain ⟨G877, A878, at2_879, tk2_880, rfl, rfl, hW881, hF882, e883, e884, p885, p886, p887, -⟩ := hq
      have hF889 := Fr_tr hF871 hF882 (Fr_sub (by decide)) (Fr_sub (by decide))
      have hP890 := Pf_f hP873 hF882 (by decide)
      have sf891 : ND A878 (one) (33) (0) (nd1) (0) (0) (0) (0) := ND_ag (by omega) (Ag_fr hF882 (by decide)) sf874
      have sf892 : ND A878 (nd1) (2) (s) (0) (0) (0) (0) (0) := ND_ag (by omega) (Ag_fr hF882 (by decide)) sf875
      have ec893 : ecn A878 (G877 31) = ec2_854 := (ecn_f (hF882.2 15 rfl) (hF882.1 31 rfl)).trans ec876
      have bat2_879 : (0 : Int) ≤ at2_879 ∧ at2_879 ≤ 3002 := e883 ▸ hW881.1 10
      have ztk2_880 := tz_b tk2_880
      have btk2_880 : (0 : Int) ≤ tk2_880 ∧ tk2_880 ≤ 5 := e884 ▸ hW881.1 11
      refine .inl ⟨rfl, ?_⟩
      have pz894 : at1 + tz tk2_880 ≤ at2_879 := by omega
      refine jx_ld (pc' := 262) (l' := L867) (st' := [.ref 66]) rfl (jl_aloadn gL867_0) ?_
      refine jr_get (pc' := 265) (i := 36) (v := .ref 86) rfl rfl (by decide) rfl rfl ?_
      refine jx_ld (pc' := 266) (l' := L867) (st' := [.int (i32 (one)), .ref 86]) rfl (jl_iloadn gL867_1) ?_
      refine jx_ld (pc' := 267) (l' := L867) (st' := [.ref 66, .int (i32 (one)), .ref 86]) rfl (jl_aloadn gL867_0) ?_
      refine jx_ar (pc' := 268) (st' := [.int (i32 (0)), .ref 66, .int (i32 (one)), .ref 86]) rfl rfl rfl rfl ?_
      refine jx_vr (pc' := 271) (as := [.int (i32 (0))]) (st := [.int (i32 (one)), .ref 86]) rfl rfl rfl rfl ⟨rfl, rfl, Nat.le_of_ble_eq_true rfl⟩ rfl rfl (c_readReference_w (dd := d) (hd := by omega) (hW := hW881) (ch := 0) (ln := ln) (e_ln := show G877 9 = ln from ((hF882.1 9 rfl).trans ((hF856.1 9 rfl).trans (fx_9)))) (le := le) (e_le := show A878 4 (ln).toNat = le from (congrFun ((hF882.2 4 rfl).trans (((congrFun eA869 4).trans (uA_ne (by decide))).trans ((hF856.2 4 rfl).trans (hFx.2 4 rfl)))) _).trans (e_le)) (at0 := at2_879) (e_at0 := show G877 10 = at2_879 from (e883)) (fk := fk1) (e_fk := show G877 16 = fk1 from ((hF882.1 16 rfl).trans ((hF856.1 16 rfl).trans (ex_fk1)))) (op0 := op1) (e_op0 := show G877 15 = op1 from ((hF882.1 15 rfl).trans ((hF856.1 15 rfl).trans (ex_op1)))) (nd := nd2_853) (e_nd := show G877 31 = nd2_853 from ((hF882.1 31 rfl).trans (e858))) (tk0 := tk2_880) (e_tk0 := show G877 11 = tk2_880 from (e884)) (ec := ec2_854) (e_ec := show ecn A878 (G877 31) = ec2_854 from ec893) (i_SV := (SV_ext (((hF882.1 29 rfl).trans ((hF856.1 29 rfl).trans (hFx.1 29 rfl)))) (((hF882.2 14 rfl).trans (((congrFun eA869 14).trans (uA_ne (by decide))).trans ((hF856.2 14 rfl).trans (hFx.2 14 rfl))))) i_SV)) (h_ch := ⟨(by decide), (by decide)⟩)  (p_0 := by omega) (p_1 := by omega) (p_2 := by omega) (p_3 := by omega) (p_4 := by omega)) (fun o V' hq => ?_)
      obtain ⟨G895, A896, r897, at2_898, fk2_899, op2_900, nd2_901, tk2_902, ec2_903, rfl, rfl, hW904, hF905, hQ906, b907, e908, e909, e910, e911, e912, e913, p914, p915, p916, p917, p918, p919, q920⟩ := hq
      have hF921 := Fr_tr hF889 hF905 (Fr_sub (by decide)) (Fr_sub (by decide))
      have k922 : A896 18 (one).toNat = nd1 := (hQ906 18 _ rfl (by omega)).trans (show A878 18 (one).toNat = nd1 from (congrFun (hF882.2 18 rfl) _).trans (q872))
      have hP923 := Pf_tr hP890 hQ906 (by omega)
      have sf924 : ND A896 (one) (33) (0) (nd1) (0) (0) (0) (0) := ND_ag (by omega) (Ag_pf hQ906 (by omega)) sf891
      have sf925 : ND A896 (nd1) (2) (s) (0) (0) (0) (0) (0) := ND_ag (by omega) (Ag_pf hQ906 (by omega)) sf892
      have bat2_898 : (0 : Int) ≤ at2_898 ∧ at2_898 ≤ 3002 := e908 ▸ hW904.1 10
      have bfk2_899 : (0 : Int) ≤ fk2_899 ∧ fk2_899 ≤ 6 := e909 ▸ hW904.1 16
      have bop2_900 : (-2147483648 : Int) ≤ op2_900 ∧ op2_900 ≤ 2147483647 := e910 ▸ hW904.1 15
      have bnd2_901 : (0 : Int) ≤ nd2_901 ∧ nd2_901 ≤ 6999 := e911 ▸ hW904.1 31
      have ztk2_902 := tz_b tk2_902
      have btk2_902 : (0 : Int) ≤ tk2_902 ∧ tk2_902 ≤ 5 := e912 ▸ hW904.1 11
      refine .inr ⟨_, rfl, ?_⟩
      rcases q920 with ⟨a926, a927, a928, a929, a930, a931⟩ | ⟨a932, a933, a934⟩ | ⟨a935, a936, a937, a938, a939, a940⟩
      · have _q : True := trivial
        exfalso
        omega
      · have _q : True := trivial
        refine jr_st (pc' := 272) (i := 19) (m := 7000) (z := one) (y := r897) rfl (by decide) rfl (by decide) (by omega) (by omega) rfl ?_
        have hW942 : Wk G895 (uA A896 19 (one).toNat (r897)) := Wk_a hW904 (show (-2147483648 : Int) ≤ r897 by omega) (show r897 ≤ (2147483647 : Int) by omega)
        have hF943 := Fr_a (z := r897) (k := 19) (n := (one).toNat) hF921 (by decide)
        obtain ⟨A941, eA941⟩ : ∃ q, q = uA A896 19 (one).toNat (r897) := ⟨_, rfl⟩
        rw [← eA941]
        rw [← eA941] at hW942 hF943
        have q944 : A941 19 (one).toNat = r897 := by rw [eA941]; exact uA_eq
        have hP945 : Pf nd A A941 := eA941 ▸ Pf_a hP923 (z := one) (by omega) (by omega)
        have sf946 : ND A941 (one) (33) (0) (nd1) (r897) (0) (0) (0) := ND_c eA941 sf924
        have sf947 : ND A941 (nd1) (2) (s) (0) (0) (0) (0) (0) := ND_ag (by omega) (Ag_st eA941 (by omega) (by omega)) sf925
        have ec948 : ecn A941 (G895 31) = ec2_903 := (ecn_e ((congrFun eA941 15).trans (uA_ne (by decide)))).trans e913
        refine jx_ld (pc' := 273) (l' := L867) (st' := [.ref 66]) rfl (jl_aloadn gL867_0) ?_
        refine jx_vr (pc' := 276) (as := []) (st := []) rfl rfl rfl rfl ⟨rfl, rfl, Nat.le_of_ble_eq_true rfl⟩ rfl rfl (c_endLine (dd := d) (hd := by omega) (hW := hW942)  (ln := ln) (e_ln := show G895 9 = ln from ((hF905.1 9 rfl).trans ((hF882.1 9 rfl).trans ((hF856.1 9 rfl).trans (fx_9))))) (li := li) (e_li := show G895 3 = li from ((hF905.1 3 rfl).trans ((hF882.1 3 rfl).trans ((hF856.1 3 rfl).trans ((hFx.1 3 rfl).trans (e_li)))))) (fk := fk2_899) (e_fk := show G895 16 = fk2_899 from (e909)) (tk0 := tk2_902) (e_tk0 := show G895 11 = tk2_902 from (e912))    (p_0 := by omega)) (fun o V' hq => ?_)
        obtain ⟨G949, A950, ln2_951, fk2_952, rfl, rfl, hW953, hF954, e955, e956, q957⟩ := hq
        have hF958 := Fr_tr hF943 hF954 (Fr_sub (by decide)) (Fr_sub (by decide))
        have hP959 := Pf_f hP945 hF954 (by decide)
        have sf960 : ND A950 (one) (33) (0) (nd1) (r897) (0) (0) (0) := ND_ag (by omega) (Ag_fr hF954 (by decide)) sf946
        have sf961 : ND A950 (nd1) (2) (s) (0) (0) (0) (0) (0) := ND_ag (by omega) (Ag_fr hF954 (by decide)) sf947
        have ec962 : ecn A950 (G949 31) = ec2_903 := (ecn_f (hF954.2 15 rfl) (hF954.1 31 rfl)).trans ec948
        have bln2_951 : (0 : Int) ≤ ln2_951 ∧ ln2_951 ≤ 3000 := e955 ▸ hW953.1 9
        have bfk2_952 : (0 : Int) ≤ fk2_952 ∧ fk2_952 ≤ 6 := e956 ▸ hW953.1 16
        refine .inl ⟨rfl, ?_⟩
        rcases q957 with ⟨a963, a964, a965, a966, a967⟩ | ⟨a968, a969⟩
        · have _q : True := trivial
          exfalso
          omega
        · have _q : True := trivial
          refine jx_ld (pc' := 277) (l' := L867) (st' := [.int (i32 (one))]) rfl (jl_iloadn gL867_1) ?_
          refine jx_rt (v := some (.int (i32 (one)))) rfl rfl rfl rfl rfl rfl ?_
          exact ⟨_, _, _, at2_898, fk2_952, nd2_901, ln2_951, ec2_903, rfl, rfl, hW953, hF958, hP959, by omega, ((hF954.1 10 rfl).trans (e908)), (e956), ((hF954.1 31 rfl).trans (e911)), (e955), ec962, by omega, by omega, by omega, by omega, by omega, by first | exact Or.inl (⟨by omega, by omega, by omega⟩)⟩
      · have _q : True := trivial
        refine jr_st (pc' := 272) (i := 19) (m := 7000) (z := one) (y := r897) rfl (by decide) rfl (by decide) (by omega) (by omega) rfl ?_
        have hW971 : Wk G895 (uA A896 19 (one).toNat (r897)) := Wk_a hW904 (show (-2147483648 : Int) ≤ r897 by omega) (show r897 ≤ (2147483647 : Int) by omega)
        have hF972 := Fr_a (z := r897) (k := 19) (n := (one).toNat) hF921 (by decide)
        obtain ⟨A970, eA970⟩ : ∃ q, q = uA A896 19 (one).toNat (r897) := ⟨_, rfl⟩
        rw [← eA970]
        rw [← eA970] at hW971 hF972
        have q973 : A970 19 (one).toNat = r897 := by rw [eA970]; exact uA_eq
        have hP974 : Pf nd A A970 := eA970 ▸ Pf_a hP923 (z := one) (by omega) (by omega)
        have sf975 : ND A970 (one) (33) (0) (nd1) (r897) (0) (0) (0) := ND_c eA970 sf924
        have sf976 : ND A970 (nd1) (2) (s) (0) (0) (0) (0) (0) := ND_ag (by omega) (Ag_st eA970 (by omega) (by omega)) sf925
        have sf977 : wR A970 Vs sb (20) (0) (r897) (nd2_853) (nd2_901) := wR_ag (by omega) (Sg_ne eA970 rfl) (Ag_st eA970 (by omega) (by omega)) a938
        have ec978 : ecn A970 (G895 31) = ec2_903 := (ecn_e ((congrFun eA970 15).trans (uA_ne (by decide)))).trans e913
        refine jx_ld (pc' := 273) (l' := L867) (st' := [.ref 66]) rfl (jl_aloadn gL867_0) ?_
        refine jx_vr (pc' := 276) (as := []) (st := []) rfl rfl rfl rfl ⟨rfl, rfl, Nat.le_of_ble_eq_true rfl⟩ rfl rfl (c_endLine (dd := d) (hd := by omega) (hW := hW971)  (ln := ln) (e_ln := show G895 9 = ln from ((hF905.1 9 rfl).trans ((hF882.1 9 rfl).trans ((hF856.1 9 rfl).trans (fx_9))))) (li := li) (e_li := show G895 3 = li from ((hF905.1 3 rfl).trans ((hF882.1 3 rfl).trans ((hF856.1 3 rfl).trans ((hFx.1 3 rfl).trans (e_li)))))) (fk := fk2_899) (e_fk := show G895 16 = fk2_899 from (e909)) (tk0 := tk2_902) (e_tk0 := show G895 11 = tk2_902 from (e912))    (p_0 := by omega)) (fun o V' hq => ?_)
        obtain ⟨G979, A980, ln2_981, fk2_982, rfl, rfl, hW983, hF984, e985, e986, q987⟩ := hq
        have hF988 := Fr_tr hF972 hF984 (Fr_sub (by decide)) (Fr_sub (by decide))
        have hP989 := Pf_f hP974 hF984 (by decide)
        have sf990 : ND A980 (one) (33) (0) (nd1) (r897) (0) (0) (0) := ND_ag (by omega) (Ag_fr hF984 (by decide)) sf975
        have sf991 : ND A980 (nd1) (2) (s) (0) (0) (0) (0) (0) := ND_ag (by omega) (Ag_fr hF984 (by decide)) sf976
        have sf992 : wR A980 Vs sb (20) (0) (r897) (nd2_853) (nd2_901) := wR_ag (by omega) (Sg_fr hF984 (by decide)) (Ag_fr hF984 (by decide)) sf977
        have ec993 : ecn A980 (G979 31) = ec2_903 := (ecn_f (hF984.2 15 rfl) (hF984.1 31 rfl)).trans ec978
        have bln2_981 : (0 : Int) ≤ ln2_981 ∧ ln2_981 ≤ 3000 := e985 ▸ hW983.1 9
        have bfk2_982 : (0 : Int) ≤ fk2_982 ∧ fk2_982 ≤ 6 := e986 ▸ hW983.1 16
        refine .inl ⟨rfl, ?_⟩
        rcases q987 with ⟨a994, a995, a996, a997, a998⟩ | ⟨a999, a1000⟩
        · have _q : True := trivial
          refine jx_ld (pc' := 277) (l' := L867) (st' := [.int (i32 (one))]) rfl (jl_iloadn gL867_1) ?_
          refine jx_rt (v := some (.int (i32 (one)))) rfl rfl rfl rfl rfl rfl ?_
          exact ⟨_, _, _, at2_898, fk2_982, nd2_901, ln2_981, ec2_903, rfl, rfl, hW983, hF988, hP989, by omega, ((hF984.1 10 rfl).trans (e908)), (e986), ((hF984.1 31 rfl).trans (e911)), (e985), ec993, by omega, by omega, by omega, by omega, by omega, by first | exact Or.inr ((⟨by omega, by omega, by omega, by omega, by omega, (wU_ch (m := (nd1 + 1)) sf990 (by omega) (by omega) (by omega) (by omega) (wR_var sf991 (by omega) (by omega) iv_9 (kq (P := kRef (1)) (show A980 7 (s).toNat = ks from (congrFun ((hF984.2 7 rfl).trans (((congrFun eA970 7).trans (uA_ne (by decide))).trans ((hF905.2 7 rfl).trans ((hF882.2 7 rfl).trans (((congrFun eA869 7).trans (uA_ne (by decide))).trans (hF856.2 7 rfl)))))) _).trans (ex_ks)) (by first | exact .inr ⟨by omega, iv_12⟩))) (wR_mono (by omega) (by omega) (by omega) sf992)), (NX_nd sf990), by omega⟩))⟩
        · have _q : True := trivial
          refine jx_ld (pc' := 277) (l' := L867) (st' := [.int (i32 (one))]) rfl (jl_iloadn gL867_1) ?_
          refine jx_rt (v := some (.int (i32 (one)))) rfl rfl rfl rfl rfl rfl ?_
          exact ⟨_, _, _, at2_898, fk2_982, nd2_901, ln2_981, ec2_903, rfl, rfl, hW983, hF988, hP989, by omega, ((hF984.1 10 rfl).trans (e908)), (e986), ((hF984.1 31 rfl).trans (e911)), (e985), ec993, by omega, by omega, by omega, by omega, by omega, by first | exact Or.inl (⟨by omega, by omega, by omega⟩)⟩
  · have _q := h850
    exact absurd h850 (by omega)
set_option maxRecDepth 20000 in
set_option maxHeartbeats 4000000 in
theorem c_readGuard_w_at_222_0_0 {X : jX} {d : Nat} {Vs : Nat → Prop} {sb : Int} {c0 c1 : jC} {G : Nat → Int} {A : Nat → Nat → Int} {T : jH} {ln le at0 fk op0 nd tk0 li ec : Int} (hd : 71 ≤ d + 1) (hW : Wk G A) (e_ln : G 9 = ln) (e_le : A 4 (ln).toNat = le) (e_at0 : G 10 = at0) (e_fk : G 16 = fk) (e_op0 : G 15 = op0) (e_nd : G 31 = nd) (e_tk0 : G 11 = tk0) (e_li : G 3 = li) (e_ec : ecn A (G 31) = ec) (i_SV : SV Vs sb G A) (p_0 : 0 ≤ op0 ∧ op0 ≤ 8) (p_1 : fk = 0) (p_2 : nd ≤ 2 * at0 - tz tk0 + 42) (p_3 : at0 ≤ le) (p_4 : ln < li) : ∀ (L : jL) (Gx : Nat → Int) (Ax : Nat → Nat → Int) (one s at1 tk1 fk1 nd1 op1 ks ec1 : Int), jGet L 0 = some (.ref 66) → jGet L 6 = some (.int (i32 (0))) → jGet L 7 = some (.int (i32 (0))) → jGet L 5 = some (.int (i32 (0))) → jGet L 1 = some (.int (i32 one)) → jGet L 4 = some (.int (i32 s)) → Wk Gx Ax → Fr [9, 10, 11, 12, 13, 14, 15, 16, 17, 18, 31] [15, 16, 17, 18, 19, 20, 21, 22, 24, 28] G A Gx Ax → Pf nd A Ax → Gx 10 = at1 → Gx 11 = tk1 → Gx 16 = fk1 → Gx 31 = nd1 → Gx 15 = op1 → Ax 7 (s).toNat = ks → ecn Ax (Gx 31) = ec1 → Gx 9 = ln → ((-2147483648 : Int) ≤ one ∧ one ≤ 2147483647) → ((-2147483648 : Int) ≤ s ∧ s ≤ 2147483647) → (at0 ≤ at1) → (at1 ≤ le) → (nd ≤ nd1) → (op1 = op0) → (one = nd) → (one ≤ 6998 ∧ one < nd1) → (fk1 = 0) → (nd1 - nd ≤ (2 * at1 - tz tk1) - (2 * at0 - tz tk0)) → (0 ≤ s ∧ s ≤ 201) → (SY Vs sb (s)) → (ND Ax (one) (33) (0) (0) (0) (0) (0) (0)) → (kVal (ks)) → (nd1 - nd + 5 * (ec1 - ec) ≤ (2 * at1 - tz tk1) - (2 * at0 - tz tk0) - tz tk1) → wj X d jm303 (222, L, [], rV c0 c1 Gx Ax T) (fun o V' => ∃ (G' : Nat → Int) (A' : Nat → Nat → Int) (r : Int) (at2 : Int) (fk2 : Int) (nd2 : Int) (ln2 : Int) (ec2 : Int), V' = rV c0 c1 G' A' T ∧ o = .inl (some (.int (i32 r))) ∧ Wk G' A' ∧ Fr [9, 10, 11, 12, 13, 14, 15, 16, 17, 18, 31] [15, 16, 17, 18, 19, 20, 21, 22, 24, 28] G A G' A' ∧ Pf nd A A' ∧ ((-2147483648 : Int) ≤ r ∧ r ≤ 2147483647) ∧ G' 10 = at2 ∧ G' 16 = fk2 ∧ G' 31 = nd2 ∧ G' 9 = ln2 ∧ ecn A' (G' 31) = ec2 ∧ (at0 ≤ at2) ∧ (at2 ≤ le) ∧ (nd ≤ nd2) ∧ (0 ≤ r) ∧ (r ≤ nd2) ∧ (((1 ≤ fk2) ∧ (ln2 = ln) ∧ (nd2 - nd ≤ 2 * at2 - 2 * at0 + 12)) ∨ ((fk2 = 0) ∧ (ln2 = ln + 1) ∧ (nd2 - nd ≤ 2 * at2 - (2 * at0 - tz tk0) + 0) ∧ (nd ≤ r) ∧ (r < nd2) ∧ (wU A' Vs sb (r) (nd) (nd2)) ∧ (NX A' (r)) ∧ (nd2 - nd + 5 * (ec2 - ec) ≤ 2 * at2 - (2 * at0 - tz tk0) + 0)))) := by
  have hF0 : Fr [9, 10, 11, 12, 13, 14, 15, 16, 17, 18, 31] [15, 16, 17, 18, 19, 20, 21, 22, 24, 28] G A G A := Fr_rf
  have hP0 : Pf nd A A := Pf_rf
  have b_ln : (0 : Int) ≤ ln ∧ ln ≤ 3000 := e_ln ▸ hW.1 9
  have b_le : (0 : Int) ≤ le ∧ le ≤ 3000 := e_le ▸ hW.2 4 _
  have b_at0 : (0 : Int) ≤ at0 ∧ at0 ≤ 3002 := e_at0 ▸ hW.1 10
  have b_fk : (0 : Int) ≤ fk ∧ fk ≤ 6 := e_fk ▸ hW.1 16
  have b_op0 : (-2147483648 : Int) ≤ op0 ∧ op0 ≤ 2147483647 := e_op0 ▸ hW.1 15
  have b_nd : (0 : Int) ≤ nd ∧ nd ≤ 6999 := e_nd ▸ hW.1 31
  have z_tk0 := tz_f tk0
  have b_tk0 : (0 : Int) ≤ tk0 ∧ tk0 ≤ 5 := e_tk0 ▸ hW.1 11
  have b_li : (0 : Int) ≤ li ∧ li ≤ 3000 := e_li ▸ hW.1 3
  intro L Gx Ax one s at1 tk1 fk1 nd1 op1 ks ec1 gL_0 gL_6 gL_7 gL_5 gL_1 gL_4 hWx hFx hPx ex_at1 ex_tk1 ex_fk1 ex_nd1 ex_op1 ex_ks ex_ec1 fx_9 rx_one rx_s iv_0 iv_1 iv_2 iv_3 iv_4 iv_5 iv_6 iv_7 iv_8 iv_9 iv_10 iv_11 iv_12
  have b_at1 : (0 : Int) ≤ at1 ∧ at1 ≤ 3002 := ex_at1 ▸ hWx.1 10
  have z_tk1 := tz_f tk1
  have b_tk1 : (0 : Int) ≤ tk1 ∧ tk1 ≤ 5 := ex_tk1 ▸ hWx.1 11
  have b_fk1 : (0 : Int) ≤ fk1 ∧ fk1 ≤ 6 := ex_fk1 ▸ hWx.1 16
  have b_nd1 : (0 : Int) ≤ nd1 ∧ nd1 ≤ 6999 := ex_nd1 ▸ hWx.1 31
  have b_op1 : (-2147483648 : Int) ≤ op1 ∧ op1 ≤ 2147483647 := ex_op1 ▸ hWx.1 15
  have b_ks : (0 : Int) ≤ ks ∧ ks ≤ 14 := ex_ks ▸ hWx.2 7 _
  refine jx_ld (pc' := 223) (l' := L) (st' := [.ref 66]) rfl (jl_aloadn gL_0) ?_
  refine jx_ld (pc' := 225) (l' := L) (st' := [.int (i32 (0)), .ref 66]) rfl (jl_iload gL_6) ?_
  refine jx_if_eq (pc' := 228) (tg := 232) rfl rfl rfl (by decide) (by decide) (fun h1001 => ?_) (fun h1001 => ?_)
  · have _q := h1001
    refine jx_ar (pc' := 233) (st' := [.int (i32 (2)), .ref 66]) rfl rfl rfl rfl ?_
    refine jx_ld (pc' := 235) (l' := L) (st' := [.int (i32 (s)), .int (i32 (2)), .ref 66]) rfl (jl_iload gL_4) ?_
    refine jx_ld (pc' := 237) (l' := L) (st' := [.int (i32 (0)), .int (i32 (s)), .int (i32 (2)), .ref 66]) rfl (jl_iload gL_5) ?_
    refine jx_ar (pc' := 238) (st' := [.int (i32 (0)), .int (i32 (0)), .int (i32 (s)), .int (i32 (2)), .ref 66]) rfl rfl rfl rfl ?_
    refine jx_ar (pc' := 239) (st' := [.int (i32 (0)), .int (i32 (0)), .int (i32 (0)), .int (i32 (s)), .int (i32 (2)), .ref 66]) rfl rfl rfl rfl ?_
    refine jx_vr (pc' := 242) (as := [.int (i32 (2)), .int (i32 (s)), .int (i32 (0)), .int (i32 (0)), .int (i32 (0))]) (st := []) rfl rfl rfl rfl ⟨rfl, rfl, Nat.le_of_ble_eq_true rfl⟩ rfl rfl (c_node_o (dd := d) (hd := by omega) (hW := hWx) (kind := 2) (a := s) (b := 0) (c := 0) (e := 0) (nd := nd1) (e_nd := show Gx 31 = nd1 from (ex_nd1)) (ec := ec1) (e_ec := show ecn Ax (Gx 31) = ec1 from ex_ec1)  (h_kind := ⟨(by decide), (by decide)⟩) (h_a := ⟨(Int.le_trans (by decide : (-2147483648 : Int) ≤ -2147483648) rx_s.1), (Int.le_trans rx_s.2 (by decide : (2147483647 : Int) ≤ 2147483647))⟩) (h_b := ⟨(by decide), (by decide)⟩) (h_c := ⟨(by decide), (by decide)⟩) (h_e := ⟨(by decide), (by decide)⟩)  (p_0 := by omega) (p_1 := by omega) (p_2 := by omega)) (fun o V' hq => ?_)
    obtain ⟨G1002, A1003, nd2_1004, ec2_1005, rfl, rfl, hW1006, hF1007, hQ1008, e1009, e1010, p1011, p1012, p1013, -⟩ := hq
    have hF1015 := Fr_tr hFx hF1007 (Fr_sub (by decide)) (Fr_sub (by decide))
    have hP1016 := Pf_tr hPx hQ1008 (by omega)
    have sf1017 : ND A1003 (one) (33) (0) (0) (0) (0) (0) (0) := ND_ag (by omega) (Ag_pf hQ1008 (by omega)) iv_10
    have bnd2_1004 : (0 : Int) ≤ nd2_1004 ∧ nd2_1004 ≤ 6999 := e1009 ▸ hW1006.1 31
    refine .inr ⟨_, rfl, ?_⟩
    refine jx_ld (pc' := 244) (l' := jSto1 L 10 (.int (i32 (nd1)))) (st' := []) rfl rfl ?_
    obtain ⟨L1018, eL1018⟩ : ∃ q, q = jSto1 L 10 (.int (i32 (nd1))) := ⟨_, rfl⟩
    rw [← eL1018]
    have gL1018_0 : jGet L1018 0 = some (.ref 66) := eL1018 ▸ jg_ne (by decide) gL_0 rfl
    have gL1018_6 : jGet L1018 6 = some (.int (i32 (0))) := eL1018 ▸ jg_ne (by decide) gL_6 rfl
    have gL1018_7 : jGet L1018 7 = some (.int (i32 (0))) := eL1018 ▸ jg_ne (by decide) gL_7 rfl
    have gL1018_5 : jGet L1018 5 = some (.int (i32 (0))) := eL1018 ▸ jg_ne (by decide) gL_5 rfl
    have gL1018_1 : jGet L1018 1 = some (.int (i32 (one))) := eL1018 ▸ jg_ne (by decide) gL_1 rfl
    have gL1018_4 : jGet L1018 4 = some (.int (i32 (s))) := eL1018 ▸ jg_ne (by decide) gL_4 rfl
    have gL1018_10 : jGet L1018 10 = some (.int (i32 (nd1))) := eL1018 ▸ jg_eq
    refine jx_ld (pc' := 246) (l' := L1018) (st' := [.int (i32 (0))]) rfl (jl_iload gL1018_7) ?_
    refine jx_if_eq (pc' := 249) (tg := 278) rfl rfl rfl (by decide) (by decide) (fun h1019 => ?_) (fun h1019 => ?_)
    · have _q := h1019
      refine jx_ld (pc' := 279) (l' := L1018) (st' := [.ref 66]) rfl (jl_aloadn gL1018_0) ?_
      refine jx_ld (pc' := 281) (l' := L1018) (st' := [.int (i32 (nd1)), .ref 66]) rfl (jl_iload gL1018_10) ?_
      refine jx_vr (pc' := 284) (as := [.int (i32 (nd1))]) (st := []) rfl rfl rfl rfl ⟨rfl, rfl, Nat.le_of_ble_eq_true rfl⟩ rfl rfl (c_readRest_w (dd := d) (k := 9) (hE := REw_all X 9) (hd := by omega) (hW := hW1006) (x := nd1) (lo := (one + 1)) (ln := ln) (e_ln := show G1002 9 = ln from ((hF1007.1 9 rfl).trans (fx_9))) (le := le) (e_le := show A1003 4 (ln).toNat = le from (congrFun ((hF1007.2 4 rfl).trans (hFx.2 4 rfl)) _).trans (e_le)) (at0 := at1) (e_at0 := show G1002 10 = at1 from ((hF1007.1 10 rfl).trans (ex_at1))) (fk := fk1) (e_fk := show G1002 16 = fk1 from ((hF1007.1 16 rfl).trans (ex_fk1))) (op0 := op1) (e_op0 := show G1002 15 = op1 from ((hF1007.1 15 rfl).trans (ex_op1))) (nd := nd2_1004) (e_nd := show G1002 31 = nd2_1004 from (e1009)) (tk0 := tk1) (e_tk0 := show G1002 11 = tk1 from ((hF1007.1 11 rfl).trans (ex_tk1))) (ec := ec2_1005) (e_ec := show ecn A1003 (G1002 31) = ec2_1005 from e1010) (i_SV := (SV_ext (((hF1007.1 29 rfl).trans (hFx.1 29 rfl))) (((hF1007.2 14 rfl).trans (hFx.2 14 rfl))) i_SV)) (h_x := ⟨(Int.le_trans (by decide : (-2147483648 : Int) ≤ 0) b_nd1.1), (Int.le_trans b_nd1.2 (by decide : (6999 : Int) ≤ 2147483647))⟩)  (p_0 := by omega) (p_1 := by omega) (p_2 := by omega) (p_3 := by omega) (p_4 := by omega) (p_5 := by omega) (p_6 := by omega) (p_7 := by omega) (p_8 := by omega) (p_9 := (fun _ => (wE_var p1013 (by omega) (by omega) iv_9 (kq (P := kVal) (show A1003 7 (s).toNat = ks from (congrFun (hF1007.2 7 rfl) _).trans (ex_ks)) iv_11))))) (fun o V' hq => ?_)
      obtain ⟨G1020, A1021, r1022, at2_1023, fk2_1024, op2_1025, nd2_1026, tk2_1027, ec2_1028, rfl, rfl, hW1029, hF1030, hQ1031, b1032, e1033, e1034, e1035, e1036, e1037, e1038, p1039, p1040, p1041, p1042, p1043, p1044, q1045⟩ := hq
      have hF1046 := Fr_tr hF1015 hF1030 (Fr_sub (by decide)) (Fr_sub (by decide))
      have hP1047 := Pf_tr hP1016 hQ1031 (by omega)
      have sf1048 : ND A1021 (one) (33) (0) (0) (0) (0) (0) (0) := ND_ag (by omega) (Ag_pf hQ1031 (by omega)) sf1017
      have sf1049 : ND A1021 (nd1) (2) (s) (0) (0) (0) (0) (0) := ND_ag (by omega) (Ag_pf hQ1031 (by omega)) p1013
      have bat2_1023 : (0 : Int) ≤ at2_1023 ∧ at2_1023 ≤ 3002 := e1033 ▸ hW1029.1 10
      have bfk2_1024 : (0 : Int) ≤ fk2_1024 ∧ fk2_1024 ≤ 6 := e1034 ▸ hW1029.1 16
      have bop2_1025 : (-2147483648 : Int) ≤ op2_1025 ∧ op2_1025 ≤ 2147483647 := e1035 ▸ hW1029.1 15
      have bnd2_1026 : (0 : Int) ≤ nd2_1026 ∧ nd2_1026 ≤ 6999 := e1036 ▸ hW1029.1 31
      have ztk2_1027 := tz_b tk2_1027
      have btk2_1027 : (0 : Int) ≤ tk2_1027 ∧ tk2_1027 ≤ 5 := e1037 ▸ hW1029.1 11
      refine .inr ⟨_, rfl, ?_⟩
      rcases q1045 with ⟨a1050, a1051, a1052, a1053, a1054, a1055⟩ | ⟨a1056, a1057, a1058⟩ | ⟨a1059, a1060, a1061, a1062, a1063⟩
      · have _q : True := trivial
        exfalso
        omega
      · have _q : True := trivial
        refine jx_ld (pc' := 285) (l' := jSto1 L1018 2 (.int (i32 (r1022)))) (st' := []) rfl rfl ?_
        obtain ⟨L1064, eL1064⟩ : ∃ q, q = jSto1 L1018 2 (.int (i32 (r1022))) := ⟨_, rfl⟩
        rw [← eL1064]
        have gL1064_0 : jGet L1064 0 = some (.ref 66) := eL1064 ▸ jg_ne (by decide) gL1018_0 rfl
        have gL1064_6 : jGet L1064 6 = some (.int (i32 (0))) := eL1064 ▸ jg_ne (by decide) gL1018_6 rfl
        have gL1064_7 : jGet L1064 7 = some (.int (i32 (0))) := eL1064 ▸ jg_ne (by decide) gL1018_7 rfl
        have gL1064_5 : jGet L1064 5 = some (.int (i32 (0))) := eL1064 ▸ jg_ne (by decide) gL1018_5 rfl
        have gL1064_1 : jGet L1064 1 = some (.int (i32 (one))) := eL1064 ▸ jg_ne (by decide) gL1018_1 rfl
        have gL1064_4 : jGet L1064 4 = some (.int (i32 (s))) := eL1064 ▸ jg_ne (by decide) gL1018_4 rfl
        have gL1064_10 : jGet L1064 10 = some (.int (i32 (nd1))) := eL1064 ▸ jg_ne (by decide) gL1018_10 rfl
        have gL1064_2 : jGet L1064 2 = some (.int (i32 (r1022))) := eL1064 ▸ jg_eq
        refine jx_go (tg := 293) rfl rfl ?_
        have z1065 := tz_f (tk2_1027)
        exact c_readGuard_w_at_293p (X := X) (d := d) (Vs := Vs) (sb := sb) (c0 := c0) (c1 := c1) (G := G) (A := A) (T := T) (ln := ln) (le := le) (at0 := at0) (fk := fk) (op0 := op0) (nd := nd) (tk0 := tk0) (li := li) (ec := ec) (hd := hd) (hW := hW) (e_ln := e_ln) (e_le := e_le) (e_at0 := e_at0) (e_fk := e_fk) (e_op0 := e_op0) (e_nd := e_nd) (e_tk0 := e_tk0) (e_li := e_li) (e_ec := e_ec) (i_SV := i_SV) (p_0 := p_0) (p_1 := p_1) (p_2 := p_2) (p_3 := p_3) (p_4 := p_4) L1064 G1020 A1021 (one) (r1022) (at2_1023) (tk2_1027) (fk2_1024) (nd2_1026) (op2_1025) (ec2_1028) gL1064_0 gL1064_1 gL1064_2 hW1029 hF1046 hP1047 ((e1033)) ((e1037)) ((e1034)) ((e1036)) ((e1035)) (e1038) (((hF1030.1 9 rfl).trans ((hF1007.1 9 rfl).trans (fx_9)))) (by omega) (by omega) (by omega) (by omega) (by omega) (by omega) (by omega) (by omega) (by omega) (by omega)
      · have _q : True := trivial
        refine jx_ld (pc' := 285) (l' := jSto1 L1018 2 (.int (i32 (r1022)))) (st' := []) rfl rfl ?_
        obtain ⟨L1066, eL1066⟩ : ∃ q, q = jSto1 L1018 2 (.int (i32 (r1022))) := ⟨_, rfl⟩
        rw [← eL1066]
        have gL1066_0 : jGet L1066 0 = some (.ref 66) := eL1066 ▸ jg_ne (by decide) gL1018_0 rfl
        have gL1066_6 : jGet L1066 6 = some (.int (i32 (0))) := eL1066 ▸ jg_ne (by decide) gL1018_6 rfl
        have gL1066_7 : jGet L1066 7 = some (.int (i32 (0))) := eL1066 ▸ jg_ne (by decide) gL1018_7 rfl
        have gL1066_5 : jGet L1066 5 = some (.int (i32 (0))) := eL1066 ▸ jg_ne (by decide) gL1018_5 rfl
        have gL1066_1 : jGet L1066 1 = some (.int (i32 (one))) := eL1066 ▸ jg_ne (by decide) gL1018_1 rfl
        have gL1066_4 : jGet L1066 4 = some (.int (i32 (s))) := eL1066 ▸ jg_ne (by decide) gL1018_4 rfl
        have gL1066_10 : jGet L1066 10 = some (.int (i32 (nd1))) := eL1066 ▸ jg_ne (by decide) gL1018_10 rfl
        have gL1066_2 : jGet L1066 2 = some (.int (i32 (r1022))) := eL1066 ▸ jg_eq
        refine jx_go (tg := 293) rfl rfl ?_
        have z1067 := tz_f (tk2_1027)
        exact c_readGuard_w_at_293 (X := X) (d := d) (Vs := Vs) (sb := sb) (c0 := c0) (c1 := c1) (G := G) (A := A) (T := T) (ln := ln) (le := le) (at0 := at0) (fk := fk) (op0 := op0) (nd := nd) (tk0 := tk0) (li := li) (ec := ec) (hd := hd) (hW := hW) (e_ln := e_ln) (e_le := e_le) (e_at0 := e_at0) (e_fk := e_fk) (e_op0 := e_op0) (e_nd := e_nd) (e_tk0 := e_tk0) (e_li := e_li) (e_ec := e_ec) (i_SV := i_SV) (p_0 := p_0) (p_1 := p_1) (p_2 := p_2) (p_3 := p_3) (p_4 := p_4) L1066 G1020 A1021 (one) (r1022) (at2_1023) (tk2_1027) (fk2_1024) (nd2_1026) (op2_1025) (ec2_1028) gL1066_0 gL1066_1 gL1066_2 hW1029 hF1046 hP1047 ((e1033)) ((e1037)) ((e1034)) ((e1036)) ((e1035)) (e1038) (((hF1030.1 9 rfl).trans ((hF1007.1 9 rfl).trans (fx_9)))) (by omega) (by omega) (by omega) (by omega) (by omega) (by omega) (by omega) (by omega) (by omega) (by omega) (by omega) (sf1048) ((wE_mono (by omega) (by omega) (by omega) a1062)) (by omega)
    · have _q := h1019
      exact absurd h1019 (by omega)
  · have _q := h1001
    exact absurd h1001 (by omega)
set_option maxRecDepth 20000 in
set_option maxHeartbeats 4000000 in
theorem c_readGuard_w_at_157_1_1 {X : jX} {d : Nat} {Vs : Nat → Prop} {sb : Int} {c0 c1 : jC} {G : Nat → Int} {A : Nat → Nat → Int} {T : jH} {ln le at0 fk op0 nd tk0 li ec : Int} (hd : 71 ≤ d + 1) (hW : Wk G A) (e_ln : G 9 = ln) (e_le : A 4 (ln).toNat = le) (e_at0 : G 10 = at0) (e_fk : G 16 = fk) (e_op0 : G 15 = op0) (e_nd : G 31 = nd) (e_tk0 : G 11 = tk0) (e_li : G 3 = li) (e_ec : ecn A (G 31) = ec) (i_SV : SV Vs sb G A) (p_0 : 0 ≤ op0 ∧ op0 ≤ 8) (p_1 : fk = 0) (p_2 : nd ≤ 2 * at0 - tz tk0 + 42) (p_3 : at0 ≤ le) (p_4 : ln < li) : ∀ (L : jL) (Gx : Nat → Int) (Ax : Nat → Nat → Int) (one pl s ix at1 tk1 fk1 nd1 op1 ks ec1 : Int), jGet L 0 = some (.ref 66) → jGet L 6 = some (.int (i32 (1))) → jGet L 7 = some (.int (i32 (1))) → jGet L 8 = some (.int (i32 (ks))) → jGet L 1 = some (.int (i32 one)) → jGet L 3 = some (.int (i32 pl)) → jGet L 4 = some (.int (i32 s)) → jGet L 5 = some (.int (i32 ix)) → Wk Gx Ax → Fr [9, 10, 11, 12, 13, 14, 15, 16, 17, 18, 31] [15, 16, 17, 18, 19, 20, 21, 22, 24, 28] G A Gx Ax → Pf nd A Ax → Gx 10 = at1 → Gx 11 = tk1 → Gx 16 = fk1 → Gx 31 = nd1 → Gx 15 = op1 → Ax 7 (s).toNat = ks → ecn Ax (Gx 31) = ec1 → Gx 9 = ln → ((-2147483648 : Int) ≤ one ∧ one ≤ 2147483647) → ((-2147483648 : Int) ≤ pl ∧ pl ≤ 2147483647) → ((-2147483648 : Int) ≤ s ∧ s ≤ 2147483647) → ((-2147483648 : Int) ≤ ix ∧ ix ≤ 2147483647) → (at0 ≤ at1) → (at1 ≤ le) → (nd ≤ nd1) → (op1 = op0) → (one = nd) → (one ≤ 6998 ∧ one < nd1) → (fk1 = 0) → (nd1 - nd ≤ (2 * at1 - tz tk1) - (2 * at0 - tz tk0)) → (0 ≤ s ∧ s ≤ 201) → (-3000 ≤ pl ∧ pl ≤ 3002) → (SY Vs sb (s)) → (ND Ax (one) (33) (0) (0) (0) (0) (0) (0)) → (tz tk1 = 1) → (wE Ax Vs sb (20) (ix) (one + 1) (nd1)) → (nd1 - nd + 5 * (ec1 - ec) ≤ (2 * at1 - tz tk1) - (2 * at0 - tz tk0) - 5 - tz tk1) → wj X d jm303 (157, L, [], rV c0 c1 Gx Ax T) (fun o V' => ∃ (G' : Nat → Int) (A' : Nat → Nat → Int) (r : Int) (at2 : Int) (fk2 : Int) (nd2 : Int) (ln2 : Int) (ec2 : Int), V' = rV c0 c1 G' A' T ∧ o = .inl (some (.int (i32 r))) ∧ Wk G' A' ∧ Fr [9, 10, 11, 12, 13, 14, 15, 16, 17, 18, 31] [15, 16, 17, 18, 19, 20, 21, 22, 24, 28] G A G' A' ∧ Pf nd A A' ∧ ((-2147483648 : Int) ≤ r ∧ r ≤ 2147483647) ∧ G' 10 = at2 ∧ G' 16 = fk2 ∧ G' 31 = nd2 ∧ G' 9 = ln2 ∧ ecn A' (G' 31) = ec2 ∧ (at0 ≤ at2) ∧ (at2 ≤ le) ∧ (nd ≤ nd2) ∧ (0 ≤ r) ∧ (r ≤ nd2) ∧ (((1 ≤ fk2) ∧ (ln2 = ln) ∧ (nd2 - nd ≤ 2 * at2 - 2 * at0 + 12)) ∨ ((fk2 = 0) ∧ (ln2 = ln + 1) ∧ (nd2 - nd ≤ 2 * at2 - (2 * at0 - tz tk0) + 0) ∧ (nd ≤ r) ∧ (r < nd2) ∧ (wU A' Vs sb (r) (nd) (nd2)) ∧ (NX A' (r)) ∧ (nd2 - nd + 5 * (ec2 - ec) ≤ 2 * at2 - (2 * at0 - tz tk0) + 0)))) := by
  have hF0 : Fr [9, 10, 11, 12, 13, 14, 15, 16, 17, 18, 31] [15, 16, 17, 18, 19, 20, 21, 22, 24, 28] G A G A := Fr_rf
  have hP0 : Pf nd A A := Pf_rf
  have b_ln : (0 : Int) ≤ ln ∧ ln ≤ 3000 := e_ln ▸ hW.1 9
  have b_le : (0 : Int) ≤ le ∧ le ≤ 3000 := e_le ▸ hW.2 4 _
  have b_at0 : (0 : Int) ≤ at0 ∧ at0 ≤ 3002 := e_at0 ▸ hW.1 10
  have b_fk : (0 : Int) ≤ fk ∧ fk ≤ 6 := e_fk ▸ hW.1 16
  have b_op0 : (-2147483648 : Int) ≤ op0 ∧ op0 ≤ 2147483647 := e_op0 ▸ hW.1 15
  have b_nd : (0 : Int) ≤ nd ∧ nd ≤ 6999 := e_nd ▸ hW.1 31
  have z_tk0 := tz_f tk0
  have b_tk0 : (0 : Int) ≤ tk0 ∧ tk0 ≤ 5 := e_tk0 ▸ hW.1 11
  have b_li : (0 : Int) ≤ li ∧ li ≤ 3000 := e_li ▸ hW.1 3
  intro L Gx Ax one pl s ix at1 tk1 fk1 nd1 op1 ks ec1 gL_0 gL_6 gL_7 gL_8 gL_1 gL_3 gL_4 gL_5 hWx hFx hPx ex_at1 ex_tk1 ex_fk1 ex_nd1 ex_op1 ex_ks ex_ec1 fx_9 rx_one rx_pl rx_s rx_ix iv_0 iv_1 iv_2 iv_3 iv_4 iv_5 iv_6 iv_7 iv_8 iv_9 iv_10 iv_11 iv_12 iv_13 iv_14
  have b_at1 : (0 : Int) ≤ at1 ∧ at1 ≤ 3002 := ex_at1 ▸ hWx.1 10
  have z_tk1 := tz_f tk1
  have b_tk1 : (0 : Int) ≤ tk1 ∧ tk1 ≤ 5 := ex_tk1 ▸ hWx.1 11
  have b_fk1 : (0 : Int) ≤ fk1 ∧ fk1 ≤ 6 := ex_fk1 ▸ hWx.1 16
  have b_nd1 : (0 : Int) ≤ nd1 ∧ nd1 ≤ 6999 := ex_nd1 ▸ hWx.1 31
  have b_op1 : (-2147483648 : Int) ≤ op1 ∧ op1 ≤ 2147483647 := ex_op1 ▸ hWx.1 15
  have b_ks : (0 : Int) ≤ ks ∧ ks ≤ 14 := ex_ks ▸ hWx.2 7 _
  refine jx_ld (pc' := 159) (l' := L) (st' := [.int (i32 (1))]) rfl (jl_iload gL_7) ?_
  refine jx_if_eq (pc' := 162) (tg := 189) rfl rfl rfl (by decide) (by decide) (fun h1068 => ?_) (fun h1068 => ?_)
  · have _q := h1068
    exact absurd h1068 (by omega)
  · have _q := h1068
    refine jx_ld (pc' := 164) (l' := L) (st' := [.int (i32 (1))]) rfl (jl_iload gL_6) ?_
    refine jx_if_eq (pc' := 167) (tg := 181) rfl rfl rfl (by decide) (by decide) (fun h1069 => ?_) (fun h1069 => ?_)
    · have _q := h1069
      exact absurd h1069 (by omega)
    · have _q := h1069
      refine jx_ld (pc' := 169) (l' := L) (st' := [.int (i32 (ks))]) rfl (jl_iload gL_8) ?_
      refine jx_ar (pc' := 170) (st' := [.int (i32 (4)), .int (i32 (ks))]) rfl rfl rfl rfl ?_
      refine jx_icmp_ne (pc' := 173) (tg := 177) rfl rfl rfl (Int.le_trans (by decide : (-2147483648 : Int) ≤ 0) b_ks.1) (Int.le_trans b_ks.2 (by decide : (14 : Int) ≤ 2147483647)) (by decide) (by decide) (fun h1070 => ?_) (fun h1070 => ?_)
      · have _q := h1070
        refine jx_ar (pc' := 178) (st' := [.int (i32 (0))]) rfl rfl rfl rfl ?_
        refine jx_go (tg := 207) rfl rfl ?_
        refine jx_ld (pc' := 209) (l' := jSto1 L 9 (.int (i32 (0)))) (st' := []) rfl rfl ?_
        obtain ⟨L1071, eL1071⟩ : ∃ q, q = jSto1 L 9 (.int (i32 (0))) := ⟨_, rfl⟩
        rw [← eL1071]
        have gL1071_0 : jGet L1071 0 = some (.ref 66) := eL1071 ▸ jg_ne (by decide) gL_0 rfl
        have gL1071_6 : jGet L1071 6 = some (.int (i32 (1))) := eL1071 ▸ jg_ne (by decide) gL_6 rfl
        have gL1071_7 : jGet L1071 7 = some (.int (i32 (1))) := eL1071 ▸ jg_ne (by decide) gL_7 rfl
        have gL1071_8 : jGet L1071 8 = some (.int (i32 (ks))) := eL1071 ▸ jg_ne (by decide) gL_8 rfl
        have gL1071_1 : jGet L1071 1 = some (.int (i32 (one))) := eL1071 ▸ jg_ne (by decide) gL_1 rfl
        have gL1071_3 : jGet L1071 3 = some (.int (i32 (pl))) := eL1071 ▸ jg_ne (by decide) gL_3 rfl
        have gL1071_4 : jGet L1071 4 = some (.int (i32 (s))) := eL1071 ▸ jg_ne (by decide) gL_4 rfl
        have gL1071_5 : jGet L1071 5 = some (.int (i32 (ix))) := eL1071 ▸ jg_ne (by decide) gL_5 rfl
        have gL1071_9 : jGet L1071 9 = some (.int (i32 (0))) := eL1071 ▸ jg_eq
        refine jx_ld (pc' := 211) (l' := L1071) (st' := [.int (i32 (0))]) rfl (jl_iload gL1071_9) ?_
        refine jx_if_ne (pc' := 214) (tg := 222) rfl rfl rfl (by decide) (by decide) (fun h1072 => ?_) (fun h1072 => ?_)
        · have _q := h1072
          exact absurd h1072 (by omega)
        · have _q := h1072
          refine jx_ld (pc' := 215) (l' := L1071) (st' := [.ref 66]) rfl (jl_aloadn gL1071_0) ?_
          refine jx_ar (pc' := 216) (st' := [.int (i32 (4)), .ref 66]) rfl rfl rfl rfl ?_
          refine jx_ld (pc' := 217) (l' := L1071) (st' := [.int (i32 (pl)), .int (i32 (4)), .ref 66]) rfl (jl_iloadn gL1071_3) ?_
          refine jx_vr (pc' := 220) (as := [.int (i32 (4)), .int (i32 (pl))]) (st := []) rfl rfl rfl rfl ⟨rfl, rfl, Nat.le_of_ble_eq_true rfl⟩ rfl rfl (c_fail (dd := d) (hd := by omega) (hW := hWx) (kind := 4) (place := pl) (fk := fk1) (e_fk := show Gx 16 = fk1 from (ex_fk1))  (h_kind := ⟨(by decide), (by decide)⟩) (h_place := ⟨(Int.le_trans (by decide : (-2147483648 : Int) ≤ -2147483648) rx_pl.1), (Int.le_trans rx_pl.2 (by decide : (2147483647 : Int) ≤ 2147483647))⟩)  (p_0 := by omega) (p_1 := by omega)) (fun o V' hq => ?_)
          obtain ⟨G1073, A1074, fk2_1075, rfl, rfl, hW1076, hF1077, e1078, p1079, -⟩ := hq
          have hF1081 := Fr_tr hFx hF1077 (Fr_sub (by decide)) (Fr_sub (by decide))
          have hP1082 := Pf_f hPx hF1077 (by decide)
          have sf1083 : ND A1074 (one) (33) (0) (0) (0) (0) (0) (0) := ND_ag (by omega) (Ag_fr hF1077 (by decide)) iv_11
          have sf1084 : wE A1074 Vs sb (20) (ix) (one + 1) (nd1) := wE_ag (by omega) (Sg_fr hF1077 (by decide)) (Ag_fr hF1077 (by decide)) iv_13
          have ec1085 : ecn A1074 (G1073 31) = ec1 := (ecn_f (hF1077.2 15 rfl) (hF1077.1 31 rfl)).trans ex_ec1
          have bfk2_1075 : (0 : Int) ≤ fk2_1075 ∧ fk2_1075 ≤ 6 := e1078 ▸ hW1076.1 16
          refine .inl ⟨rfl, ?_⟩
          refine jx_ar (pc' := 221) (st' := [.int (i32 (0))]) rfl rfl rfl rfl ?_
          refine jx_rt (v := some (.int (i32 (0)))) rfl rfl rfl rfl rfl rfl ?_
          exact ⟨_, _, _, at1, fk2_1075, nd1, ln, ec1, rfl, rfl, hW1076, hF1081, hP1082, by omega, ((hF1077.1 10 rfl).trans (ex_at1)), (e1078), ((hF1077.1 31 rfl).trans (ex_nd1)), ((hF1077.1 9 rfl).trans (fx_9)), ec1085, by omega, by omega, by omega, by omega, by omega, by first | exact Or.inl (⟨by omega, by omega, by omega⟩)⟩
      · have _q := h1070
        refine jx_ar (pc' := 174) (st' := [.int (i32 (1))]) rfl rfl rfl rfl ?_
        refine jx_go (tg := 207) rfl rfl ?_
        refine jx_ld (pc' := 209) (l' := jSto1 L 9 (.int (i32 (1)))) (st' := []) rfl rfl ?_
        obtain ⟨L1086, eL1086⟩ : ∃ q, q = jSto1 L 9 (.int (i32 (1))) := ⟨_, rfl⟩
        rw [← eL1086]
        have gL1086_0 : jGet L1086 0 = some (.ref 66) := eL1086 ▸ jg_ne (by decide) gL_0 rfl
        have gL1086_6 : jGet L1086 6 = some (.int (i32 (1))) := eL1086 ▸ jg_ne (by decide) gL_6 rfl
        have gL1086_7 : jGet L1086 7 = some (.int (i32 (1))) := eL1086 ▸ jg_ne (by decide) gL_7 rfl
        have gL1086_8 : jGet L1086 8 = some (.int (i32 (ks))) := eL1086 ▸ jg_ne (by decide) gL_8 rfl
        have gL1086_1 : jGet L1086 1 = some (.int (i32 (one))) := eL1086 ▸ jg_ne (by decide) gL_1 rfl
        have gL1086_3 : jGet L1086 3 = some (.int (i32 (pl))) := eL1086 ▸ jg_ne (by decide) gL_3 rfl
        have gL1086_4 : jGet L1086 4 = some (.int (i32 (s))) := eL1086 ▸ jg_ne (by decide) gL_4 rfl
        have gL1086_5 : jGet L1086 5 = some (.int (i32 (ix))) := eL1086 ▸ jg_ne (by decide) gL_5 rfl
        have gL1086_9 : jGet L1086 9 = some (.int (i32 (1))) := eL1086 ▸ jg_eq
        refine jx_ld (pc' := 211) (l' := L1086) (st' := [.int (i32 (1))]) rfl (jl_iload gL1086_9) ?_
        refine jx_if_ne (pc' := 214) (tg := 222) rfl rfl rfl (by decide) (by decide) (fun h1087 => ?_) (fun h1087 => ?_)
        · have _q := h1087
          have z1088 := tz_f (tk1)
          exact c_readGuard_w_at_222_1_1 (X := X) (d := d) (Vs := Vs) (sb := sb) (c0 := c0) (c1 := c1) (G := G) (A := A) (T := T) (ln := ln) (le := le) (at0 := at0) (fk := fk) (op0 := op0) (nd := nd) (tk0 := tk0) (li := li) (ec := ec) (hd := hd) (hW := hW) (e_ln := e_ln) (e_le := e_le) (e_at0 := e_at0) (e_fk := e_fk) (e_op0 := e_op0) (e_nd := e_nd) (e_tk0 := e_tk0) (e_li := e_li) (e_ec := e_ec) (i_SV := i_SV) (p_0 := p_0) (p_1 := p_1) (p_2 := p_2) (p_3 := p_3) (p_4 := p_4) L1086 Gx Ax (one) (s) (ix) (at1) (tk1) (fk1) (nd1) (op1) (ks) (ec1) gL1086_0 gL1086_6 gL1086_7 gL1086_1 gL1086_4 gL1086_5 hWx hFx hPx ((ex_at1)) ((ex_tk1)) ((ex_fk1)) ((ex_nd1)) ((ex_op1)) ((ex_ks)) (ex_ec1) ((fx_9)) (by omega) (by omega) (by omega) (by omega) (by omega) (by omega) (by omega) (by omega) (by omega) (by omega) (by omega) (by omega) (iv_10) (iv_11) (by omega) (by omega) (iv_13) (by omega)
        · have _q := h1087
          exact absurd h1087 (by omega)
set_option maxRecDepth 20000 in
set_option maxHeartbeats 4000000 in
theorem c_readGuard_w_at_157_1_0 {X : jX} {d : Nat} {Vs : Nat → Prop} {sb : Int} {c0 c1 : jC} {G : Nat → Int} {A : Nat → Nat → Int} {T : jH} {ln le at0 fk op0 nd tk0 li ec : Int} (hd : 71 ≤ d + 1) (hW : Wk G A) (e_ln : G 9 = ln) (e_le : A 4 (ln).toNat = le) (e_at0 : G 10 = at0) (e_fk : G 16 = fk) (e_op0 : G 15 = op0) (e_nd : G 31 = nd) (e_tk0 : G 11 = tk0) (e_li : G 3 = li) (e_ec : ecn A (G 31) = ec) (i_SV : SV Vs sb G A) (p_0 : 0 ≤ op0 ∧ op0 ≤ 8) (p_1 : fk = 0) (p_2 : nd ≤ 2 * at0 - tz tk0 + 42) (p_3 : at0 ≤ le) (p_4 : ln < li) : ∀ (L : jL) (Gx : Nat → Int) (Ax : Nat → Nat → Int) (one pl s ix at1 tk1 fk1 nd1 op1 ks ec1 : Int), jGet L 0 = some (.ref 66) → jGet L 6 = some (.int (i32 (1))) → jGet L 7 = some (.int (i32 (0))) → jGet L 8 = some (.int (i32 (ks))) → jGet L 1 = some (.int (i32 one)) → jGet L 3 = some (.int (i32 pl)) → jGet L 4 = some (.int (i32 s)) → jGet L 5 = some (.int (i32 ix)) → Wk Gx Ax → Fr [9, 10, 11, 12, 13, 14, 15, 16, 17, 18, 31] [15, 16, 17, 18, 19, 20, 21, 22, 24, 28] G A Gx Ax → Pf nd A Ax → Gx 10 = at1 → Gx 11 = tk1 → Gx 16 = fk1 → Gx 31 = nd1 → Gx 15 = op1 → Ax 7 (s).toNat = ks → ecn Ax (Gx 31) = ec1 → Gx 9 = ln → ((-2147483648 : Int) ≤ one ∧ one ≤ 2147483647) → ((-2147483648 : Int) ≤ pl ∧ pl ≤ 2147483647) → ((-2147483648 : Int) ≤ s ∧ s ≤ 2147483647) → ((-2147483648 : Int) ≤ ix ∧ ix ≤ 2147483647) → (at0 ≤ at1) → (at1 ≤ le) → (nd ≤ nd1) → (op1 = op0) → (one = nd) → (one ≤ 6998 ∧ one < nd1) → (fk1 = 0) → (nd1 - nd ≤ (2 * at1 - tz tk1) - (2 * at0 - tz tk0)) → (0 ≤ s ∧ s ≤ 201) → (-3000 ≤ pl ∧ pl ≤ 3002) → (SY Vs sb (s)) → (ND Ax (one) (33) (0) (0) (0) (0) (0) (0)) → (wE Ax Vs sb (20) (ix) (one + 1) (nd1)) → (nd1 - nd + 5 * (ec1 - ec) ≤ (2 * at1 - tz tk1) - (2 * at0 - tz tk0) - 5 - tz tk1) → wj X d jm303 (157, L, [], rV c0 c1 Gx Ax T) (fun o V' => ∃ (G' : Nat → Int) (A' : Nat → Nat → Int) (r : Int) (at2 : Int) (fk2 : Int) (nd2 : Int) (ln2 : Int) (ec2 : Int), V' = rV c0 c1 G' A' T ∧ o = .inl (some (.int (i32 r))) ∧ Wk G' A' ∧ Fr [9, 10, 11, 12, 13, 14, 15, 16, 17, 18, 31] [15, 16, 17, 18, 19, 20, 21, 22, 24, 28] G A G' A' ∧ Pf nd A A' ∧ ((-2147483648 : Int) ≤ r ∧ r ≤ 2147483647) ∧ G' 10 = at2 ∧ G' 16 = fk2 ∧ G' 31 = nd2 ∧ G' 9 = ln2 ∧ ecn A' (G' 31) = ec2 ∧ (at0 ≤ at2) ∧ (at2 ≤ le) ∧ (nd ≤ nd2) ∧ (0 ≤ r) ∧ (r ≤ nd2) ∧ (((1 ≤ fk2) ∧ (ln2 = ln) ∧ (nd2 - nd ≤ 2 * at2 - 2 * at0 + 12)) ∨ ((fk2 = 0) ∧ (ln2 = ln + 1) ∧ (nd2 - nd ≤ 2 * at2 - (2 * at0 - tz tk0) + 0) ∧ (nd ≤ r) ∧ (r < nd2) ∧ (wU A' Vs sb (r) (nd) (nd2)) ∧ (NX A' (r)) ∧ (nd2 - nd + 5 * (ec2 - ec) ≤ 2 * at2 - (2 * at0 - tz tk0) + 0)))) := by
  have hF0 : Fr [9, 10, 11, 12, 13, 14, 15, 16, 17, 18, 31] [15, 16, 17, 18, 19, 20, 21, 22, 24, 28] G A G A := Fr_rf
  have hP0 : Pf nd A A := Pf_rf
  have b_ln : (0 : Int) ≤ ln ∧ ln ≤ 3000 := e_ln ▸ hW.1 9
  have b_le : (0 : Int) ≤ le ∧ le ≤ 3000 := e_le ▸ hW.2 4 _
  have b_at0 : (0 : Int) ≤ at0 ∧ at0 ≤ 3002 := e_at0 ▸ hW.1 10
  have b_fk : (0 : Int) ≤ fk ∧ fk ≤ 6 := e_fk ▸ hW.1 16
  have b_op0 : (-2147483648 : Int) ≤ op0 ∧ op0 ≤ 2147483647 := e_op0 ▸ hW.1 15
  have b_nd : (0 : Int) ≤ nd ∧ nd ≤ 6999 := e_nd ▸ hW.1 31
  have z_tk0 := tz_f tk0
  have b_tk0 : (0 : Int) ≤ tk0 ∧ tk0 ≤ 5 := e_tk0 ▸ hW.1 11
  have b_li : (0 : Int) ≤ li ∧ li ≤ 3000 := e_li ▸ hW.1 3
  intro L Gx Ax one pl s ix at1 tk1 fk1 nd1 op1 ks ec1 gL_0 gL_6 gL_7 gL_8 gL_1 gL_3 gL_4 gL_5 hWx hFx hPx ex_at1 ex_tk1 ex_fk1 ex_nd1 ex_op1 ex_ks ex_ec1 fx_9 rx_one rx_pl rx_s rx_ix iv_0 iv_1 iv_2 iv_3 iv_4 iv_5 iv_6 iv_7 iv_8 iv_9 iv_10 iv_11 iv_12 iv_13
  have b_at1 : (0 : Int) ≤ at1 ∧ at1 ≤ 3002 := ex_at1 ▸ hWx.1 10
  have z_tk1 := tz_f tk1
  have b_tk1 : (0 : Int) ≤ tk1 ∧ tk1 ≤ 5 := ex_tk1 ▸ hWx.1 11
  have b_fk1 : (0 : Int) ≤ fk1 ∧ fk1 ≤ 6 := ex_fk1 ▸ hWx.1 16
  have b_nd1 : (0 : Int) ≤ nd1 ∧ nd1 ≤ 6999 := ex_nd1 ▸ hWx.1 31
  have b_op1 : (-2147483648 : Int) ≤ op1 ∧ op1 ≤ 2147483647 := ex_op1 ▸ hWx.1 15
  have b_ks : (0 : Int) ≤ ks ∧ ks ≤ 14 := ex_ks ▸ hWx.2 7 _
  refine jx_ld (pc' := 159) (l' := L) (st' := [.int (i32 (0))]) rfl (jl_iload gL_7) ?_
  refine jx_if_eq (pc' := 162) (tg := 189) rfl rfl rfl (by decide) (by decide) (fun h1089 => ?_) (fun h1089 => ?_)
  · have _q := h1089
    refine jx_ld (pc' := 191) (l' := L) (st' := [.int (i32 (1))]) rfl (jl_iload gL_6) ?_
    refine jx_if_eq (pc' := 194) (tg := 202) rfl rfl rfl (by decide) (by decide) (fun h1090 => ?_) (fun h1090 => ?_)
    · have _q := h1090
      exact absurd h1090 (by omega)
    · have _q := h1090
      refine jx_ld (pc' := 196) (l' := L) (st' := [.int (i32 (ks))]) rfl (jl_iload gL_8) ?_
      refine jx_st (pc' := 199) (as := [.int (i32 (ks))]) (st := []) rfl rfl ⟨rfl, Nat.le_of_ble_eq_true rfl⟩ rfl rfl rfl (c_isArray (dd := d) (hd := by omega) (k := ks)   (h_k := ⟨(Int.le_trans (by decide : (-2147483648 : Int) ≤ 0) b_ks.1), (Int.le_trans b_ks.2 (by decide : (14 : Int) ≤ 2147483647))⟩)  ) (fun o V' hq => ?_)
      obtain ⟨r1091, rfl, rfl, b1092, q1093⟩ := hq
      refine .inr ⟨_, rfl, ?_⟩
      rcases q1093 with ⟨rfl, a1094⟩ | rfl
      · have _q : True := trivial
        refine jx_go (tg := 207) rfl rfl ?_
        refine jx_ld (pc' := 209) (l' := jSto1 L 9 (.int (i32 (1)))) (st' := []) rfl rfl ?_
        obtain ⟨L1095, eL1095⟩ : ∃ q, q = jSto1 L 9 (.int (i32 (1))) := ⟨_, rfl⟩
        rw [← eL1095]
        have gL1095_0 : jGet L1095 0 = some (.ref 66) := eL1095 ▸ jg_ne (by decide) gL_0 rfl
        have gL1095_6 : jGet L1095 6 = some (.int (i32 (1))) := eL1095 ▸ jg_ne (by decide) gL_6 rfl
        have gL1095_7 : jGet L1095 7 = some (.int (i32 (0))) := eL1095 ▸ jg_ne (by decide) gL_7 rfl
        have gL1095_8 : jGet L1095 8 = some (.int (i32 (ks))) := eL1095 ▸ jg_ne (by decide) gL_8 rfl
        have gL1095_1 : jGet L1095 1 = some (.int (i32 (one))) := eL1095 ▸ jg_ne (by decide) gL_1 rfl
        have gL1095_3 : jGet L1095 3 = some (.int (i32 (pl))) := eL1095 ▸ jg_ne (by decide) gL_3 rfl
        have gL1095_4 : jGet L1095 4 = some (.int (i32 (s))) := eL1095 ▸ jg_ne (by decide) gL_4 rfl
        have gL1095_5 : jGet L1095 5 = some (.int (i32 (ix))) := eL1095 ▸ jg_ne (by decide) gL_5 rfl
        have gL1095_9 : jGet L1095 9 = some (.int (i32 (1))) := eL1095 ▸ jg_eq
        refine jx_ld (pc' := 211) (l' := L1095) (st' := [.int (i32 (1))]) rfl (jl_iload gL1095_9) ?_
        refine jx_if_ne (pc' := 214) (tg := 222) rfl rfl rfl (by decide) (by decide) (fun h1096 => ?_) (fun h1096 => ?_)
        · have _q := h1096
          have z1097 := tz_f (tk1)
          exact c_readGuard_w_at_222_1_0 (X := X) (d := d) (Vs := Vs) (sb := sb) (c0 := c0) (c1 := c1) (G := G) (A := A) (T := T) (ln := ln) (le := le) (at0 := at0) (fk := fk) (op0 := op0) (nd := nd) (tk0 := tk0) (li := li) (ec := ec) (hd := hd) (hW := hW) (e_ln := e_ln) (e_le := e_le) (e_at0 := e_at0) (e_fk := e_fk) (e_op0 := e_op0) (e_nd := e_nd) (e_tk0 := e_tk0) (e_li := e_li) (e_ec := e_ec) (i_SV := i_SV) (p_0 := p_0) (p_1 := p_1) (p_2 := p_2) (p_3 := p_3) (p_4 := p_4) L1095 Gx Ax (one) (s) (ix) (at1) (tk1) (fk1) (nd1) (op1) (ks) (ec1) gL1095_0 gL1095_6 gL1095_7 gL1095_1 gL1095_4 gL1095_5 hWx hFx hPx ((ex_at1)) ((ex_tk1)) ((ex_fk1)) ((ex_nd1)) ((ex_op1)) ((ex_ks)) (ex_ec1) ((fx_9)) (by omega) (by omega) (by omega) (by omega) (by omega) (by omega) (by omega) (by omega) (by omega) (by omega) (by omega) (by omega) (iv_10) (iv_11) (a1094) (iv_12) (by omega)
        · have _q := h1096
          exact absurd h1096 (by omega)
      · have _q : True := trivial
        refine jx_go (tg := 207) rfl rfl ?_
        refine jx_ld (pc' := 209) (l' := jSto1 L 9 (.int (i32 (0)))) (st' := []) rfl rfl ?_
        obtain ⟨L1098, eL1098⟩ : ∃ q, q = jSto1 L 9 (.int (i32 (0))) := ⟨_, rfl⟩
        rw [← eL1098]
        have gL1098_0 : jGet L1098 0 = some (.ref 66) := eL1098 ▸ jg_ne (by decide) gL_0 rfl
        have gL1098_6 : jGet L1098 6 = some (.int (i32 (1))) := eL1098 ▸ jg_ne (by decide) gL_6 rfl
        have gL1098_7 : jGet L1098 7 = some (.int (i32 (0))) := eL1098 ▸ jg_ne (by decide) gL_7 rfl
        have gL1098_8 : jGet L1098 8 = some (.int (i32 (ks))) := eL1098 ▸ jg_ne (by decide) gL_8 rfl
        have gL1098_1 : jGet L1098 1 = some (.int (i32 (one))) := eL1098 ▸ jg_ne (by decide) gL_1 rfl
        have gL1098_3 : jGet L1098 3 = some (.int (i32 (pl))) := eL1098 ▸ jg_ne (by decide) gL_3 rfl
        have gL1098_4 : jGet L1098 4 = some (.int (i32 (s))) := eL1098 ▸ jg_ne (by decide) gL_4 rfl
        have gL1098_5 : jGet L1098 5 = some (.int (i32 (ix))) := eL1098 ▸ jg_ne (by decide) gL_5 rfl
        have gL1098_9 : jGet L1098 9 = some (.int (i32 (0))) := eL1098 ▸ jg_eq
        refine jx_ld (pc' := 211) (l' := L1098) (st' := [.int (i32 (0))]) rfl (jl_iload gL1098_9) ?_
        refine jx_if_ne (pc' := 214) (tg := 222) rfl rfl rfl (by decide) (by decide) (fun h1099 => ?_) (fun h1099 => ?_)
        · have _q := h1099
          exact absurd h1099 (by omega)
        · have _q := h1099
          refine jx_ld (pc' := 215) (l' := L1098) (st' := [.ref 66]) rfl (jl_aloadn gL1098_0) ?_
          refine jx_ar (pc' := 216) (st' := [.int (i32 (4)), .ref 66]) rfl rfl rfl rfl ?_
          refine jx_ld (pc' := 217) (l' := L1098) (st' := [.int (i32 (pl)), .int (i32 (4)), .ref 66]) rfl (jl_iloadn gL1098_3) ?_
          refine jx_vr (pc' := 220) (as := [.int (i32 (4)), .int (i32 (pl))]) (st := []) rfl rfl rfl rfl ⟨rfl, rfl, Nat.le_of_ble_eq_true rfl⟩ rfl rfl (c_fail (dd := d) (hd := by omega) (hW := hWx) (kind := 4) (place := pl) (fk := fk1) (e_fk := show Gx 16 = fk1 from (ex_fk1))  (h_kind := ⟨(by decide), (by decide)⟩) (h_place := ⟨(Int.le_trans (by decide : (-2147483648 : Int) ≤ -2147483648) rx_pl.1), (Int.le_trans rx_pl.2 (by decide : (2147483647 : Int) ≤ 2147483647))⟩)  (p_0 := by omega) (p_1 := by omega)) (fun o V' hq => ?_)
          obtain ⟨G1100, A1101, fk2_1102, rfl, rfl, hW1103, hF1104, e1105, p1106, -⟩ := hq
          have hF1108 := Fr_tr hFx hF1104 (Fr_sub (by decide)) (Fr_sub (by decide))
          have hP1109 := Pf_f hPx hF1104 (by decide)
          have sf1110 : ND A1101 (one) (33) (0) (0) (0) (0) (0) (0) := ND_ag (by omega) (Ag_fr hF1104 (by decide)) iv_11
          have sf1111 : wE A1101 Vs sb (20) (ix) (one + 1) (nd1) := wE_ag (by omega) (Sg_fr hF1104 (by decide)) (Ag_fr hF1104 (by decide)) iv_12
          have ec1112 : ecn A1101 (G1100 31) = ec1 := (ecn_f (hF1104.2 15 rfl) (hF1104.1 31 rfl)).trans ex_ec1
          have bfk2_1102 : (0 : Int) ≤ fk2_1102 ∧ fk2_1102 ≤ 6 := e1105 ▸ hW1103.1 16
          refine .inl ⟨rfl, ?_⟩
          refine jx_ar (pc' := 221) (st' := [.int (i32 (0))]) rfl rfl rfl rfl ?_
          refine jx_rt (v := some (.int (i32 (0)))) rfl rfl rfl rfl rfl rfl ?_
          exact ⟨_, _, _, at1, fk2_1102, nd1, ln, ec1, rfl, rfl, hW1103, hF1108, hP1109, by omega, ((hF1104.1 10 rfl).trans (ex_at1)), (e1105), ((hF1104.1 31 rfl).trans (ex_nd1)), ((hF1104.1 9 rfl).trans (fx_9)), ec1112, by omega, by omega, by omega, by omega, by omega, by first | exact Or.inl (⟨by omega, by omega, by omega⟩)⟩
  · have _q := h1089
    exact absurd h1089 (by omega)
set_option maxRecDepth 20000 in
set_option maxHeartbeats 4000000 in
theorem c_readGuard_w_at_157_0_1 {X : jX} {d : Nat} {Vs : Nat → Prop} {sb : Int} {c0 c1 : jC} {G : Nat → Int} {A : Nat → Nat → Int} {T : jH} {ln le at0 fk op0 nd tk0 li ec : Int} (hd : 71 ≤ d + 1) (hW : Wk G A) (e_ln : G 9 = ln) (e_le : A 4 (ln).toNat = le) (e_at0 : G 10 = at0) (e_fk : G 16 = fk) (e_op0 : G 15 = op0) (e_nd : G 31 = nd) (e_tk0 : G 11 = tk0) (e_li : G 3 = li) (e_ec : ecn A (G 31) = ec) (i_SV : SV Vs sb G A) (p_0 : 0 ≤ op0 ∧ op0 ≤ 8) (p_1 : fk = 0) (p_2 : nd ≤ 2 * at0 - tz tk0 + 42) (p_3 : at0 ≤ le) (p_4 : ln < li) : ∀ (L : jL) (Gx : Nat → Int) (Ax : Nat → Nat → Int) (one pl s at1 tk1 fk1 nd1 op1 ks ec1 : Int), jGet L 0 = some (.ref 66) → jGet L 6 = some (.int (i32 (0))) → jGet L 7 = some (.int (i32 (1))) → jGet L 8 = some (.int (i32 (ks))) → jGet L 5 = some (.int (i32 (0))) → jGet L 1 = some (.int (i32 one)) → jGet L 3 = some (.int (i32 pl)) → jGet L 4 = some (.int (i32 s)) → Wk Gx Ax → Fr [9, 10, 11, 12, 13, 14, 15, 16, 17, 18, 31] [15, 16, 17, 18, 19, 20, 21, 22, 24, 28] G A Gx Ax → Pf nd A Ax → Gx 10 = at1 → Gx 11 = tk1 → Gx 16 = fk1 → Gx 31 = nd1 → Gx 15 = op1 → Ax 7 (s).toNat = ks → ecn Ax (Gx 31) = ec1 → Gx 9 = ln → ((-2147483648 : Int) ≤ one ∧ one ≤ 2147483647) → ((-2147483648 : Int) ≤ pl ∧ pl ≤ 2147483647) → ((-2147483648 : Int) ≤ s ∧ s ≤ 2147483647) → (at0 ≤ at1) → (at1 ≤ le) → (nd ≤ nd1) → (op1 = op0) → (one = nd) → (one ≤ 6998 ∧ one < nd1) → (fk1 = 0) → (nd1 - nd ≤ (2 * at1 - tz tk1) - (2 * at0 - tz tk0)) → (0 ≤ s ∧ s ≤ 201) → (-3000 ≤ pl ∧ pl ≤ 3002) → (SY Vs sb (s)) → (ND Ax (one) (33) (0) (0) (0) (0) (0) (0)) → (tz tk1 = 1) → (nd1 - nd + 5 * (ec1 - ec) ≤ (2 * at1 - tz tk1) - (2 * at0 - tz tk0) - tz tk1) → wj X d jm303 (157, L, [], rV c0 c1 Gx Ax T) (fun o V' => ∃ (G' : Nat → Int) (A' : Nat → Nat → Int) (r : Int) (at2 : Int) (fk2 : Int) (nd2 : Int) (ln2 : Int) (ec2 : Int), V' = rV c0 c1 G' A' T ∧ o = .inl (some (.int (i32 r))) ∧ Wk G' A' ∧ Fr [9, 10, 11, 12, 13, 14, 15, 16, 17, 18, 31] [15, 16, 17, 18, 19, 20, 21, 22, 24, 28] G A G' A' ∧ Pf nd A A' ∧ ((-2147483648 : Int) ≤ r ∧ r ≤ 2147483647) ∧ G' 10 = at2 ∧ G' 16 = fk2 ∧ G' 31 = nd2 ∧ G' 9 = ln2 ∧ ecn A' (G' 31) = ec2 ∧ (at0 ≤ at2) ∧ (at2 ≤ le) ∧ (nd ≤ nd2) ∧ (0 ≤ r) ∧ (r ≤ nd2) ∧ (((1 ≤ fk2) ∧ (ln2 = ln) ∧ (nd2 - nd ≤ 2 * at2 - 2 * at0 + 12)) ∨ ((fk2 = 0) ∧ (ln2 = ln + 1) ∧ (nd2 - nd ≤ 2 * at2 - (2 * at0 - tz tk0) + 0) ∧ (nd ≤ r) ∧ (r < nd2) ∧ (wU A' Vs sb (r) (nd) (nd2)) ∧ (NX A' (r)) ∧ (nd2 - nd + 5 * (ec2 - ec) ≤ 2 * at2 - (2 * at0 - tz tk0) + 0)))) := by
  have hF0 : Fr [9, 10, 11, 12, 13, 14, 15, 16, 17, 18, 31] [15, 16, 17, 18, 19, 20, 21, 22, 24, 28] G A G A := Fr_rf
  have hP0 : Pf nd A A := Pf_rf
  have b_ln : (0 : Int) ≤ ln ∧ ln ≤ 3000 := e_ln ▸ hW.1 9
  have b_le : (0 : Int) ≤ le ∧ le ≤ 3000 := e_le ▸ hW.2 4 _
  have b_at0 : (0 : Int) ≤ at0 ∧ at0 ≤ 3002 := e_at0 ▸ hW.1 10
  have b_fk : (0 : Int) ≤ fk ∧ fk ≤ 6 := e_fk ▸ hW.1 16
  have b_op0 : (-2147483648 : Int) ≤ op0 ∧ op0 ≤ 2147483647 := e_op0 ▸ hW.1 15
  have b_nd : (0 : Int) ≤ nd ∧ nd ≤ 6999 := e_nd ▸ hW.1 31
  have z_tk0 := tz_f tk0
  have b_tk0 : (0 : Int) ≤ tk0 ∧ tk0 ≤ 5 := e_tk0 ▸ hW.1 11
  have b_li : (0 : Int) ≤ li ∧ li ≤ 3000 := e_li ▸ hW.1 3
  intro L Gx Ax one pl s at1 tk1 fk1 nd1 op1 ks ec1 gL_0 gL_6 gL_7 gL_8 gL_5 gL_1 gL_3 gL_4 hWx hFx hPx ex_at1 ex_tk1 ex_fk1 ex_nd1 ex_op1 ex_ks ex_ec1 fx_9 rx_one rx_pl rx_s iv_0 iv_1 iv_2 iv_3 iv_4 iv_5 iv_6 iv_7 iv_8 iv_9 iv_10 iv_11 iv_12 iv_13
  have b_at1 : (0 : Int) ≤ at1 ∧ at1 ≤ 3002 := ex_at1 ▸ hWx.1 10
  have z_tk1 := tz_f tk1
  have b_tk1 : (0 : Int) ≤ tk1 ∧ tk1 ≤ 5 := ex_tk1 ▸ hWx.1 11
  have b_fk1 : (0 : Int) ≤ fk1 ∧ fk1 ≤ 6 := ex_fk1 ▸ hWx.1 16
  have b_nd1 : (0 : Int) ≤ nd1 ∧ nd1 ≤ 6999 := ex_nd1 ▸ hWx.1 31
  have b_op1 : (-2147483648 : Int) ≤ op1 ∧ op1 ≤ 2147483647 := ex_op1 ▸ hWx.1 15
  have b_ks : (0 : Int) ≤ ks ∧ ks ≤ 14 := ex_ks ▸ hWx.2 7 _
  refine jx_ld (pc' := 159) (l' := L) (st' := [.int (i32 (1))]) rfl (jl_iload gL_7) ?_
  refine jx_if_eq (pc' := 162) (tg := 189) rfl rfl rfl (by decide) (by decide) (fun h1113 => ?_) (fun h1113 => ?_)
  · have _q := h1113
    exact absurd h1113 (by omega)
  · have _q := h1113
    refine jx_ld (pc' := 164) (l' := L) (st' := [.int (i32 (0))]) rfl (jl_iload gL_6) ?_
    refine jx_if_eq (pc' := 167) (tg := 181) rfl rfl rfl (by decide) (by decide) (fun h1114 => ?_) (fun h1114 => ?_)
    · have _q := h1114
      refine jx_ld (pc' := 183) (l' := L) (st' := [.int (i32 (ks))]) rfl (jl_iload gL_8) ?_
      refine jx_st (pc' := 186) (as := [.int (i32 (ks))]) (st := []) rfl rfl ⟨rfl, Nat.le_of_ble_eq_true rfl⟩ rfl rfl rfl (c_isChannel (dd := d) (hd := by omega) (k := ks)   (h_k := ⟨(Int.le_trans (by decide : (-2147483648 : Int) ≤ 0) b_ks.1), (Int.le_trans b_ks.2 (by decide : (14 : Int) ≤ 2147483647))⟩)  ) (fun o V' hq => ?_)
      obtain ⟨r1115, rfl, rfl, b1116, q1117⟩ := hq
      refine .inr ⟨_, rfl, ?_⟩
      rcases q1117 with ⟨rfl, a1118⟩ | rfl
      · have _q : True := trivial
        refine jx_go (tg := 207) rfl rfl ?_
        refine jx_ld (pc' := 209) (l' := jSto1 L 9 (.int (i32 (1)))) (st' := []) rfl rfl ?_
        obtain ⟨L1119, eL1119⟩ : ∃ q, q = jSto1 L 9 (.int (i32 (1))) := ⟨_, rfl⟩
        rw [← eL1119]
        have gL1119_0 : jGet L1119 0 = some (.ref 66) := eL1119 ▸ jg_ne (by decide) gL_0 rfl
        have gL1119_6 : jGet L1119 6 = some (.int (i32 (0))) := eL1119 ▸ jg_ne (by decide) gL_6 rfl
        have gL1119_7 : jGet L1119 7 = some (.int (i32 (1))) := eL1119 ▸ jg_ne (by decide) gL_7 rfl
        have gL1119_8 : jGet L1119 8 = some (.int (i32 (ks))) := eL1119 ▸ jg_ne (by decide) gL_8 rfl
        have gL1119_5 : jGet L1119 5 = some (.int (i32 (0))) := eL1119 ▸ jg_ne (by decide) gL_5 rfl
        have gL1119_1 : jGet L1119 1 = some (.int (i32 (one))) := eL1119 ▸ jg_ne (by decide) gL_1 rfl
        have gL1119_3 : jGet L1119 3 = some (.int (i32 (pl))) := eL1119 ▸ jg_ne (by decide) gL_3 rfl
        have gL1119_4 : jGet L1119 4 = some (.int (i32 (s))) := eL1119 ▸ jg_ne (by decide) gL_4 rfl
        have gL1119_9 : jGet L1119 9 = some (.int (i32 (1))) := eL1119 ▸ jg_eq
        refine jx_ld (pc' := 211) (l' := L1119) (st' := [.int (i32 (1))]) rfl (jl_iload gL1119_9) ?_
        refine jx_if_ne (pc' := 214) (tg := 222) rfl rfl rfl (by decide) (by decide) (fun h1120 => ?_) (fun h1120 => ?_)
        · have _q := h1120
          have z1121 := tz_f (tk1)
          exact c_readGuard_w_at_222_0_1 (X := X) (d := d) (Vs := Vs) (sb := sb) (c0 := c0) (c1 := c1) (G := G) (A := A) (T := T) (ln := ln) (le := le) (at0 := at0) (fk := fk) (op0 := op0) (nd := nd) (tk0 := tk0) (li := li) (ec := ec) (hd := hd) (hW := hW) (e_ln := e_ln) (e_le := e_le) (e_at0 := e_at0) (e_fk := e_fk) (e_op0 := e_op0) (e_nd := e_nd) (e_tk0 := e_tk0) (e_li := e_li) (e_ec := e_ec) (i_SV := i_SV) (p_0 := p_0) (p_1 := p_1) (p_2 := p_2) (p_3 := p_3) (p_4 := p_4) L1119 Gx Ax (one) (s) (at1) (tk1) (fk1) (nd1) (op1) (ks) (ec1) gL1119_0 gL1119_6 gL1119_7 gL1119_5 gL1119_1 gL1119_4 hWx hFx hPx ((ex_at1)) ((ex_tk1)) ((ex_fk1)) ((ex_nd1)) ((ex_op1)) ((ex_ks)) (ex_ec1) ((fx_9)) (by omega) (by omega) (by omega) (by omega) (by omega) (by omega) (by omega) (by omega) (by omega) (by omega) (by omega) (iv_10) (iv_11) (by omega) (a1118) (by omega)
        · have _q := h1120
          exact absurd h1120 (by omega)
      · have _q : True := trivial
        refine jx_go (tg := 207) rfl rfl ?_
        refine jx_ld (pc' := 209) (l' := jSto1 L 9 (.int (i32 (0)))) (st' := []) rfl rfl ?_
        obtain ⟨L1122, eL1122⟩ : ∃ q, q = jSto1 L 9 (.int (i32 (0))) := ⟨_, rfl⟩
        rw [← eL1122]
        have gL1122_0 : jGet L1122 0 = some (.ref 66) := eL1122 ▸ jg_ne (by decide) gL_0 rfl
        have gL1122_6 : jGet L1122 6 = some (.int (i32 (0))) := eL1122 ▸ jg_ne (by decide) gL_6 rfl
        have gL1122_7 : jGet L1122 7 = some (.int (i32 (1))) := eL1122 ▸ jg_ne (by decide) gL_7 rfl
        have gL1122_8 : jGet L1122 8 = some (.int (i32 (ks))) := eL1122 ▸ jg_ne (by decide) gL_8 rfl
        have gL1122_5 : jGet L1122 5 = some (.int (i32 (0))) := eL1122 ▸ jg_ne (by decide) gL_5 rfl
        have gL1122_1 : jGet L1122 1 = some (.int (i32 (one))) := eL1122 ▸ jg_ne (by decide) gL_1 rfl
        have gL1122_3 : jGet L1122 3 = some (.int (i32 (pl))) := eL1122 ▸ jg_ne (by decide) gL_3 rfl
        have gL1122_4 : jGet L1122 4 = some (.int (i32 (s))) := eL1122 ▸ jg_ne (by decide) gL_4 rfl
        have gL1122_9 : jGet L1122 9 = some (.int (i32 (0))) := eL1122 ▸ jg_eq
        refine jx_ld (pc' := 211) (l' := L1122) (st' := [.int (i32 (0))]) rfl (jl_iload gL1122_9) ?_
        refine jx_if_ne (pc' := 214) (tg := 222) rfl rfl rfl (by decide) (by decide) (fun h1123 => ?_) (fun h1123 => ?_)
        · have _q := h1123
          exact absurd h1123 (by omega)
        · have _q := h1123
          refine jx_ld (pc' := 215) (l' := L1122) (st' := [.ref 66]) rfl (jl_aloadn gL1122_0) ?_
          refine jx_ar (pc' := 216) (st' := [.int (i32 (4)), .ref 66]) rfl rfl rfl rfl ?_
          refine jx_ld (pc' := 217) (l' := L1122) (st' := [.int (i32 (pl)), .int (i32 (4)), .ref 66]) rfl (jl_iloadn gL1122_3) ?_
          refine jx_vr (pc' := 220) (as := [.int (i32 (4)), .int (i32 (pl))]) (st := []) rfl rfl rfl rfl ⟨rfl, rfl, Nat.le_of_ble_eq_true rfl⟩ rfl rfl (c_fail (dd := d) (hd := by omega) (hW := hWx) (kind := 4) (place := pl) (fk := fk1) (e_fk := show Gx 16 = fk1 from (ex_fk1))  (h_kind := ⟨(by decide), (by decide)⟩) (h_place := ⟨(Int.le_trans (by decide : (-2147483648 : Int) ≤ -2147483648) rx_pl.1), (Int.le_trans rx_pl.2 (by decide : (2147483647 : Int) ≤ 2147483647))⟩)  (p_0 := by omega) (p_1 := by omega)) (fun o V' hq => ?_)
          obtain ⟨G1124, A1125, fk2_1126, rfl, rfl, hW1127, hF1128, e1129, p1130, -⟩ := hq
          have hF1132 := Fr_tr hFx hF1128 (Fr_sub (by decide)) (Fr_sub (by decide))
          have hP1133 := Pf_f hPx hF1128 (by decide)
          have sf1134 : ND A1125 (one) (33) (0) (0) (0) (0) (0) (0) := ND_ag (by omega) (Ag_fr hF1128 (by decide)) iv_11
          have ec1135 : ecn A1125 (G1124 31) = ec1 := (ecn_f (hF1128.2 15 rfl) (hF1128.1 31 rfl)).trans ex_ec1
          have bfk2_1126 : (0 : Int) ≤ fk2_1126 ∧ fk2_1126 ≤ 6 := e1129 ▸ hW1127.1 16
          refine .inl ⟨rfl, ?_⟩
          refine jx_ar (pc' := 221) (st' := [.int (i32 (0))]) rfl rfl rfl rfl ?_
          refine jx_rt (v := some (.int (i32 (0)))) rfl rfl rfl rfl rfl rfl ?_
          exact ⟨_, _, _, at1, fk2_1126, nd1, ln, ec1, rfl, rfl, hW1127, hF1132, hP1133, by omega, ((hF1128.1 10 rfl).trans (ex_at1)), (e1129), ((hF1128.1 31 rfl).trans (ex_nd1)), ((hF1128.1 9 rfl).trans (fx_9)), ec1135, by omega, by omega, by omega, by omega, by omega, by first | exact Or.inl (⟨by omega, by omega, by omega⟩)⟩
    · have _q := h1114
      exact absurd h1114 (by omega)
set_option maxRecDepth 20000 in
set_option maxHeartbeats 4000000 in
theorem c_readGuard_w_at_157_0_0 {X : jX} {d : Nat} {Vs : Nat → Prop} {sb : Int} {c0 c1 : jC} {G : Nat → Int} {A : Nat → Nat → Int} {T : jH} {ln le at0 fk op0 nd tk0 li ec : Int} (hd : 71 ≤ d + 1) (hW : Wk G A) (e_ln : G 9 = ln) (e_le : A 4 (ln).toNat = le) (e_at0 : G 10 = at0) (e_fk : G 16 = fk) (e_op0 : G 15 = op0) (e_nd : G 31 = nd) (e_tk0 : G 11 = tk0) (e_li : G 3 = li) (e_ec : ecn A (G 31) = ec) (i_SV : SV Vs sb G A) (p_0 : 0 ≤ op0 ∧ op0 ≤ 8) (p_1 : fk = 0) (p_2 : nd ≤ 2 * at0 - tz tk0 + 42) (p_3 : at0 ≤ le) (p_4 : ln < li) : ∀ (L : jL) (Gx : Nat → Int) (Ax : Nat → Nat → Int) (one pl s at1 tk1 fk1 nd1 op1 ks ec1 : Int), jGet L 0 = some (.ref 66) → jGet L 6 = some (.int (i32 (0))) → jGet L 7 = some (.int (i32 (0))) → jGet L 8 = some (.int (i32 (ks))) → jGet L 5 = some (.int (i32 (0))) → jGet L 1 = some (.int (i32 one)) → jGet L 3 = some (.int (i32 pl)) → jGet L 4 = some (.int (i32 s)) → Wk Gx Ax → Fr [9, 10, 11, 12, 13, 14, 15, 16, 17, 18, 31] [15, 16, 17, 18, 19, 20, 21, 22, 24, 28] G A Gx Ax → Pf nd A Ax → Gx 10 = at1 → Gx 11 = tk1 → Gx 16 = fk1 → Gx 31 = nd1 → Gx 15 = op1 → Ax 7 (s).toNat = ks → ecn Ax (Gx 31) = ec1 → Gx 9 = ln → ((-2147483648 : Int) ≤ one ∧ one ≤ 2147483647) → ((-2147483648 : Int) ≤ pl ∧ pl ≤ 2147483647) → ((-2147483648 : Int) ≤ s ∧ s ≤ 2147483647) → (at0 ≤ at1) → (at1 ≤ le) → (nd ≤ nd1) → (op1 = op0) → (one = nd) → (one ≤ 6998 ∧ one < nd1) → (fk1 = 0) → (nd1 - nd ≤ (2 * at1 - tz tk1) - (2 * at0 - tz tk0)) → (0 ≤ s ∧ s ≤ 201) → (-3000 ≤ pl ∧ pl ≤ 3002) → (SY Vs sb (s)) → (ND Ax (one) (33) (0) (0) (0) (0) (0) (0)) → (nd1 - nd + 5 * (ec1 - ec) ≤ (2 * at1 - tz tk1) - (2 * at0 - tz tk0) - tz tk1) → wj X d jm303 (157, L, [], rV c0 c1 Gx Ax T) (fun o V' => ∃ (G' : Nat → Int) (A' : Nat → Nat → Int) (r : Int) (at2 : Int) (fk2 : Int) (nd2 : Int) (ln2 : Int) (ec2 : Int), V' = rV c0 c1 G' A' T ∧ o = .inl (some (.int (i32 r))) ∧ Wk G' A' ∧ Fr [9, 10, 11, 12, 13, 14, 15, 16, 17, 18, 31] [15, 16, 17, 18, 19, 20, 21, 22, 24, 28] G A G' A' ∧ Pf nd A A' ∧ ((-2147483648 : Int) ≤ r ∧ r ≤ 2147483647) ∧ G' 10 = at2 ∧ G' 16 = fk2 ∧ G' 31 = nd2 ∧ G' 9 = ln2 ∧ ecn A' (G' 31) = ec2 ∧ (at0 ≤ at2) ∧ (at2 ≤ le) ∧ (nd ≤ nd2) ∧ (0 ≤ r) ∧ (r ≤ nd2) ∧ (((1 ≤ fk2) ∧ (ln2 = ln) ∧ (nd2 - nd ≤ 2 * at2 - 2 * at0 + 12)) ∨ ((fk2 = 0) ∧ (ln2 = ln + 1) ∧ (nd2 - nd ≤ 2 * at2 - (2 * at0 - tz tk0) + 0) ∧ (nd ≤ r) ∧ (r < nd2) ∧ (wU A' Vs sb (r) (nd) (nd2)) ∧ (NX A' (r)) ∧ (nd2 - nd + 5 * (ec2 - ec) ≤ 2 * at2 - (2 * at0 - tz tk0) + 0)))) := by
  have hF0 : Fr [9, 10, 11, 12, 13, 14, 15, 16, 17, 18, 31] [15, 16, 17, 18, 19, 20, 21, 22, 24, 28] G A G A := Fr_rf
  have hP0 : Pf nd A A := Pf_rf
  have b_ln : (0 : Int) ≤ ln ∧ ln ≤ 3000 := e_ln ▸ hW.1 9
  have b_le : (0 : Int) ≤ le ∧ le ≤ 3000 := e_le ▸ hW.2 4 _
  have b_at0 : (0 : Int) ≤ at0 ∧ at0 ≤ 3002 := e_at0 ▸ hW.1 10
  have b_fk : (0 : Int) ≤ fk ∧ fk ≤ 6 := e_fk ▸ hW.1 16
  have b_op0 : (-2147483648 : Int) ≤ op0 ∧ op0 ≤ 2147483647 := e_op0 ▸ hW.1 15
  have b_nd : (0 : Int) ≤ nd ∧ nd ≤ 6999 := e_nd ▸ hW.1 31
  have z_tk0 := tz_f tk0
  have b_tk0 : (0 : Int) ≤ tk0 ∧ tk0 ≤ 5 := e_tk0 ▸ hW.1 11
  have b_li : (0 : Int) ≤ li ∧ li ≤ 3000 := e_li ▸ hW.1 3
  intro L Gx Ax one pl s at1 tk1 fk1 nd1 op1 ks ec1 gL_0 gL_6 gL_7 gL_8 gL_5 gL_1 gL_3 gL_4 hWx hFx hPx ex_at1 ex_tk1 ex_fk1 ex_nd1 ex_op1 ex_ks ex_ec1 fx_9 rx_one rx_pl rx_s iv_0 iv_1 iv_2 iv_3 iv_4 iv_5 iv_6 iv_7 iv_8 iv_9 iv_10 iv_11 iv_12
  have b_at1 : (0 : Int) ≤ at1 ∧ at1 ≤ 3002 := ex_at1 ▸ hWx.1 10
  have z_tk1 := tz_f tk1
  have b_tk1 : (0 : Int) ≤ tk1 ∧ tk1 ≤ 5 := ex_tk1 ▸ hWx.1 11
  have b_fk1 : (0 : Int) ≤ fk1 ∧ fk1 ≤ 6 := ex_fk1 ▸ hWx.1 16
  have b_nd1 : (0 : Int) ≤ nd1 ∧ nd1 ≤ 6999 := ex_nd1 ▸ hWx.1 31
  have b_op1 : (-2147483648 : Int) ≤ op1 ∧ op1 ≤ 2147483647 := ex_op1 ▸ hWx.1 15
  have b_ks : (0 : Int) ≤ ks ∧ ks ≤ 14 := ex_ks ▸ hWx.2 7 _
  refine jx_ld (pc' := 159) (l' := L) (st' := [.int (i32 (0))]) rfl (jl_iload gL_7) ?_
  refine jx_if_eq (pc' := 162) (tg := 189) rfl rfl rfl (by decide) (by decide) (fun h1136 => ?_) (fun h1136 => ?_)
  · have _q := h1136
    refine jx_ld (pc' := 191) (l' := L) (st' := [.int (i32 (0))]) rfl (jl_iload gL_6) ?_
    refine jx_if_eq (pc' := 194) (tg := 202) rfl rfl rfl (by decide) (by decide) (fun h1137 => ?_) (fun h1137 => ?_)
    · have _q := h1137
      refine jx_ld (pc' := 204) (l' := L) (st' := [.int (i32 (ks))]) rfl (jl_iload gL_8) ?_
      refine jx_st (pc' := 207) (as := [.int (i32 (ks))]) (st := []) rfl rfl ⟨rfl, Nat.le_of_ble_eq_true rfl⟩ rfl rfl rfl (c_isValue (dd := d) (hd := by omega) (k := ks)   (h_k := ⟨(Int.le_trans (by decide : (-2147483648 : Int) ≤ 0) b_ks.1), (Int.le_trans b_ks.2 (by decide : (14 : Int) ≤ 2147483647))⟩)  ) (fun o V' hq => ?_)
      obtain ⟨r1138, rfl, rfl, b1139, q1140⟩ := hq
      refine .inr ⟨_, rfl, ?_⟩
      rcases q1140 with ⟨rfl, a1141⟩ | rfl
      · have _q : True := trivial
        refine jx_ld (pc' := 209) (l' := jSto1 L 9 (.int (i32 (1)))) (st' := []) rfl rfl ?_
        obtain ⟨L1142, eL1142⟩ : ∃ q, q = jSto1 L 9 (.int (i32 (1))) := ⟨_, rfl⟩
        rw [← eL1142]
        have gL1142_0 : jGet L1142 0 = some (.ref 66) := eL1142 ▸ jg_ne (by decide) gL_0 rfl
        have gL1142_6 : jGet L1142 6 = some (.int (i32 (0))) := eL1142 ▸ jg_ne (by decide) gL_6 rfl
        have gL1142_7 : jGet L1142 7 = some (.int (i32 (0))) := eL1142 ▸ jg_ne (by decide) gL_7 rfl
        have gL1142_8 : jGet L1142 8 = some (.int (i32 (ks))) := eL1142 ▸ jg_ne (by decide) gL_8 rfl
        have gL1142_5 : jGet L1142 5 = some (.int (i32 (0))) := eL1142 ▸ jg_ne (by decide) gL_5 rfl
        have gL1142_1 : jGet L1142 1 = some (.int (i32 (one))) := eL1142 ▸ jg_ne (by decide) gL_1 rfl
        have gL1142_3 : jGet L1142 3 = some (.int (i32 (pl))) := eL1142 ▸ jg_ne (by decide) gL_3 rfl
        have gL1142_4 : jGet L1142 4 = some (.int (i32 (s))) := eL1142 ▸ jg_ne (by decide) gL_4 rfl
        have gL1142_9 : jGet L1142 9 = some (.int (i32 (1))) := eL1142 ▸ jg_eq
        refine jx_ld (pc' := 211) (l' := L1142) (st' := [.int (i32 (1))]) rfl (jl_iload gL1142_9) ?_
        refine jx_if_ne (pc' := 214) (tg := 222) rfl rfl rfl (by decide) (by decide) (fun h1143 => ?_) (fun h1143 => ?_)
        · have _q := h1143
          have z1144 := tz_f (tk1)
          exact c_readGuard_w_at_222_0_0 (X := X) (d := d) (Vs := Vs) (sb := sb) (c0 := c0) (c1 := c1) (G := G) (A := A) (T := T) (ln := ln) (le := le) (at0 := at0) (fk := fk) (op0 := op0) (nd := nd) (tk0 := tk0) (li := li) (ec := ec) (hd := hd) (hW := hW) (e_ln := e_ln) (e_le := e_le) (e_at0 := e_at0) (e_fk := e_fk) (e_op0 := e_op0) (e_nd := e_nd) (e_tk0 := e_tk0) (e_li := e_li) (e_ec := e_ec) (i_SV := i_SV) (p_0 := p_0) (p_1 := p_1) (p_2 := p_2) (p_3 := p_3) (p_4 := p_4) L1142 Gx Ax (one) (s) (at1) (tk1) (fk1) (nd1) (op1) (ks) (ec1) gL1142_0 gL1142_6 gL1142_7 gL1142_5 gL1142_1 gL1142_4 hWx hFx hPx ((ex_at1)) ((ex_tk1)) ((ex_fk1)) ((ex_nd1)) ((ex_op1)) ((ex_ks)) (ex_ec1) ((fx_9)) (by omega) (by omega) (by omega) (by omega) (by omega) (by omega) (by omega) (by omega) (by omega) (by omega) (by omega) (iv_10) (iv_11) (a1141) (by omega)
        · have _q := h1143
          exact absurd h1143 (by omega)
      · have _q : True := trivial
        refine jx_ld (pc' := 209) (l' := jSto1 L 9 (.int (i32 (0)))) (st' := []) rfl rfl ?_
        obtain ⟨L1145, eL1145⟩ : ∃ q, q = jSto1 L 9 (.int (i32 (0))) := ⟨_, rfl⟩
        rw [← eL1145]
        have gL1145_0 : jGet L1145 0 = some (.ref 66) := eL1145 ▸ jg_ne (by decide) gL_0 rfl
        have gL1145_6 : jGet L1145 6 = some (.int (i32 (0))) := eL1145 ▸ jg_ne (by decide) gL_6 rfl
        have gL1145_7 : jGet L1145 7 = some (.int (i32 (0))) := eL1145 ▸ jg_ne (by decide) gL_7 rfl
        have gL1145_8 : jGet L1145 8 = some (.int (i32 (ks))) := eL1145 ▸ jg_ne (by decide) gL_8 rfl
        have gL1145_5 : jGet L1145 5 = some (.int (i32 (0))) := eL1145 ▸ jg_ne (by decide) gL_5 rfl
        have gL1145_1 : jGet L1145 1 = some (.int (i32 (one))) := eL1145 ▸ jg_ne (by decide) gL_1 rfl
        have gL1145_3 : jGet L1145 3 = some (.int (i32 (pl))) := eL1145 ▸ jg_ne (by decide) gL_3 rfl
        have gL1145_4 : jGet L1145 4 = some (.int (i32 (s))) := eL1145 ▸ jg_ne (by decide) gL_4 rfl
        have gL1145_9 : jGet L1145 9 = some (.int (i32 (0))) := eL1145 ▸ jg_eq
        refine jx_ld (pc' := 211) (l' := L1145) (st' := [.int (i32 (0))]) rfl (jl_iload gL1145_9) ?_
        refine jx_if_ne (pc' := 214) (tg := 222) rfl rfl rfl (by decide) (by decide) (fun h1146 => ?_) (fun h1146 => ?_)
        · have _q := h1146
          exact absurd h1146 (by omega)
        · have _q := h1146
          refine jx_ld (pc' := 215) (l' := L1145) (st' := [.ref 66]) rfl (jl_aloadn gL1145_0) ?_
          refine jx_ar (pc' := 216) (st' := [.int (i32 (4)), .ref 66]) rfl rfl rfl rfl ?_
          refine jx_ld (pc' := 217) (l' := L1145) (st' := [.int (i32 (pl)), .int (i32 (4)), .ref 66]) rfl (jl_iloadn gL1145_3) ?_
          refine jx_vr (pc' := 220) (as := [.int (i32 (4)), .int (i32 (pl))]) (st := []) rfl rfl rfl rfl ⟨rfl, rfl, Nat.le_of_ble_eq_true rfl⟩ rfl rfl (c_fail (dd := d) (hd := by omega) (hW := hWx) (kind := 4) (place := pl) (fk := fk1) (e_fk := show Gx 16 = fk1 from (ex_fk1))  (h_kind := ⟨(by decide), (by decide)⟩) (h_place := ⟨(Int.le_trans (by decide : (-2147483648 : Int) ≤ -2147483648) rx_pl.1), (Int.le_trans rx_pl.2 (by decide : (2147483647 : Int) ≤ 2147483647))⟩)  (p_0 := by omega) (p_1 := by omega)) (fun o V' hq => ?_)
          obtain ⟨G1147, A1148, fk2_1149, rfl, rfl, hW1150, hF1151, e1152, p1153, -⟩ := hq
          have hF1155 := Fr_tr hFx hF1151 (Fr_sub (by decide)) (Fr_sub (by decide))
          have hP1156 := Pf_f hPx hF1151 (by decide)
          have sf1157 : ND A1148 (one) (33) (0) (0) (0) (0) (0) (0) := ND_ag (by omega) (Ag_fr hF1151 (by decide)) iv_11
          have ec1158 : ecn A1148 (G1147 31) = ec1 := (ecn_f (hF1151.2 15 rfl) (hF1151.1 31 rfl)).trans ex_ec1
          have bfk2_1149 : (0 : Int) ≤ fk2_1149 ∧ fk2_1149 ≤ 6 := e1152 ▸ hW1150.1 16
          refine .inl ⟨rfl, ?_⟩
          refine jx_ar (pc' := 221) (st' := [.int (i32 (0))]) rfl rfl rfl rfl ?_
          refine jx_rt (v := some (.int (i32 (0)))) rfl rfl rfl rfl rfl rfl ?_
          exact ⟨_, _, _, at1, fk2_1149, nd1, ln, ec1, rfl, rfl, hW1150, hF1155, hP1156, by omega, ((hF1151.1 10 rfl).trans (ex_at1)), (e1152), ((hF1151.1 31 rfl).trans (ex_nd1)), ((hF1151.1 9 rfl).trans (fx_9)), ec1158, by omega, by omega, by omega, by omega, by omega, by first | exact Or.inl (⟨by omega, by omega, by omega⟩)⟩
    · have _q := h1137
      exact absurd h1137 (by omega)
  · have _q := h1136
    exact absurd h1136 (by omega)
set_option maxRecDepth 20000 in
set_option maxHeartbeats 4000000 in
theorem c_readGuard_w_at_108_1 {X : jX} {d : Nat} {Vs : Nat → Prop} {sb : Int} {c0 c1 : jC} {G : Nat → Int} {A : Nat → Nat → Int} {T : jH} {ln le at0 fk op0 nd tk0 li ec : Int} (hd : 71 ≤ d + 1) (hW : Wk G A) (e_ln : G 9 = ln) (e_le : A 4 (ln).toNat = le) (e_at0 : G 10 = at0) (e_fk : G 16 = fk) (e_op0 : G 15 = op0) (e_nd : G 31 = nd) (e_tk0 : G 11 = tk0) (e_li : G 3 = li) (e_ec : ecn A (G 31) = ec) (i_SV : SV Vs sb G A) (p_0 : 0 ≤ op0 ∧ op0 ≤ 8) (p_1 : fk = 0) (p_2 : nd ≤ 2 * at0 - tz tk0 + 42) (p_3 : at0 ≤ le) (p_4 : ln < li) : ∀ (L : jL) (Gx : Nat → Int) (Ax : Nat → Nat → Int) (one pl s ix at1 tk1 fk1 nd1 op1 ks ec1 : Int), jGet L 0 = some (.ref 66) → jGet L 6 = some (.int (i32 (1))) → jGet L 1 = some (.int (i32 one)) → jGet L 3 = some (.int (i32 pl)) → jGet L 4 = some (.int (i32 s)) → jGet L 5 = some (.int (i32 ix)) → Wk Gx Ax → Fr [9, 10, 11, 12, 13, 14, 15, 16, 17, 18, 31] [15, 16, 17, 18, 19, 20, 21, 22, 24, 28] G A Gx Ax → Pf nd A Ax → Gx 10 = at1 → Gx 11 = tk1 → Gx 16 = fk1 → Gx 31 = nd1 → Gx 15 = op1 → Ax 7 (s).toNat = ks → ecn Ax (Gx 31) = ec1 → Gx 9 = ln → ((-2147483648 : Int) ≤ one ∧ one ≤ 2147483647) → ((-2147483648 : Int) ≤ pl ∧ pl ≤ 2147483647) → ((-2147483648 : Int) ≤ s ∧ s ≤ 2147483647) → ((-2147483648 : Int) ≤ ix ∧ ix ≤ 2147483647) → (at0 ≤ at1) → (at1 ≤ le) → (nd ≤ nd1) → (op1 = op0) → (one = nd) → (one ≤ 6998 ∧ one < nd1) → (fk1 = 0) → (nd1 - nd ≤ (2 * at1 - tz tk1) - (2 * at0 - tz tk0)) → (0 ≤ s ∧ s ≤ 201) → (-3000 ≤ pl ∧ pl ≤ 3002) → (SY Vs sb (s)) → (ND Ax (one) (33) (0) (0) (0) (0) (0) (0)) → (wE Ax Vs sb (20) (ix) (one + 1) (nd1)) → (nd1 - nd + 5 * (ec1 - ec) ≤ (2 * at1 - tz tk1) - (2 * at0 - tz tk0) - 5 - tz tk1) → wj X d jm303 (108, L, [], rV c0 c1 Gx Ax T) (fun o V' => ∃ (G' : Nat → Int) (A' : Nat → Nat → Int) (r : Int) (at2 : Int) (fk2 : Int) (nd2 : Int) (ln2 : Int) (ec2 : Int), V' = rV c0 c1 G' A' T ∧ o = .inl (some (.int (i32 r))) ∧ Wk G' A' ∧ Fr [9, 10, 11, 12, 13, 14, 15, 16, 17, 18, 31] [15, 16, 17, 18, 19, 20, 21, 22, 24, 28] G A G' A' ∧ Pf nd A A' ∧ ((-2147483648 : Int) ≤ r ∧ r ≤ 2147483647) ∧ G' 10 = at2 ∧ G' 16 = fk2 ∧ G' 31 = nd2 ∧ G' 9 = ln2 ∧ ecn A' (G' 31) = ec2 ∧ (at0 ≤ at2) ∧ (at2 ≤ le) ∧ (nd ≤ nd2) ∧ (0 ≤ r) ∧ (r ≤ nd2) ∧ (((1 ≤ fk2) ∧ (ln2 = ln) ∧ (nd2 - nd ≤ 2 * at2 - 2 * at0 + 12)) ∨ ((fk2 = 0) ∧ (ln2 = ln + 1) ∧ (nd2 - nd ≤ 2 * at2 - (2 * at0 - tz tk0) + 0) ∧ (nd ≤ r) ∧ (r < nd2) ∧ (wU A' Vs sb (r) (nd) (nd2)) ∧ (NX A' (r)) ∧ (nd2 - nd + 5 * (ec2 - ec) ≤ 2 * at2 - (2 * at0 - tz tk0) + 0)))) := by
  have hF0 : Fr [9, 10, 11, 12, 13, 14, 15, 16, 17, 18, 31] [15, 16, 17, 18, 19, 20, 21, 22, 24, 28] G A G A := Fr_rf
  have hP0 : Pf nd A A := Pf_rf
  have b_ln : (0 : Int) ≤ ln ∧ ln ≤ 3000 := e_ln ▸ hW.1 9
  have b_le : (0 : Int) ≤ le ∧ le ≤ 3000 := e_le ▸ hW.2 4 _
  have b_at0 : (0 : Int) ≤ at0 ∧ at0 ≤ 3002 := e_at0 ▸ hW.1 10
  have b_fk : (0 : Int) ≤ fk ∧ fk ≤ 6 := e_fk ▸ hW.1 16
  have b_op0 : (-2147483648 : Int) ≤ op0 ∧ op0 ≤ 2147483647 := e_op0 ▸ hW.1 15
  have b_nd : (0 : Int) ≤ nd ∧ nd ≤ 6999 := e_nd ▸ hW.1 31
  have z_tk0 := tz_f tk0
  have b_tk0 : (0 : Int) ≤ tk0 ∧ tk0 ≤ 5 := e_tk0 ▸ hW.1 11
  have b_li : (0 : Int) ≤ li ∧ li ≤ 3000 := e_li ▸ hW.1 3
  intro L Gx Ax one pl s ix at1 tk1 fk1 nd1 op1 ks ec1 gL_0 gL_6 gL_1 gL_3 gL_4 gL_5 hWx hFx hPx ex_at1 ex_tk1 ex_fk1 ex_nd1 ex_op1 ex_ks ex_ec1 fx_9 rx_one rx_pl rx_s rx_ix iv_0 iv_1 iv_2 iv_3 iv_4 iv_5 iv_6 iv_7 iv_8 iv_9 iv_10 iv_11 iv_12 iv_13
  have b_at1 : (0 : Int) ≤ at1 ∧ at1 ≤ 3002 := ex_at1 ▸ hWx.1 10
  have z_tk1 := tz_f tk1
  have b_tk1 : (0 : Int) ≤ tk1 ∧ tk1 ≤ 5 := ex_tk1 ▸ hWx.1 11
  have b_fk1 : (0 : Int) ≤ fk1 ∧ fk1 ≤ 6 := ex_fk1 ▸ hWx.1 16
  have b_nd1 : (0 : Int) ≤ nd1 ∧ nd1 ≤ 6999 := ex_nd1 ▸ hWx.1 31
  have b_op1 : (-2147483648 : Int) ≤ op1 ∧ op1 ≤ 2147483647 := ex_op1 ▸ hWx.1 15
  have b_ks : (0 : Int) ≤ ks ∧ ks ≤ 14 := ex_ks ▸ hWx.2 7 _
  refine jx_ld (pc' := 109) (l' := L) (st' := [.ref 66]) rfl (jl_aloadn gL_0) ?_
  refine jx_ar (pc' := 111) (st' := [.int (i32 (63)), .ref 66]) rfl rfl rfl rfl ?_
  have b1159 : (-2147483648 : Int) ≤ Gx 13 ∧ Gx 13 ≤ 2147483647 := hWx.1 13
  refine jx_vr (pc' := 114) (as := [.int (i32 (63))]) (st := []) rfl rfl rfl rfl ⟨rfl, rfl, Nat.le_of_ble_eq_true rfl⟩ rfl rfl (c_is (dd := d) (hd := by omega) (hW := hWx) (k := 63) (tk := tk1) (e_tk := show Gx 11 = tk1 from (ex_tk1)) (tn := Gx 13) (e_tn := show Gx 13 = Gx 13 from rfl)  (h_k := ⟨(by decide), (by decide)⟩)  ) (fun o V' hq => ?_)
  obtain ⟨r1160, rfl, rfl, b1161, q1162⟩ := hq
  refine .inr ⟨_, rfl, ?_⟩
  rcases q1162 with ⟨rfl, a1163, a1164, a1165⟩ | rfl
  · have _q : True := trivial
    refine jx_ld (pc' := 116) (l' := jSto1 L 7 (.int (i32 (1)))) (st' := []) rfl rfl ?_
    obtain ⟨L1166, eL1166⟩ : ∃ q, q = jSto1 L 7 (.int (i32 (1))) := ⟨_, rfl⟩
    rw [← eL1166]
    have gL1166_0 : jGet L1166 0 = some (.ref 66) := eL1166 ▸ jg_ne (by decide) gL_0 rfl
    have gL1166_6 : jGet L1166 6 = some (.int (i32 (1))) := eL1166 ▸ jg_ne (by decide) gL_6 rfl
    have gL1166_1 : jGet L1166 1 = some (.int (i32 (one))) := eL1166 ▸ jg_ne (by decide) gL_1 rfl
    have gL1166_3 : jGet L1166 3 = some (.int (i32 (pl))) := eL1166 ▸ jg_ne (by decide) gL_3 rfl
    have gL1166_4 : jGet L1166 4 = some (.int (i32 (s))) := eL1166 ▸ jg_ne (by decide) gL_4 rfl
    have gL1166_5 : jGet L1166 5 = some (.int (i32 (ix))) := eL1166 ▸ jg_ne (by decide) gL_5 rfl
    have gL1166_7 : jGet L1166 7 = some (.int (i32 (1))) := eL1166 ▸ jg_eq
    refine jx_ld (pc' := 117) (l' := L1166) (st' := [.ref 66]) rfl (jl_aloadn gL1166_0) ?_
    refine jr_get (pc' := 120) (i := 21) (v := .ref 74) rfl rfl (by decide) rfl rfl ?_
    refine jx_ld (pc' := 122) (l' := L1166) (st' := [.int (i32 (s)), .ref 74]) rfl (jl_iload gL1166_4) ?_
    refine jr_ldv (pc' := 123) (i := 7) (m := 260) (z := s) (y := ks) rfl (by decide) rfl (by decide) (by omega) (by omega) rfl (show Ax 7 (s).toNat = ks from (ex_ks)) ?_
    refine jx_ld (pc' := 125) (l' := jSto1 L1166 8 (.int (i32 (ks)))) (st' := []) rfl rfl ?_
    obtain ⟨L1167, eL1167⟩ : ∃ q, q = jSto1 L1166 8 (.int (i32 (ks))) := ⟨_, rfl⟩
    rw [← eL1167]
    have gL1167_0 : jGet L1167 0 = some (.ref 66) := eL1167 ▸ jg_ne (by decide) gL1166_0 rfl
    have gL1167_6 : jGet L1167 6 = some (.int (i32 (1))) := eL1167 ▸ jg_ne (by decide) gL1166_6 rfl
    have gL1167_1 : jGet L1167 1 = some (.int (i32 (one))) := eL1167 ▸ jg_ne (by decide) gL1166_1 rfl
    have gL1167_3 : jGet L1167 3 = some (.int (i32 (pl))) := eL1167 ▸ jg_ne (by decide) gL1166_3 rfl
    have gL1167_4 : jGet L1167 4 = some (.int (i32 (s))) := eL1167 ▸ jg_ne (by decide) gL1166_4 rfl
    have gL1167_5 : jGet L1167 5 = some (.int (i32 (ix))) := eL1167 ▸ jg_ne (by decide) gL1166_5 rfl
    have gL1167_7 : jGet L1167 7 = some (.int (i32 (1))) := eL1167 ▸ jg_ne (by decide) gL1166_7 rfl
    have gL1167_8 : jGet L1167 8 = some (.int (i32 (ks))) := eL1167 ▸ jg_eq
    refine jx_ld (pc' := 127) (l' := L1167) (st' := [.int (i32 (1))]) rfl (jl_iload gL1167_7) ?_
    refine jx_if_ne (pc' := 130) (tg := 157) rfl rfl rfl (by decide) (by decide) (fun h1168 => ?_) (fun h1168 => ?_)
    · have _q := h1168
      have z1169 := tz_f (tk1)
      exact c_readGuard_w_at_157_1_1 (X := X) (d := d) (Vs := Vs) (sb := sb) (c0 := c0) (c1 := c1) (G := G) (A := A) (T := T) (ln := ln) (le := le) (at0 := at0) (fk := fk) (op0 := op0) (nd := nd) (tk0 := tk0) (li := li) (ec := ec) (hd := hd) (hW := hW) (e_ln := e_ln) (e_le := e_le) (e_at0 := e_at0) (e_fk := e_fk) (e_op0 := e_op0) (e_nd := e_nd) (e_tk0 := e_tk0) (e_li := e_li) (e_ec := e_ec) (i_SV := i_SV) (p_0 := p_0) (p_1 := p_1) (p_2 := p_2) (p_3 := p_3) (p_4 := p_4) L1167 Gx Ax (one) (pl) (s) (ix) (at1) (tk1) (fk1) (nd1) (op1) (ks) (ec1) gL1167_0 gL1167_6 gL1167_7 gL1167_8 gL1167_1 gL1167_3 gL1167_4 gL1167_5 hWx hFx hPx ((ex_at1)) ((ex_tk1)) ((ex_fk1)) ((ex_nd1)) ((ex_op1)) ((ex_ks)) (ex_ec1) ((fx_9)) (by omega) (by omega) (by omega) (by omega) (by omega) (by omega) (by omega) (by omega) (by omega) (by omega) (by omega) (by omega) (by omega) (by omega) (iv_10) (iv_11) (by omega) (iv_12) (by omega)
    · have _q := h1168
      exact absurd h1168 (by omega)
  · have _q : True := trivial
    refine jx_ld (pc' := 116) (l' := jSto1 L 7 (.int (i32 (0)))) (st' := []) rfl rfl ?_
    obtain ⟨L1170, eL1170⟩ : ∃ q, q = jSto1 L 7 (.int (i32 (0))) := ⟨_, rfl⟩
    rw [← eL1170]
    have gL1170_0 : jGet L1170 0 = some (.ref 66) := eL1170 ▸ jg_ne (by decide) gL_0 rfl
    have gL1170_6 : jGet L1170 6 = some (.int (i32 (1))) := eL1170 ▸ jg_ne (by decide) gL_6 rfl
    have gL1170_1 : jGet L1170 1 = some (.int (i32 (one))) := eL1170 ▸ jg_ne (by decide) gL_1 rfl
    have gL1170_3 : jGet L1170 3 = some (.int (i32 (pl))) := eL1170 ▸ jg_ne (by decide) gL_3 rfl
    have gL1170_4 : jGet L1170 4 = some (.int (i32 (s))) := eL1170 ▸ jg_ne (by decide) gL_4 rfl
    have gL1170_5 : jGet L1170 5 = some (.int (i32 (ix))) := eL1170 ▸ jg_ne (by decide) gL_5 rfl
    have gL1170_7 : jGet L1170 7 = some (.int (i32 (0))) := eL1170 ▸ jg_eq
    refine jx_ld (pc' := 117) (l' := L1170) (st' := [.ref 66]) rfl (jl_aloadn gL1170_0) ?_
    refine jr_get (pc' := 120) (i := 21) (v := .ref 74) rfl rfl (by decide) rfl rfl ?_
    refine jx_ld (pc' := 122) (l' := L1170) (st' := [.int (i32 (s)), .ref 74]) rfl (jl_iload gL1170_4) ?_
    refine jr_ldv (pc' := 123) (i := 7) (m := 260) (z := s) (y := ks) rfl (by decide) rfl (by decide) (by omega) (by omega) rfl (show Ax 7 (s).toNat = ks from (ex_ks)) ?_
    refine jx_ld (pc' := 125) (l' := jSto1 L1170 8 (.int (i32 (ks)))) (st' := []) rfl rfl ?_
    obtain ⟨L1171, eL1171⟩ : ∃ q, q = jSto1 L1170 8 (.int (i32 (ks))) := ⟨_, rfl⟩
    rw [← eL1171]
    have gL1171_0 : jGet L1171 0 = some (.ref 66) := eL1171 ▸ jg_ne (by decide) gL1170_0 rfl
    have gL1171_6 : jGet L1171 6 = some (.int (i32 (1))) := eL1171 ▸ jg_ne (by decide) gL1170_6 rfl
    have gL1171_1 : jGet L1171 1 = some (.int (i32 (one))) := eL1171 ▸ jg_ne (by decide) gL1170_1 rfl
    have gL1171_3 : jGet L1171 3 = some (.int (i32 (pl))) := eL1171 ▸ jg_ne (by decide) gL1170_3 rfl
    have gL1171_4 : jGet L1171 4 = some (.int (i32 (s))) := eL1171 ▸ jg_ne (by decide) gL1170_4 rfl
    have gL1171_5 : jGet L1171 5 = some (.int (i32 (ix))) := eL1171 ▸ jg_ne (by decide) gL1170_5 rfl
    have gL1171_7 : jGet L1171 7 = some (.int (i32 (0))) := eL1171 ▸ jg_ne (by decide) gL1170_7 rfl
    have gL1171_8 : jGet L1171 8 = some (.int (i32 (ks))) := eL1171 ▸ jg_eq
    refine jx_ld (pc' := 127) (l' := L1171) (st' := [.int (i32 (0))]) rfl (jl_iload gL1171_7) ?_
    refine jx_if_ne (pc' := 130) (tg := 157) rfl rfl rfl (by decide) (by decide) (fun h1172 => ?_) (fun h1172 => ?_)
    · have _q := h1172
      exact absurd h1172 (by omega)
    · have _q := h1172
      refine jx_ld (pc' := 131) (l' := L1171) (st' := [.ref 66]) rfl (jl_aloadn gL1171_0) ?_
      refine jx_ar (pc' := 133) (st' := [.int (i32 (38)), .ref 66]) rfl rfl rfl rfl ?_
      refine jx_vr (pc' := 136) (as := [.int (i32 (38))]) (st := []) rfl rfl rfl rfl ⟨rfl, rfl, Nat.le_of_ble_eq_true rfl⟩ rfl rfl (c_is (dd := d) (hd := by omega) (hW := hWx) (k := 38) (tk := tk1) (e_tk := show Gx 11 = tk1 from (ex_tk1)) (tn := Gx 13) (e_tn := show Gx 13 = Gx 13 from rfl)  (h_k := ⟨(by decide), (by decide)⟩)  ) (fun o V' hq => ?_)
      obtain ⟨r1173, rfl, rfl, b1174, q1175⟩ := hq
      refine .inr ⟨_, rfl, ?_⟩
      rcases q1175 with ⟨rfl, a1176, a1177, a1178⟩ | rfl
      · have _q : True := trivial
        refine jx_if_ne (pc' := 139) (tg := 157) rfl rfl rfl (by decide) (by decide) (fun h1179 => ?_) (fun h1179 => ?_)
        · have _q := h1179
          have z1180 := tz_f (tk1)
          exact c_readGuard_w_at_157_1_0 (X := X) (d := d) (Vs := Vs) (sb := sb) (c0 := c0) (c1 := c1) (G := G) (A := A) (T := T) (ln := ln) (le := le) (at0 := at0) (fk := fk) (op0 := op0) (nd := nd) (tk0 := tk0) (li := li) (ec := ec) (hd := hd) (hW := hW) (e_ln := e_ln) (e_le := e_le) (e_at0 := e_at0) (e_fk := e_fk) (e_op0 := e_op0) (e_nd := e_nd) (e_tk0 := e_tk0) (e_li := e_li) (e_ec := e_ec) (i_SV := i_SV) (p_0 := p_0) (p_1 := p_1) (p_2 := p_2) (p_3 := p_3) (p_4 := p_4) L1171 Gx Ax (one) (pl) (s) (ix) (at1) (tk1) (fk1) (nd1) (op1) (ks) (ec1) gL1171_0 gL1171_6 gL1171_7 gL1171_8 gL1171_1 gL1171_3 gL1171_4 gL1171_5 hWx hFx hPx ((ex_at1)) ((ex_tk1)) ((ex_fk1)) ((ex_nd1)) ((ex_op1)) ((ex_ks)) (ex_ec1) ((fx_9)) (by omega) (by omega) (by omega) (by omega) (by omega) (by omega) (by omega) (by omega) (by omega) (by omega) (by omega) (by omega) (by omega) (by omega) (iv_10) (iv_11) (iv_12) (by omega)
        · have _q := h1179
          exact absurd h1179 (by omega)
      · have _q : True := trivial
        refine jx_if_ne (pc' := 139) (tg := 157) rfl rfl rfl (by decide) (by decide) (fun h1181 => ?_) (fun h1181 => ?_)
        · have _q := h1181
          exact absurd h1181 (by omega)
        · have _q := h1181
          refine jx_ld (pc' := 140) (l' := L1171) (st' := [.ref 66]) rfl (jl_aloadn gL1171_0) ?_
          refine jx_vr (pc' := 143) (as := []) (st := []) rfl rfl rfl rfl ⟨rfl, rfl, Nat.le_of_ble_eq_true rfl⟩ rfl rfl (c_operationAt (dd := d) (hd := by omega) (hW := hWx)  (tk := tk1) (e_tk := show Gx 11 = tk1 from (ex_tk1)) (tn := Gx 13) (e_tn := show Gx 13 = Gx 13 from rfl)    ) (fun o V' hq => ?_)
          obtain ⟨r1182, rfl, rfl, b1183, q1184⟩ := hq
          refine .inr ⟨_, rfl, ?_⟩
          rcases q1184 with rfl | a1185
          · have _q : True := trivial
            refine jx_if_ne (pc' := 146) (tg := 157) rfl rfl rfl (by decide) (by decide) (fun h1186 => ?_) (fun h1186 => ?_)
            · have _q := h1186
              exact absurd h1186 (by omega)
            · have _q := h1186
              refine jx_ld (pc' := 147) (l' := L1171) (st' := [.ref 66]) rfl (jl_aloadn gL1171_0) ?_
              refine jx_ar (pc' := 148) (st' := [.int (i32 (1)), .ref 66]) rfl rfl rfl rfl ?_
              refine jx_ld (pc' := 149) (l' := L1171) (st' := [.ref 66, .int (i32 (1)), .ref 66]) rfl (jl_aloadn gL1171_0) ?_
              have b1187 : (-3000 : Int) ≤ Gx 12 ∧ Gx 12 ≤ 3002 := hWx.1 12
              refine jr_get (pc' := 152) (i := 12) (v := .int (i32 (Gx 12))) rfl rfl (by decide) rfl rfl ?_
              refine jx_vr (pc' := 155) (as := [.int (i32 (1)), .int (i32 (Gx 12))]) (st := []) rfl rfl rfl rfl ⟨rfl, rfl, Nat.le_of_ble_eq_true rfl⟩ rfl rfl (c_fail (dd := d) (hd := by omega) (hW := hWx) (kind := 1) (place := Gx 12) (fk := fk1) (e_fk := show Gx 16 = fk1 from (ex_fk1))  (h_kind := ⟨(by decide), (by decide)⟩) (h_place := ⟨(Int.le_trans (by decide : (-2147483648 : Int) ≤ -3000) b1187.1), (Int.le_trans b1187.2 (by decide : (3002 : Int) ≤ 2147483647))⟩)  (p_0 := by omega) (p_1 := by omega)) (fun o V' hq => ?_)
              obtain ⟨G1188, A1189, fk2_1190, rfl, rfl, hW1191, hF1192, e1193, p1194, -⟩ := hq
              have hF1196 := Fr_tr hFx hF1192 (Fr_sub (by decide)) (Fr_sub (by decide))
              have hP1197 := Pf_f hPx hF1192 (by decide)
              have sf1198 : ND A1189 (one) (33) (0) (0) (0) (0) (0) (0) := ND_ag (by omega) (Ag_fr hF1192 (by decide)) iv_11
              have sf1199 : wE A1189 Vs sb (20) (ix) (one + 1) (nd1) := wE_ag (by omega) (Sg_fr hF1192 (by decide)) (Ag_fr hF1192 (by decide)) iv_12
              have ec1200 : ecn A1189 (G1188 31) = ec1 := (ecn_f (hF1192.2 15 rfl) (hF1192.1 31 rfl)).trans ex_ec1
              have bfk2_1190 : (0 : Int) ≤ fk2_1190 ∧ fk2_1190 ≤ 6 := e1193 ▸ hW1191.1 16
              refine .inl ⟨rfl, ?_⟩
              refine jx_ar (pc' := 156) (st' := [.int (i32 (0))]) rfl rfl rfl rfl ?_
              refine jx_rt (v := some (.int (i32 (0)))) rfl rfl rfl rfl rfl rfl ?_
              exact ⟨_, _, _, at1, fk2_1190, nd1, ln, ec1, rfl, rfl, hW1191, hF1196, hP1197, by omega, ((hF1192.1 10 rfl).trans (ex_at1)), (e1193), ((hF1192.1 31 rfl).trans (ex_nd1)), ((hF1192.1 9 rfl).trans (fx_9)), ec1200, by omega, by omega, by omega, by omega, by omega, by first | exact Or.inl (⟨by omega, by omega, by omega⟩)⟩
          · have _q : True := trivial
            refine jx_if_ne (pc' := 146) (tg := 157) rfl rfl rfl (Int.le_trans (by decide : (-2147483648 : Int) ≤ -2147483648) b1183.1) (Int.le_trans b1183.2 (by decide : (2147483647 : Int) ≤ 2147483647)) (fun h1201 => ?_) (fun h1201 => ?_)
            · have _q := h1201
              have z1202 := tz_f (tk1)
              exact c_readGuard_w_at_157_1_0 (X := X) (d := d) (Vs := Vs) (sb := sb) (c0 := c0) (c1 := c1) (G := G) (A := A) (T := T) (ln := ln) (le := le) (at0 := at0) (fk := fk) (op0 := op0) (nd := nd) (tk0 := tk0) (li := li) (ec := ec) (hd := hd) (hW := hW) (e_ln := e_ln) (e_le := e_le) (e_at0 := e_at0) (e_fk := e_fk) (e_op0 := e_op0) (e_nd := e_nd) (e_tk0 := e_tk0) (e_li := e_li) (e_ec := e_ec) (i_SV := i_SV) (p_0 := p_0) (p_1 := p_1) (p_2 := p_2) (p_3 := p_3) (p_4 := p_4) L1171 Gx Ax (one) (pl) (s) (ix) (at1) (tk1) (fk1) (nd1) (op1) (ks) (ec1) gL1171_0 gL1171_6 gL1171_7 gL1171_8 gL1171_1 gL1171_3 gL1171_4 gL1171_5 hWx hFx hPx ((ex_at1)) ((ex_tk1)) ((ex_fk1)) ((ex_nd1)) ((ex_op1)) ((ex_ks)) (ex_ec1) ((fx_9)) (by omega) (by omega) (by omega) (by omega) (by omega) (by omega) (by omega) (by omega) (by omega) (by omega) (by omega) (by omega) (by omega) (by omega) (iv_10) (iv_11) (iv_12) (by omega)
            · have _q := h1201
              refine jx_ld (pc' := 147) (l' := L1171) (st' := [.ref 66]) rfl (jl_aloadn gL1171_0) ?_
              refine jx_ar (pc' := 148) (st' := [.int (i32 (1)), .ref 66]) rfl rfl rfl rfl ?_
              refine jx_ld (pc' := 149) (l' := L1171) (st' := [.ref 66, .int (i32 (1)), .ref 66]) rfl (jl_aloadn gL1171_0) ?_
              have b1203 : (-3000 : Int) ≤ Gx 12 ∧ Gx 12 ≤ 3002 := hWx.1 12
              refine jr_get (pc' := 152) (i := 12) (v := .int (i32 (Gx 12))) rfl rfl (by decide) rfl rfl ?_
              refine jx_vr (pc' := 155) (as := [.int (i32 (1)), .int (i32 (Gx 12))]) (st := []) rfl rfl rfl rfl ⟨rfl, rfl, Nat.le_of_ble_eq_true rfl⟩ rfl rfl (c_fail (dd := d) (hd := by omega) (hW := hWx) (kind := 1) (place := Gx 12) (fk := fk1) (e_fk := show Gx 16 = fk1 from (ex_fk1))  (h_kind := ⟨(by decide), (by decide)⟩) (h_place := ⟨(Int.le_trans (by decide : (-2147483648 : Int) ≤ -3000) b1203.1), (Int.le_trans b1203.2 (by decide : (3002 : Int) ≤ 2147483647))⟩)  (p_0 := by omega) (p_1 := by omega)) (fun o V' hq => ?_)
              obtain ⟨G1204, A1205, fk2_1206, rfl, rfl, hW1207, hF1208, e1209, p1210, -⟩ := hq
              have hF1212 := Fr_tr hFx hF1208 (Fr_sub (by decide)) (Fr_sub (by decide))
              have hP1213 := Pf_f hPx hF1208 (by decide)
              have sf1214 : ND A1205 (one) (33) (0) (0) (0) (0) (0) (0) := ND_ag (by omega) (Ag_fr hF1208 (by decide)) iv_11
              have sf1215 : wE A1205 Vs sb (20) (ix) (one + 1) (nd1) := wE_ag (by omega) (Sg_fr hF1208 (by decide)) (Ag_fr hF1208 (by decide)) iv_12
              have ec1216 : ecn A1205 (G1204 31) = ec1 := (ecn_f (hF1208.2 15 rfl) (hF1208.1 31 rfl)).trans ex_ec1
              have bfk2_1206 : (0 : Int) ≤ fk2_1206 ∧ fk2_1206 ≤ 6 := e1209 ▸ hW1207.1 16
              refine .inl ⟨rfl, ?_⟩
              refine jx_ar (pc' := 156) (st' := [.int (i32 (0))]) rfl rfl rfl rfl ?_
              refine jx_rt (v := some (.int (i32 (0)))) rfl rfl rfl rfl rfl rfl ?_
              exact ⟨_, _, _, at1, fk2_1206, nd1, ln, ec1, rfl, rfl, hW1207, hF1212, hP1213, by omega, ((hF1208.1 10 rfl).trans (ex_at1)), (e1209), ((hF1208.1 31 rfl).trans (ex_nd1)), ((hF1208.1 9 rfl).trans (fx_9)), ec1216, by omega, by omega, by omega, by omega, by omega, by first | exact Or.inl (⟨by omega, by omega, by omega⟩)⟩
set_option maxRecDepth 20000 in
set_option maxHeartbeats 4000000 in
theorem c_readGuard_w_at_108_0 {X : jX} {d : Nat} {Vs : Nat → Prop} {sb : Int} {c0 c1 : jC} {G : Nat → Int} {A : Nat → Nat → Int} {T : jH} {ln le at0 fk op0 nd tk0 li ec : Int} (hd : 71 ≤ d + 1) (hW : Wk G A) (e_ln : G 9 = ln) (e_le : A 4 (ln).toNat = le) (e_at0 : G 10 = at0) (e_fk : G 16 = fk) (e_op0 : G 15 = op0) (e_nd : G 31 = nd) (e_tk0 : G 11 = tk0) (e_li : G 3 = li) (e_ec : ecn A (G 31) = ec) (i_SV : SV Vs sb G A) (p_0 : 0 ≤ op0 ∧ op0 ≤ 8) (p_1 : fk = 0) (p_2 : nd ≤ 2 * at0 - tz tk0 + 42) (p_3 : at0 ≤ le) (p_4 : ln < li) : ∀ (L : jL) (Gx : Nat → Int) (Ax : Nat → Nat → Int) (one pl s at1 tk1 fk1 nd1 op1 ks ec1 : Int), jGet L 0 = some (.ref 66) → jGet L 6 = some (.int (i32 (0))) → jGet L 5 = some (.int (i32 (0))) → jGet L 1 = some (.int (i32 one)) → jGet L 3 = some (.int (i32 pl)) → jGet L 4 = some (.int (i32 s)) → Wk Gx Ax → Fr [9, 10, 11, 12, 13, 14, 15, 16, 17, 18, 31] [15, 16, 17, 18, 19, 20, 21, 22, 24, 28] G A Gx Ax → Pf nd A Ax → Gx 10 = at1 → Gx 11 = tk1 → Gx 16 = fk1 → Gx 31 = nd1 → Gx 15 = op1 → Ax 7 (s).toNat = ks → ecn Ax (Gx 31) = ec1 → Gx 9 = ln → ((-2147483648 : Int) ≤ one ∧ one ≤ 2147483647) → ((-2147483648 : Int) ≤ pl ∧ pl ≤ 2147483647) → ((-2147483648 : Int) ≤ s ∧ s ≤ 2147483647) → (at0 ≤ at1) → (at1 ≤ le) → (nd ≤ nd1) → (op1 = op0) → (one = nd) → (one ≤ 6998 ∧ one < nd1) → (fk1 = 0) → (nd1 - nd ≤ (2 * at1 - tz tk1) - (2 * at0 - tz tk0)) → (0 ≤ s ∧ s ≤ 201) → (-3000 ≤ pl ∧ pl ≤ 3002) → (SY Vs sb (s)) → (ND Ax (one) (33) (0) (0) (0) (0) (0) (0)) → (nd1 - nd + 5 * (ec1 - ec) ≤ (2 * at1 - tz tk1) - (2 * at0 - tz tk0) - tz tk1) → wj X d jm303 (108, L, [], rV c0 c1 Gx Ax T) (fun o V' => ∃ (G' : Nat → Int) (A' : Nat → Nat → Int) (r : Int) (at2 : Int) (fk2 : Int) (nd2 : Int) (ln2 : Int) (ec2 : Int), V' = rV c0 c1 G' A' T ∧ o = .inl (some (.int (i32 r))) ∧ Wk G' A' ∧ Fr [9, 10, 11, 12, 13, 14, 15, 16, 17, 18, 31] [15, 16, 17, 18, 19, 20, 21, 22, 24, 28] G A G' A' ∧ Pf nd A A' ∧ ((-2147483648 : Int) ≤ r ∧ r ≤ 2147483647) ∧ G' 10 = at2 ∧ G' 16 = fk2 ∧ G' 31 = nd2 ∧ G' 9 = ln2 ∧ ecn A' (G' 31) = ec2 ∧ (at0 ≤ at2) ∧ (at2 ≤ le) ∧ (nd ≤ nd2) ∧ (0 ≤ r) ∧ (r ≤ nd2) ∧ (((1 ≤ fk2) ∧ (ln2 = ln) ∧ (nd2 - nd ≤ 2 * at2 - 2 * at0 + 12)) ∨ ((fk2 = 0) ∧ (ln2 = ln + 1) ∧ (nd2 - nd ≤ 2 * at2 - (2 * at0 - tz tk0) + 0) ∧ (nd ≤ r) ∧ (r < nd2) ∧ (wU A' Vs sb (r) (nd) (nd2)) ∧ (NX A' (r)) ∧ (nd2 - nd + 5 * (ec2 - ec) ≤ 2 * at2 - (2 * at0 - tz tk0) + 0)))) := by
  have hF0 : Fr [9, 10, 11, 12, 13, 14, 15, 16, 17, 18, 31] [15, 16, 17, 18, 19, 20, 21, 22, 24, 28] G A G A := Fr_rf
  have hP0 : Pf nd A A := Pf_rf
  have b_ln : (0 : Int) ≤ ln ∧ ln ≤ 3000 := e_ln ▸ hW.1 9
  have b_le : (0 : Int) ≤ le ∧ le ≤ 3000 := e_le ▸ hW.2 4 _
  have b_at0 : (0 : Int) ≤ at0 ∧ at0 ≤ 3002 := e_at0 ▸ hW.1 10
  have b_fk : (0 : Int) ≤ fk ∧ fk ≤ 6 := e_fk ▸ hW.1 16
  have b_op0 : (-2147483648 : Int) ≤ op0 ∧ op0 ≤ 2147483647 := e_op0 ▸ hW.1 15
  have b_nd : (0 : Int) ≤ nd ∧ nd ≤ 6999 := e_nd ▸ hW.1 31
  have z_tk0 := tz_f tk0
  have b_tk0 : (0 : Int) ≤ tk0 ∧ tk0 ≤ 5 := e_tk0 ▸ hW.1 11
  have b_li : (0 : Int) ≤ li ∧ li ≤ 3000 := e_li ▸ hW.1 3
  intro L Gx Ax one pl s at1 tk1 fk1 nd1 op1 ks ec1 gL_0 gL_6 gL_5 gL_1 gL_3 gL_4 hWx hFx hPx ex_at1 ex_tk1 ex_fk1 ex_nd1 ex_op1 ex_ks ex_ec1 fx_9 rx_one rx_pl rx_s iv_0 iv_1 iv_2 iv_3 iv_4 iv_5 iv_6 iv_7 iv_8 iv_9 iv_10 iv_11 iv_12
  have b_at1 : (0 : Int) ≤ at1 ∧ at1 ≤ 3002 := ex_at1 ▸ hWx.1 10
  have z_tk1 := tz_f tk1
  have b_tk1 : (0 : Int) ≤ tk1 ∧ tk1 ≤ 5 := ex_tk1 ▸ hWx.1 11
  have b_fk1 : (0 : Int) ≤ fk1 ∧ fk1 ≤ 6 := ex_fk1 ▸ hWx.1 16
  have b_nd1 : (0 : Int) ≤ nd1 ∧ nd1 ≤ 6999 := ex_nd1 ▸ hWx.1 31
  have b_op1 : (-2147483648 : Int) ≤ op1 ∧ op1 ≤ 2147483647 := ex_op1 ▸ hWx.1 15
  have b_ks : (0 : Int) ≤ ks ∧ ks ≤ 14 := ex_ks ▸ hWx.2 7 _
  refine jx_ld (pc' := 109) (l' := L) (st' := [.ref 66]) rfl (jl_aloadn gL_0) ?_
  refine jx_ar (pc' := 111) (st' := [.int (i32 (63)), .ref 66]) rfl rfl rfl rfl ?_
  have b1217 : (-2147483648 : Int) ≤ Gx 13 ∧ Gx 13 ≤ 2147483647 := hWx.1 13
  refine jx_vr (pc' := 114) (as := [.int (i32 (63))]) (st := []) rfl rfl rfl rfl ⟨rfl, rfl, Nat.le_of_ble_eq_true rfl⟩ rfl rfl (c_is (dd := d) (hd := by omega) (hW := hWx) (k := 63) (tk := tk1) (e_tk := show Gx 11 = tk1 from (ex_tk1)) (tn := Gx 13) (e_tn := show Gx 13 = Gx 13 from rfl)  (h_k := ⟨(by decide), (by decide)⟩)  ) (fun o V' hq => ?_)
  obtain ⟨r1218, rfl, rfl, b1219, q1220⟩ := hq
  refine .inr ⟨_, rfl, ?_⟩
  rcases q1220 with ⟨rfl, a1221, a1222, a1223⟩ | rfl
  · have _q : True := trivial
    refine jx_ld (pc' := 116) (l' := jSto1 L 7 (.int (i32 (1)))) (st' := []) rfl rfl ?_
    obtain ⟨L1224, eL1224⟩ : ∃ q, q = jSto1 L 7 (.int (i32 (1))) := ⟨_, rfl⟩
    rw [← eL1224]
    have gL1224_0 : jGet L1224 0 = some (.ref 66) := eL1224 ▸ jg_ne (by decide) gL_0 rfl
    have gL1224_6 : jGet L1224 6 = some (.int (i32 (0))) := eL1224 ▸ jg_ne (by decide) gL_6 rfl
    have gL1224_5 : jGet L1224 5 = some (.int (i32 (0))) := eL1224 ▸ jg_ne (by decide) gL_5 rfl
    have gL1224_1 : jGet L1224 1 = some (.int (i32 (one))) := eL1224 ▸ jg_ne (by decide) gL_1 rfl
    have gL1224_3 : jGet L1224 3 = some (.int (i32 (pl))) := eL1224 ▸ jg_ne (by decide) gL_3 rfl
    have gL1224_4 : jGet L1224 4 = some (.int (i32 (s))) := eL1224 ▸ jg_ne (by decide) gL_4 rfl
    have gL1224_7 : jGet L1224 7 = some (.int (i32 (1))) := eL1224 ▸ jg_eq
    refine jx_ld (pc' := 117) (l' := L1224) (st' := [.ref 66]) rfl (jl_aloadn gL1224_0) ?_
    refine jr_get (pc' := 120) (i := 21) (v := .ref 74) rfl rfl (by decide) rfl rfl ?_
    refine jx_ld (pc' := 122) (l' := L1224) (st' := [.int (i32 (s)), .ref 74]) rfl (jl_iload gL1224_4) ?_
    refine jr_ldv (pc' := 123) (i := 7) (m := 260) (z := s) (y := ks) rfl (by decide) rfl (by decide) (by omega) (by omega) rfl (show Ax 7 (s).toNat = ks from (ex_ks)) ?_
    refine jx_ld (pc' := 125) (l' := jSto1 L1224 8 (.int (i32 (ks)))) (st' := []) rfl rfl ?_
    obtain ⟨L1225, eL1225⟩ : ∃ q, q = jSto1 L1224 8 (.int (i32 (ks))) := ⟨_, rfl⟩
    rw [← eL1225]
    have gL1225_0 : jGet L1225 0 = some (.ref 66) := eL1225 ▸ jg_ne (by decide) gL1224_0 rfl
    have gL1225_6 : jGet L1225 6 = some (.int (i32 (0))) := eL1225 ▸ jg_ne (by decide) gL1224_6 rfl
    have gL1225_5 : jGet L1225 5 = some (.int (i32 (0))) := eL1225 ▸ jg_ne (by decide) gL1224_5 rfl
    have gL1225_1 : jGet L1225 1 = some (.int (i32 (one))) := eL1225 ▸ jg_ne (by decide) gL1224_1 rfl
    have gL1225_3 : jGet L1225 3 = some (.int (i32 (pl))) := eL1225 ▸ jg_ne (by decide) gL1224_3 rfl
    have gL1225_4 : jGet L1225 4 = some (.int (i32 (s))) := eL1225 ▸ jg_ne (by decide) gL1224_4 rfl
    have gL1225_7 : jGet L1225 7 = some (.int (i32 (1))) := eL1225 ▸ jg_ne (by decide) gL1224_7 rfl
    have gL1225_8 : jGet L1225 8 = some (.int (i32 (ks))) := eL1225 ▸ jg_eq
    refine jx_ld (pc' := 127) (l' := L1225) (st' := [.int (i32 (1))]) rfl (jl_iload gL1225_7) ?_
    refine jx_if_ne (pc' := 130) (tg := 157) rfl rfl rfl (by decide) (by decide) (fun h1226 => ?_) (fun h1226 => ?_)
    · have _q := h1226
      have z1227 := tz_f (tk1)
      exact c_readGuard_w_at_157_0_1 (X := X) (d := d) (Vs := Vs) (sb := sb) (c0 := c0) (c1 := c1) (G := G) (A := A) (T := T) (ln := ln) (le := le) (at0 := at0) (fk := fk) (op0 := op0) (nd := nd) (tk0 := tk0) (li := li) (ec := ec) (hd := hd) (hW := hW) (e_ln := e_ln) (e_le := e_le) (e_at0 := e_at0) (e_fk := e_fk) (e_op0 := e_op0) (e_nd := e_nd) (e_tk0 := e_tk0) (e_li := e_li) (e_ec := e_ec) (i_SV := i_SV) (p_0 := p_0) (p_1 := p_1) (p_2 := p_2) (p_3 := p_3) (p_4 := p_4) L1225 Gx Ax (one) (pl) (s) (at1) (tk1) (fk1) (nd1) (op1) (ks) (ec1) gL1225_0 gL1225_6 gL1225_7 gL1225_8 gL1225_5 gL1225_1 gL1225_3 gL1225_4 hWx hFx hPx ((ex_at1)) ((ex_tk1)) ((ex_fk1)) ((ex_nd1)) ((ex_op1)) ((ex_ks)) (ex_ec1) ((fx_9)) (by omega) (by omega) (by omega) (by omega) (by omega) (by omega) (by omega) (by omega) (by omega) (by omega) (by omega) (by omega) (by omega) (iv_10) (iv_11) (by omega) (by omega)
    · have _q := h1226
      exact absurd h1226 (by omega)
  · have _q : True := trivial
    refine jx_ld (pc' := 116) (l' := jSto1 L 7 (.int (i32 (0)))) (st' := []) rfl rfl ?_
    obtain ⟨L1228, eL1228⟩ : ∃ q, q = jSto1 L 7 (.int (i32 (0))) := ⟨_, rfl⟩
    rw [← eL1228]
    have gL1228_0 : jGet L1228 0 = some (.ref 66) := eL1228 ▸ jg_ne (by decide) gL_0 rfl
    have gL1228_6 : jGet L1228 6 = some (.int (i32 (0))) := eL1228 ▸ jg_ne (by decide) gL_6 rfl
    have gL1228_5 : jGet L1228 5 = some (.int (i32 (0))) := eL1228 ▸ jg_ne (by decide) gL_5 rfl
    have gL1228_1 : jGet L1228 1 = some (.int (i32 (one))) := eL1228 ▸ jg_ne (by decide) gL_1 rfl
    have gL1228_3 : jGet L1228 3 = some (.int (i32 (pl))) := eL1228 ▸ jg_ne (by decide) gL_3 rfl
    have gL1228_4 : jGet L1228 4 = some (.int (i32 (s))) := eL1228 ▸ jg_ne (by decide) gL_4 rfl
    have gL1228_7 : jGet L1228 7 = some (.int (i32 (0))) := eL1228 ▸ jg_eq
    refine jx_ld (pc' := 117) (l' := L1228) (st' := [.ref 66]) rfl (jl_aloadn gL1228_0) ?_
    refine jr_get (pc' := 120) (i := 21) (v := .ref 74) rfl rfl (by decide) rfl rfl ?_
    refine jx_ld (pc' := 122) (l' := L1228) (st' := [.int (i32 (s)), .ref 74]) rfl (jl_iload gL1228_4) ?_
    refine jr_ldv (pc' := 123) (i := 7) (m := 260) (z := s) (y := ks) rfl (by decide) rfl (by decide) (by omega) (by omega) rfl (show Ax 7 (s).toNat = ks from (ex_ks)) ?_
    refine jx_ld (pc' := 125) (l' := jSto1 L1228 8 (.int (i32 (ks)))) (st' := []) rfl rfl ?_
    obtain ⟨L1229, eL1229⟩ : ∃ q, q = jSto1 L1228 8 (.int (i32 (ks))) := ⟨_, rfl⟩
    rw [← eL1229]
    have gL1229_0 : jGet L1229 0 = some (.ref 66) := eL1229 ▸ jg_ne (by decide) gL1228_0 rfl
    have gL1229_6 : jGet L1229 6 = some (.int (i32 (0))) := eL1229 ▸ jg_ne (by decide) gL1228_6 rfl
    have gL1229_5 : jGet L1229 5 = some (.int (i32 (0))) := eL1229 ▸ jg_ne (by decide) gL1228_5 rfl
    have gL1229_1 : jGet L1229 1 = some (.int (i32 (one))) := eL1229 ▸ jg_ne (by decide) gL1228_1 rfl
    have gL1229_3 : jGet L1229 3 = some (.int (i32 (pl))) := eL1229 ▸ jg_ne (by decide) gL1228_3 rfl
    have gL1229_4 : jGet L1229 4 = some (.int (i32 (s))) := eL1229 ▸ jg_ne (by decide) gL1228_4 rfl
    have gL1229_7 : jGet L1229 7 = some (.int (i32 (0))) := eL1229 ▸ jg_ne (by decide) gL1228_7 rfl
    have gL1229_8 : jGet L1229 8 = some (.int (i32 (ks))) := eL1229 ▸ jg_eq
    refine jx_ld (pc' := 127) (l' := L1229) (st' := [.int (i32 (0))]) rfl (jl_iload gL1229_7) ?_
    refine jx_if_ne (pc' := 130) (tg := 157) rfl rfl rfl (by decide) (by decide) (fun h1230 => ?_) (fun h1230 => ?_)
    · have _q := h1230
      exact absurd h1230 (by omega)
    · have _q := h1230
      refine jx_ld (pc' := 131) (l' := L1229) (st' := [.ref 66]) rfl (jl_aloadn gL1229_0) ?_
      refine jx_ar (pc' := 133) (st' := [.int (i32 (38)), .ref 66]) rfl rfl rfl rfl ?_
      refine jx_vr (pc' := 136) (as := [.int (i32 (38))]) (st := []) rfl rfl rfl rfl ⟨rfl, rfl, Nat.le_of_ble_eq_true rfl⟩ rfl rfl (c_is (dd := d) (hd := by omega) (hW := hWx) (k := 38) (tk := tk1) (e_tk := show Gx 11 = tk1 from (ex_tk1)) (tn := Gx 13) (e_tn := show Gx 13 = Gx 13 from rfl)  (h_k := ⟨(by decide), (by decide)⟩)  ) (fun o V' hq => ?_)
      obtain ⟨r1231, rfl, rfl, b1232, q1233⟩ := hq
      refine .inr ⟨_, rfl, ?_⟩
      rcases q1233 with ⟨rfl, a1234, a1235, a1236⟩ | rfl
      · have _q : True := trivial
        refine jx_if_ne (pc' := 139) (tg := 157) rfl rfl rfl (by decide) (by decide) (fun h1237 => ?_) (fun h1237 => ?_)
        · have _q := h1237
          have z1238 := tz_f (tk1)
          exact c_readGuard_w_at_157_0_0 (X := X) (d := d) (Vs := Vs) (sb := sb) (c0 := c0) (c1 := c1) (G := G) (A := A) (T := T) (ln := ln) (le := le) (at0 := at0) (fk := fk) (op0 := op0) (nd := nd) (tk0 := tk0) (li := li) (ec := ec) (hd := hd) (hW := hW) (e_ln := e_ln) (e_le := e_le) (e_at0 := e_at0) (e_fk := e_fk) (e_op0 := e_op0) (e_nd := e_nd) (e_tk0 := e_tk0) (e_li := e_li) (e_ec := e_ec) (i_SV := i_SV) (p_0 := p_0) (p_1 := p_1) (p_2 := p_2) (p_3 := p_3) (p_4 := p_4) L1229 Gx Ax (one) (pl) (s) (at1) (tk1) (fk1) (nd1) (op1) (ks) (ec1) gL1229_0 gL1229_6 gL1229_7 gL1229_8 gL1229_5 gL1229_1 gL1229_3 gL1229_4 hWx hFx hPx ((ex_at1)) ((ex_tk1)) ((ex_fk1)) ((ex_nd1)) ((ex_op1)) ((ex_ks)) (ex_ec1) ((fx_9)) (by omega) (by omega) (by omega) (by omega) (by omega) (by omega) (by omega) (by omega) (by omega) (by omega) (by omega) (by omega) (by omega) (iv_10) (iv_11) (by omega)
        · have _q := h1237
          exact absurd h1237 (by omega)
      · have _q : True := trivial
        refine jx_if_ne (pc' := 139) (tg := 157) rfl rfl rfl (by decide) (by decide) (fun h1239 => ?_) (fun h1239 => ?_)
        · have _q := h1239
          exact absurd h1239 (by omega)
        · have _q := h1239
          refine jx_ld (pc' := 140) (l' := L1229) (st' := [.ref 66]) rfl (jl_aloadn gL1229_0) ?_
          refine jx_vr (pc' := 143) (as := []) (st := []) rfl rfl rfl rfl ⟨rfl, rfl, Nat.le_of_ble_eq_true rfl⟩ rfl rfl (c_operationAt (dd := d) (hd := by omega) (hW := hWx)  (tk := tk1) (e_tk := show Gx 11 = tk1 from (ex_tk1)) (tn := Gx 13) (e_tn := show Gx 13 = Gx 13 from rfl)    ) (fun o V' hq => ?_)
          obtain ⟨r1240, rfl, rfl, b1241, q1242⟩ := hq
          refine .inr ⟨_, rfl, ?_⟩
          rcases q1242 with rfl | a1243
          · have _q : True := trivial
            refine jx_if_ne (pc' := 146) (tg := 157) rfl rfl rfl (by decide) (by decide) (fun h1244 => ?_) (fun h1244 => ?_)
            · have _q := h1244
              exact absurd h1244 (by omega)
            · have _q := h1244
              refine jx_ld (pc' := 147) (l' := L1229) (st' := [.ref 66]) rfl (jl_aloadn gL1229_0) ?_
              refine jx_ar (pc' := 148) (st' := [.int (i32 (1)), .ref 66]) rfl rfl rfl rfl ?_
              refine jx_ld (pc' := 149) (l' := L1229) (st' := [.ref 66, .int (i32 (1)), .ref 66]) rfl (jl_aloadn gL1229_0) ?_
              have b1245 : (-3000 : Int) ≤ Gx 12 ∧ Gx 12 ≤ 3002 := hWx.1 12
              refine jr_get (pc' := 152) (i := 12) (v := .int (i32 (Gx 12))) rfl rfl (by decide) rfl rfl ?_
              refine jx_vr (pc' := 155) (as := [.int (i32 (1)), .int (i32 (Gx 12))]) (st := []) rfl rfl rfl rfl ⟨rfl, rfl, Nat.le_of_ble_eq_true rfl⟩ rfl rfl (c_fail (dd := d) (hd := by omega) (hW := hWx) (kind := 1) (place := Gx 12) (fk := fk1) (e_fk := show Gx 16 = fk1 from (ex_fk1))  (h_kind := ⟨(by decide), (by decide)⟩) (h_place := ⟨(Int.le_trans (by decide : (-2147483648 : Int) ≤ -3000) b1245.1), (Int.le_trans b1245.2 (by decide : (3002 : Int) ≤ 2147483647))⟩)  (p_0 := by omega) (p_1 := by omega)) (fun o V' hq => ?_)
              obtain ⟨G1246, A1247, fk2_1248, rfl, rfl, hW1249, hF1250, e1251, p1252, -⟩ := hq
              have hF1254 := Fr_tr hFx hF1250 (Fr_sub (by decide)) (Fr_sub (by decide))
              have hP1255 := Pf_f hPx hF1250 (by decide)
              have sf1256 : ND A1247 (one) (33) (0) (0) (0) (0) (0) (0) := ND_ag (by omega) (Ag_fr hF1250 (by decide)) iv_11
              have ec1257 : ecn A1247 (G1246 31) = ec1 := (ecn_f (hF1250.2 15 rfl) (hF1250.1 31 rfl)).trans ex_ec1
              have bfk2_1248 : (0 : Int) ≤ fk2_1248 ∧ fk2_1248 ≤ 6 := e1251 ▸ hW1249.1 16
              refine .inl ⟨rfl, ?_⟩
              refine jx_ar (pc' := 156) (st' := [.int (i32 (0))]) rfl rfl rfl rfl ?_
              refine jx_rt (v := some (.int (i32 (0)))) rfl rfl rfl rfl rfl rfl ?_
              exact ⟨_, _, _, at1, fk2_1248, nd1, ln, ec1, rfl, rfl, hW1249, hF1254, hP1255, by omega, ((hF1250.1 10 rfl).trans (ex_at1)), (e1251), ((hF1250.1 31 rfl).trans (ex_nd1)), ((hF1250.1 9 rfl).trans (fx_9)), ec1257, by omega, by omega, by omega, by omega, by omega, by first | exact Or.inl (⟨by omega, by omega, by omega⟩)⟩
          · have _q : True := trivial
            refine jx_if_ne (pc' := 146) (tg := 157) rfl rfl rfl (Int.le_trans (by decide : (-2147483648 : Int) ≤ -2147483648) b1241.1) (Int.le_trans b1241.2 (by decide : (2147483647 : Int) ≤ 2147483647)) (fun h1258 => ?_) (fun h1258 => ?_)
            · have _q := h1258
              have z1259 := tz_f (tk1)
              exact c_readGuard_w_at_157_0_0 (X := X) (d := d) (Vs := Vs) (sb := sb) (c0 := c0) (c1 := c1) (G := G) (A := A) (T := T) (ln := ln) (le := le) (at0 := at0) (fk := fk) (op0 := op0) (nd := nd) (tk0 := tk0) (li := li) (ec := ec) (hd := hd) (hW := hW) (e_ln := e_ln) (e_le := e_le) (e_at0 := e_at0) (e_fk := e_fk) (e_op0 := e_op0) (e_nd := e_nd) (e_tk0 := e_tk0) (e_li := e_li) (e_ec := e_ec) (i_SV := i_SV) (p_0 := p_0) (p_1 := p_1) (p_2 := p_2) (p_3 := p_3) (p_4 := p_4) L1229 Gx Ax (one) (pl) (s) (at1) (tk1) (fk1) (nd1) (op1) (ks) (ec1) gL1229_0 gL1229_6 gL1229_7 gL1229_8 gL1229_5 gL1229_1 gL1229_3 gL1229_4 hWx hFx hPx ((ex_at1)) ((ex_tk1)) ((ex_fk1)) ((ex_nd1)) ((ex_op1)) ((ex_ks)) (ex_ec1) ((fx_9)) (by omega) (by omega) (by omega) (by omega) (by omega) (by omega) (by omega) (by omega) (by omega) (by omega) (by omega) (by omega) (by omega) (iv_10) (iv_11) (by omega)
            · have _q := h1258
              refine jx_ld (pc' := 147) (l' := L1229) (st' := [.ref 66]) rfl (jl_aloadn gL1229_0) ?_
              refine jx_ar (pc' := 148) (st' := [.int (i32 (1)), .ref 66]) rfl rfl rfl rfl ?_
              refine jx_ld (pc' := 149) (l' := L1229) (st' := [.ref 66, .int (i32 (1)), .ref 66]) rfl (jl_aloadn gL1229_0) ?_
              have b1260 : (-3000 : Int) ≤ Gx 12 ∧ Gx 12 ≤ 3002 := hWx.1 12
              refine jr_get (pc' := 152) (i := 12) (v := .int (i32 (Gx 12))) rfl rfl (by decide) rfl rfl ?_
              refine jx_vr (pc' := 155) (as := [.int (i32 (1)), .int (i32 (Gx 12))]) (st := []) rfl rfl rfl rfl ⟨rfl, rfl, Nat.le_of_ble_eq_true rfl⟩ rfl rfl (c_fail (dd := d) (hd := by omega) (hW := hWx) (kind := 1) (place := Gx 12) (fk := fk1) (e_fk := show Gx 16 = fk1 from (ex_fk1))  (h_kind := ⟨(by decide), (by decide)⟩) (h_place := ⟨(Int.le_trans (by decide : (-2147483648 : Int) ≤ -3000) b1260.1), (Int.le_trans b1260.2 (by decide : (3002 : Int) ≤ 2147483647))⟩)  (p_0 := by omega) (p_1 := by omega)) (fun o V' hq => ?_)
              obtain ⟨G1261, A1262, fk2_1263, rfl, rfl, hW1264, hF1265, e1266, p1267, -⟩ := hq
              have hF1269 := Fr_tr hFx hF1265 (Fr_sub (by decide)) (Fr_sub (by decide))
              have hP1270 := Pf_f hPx hF1265 (by decide)
              have sf1271 : ND A1262 (one) (33) (0) (0) (0) (0) (0) (0) := ND_ag (by omega) (Ag_fr hF1265 (by decide)) iv_11
              have ec1272 : ecn A1262 (G1261 31) = ec1 := (ecn_f (hF1265.2 15 rfl) (hF1265.1 31 rfl)).trans ex_ec1
              have bfk2_1263 : (0 : Int) ≤ fk2_1263 ∧ fk2_1263 ≤ 6 := e1266 ▸ hW1264.1 16
              refine .inl ⟨rfl, ?_⟩
              refine jx_ar (pc' := 156) (st' := [.int (i32 (0))]) rfl rfl rfl rfl ?_
              refine jx_rt (v := some (.int (i32 (0)))) rfl rfl rfl rfl rfl rfl ?_
              exact ⟨_, _, _, at1, fk2_1263, nd1, ln, ec1, rfl, rfl, hW1264, hF1269, hP1270, by omega, ((hF1265.1 10 rfl).trans (ex_at1)), (e1266), ((hF1265.1 31 rfl).trans (ex_nd1)), ((hF1265.1 9 rfl).trans (fx_9)), ec1272, by omega, by omega, by omega, by omega, by omega, by first | exact Or.inl (⟨by omega, by omega, by omega⟩)⟩
set_option maxRecDepth 20000 in
set_option maxHeartbeats 4000000 in
theorem c_readGuard_w {X : jX} {dd : Nat} {Vs : Nat → Prop} {sb : Int} {c0 c1 : jC} {G : Nat → Int} {A : Nat → Nat → Int} {T : jH} {ln le at0 fk op0 nd tk0 li ec : Int} (hd : 71 ≤ dd) (hW : Wk G A) (e_ln : G 9 = ln) (e_le : A 4 (ln).toNat = le) (e_at0 : G 10 = at0) (e_fk : G 16 = fk) (e_op0 : G 15 = op0) (e_nd : G 31 = nd) (e_tk0 : G 11 = tk0) (e_li : G 3 = li) (e_ec : ecn A (G 31) = ec) (i_SV : SV Vs sb G A) (p_0 : 0 ≤ op0 ∧ op0 ≤ 8) (p_1 : fk = 0) (p_2 : nd ≤ 2 * at0 - tz tk0 + 42) (p_3 : at0 ≤ le) (p_4 : ln < li) : wk X dd 303 [.ref 66] (rV c0 c1 G A T) (fun o V' => ∃ (G' : Nat → Int) (A' : Nat → Nat → Int) (r : Int) (at2 : Int) (fk2 : Int) (nd2 : Int) (ln2 : Int) (ec2 : Int), V' = rV c0 c1 G' A' T ∧ o = .inl (some (.int (i32 r))) ∧ Wk G' A' ∧ Fr [9, 10, 11, 12, 13, 14, 15, 16, 17, 18, 31] [15, 16, 17, 18, 19, 20, 21, 22, 24, 28] G A G' A' ∧ Pf nd A A' ∧ ((-2147483648 : Int) ≤ r ∧ r ≤ 2147483647) ∧ G' 10 = at2 ∧ G' 16 = fk2 ∧ G' 31 = nd2 ∧ G' 9 = ln2 ∧ ecn A' (G' 31) = ec2 ∧ (at0 ≤ at2) ∧ (at2 ≤ le) ∧ (nd ≤ nd2) ∧ (0 ≤ r) ∧ (r ≤ nd2) ∧ (((1 ≤ fk2) ∧ (ln2 = ln) ∧ (nd2 - nd ≤ 2 * at2 - 2 * at0 + 12)) ∨ ((fk2 = 0) ∧ (ln2 = ln + 1) ∧ (nd2 - nd ≤ 2 * at2 - (2 * at0 - tz tk0) + 0) ∧ (nd ≤ r) ∧ (r < nd2) ∧ (wU A' Vs sb (r) (nd) (nd2)) ∧ (NX A' (r)) ∧ (nd2 - nd + 5 * (ec2 - ec) ≤ 2 * at2 - (2 * at0 - tz tk0) + 0)))) := by
  obtain ⟨d, rfl⟩ : ∃ d, dd = d + 1 := ⟨dd - 1, by omega⟩
  refine wk_of (e := jm303) rfl (Nat.le_of_ble_eq_true rfl) ?_
  show wj X d jm303 (0, [(0, .ref 66)], [], rV c0 c1 G A T) _
  have hF0 : Fr [9, 10, 11, 12, 13, 14, 15, 16, 17, 18, 31] [15, 16, 17, 18, 19, 20, 21, 22, 24, 28] G A G A := Fr_rf
  have hP0 : Pf nd A A := Pf_rf
  have b_ln : (0 : Int) ≤ ln ∧ ln ≤ 3000 := e_ln ▸ hW.1 9
  have b_le : (0 : Int) ≤ le ∧ le ≤ 3000 := e_le ▸ hW.2 4 _
  have b_at0 : (0 : Int) ≤ at0 ∧ at0 ≤ 3002 := e_at0 ▸ hW.1 10
  have b_fk : (0 : Int) ≤ fk ∧ fk ≤ 6 := e_fk ▸ hW.1 16
  have b_op0 : (-2147483648 : Int) ≤ op0 ∧ op0 ≤ 2147483647 := e_op0 ▸ hW.1 15
  have b_nd : (0 : Int) ≤ nd ∧ nd ≤ 6999 := e_nd ▸ hW.1 31
  have z_tk0 := tz_f tk0
  have b_tk0 : (0 : Int) ≤ tk0 ∧ tk0 ≤ 5 := e_tk0 ▸ hW.1 11
  have b_li : (0 : Int) ≤ li ∧ li ≤ 3000 := e_li ▸ hW.1 3
  refine jx_ld (pc' := 1) (l' := [(0, .ref 66)]) (st' := [.ref 66]) rfl (jl_aloadn rfl) ?_
  refine jx_ar (pc' := 3) (st' := [.int (i32 (33)), .ref 66]) rfl rfl rfl rfl ?_
  refine jx_ar (pc' := 4) (st' := [.int (i32 (0)), .int (i32 (33)), .ref 66]) rfl rfl rfl rfl ?_
  refine jx_ar (pc' := 5) (st' := [.int (i32 (0)), .int (i32 (0)), .int (i32 (33)), .ref 66]) rfl rfl rfl rfl ?_
  refine jx_ar (pc' := 6) (st' := [.int (i32 (0)), .int (i32 (0)), .int (i32 (0)), .int (i32 (33)), .ref 66]) rfl rfl rfl rfl ?_
  refine jx_ar (pc' := 7) (st' := [.int (i32 (0)), .int (i32 (0)), .int (i32 (0)), .int (i32 (0)), .int (i32 (33)), .ref 66]) rfl rfl rfl rfl ?_
  refine jx_vr (pc' := 10) (as := [.int (i32 (33)), .int (i32 (0)), .int (i32 (0)), .int (i32 (0)), .int (i32 (0))]) (st := []) rfl rfl rfl rfl ⟨rfl, rfl, Nat.le_of_ble_eq_true rfl⟩ rfl rfl (c_node_o (dd := d) (hd := by omega) (hW := hW) (kind := 33) (a := 0) (b := 0) (c := 0) (e := 0) (nd := nd) (e_nd := show G 31 = nd from (e_nd)) (ec := ec) (e_ec := show ecn A (G 31) = ec from e_ec)  (h_kind := ⟨(by decide), (by decide)⟩) (h_a := ⟨(by decide), (by decide)⟩) (h_b := ⟨(by decide), (by decide)⟩) (h_c := ⟨(by decide), (by decide)⟩) (h_e := ⟨(by decide), (by decide)⟩)  (p_0 := by omega) (p_1 := by omega) (p_2 := by omega)) (fun o V' hq => ?_)
  obtain ⟨G1273, A1274, nd2_1275, ec2_1276, rfl, rfl, hW1277, hF1278, hQ1279, e1280, e1281, p1282, p1283, p1284, -⟩ := hq
  have hF1286 := Fr_tr hF0 hF1278 (Fr_sub (by decide)) (Fr_sub (by decide))
  have hP1287 := Pf_tr hP0 hQ1279 (by omega)
  have bnd2_1275 : (0 : Int) ≤ nd2_1275 ∧ nd2_1275 ≤ 6999 := e1280 ▸ hW1277.1 31
  refine .inr ⟨_, rfl, ?_⟩
  refine jx_ld (pc' := 11) (l' := jSto1 [(0, .ref 66)] 1 (.int (i32 (nd)))) (st' := []) rfl rfl ?_
  obtain ⟨L1288, eL1288⟩ : ∃ q, q = jSto1 [(0, .ref 66)] 1 (.int (i32 (nd))) := ⟨_, rfl⟩
  rw [← eL1288]
  have gL1288_0 : jGet L1288 0 = some (.ref 66) := eL1288 ▸ jg_ne (by decide) (rfl : jGet [(0, .ref 66)] 0 = some (.ref 66)) rfl
  have gL1288_1 : jGet L1288 1 = some (.int (i32 (nd))) := eL1288 ▸ jg_eq
  refine jx_ar (pc' := 12) (st' := [.int (i32 (0))]) rfl rfl rfl rfl ?_
  refine jx_ld (pc' := 13) (l' := jSto1 L1288 2 (.int (i32 (0)))) (st' := []) rfl rfl ?_
  obtain ⟨L1289, eL1289⟩ : ∃ q, q = jSto1 L1288 2 (.int (i32 (0))) := ⟨_, rfl⟩
  rw [← eL1289]
  have gL1289_0 : jGet L1289 0 = some (.ref 66) := eL1289 ▸ jg_ne (by decide) gL1288_0 rfl
  have gL1289_1 : jGet L1289 1 = some (.int (i32 (nd))) := eL1289 ▸ jg_ne (by decide) gL1288_1 rfl
  have gL1289_2 : jGet L1289 2 = some (.int (i32 (0))) := eL1289 ▸ jg_eq
  refine jx_ld (pc' := 14) (l' := L1289) (st' := [.ref 66]) rfl (jl_aloadn gL1289_0) ?_
  have z1290 := tz_f (tk0)
  refine jr_get (pc' := 17) (i := 11) (v := .int (i32 (tk0))) rfl rfl (by decide) (rFv_eq (by decide) (show G1273 11 = tk0 from ((hF1278.1 11 rfl).trans (e_tk0)))) rfl ?_
  refine jx_ar (pc' := 18) (st' := [.int (i32 (1)), .int (i32 (tk0))]) rfl rfl rfl rfl ?_
  refine jx_icmp_ne (pc' := 21) (tg := 288) rfl rfl rfl (Int.le_trans (by decide : (-2147483648 : Int) ≤ 0) b_tk0.1) (Int.le_trans b_tk0.2 (by decide : (5 : Int) ≤ 2147483647)) (by decide) (by decide) (fun h1291 => ?_) (fun h1291 => ?_)
  · have _q := h1291
    refine jx_ld (pc' := 289) (l' := L1289) (st' := [.ref 66]) rfl (jl_aloadn gL1289_0) ?_
    refine jx_vr (pc' := 292) (as := []) (st := []) rfl rfl rfl rfl ⟨rfl, rfl, Nat.le_of_ble_eq_true rfl⟩ rfl rfl (REw_all X 9 (dd := d) (hd := by omega) (hW := hW1277)  (ln := ln) (e_ln := show G1273 9 = ln from ((hF1278.1 9 rfl).trans (e_ln))) (le := le) (e_le := show A1274 4 (ln).toNat = le from (congrFun (hF1278.2 4 rfl) _).trans (e_le)) (at0 := at0) (e_at0 := show G1273 10 = at0 from ((hF1278.1 10 rfl).trans (e_at0))) (fk := fk) (e_fk := show G1273 16 = fk from ((hF1278.1 16 rfl).trans (e_fk))) (op0 := op0) (e_op0 := show G1273 15 = op0 from ((hF1278.1 15 rfl).trans (e_op0))) (nd := nd2_1275) (e_nd := show G1273 31 = nd2_1275 from (e1280)) (tk0 := tk0) (e_tk0 := show G1273 11 = tk0 from ((hF1278.1 11 rfl).trans (e_tk0))) (ec := ec2_1276) (e_ec := show ecn A1274 (G1273 31) = ec2_1276 from e1281) (i_SV := (SV_ext ((hF1278.1 29 rfl)) ((hF1278.2 14 rfl)) i_SV))   (p_0 := by omega) (p_1 := by omega) (p_2 := by omega) (p_3 := by omega) (p_4 := by omega) (p_5 := by omega)) (fun o V' hq => ?_)
    obtain ⟨G1292, A1293, r1294, at2_1295, fk2_1296, op2_1297, nd2_1298, tk2_1299, ec2_1300, rfl, rfl, hW1301, hF1302, hQ1303, b1304, e1305, e1306, e1307, e1308, e1309, e1310, p1311, p1312, p1313, p1314, p1315, p1316, q1317⟩ := hq
    have hF1318 := Fr_tr hF1286 hF1302 (Fr_sub (by decide)) (Fr_sub (by decide))
    have hP1319 := Pf_tr hP1287 hQ1303 (by omega)
    have sf1320 : ND A1293 (nd) (33) (0) (0) (0) (0) (0) (0) := ND_ag (by omega) (Ag_pf hQ1303 (by omega)) p1284
    have bat2_1295 : (0 : Int) ≤ at2_1295 ∧ at2_1295 ≤ 3002 := e1305 ▸ hW1301.1 10
    have bfk2_1296 : (0 : Int) ≤ fk2_1296 ∧ fk2_1296 ≤ 6 := e1306 ▸ hW1301.1 16
    have bop2_1297 : (-2147483648 : Int) ≤ op2_1297 ∧ op2_1297 ≤ 2147483647 := e1307 ▸ hW1301.1 15
    have bnd2_1298 : (0 : Int) ≤ nd2_1298 ∧ nd2_1298 ≤ 6999 := e1308 ▸ hW1301.1 31
    have ztk2_1299 := tz_b tk2_1299
    have btk2_1299 : (0 : Int) ≤ tk2_1299 ∧ tk2_1299 ≤ 5 := e1309 ▸ hW1301.1 11
    refine .inr ⟨_, rfl, ?_⟩
    rcases q1317 with ⟨a1321, a1322, a1323, a1324, a1325, a1326⟩ | ⟨a1327, a1328, a1329⟩ | ⟨a1330, a1331, a1332, a1333, a1334, a1335⟩
    · have _q : True := trivial
      exfalso
      omega
    · have _q : True := trivial
      refine jx_ld (pc' := 293) (l' := jSto1 L1289 2 (.int (i32 (r1294)))) (st' := []) rfl rfl ?_
      obtain ⟨L1336, eL1336⟩ : ∃ q, q = jSto1 L1289 2 (.int (i32 (r1294))) := ⟨_, rfl⟩
      rw [← eL1336]
      have gL1336_0 : jGet L1336 0 = some (.ref 66) := eL1336 ▸ jg_ne (by decide) gL1289_0 rfl
      have gL1336_1 : jGet L1336 1 = some (.int (i32 (nd))) := eL1336 ▸ jg_ne (by decide) gL1289_1 rfl
      have gL1336_2 : jGet L1336 2 = some (.int (i32 (r1294))) := eL1336 ▸ jg_eq
      have z1337 := tz_f (tk2_1299)
      exact c_readGuard_w_at_293p (X := X) (d := d) (Vs := Vs) (sb := sb) (c0 := c0) (c1 := c1) (G := G) (A := A) (T := T) (ln := ln) (le := le) (at0 := at0) (fk := fk) (op0 := op0) (nd := nd) (tk0 := tk0) (li := li) (ec := ec) (hd := hd) (hW := hW) (e_ln := e_ln) (e_le := e_le) (e_at0 := e_at0) (e_fk := e_fk) (e_op0 := e_op0) (e_nd := e_nd) (e_tk0 := e_tk0) (e_li := e_li) (e_ec := e_ec) (i_SV := i_SV) (p_0 := p_0) (p_1 := p_1) (p_2 := p_2) (p_3 := p_3) (p_4 := p_4) L1336 G1292 A1293 (nd) (r1294) (at2_1295) (tk2_1299) (fk2_1296) (nd2_1298) (op2_1297) (ec2_1300) gL1336_0 gL1336_1 gL1336_2 hW1301 hF1318 hP1319 ((e1305)) ((e1309)) ((e1306)) ((e1308)) ((e1307)) (e1310) (((hF1302.1 9 rfl).trans ((hF1278.1 9 rfl).trans (e_ln)))) (by omega) (by omega) (by omega) (by omega) (by omega) (by omega) (by omega) (by omega) (by omega) (by omega)
    · have _q : True := trivial
      refine jx_ld (pc' := 293) (l' := jSto1 L1289 2 (.int (i32 (r1294)))) (st' := []) rfl rfl ?_
      obtain ⟨L1338, eL1338⟩ : ∃ q, q = jSto1 L1289 2 (.int (i32 (r1294))) := ⟨_, rfl⟩
      rw [← eL1338]
      have gL1338_0 : jGet L1338 0 = some (.ref 66) := eL1338 ▸ jg_ne (by decide) gL1289_0 rfl
      have gL1338_1 : jGet L1338 1 = some (.int (i32 (nd))) := eL1338 ▸ jg_ne (by decide) gL1289_1 rfl
      have gL1338_2 : jGet L1338 2 = some (.int (i32 (r1294))) := eL1338 ▸ jg_eq
      have z1339 := tz_f (tk2_1299)
      exact c_readGuard_w_at_293 (X := X) (d := d) (Vs := Vs) (sb := sb) (c0 := c0) (c1 := c1) (G := G) (A := A) (T := T) (ln := ln) (le := le) (at0 := at0) (fk := fk) (op0 := op0) (nd := nd) (tk0 := tk0) (li := li) (ec := ec) (hd := hd) (hW := hW) (e_ln := e_ln) (e_le := e_le) (e_at0 := e_at0) (e_fk := e_fk) (e_op0 := e_op0) (e_nd := e_nd) (e_tk0 := e_tk0) (e_li := e_li) (e_ec := e_ec) (i_SV := i_SV) (p_0 := p_0) (p_1 := p_1) (p_2 := p_2) (p_3 := p_3) (p_4 := p_4) L1338 G1292 A1293 (nd) (r1294) (at2_1295) (tk2_1299) (fk2_1296) (nd2_1298) (op2_1297) (ec2_1300) gL1338_0 gL1338_1 gL1338_2 hW1301 hF1318 hP1319 ((e1305)) ((e1309)) ((e1306)) ((e1308)) ((e1307)) (e1310) (((hF1302.1 9 rfl).trans ((hF1278.1 9 rfl).trans (e_ln)))) (by omega) (by omega) (by omega) (by omega) (by omega) (by omega) (by omega) (by omega) (by omega) (by omega) (by omega) (sf1320) ((wE_mono (by omega) (by omega) (by omega) a1333)) (by omega)
  · have _q := h1291
    refine jx_ld (pc' := 22) (l' := L1289) (st' := [.ref 66]) rfl (jl_aloadn gL1289_0) ?_
    have b1340 : (-3000 : Int) ≤ G 12 ∧ G 12 ≤ 3002 := hW.1 12
    refine jr_get (pc' := 25) (i := 12) (v := .int (i32 (G 12))) rfl rfl (by decide) (rFv_eq (by decide) (show G1273 12 = G 12 from (hF1278.1 12 rfl))) rfl ?_
    refine jx_ld (pc' := 26) (l' := jSto1 L1289 3 (.int (i32 (G 12)))) (st' := []) rfl rfl ?_
    obtain ⟨L1341, eL1341⟩ : ∃ q, q = jSto1 L1289 3 (.int (i32 (G 12))) := ⟨_, rfl⟩
    rw [← eL1341]
    have gL1341_0 : jGet L1341 0 = some (.ref 66) := eL1341 ▸ jg_ne (by decide) gL1289_0 rfl
    have gL1341_1 : jGet L1341 1 = some (.int (i32 (nd))) := eL1341 ▸ jg_ne (by decide) gL1289_1 rfl
    have gL1341_2 : jGet L1341 2 = some (.int (i32 (0))) := eL1341 ▸ jg_ne (by decide) gL1289_2 rfl
    have gL1341_3 : jGet L1341 3 = some (.int (i32 (G 12))) := eL1341 ▸ jg_eq
    refine jx_ld (pc' := 27) (l' := L1341) (st' := [.ref 66]) rfl (jl_aloadn gL1341_0) ?_
    refine jx_vr (pc' := 30) (as := []) (st := []) rfl rfl rfl rfl ⟨rfl, rfl, Nat.le_of_ble_eq_true rfl⟩ rfl rfl (c_lookUp (dd := d) (hd := by omega) (hW := hW1277)  (fk := fk) (e_fk := show G1273 16 = fk from ((hF1278.1 16 rfl).trans (e_fk))) (i_SV := (SV_ext ((hF1278.1 29 rfl)) ((hF1278.2 14 rfl)) i_SV))   ) (fun o V' hq => ?_)
    obtain ⟨G1342, A1343, r1344, fk2_1345, rfl, rfl, hW1346, hF1347, b1348, e1349, q1350⟩ := hq
    have hF1351 := Fr_tr hF1286 hF1347 (Fr_sub (by decide)) (Fr_sub (by decide))
    have hP1352 := Pf_f hP1287 hF1347 (by decide)
    have sf1353 : ND A1343 (nd) (33) (0) (0) (0) (0) (0) (0) := ND_ag (by omega) (Ag_fr hF1347 (by decide)) p1284
    have ec1354 : ecn A1343 (G1342 31) = ec2_1276 := (ecn_f (hF1347.2 15 rfl) (hF1347.1 31 rfl)).trans e1281
    have bfk2_1345 : (0 : Int) ≤ fk2_1345 ∧ fk2_1345 ≤ 6 := e1349 ▸ hW1346.1 16
    refine .inr ⟨_, rfl, ?_⟩
    rcases q1350 with ⟨a1355, a1356⟩ | ⟨a1357, a1358, a1359, a1360⟩
    · have _q : True := trivial
      refine jx_ld (pc' := 32) (l' := jSto1 L1341 4 (.int (i32 (r1344)))) (st' := []) rfl rfl ?_
      obtain ⟨L1361, eL1361⟩ : ∃ q, q = jSto1 L1341 4 (.int (i32 (r1344))) := ⟨_, rfl⟩
      rw [← eL1361]
      have gL1361_0 : jGet L1361 0 = some (.ref 66) := eL1361 ▸ jg_ne (by decide) gL1341_0 rfl
      have gL1361_1 : jGet L1361 1 = some (.int (i32 (nd))) := eL1361 ▸ jg_ne (by decide) gL1341_1 rfl
      have gL1361_2 : jGet L1361 2 = some (.int (i32 (0))) := eL1361 ▸ jg_ne (by decide) gL1341_2 rfl
      have gL1361_3 : jGet L1361 3 = some (.int (i32 (G 12))) := eL1361 ▸ jg_ne (by decide) gL1341_3 rfl
      have gL1361_4 : jGet L1361 4 = some (.int (i32 (r1344))) := eL1361 ▸ jg_eq
      refine jx_ld (pc' := 33) (l' := L1361) (st' := [.ref 66]) rfl (jl_aloadn gL1361_0) ?_
      refine jx_vr (pc' := 36) (as := []) (st := []) rfl rfl rfl rfl ⟨rfl, rfl, Nat.le_of_ble_eq_true rfl⟩ rfl rfl (c_bad (dd := d) (hd := by omega) (hW := hW1346)  (fk := fk2_1345) (e_fk := show G1342 16 = fk2_1345 from (e1349))    ) (fun o V' hq => ?_)
      obtain ⟨r1362, rfl, rfl, b1363, q1364⟩ := hq
      refine .inr ⟨_, rfl, ?_⟩
      rcases q1364 with ⟨rfl, a1365⟩ | ⟨rfl, a1366⟩
      · have _q : True := trivial
        refine jx_if_eq (pc' := 39) (tg := 41) rfl rfl rfl (by decide) (by decide) (fun h1367 => ?_) (fun h1367 => ?_)
        · have _q := h1367
          exact absurd h1367 (by omega)
        · have _q := h1367
          refine jx_ar (pc' := 40) (st' := [.int (i32 (0))]) rfl rfl rfl rfl ?_
          refine jx_rt (v := some (.int (i32 (0)))) rfl rfl rfl rfl rfl rfl ?_
          exact ⟨_, _, _, at0, fk2_1345, nd2_1275, ln, ec2_1276, rfl, rfl, hW1346, hF1351, hP1352, by omega, ((hF1347.1 10 rfl).trans ((hF1278.1 10 rfl).trans (e_at0))), (e1349), ((hF1347.1 31 rfl).trans (e1280)), ((hF1347.1 9 rfl).trans ((hF1278.1 9 rfl).trans (e_ln))), ec1354, by omega, by omega, by omega, by omega, by omega, by first | exact Or.inl (⟨by omega, by omega, by omega⟩)⟩
      · have _q : True := trivial
        exfalso
        omega
    · have _q : True := trivial
      refine jx_ld (pc' := 32) (l' := jSto1 L1341 4 (.int (i32 (r1344)))) (st' := []) rfl rfl ?_
      obtain ⟨L1368, eL1368⟩ : ∃ q, q = jSto1 L1341 4 (.int (i32 (r1344))) := ⟨_, rfl⟩
      rw [← eL1368]
      have gL1368_0 : jGet L1368 0 = some (.ref 66) := eL1368 ▸ jg_ne (by decide) gL1341_0 rfl
      have gL1368_1 : jGet L1368 1 = some (.int (i32 (nd))) := eL1368 ▸ jg_ne (by decide) gL1341_1 rfl
      have gL1368_2 : jGet L1368 2 = some (.int (i32 (0))) := eL1368 ▸ jg_ne (by decide) gL1341_2 rfl
      have gL1368_3 : jGet L1368 3 = some (.int (i32 (G 12))) := eL1368 ▸ jg_ne (by decide) gL1341_3 rfl
      have gL1368_4 : jGet L1368 4 = some (.int (i32 (r1344))) := eL1368 ▸ jg_eq
      refine jx_ld (pc' := 33) (l' := L1368) (st' := [.ref 66]) rfl (jl_aloadn gL1368_0) ?_
      refine jx_vr (pc' := 36) (as := []) (st := []) rfl rfl rfl rfl ⟨rfl, rfl, Nat.le_of_ble_eq_true rfl⟩ rfl rfl (c_bad (dd := d) (hd := by omega) (hW := hW1346)  (fk := fk2_1345) (e_fk := show G1342 16 = fk2_1345 from (e1349))    ) (fun o V' hq => ?_)
      obtain ⟨r1369, rfl, rfl, b1370, q1371⟩ := hq
      refine .inr ⟨_, rfl, ?_⟩
      rcases q1371 with ⟨rfl, a1372⟩ | ⟨rfl, a1373⟩
      · have _q : True := trivial
        exfalso
        omega
      · have _q : True := trivial
        refine jx_if_eq (pc' := 39) (tg := 41) rfl rfl rfl (by decide) (by decide) (fun h1374 => ?_) (fun h1374 => ?_)
        · have _q := h1374
          refine jx_ld (pc' := 42) (l' := L1368) (st' := [.ref 66]) rfl (jl_aloadn gL1368_0) ?_
          refine jx_vr (pc' := 45) (as := []) (st := []) rfl rfl rfl rfl ⟨rfl, rfl, Nat.le_of_ble_eq_true rfl⟩ rfl rfl (c_next (dd := d) (hd := by omega) (hW := hW1346)  (ln := ln) (e_ln := show G1342 9 = ln from ((hF1347.1 9 rfl).trans ((hF1278.1 9 rfl).trans (e_ln)))) (le := le) (e_le := show A1343 4 (ln).toNat = le from (congrFun ((hF1347.2 4 rfl).trans (hF1278.2 4 rfl)) _).trans (e_le)) (at0 := at0) (e_at0 := show G1342 10 = at0 from ((hF1347.1 10 rfl).trans ((hF1278.1 10 rfl).trans (e_at0))))    (p_0 := by omega)) (fun o V' hq => ?_)
          obtain ⟨G1375, A1376, at2_1377, tk2_1378, rfl, rfl, hW1379, hF1380, e1381, e1382, p1383, p1384, p1385, -⟩ := hq
          have hF1387 := Fr_tr hF1351 hF1380 (Fr_sub (by decide)) (Fr_sub (by decide))
          have hP1388 := Pf_f hP1352 hF1380 (by decide)
          have sf1389 : ND A1376 (nd) (33) (0) (0) (0) (0) (0) (0) := ND_ag (by omega) (Ag_fr hF1380 (by decide)) sf1353
          have ec1390 : ecn A1376 (G1375 31) = ec2_1276 := (ecn_f (hF1380.2 15 rfl) (hF1380.1 31 rfl)).trans ec1354
          have bat2_1377 : (0 : Int) ≤ at2_1377 ∧ at2_1377 ≤ 3002 := e1381 ▸ hW1379.1 10
          have ztk2_1378 := tz_b tk2_1378
          have btk2_1378 : (0 : Int) ≤ tk2_1378 ∧ tk2_1378 ≤ 5 := e1382 ▸ hW1379.1 11
          refine .inl ⟨rfl, ?_⟩
          have pz1391 : at0 + tz tk2_1378 ≤ at2_1377 := by omega
          refine jx_ar (pc' := 46) (st' := [.int (i32 (0))]) rfl rfl rfl rfl ?_
          refine jx_ld (pc' := 48) (l' := jSto1 L1368 5 (.int (i32 (0)))) (st' := []) rfl rfl ?_
          obtain ⟨L1392, eL1392⟩ : ∃ q, q = jSto1 L1368 5 (.int (i32 (0))) := ⟨_, rfl⟩
          rw [← eL1392]
          have gL1392_0 : jGet L1392 0 = some (.ref 66) := eL1392 ▸ jg_ne (by decide) gL1368_0 rfl
          have gL1392_1 : jGet L1392 1 = some (.int (i32 (nd))) := eL1392 ▸ jg_ne (by decide) gL1368_1 rfl
          have gL1392_2 : jGet L1392 2 = some (.int (i32 (0))) := eL1392 ▸ jg_ne (by decide) gL1368_2 rfl
          have gL1392_3 : jGet L1392 3 = some (.int (i32 (G 12))) := eL1392 ▸ jg_ne (by decide) gL1368_3 rfl
          have gL1392_4 : jGet L1392 4 = some (.int (i32 (r1344))) := eL1392 ▸ jg_ne (by decide) gL1368_4 rfl
          have gL1392_5 : jGet L1392 5 = some (.int (i32 (0))) := eL1392 ▸ jg_eq
          refine jx_ld (pc' := 49) (l' := L1392) (st' := [.ref 66]) rfl (jl_aloadn gL1392_0) ?_
          refine jx_ar (pc' := 51) (st' := [.int (i32 (91)), .ref 66]) rfl rfl rfl rfl ?_
          have b1393 : (-2147483648 : Int) ≤ G1375 13 ∧ G1375 13 ≤ 2147483647 := hW1379.1 13
          refine jx_vr (pc' := 54) (as := [.int (i32 (91))]) (st := []) rfl rfl rfl rfl ⟨rfl, rfl, Nat.le_of_ble_eq_true rfl⟩ rfl rfl (c_is (dd := d) (hd := by omega) (hW := hW1379) (k := 91) (tk := tk2_1378) (e_tk := show G1375 11 = tk2_1378 from (e1382)) (tn := G1375 13) (e_tn := show G1375 13 = G1375 13 from rfl)  (h_k := ⟨(by decide), (by decide)⟩)  ) (fun o V' hq => ?_)
          obtain ⟨r1394, rfl, rfl, b1395, q1396⟩ := hq
          refine .inr ⟨_, rfl, ?_⟩
          rcases q1396 with ⟨rfl, a1397, a1398, a1399⟩ | rfl
          · have _q : True := trivial
            refine jx_ld (pc' := 56) (l' := jSto1 L1392 6 (.int (i32 (1)))) (st' := []) rfl rfl ?_
            obtain ⟨L1400, eL1400⟩ : ∃ q, q = jSto1 L1392 6 (.int (i32 (1))) := ⟨_, rfl⟩
            rw [← eL1400]
            have gL1400_0 : jGet L1400 0 = some (.ref 66) := eL1400 ▸ jg_ne (by decide) gL1392_0 rfl
            have gL1400_1 : jGet L1400 1 = some (.int (i32 (nd))) := eL1400 ▸ jg_ne (by decide) gL1392_1 rfl
            have gL1400_2 : jGet L1400 2 = some (.int (i32 (0))) := eL1400 ▸ jg_ne (by decide) gL1392_2 rfl
            have gL1400_3 : jGet L1400 3 = some (.int (i32 (G 12))) := eL1400 ▸ jg_ne (by decide) gL1392_3 rfl
            have gL1400_4 : jGet L1400 4 = some (.int (i32 (r1344))) := eL1400 ▸ jg_ne (by decide) gL1392_4 rfl
            have gL1400_5 : jGet L1400 5 = some (.int (i32 (0))) := eL1400 ▸ jg_ne (by decide) gL1392_5 rfl
            have gL1400_6 : jGet L1400 6 = some (.int (i32 (1))) := eL1400 ▸ jg_eq
            refine jx_ld (pc' := 58) (l' := L1400) (st' := [.int (i32 (1))]) rfl (jl_iload gL1400_6) ?_
            refine jx_if_eq (pc' := 61) (tg := 99) rfl rfl rfl (by decide) (by decide) (fun h1401 => ?_) (fun h1401 => ?_)
            · have _q := h1401
              exact absurd h1401 (by omega)
            · have _q := h1401
              refine jx_ld (pc' := 62) (l' := L1400) (st' := [.ref 66]) rfl (jl_aloadn gL1400_0) ?_
              refine jr_get (pc' := 65) (i := 21) (v := .ref 74) rfl rfl (by decide) rfl rfl ?_
              refine jx_ld (pc' := 67) (l' := L1400) (st' := [.int (i32 (r1344)), .ref 74]) rfl (jl_iload gL1400_4) ?_
              have b1402 : (0 : Int) ≤ A 7 (r1344).toNat ∧ A 7 (r1344).toNat ≤ 14 := hW.2 7 _
              refine jr_ldv (pc' := 68) (i := 7) (m := 260) (z := r1344) (y := A 7 (r1344).toNat) rfl (by decide) rfl (by decide) (by omega) (by omega) rfl (show A1376 7 (r1344).toNat = A 7 (r1344).toNat from (congrFun ((hF1380.2 7 rfl).trans ((hF1347.2 7 rfl).trans (hF1278.2 7 rfl))) _)) ?_
              refine jx_st (pc' := 71) (as := [.int (i32 (A 7 (r1344).toNat))]) (st := []) rfl rfl ⟨rfl, Nat.le_of_ble_eq_true rfl⟩ rfl rfl rfl (c_isArray (dd := d) (hd := by omega) (k := A 7 (r1344).toNat)   (h_k := ⟨(Int.le_trans (by decide : (-2147483648 : Int) ≤ 0) b1402.1), (Int.le_trans b1402.2 (by decide : (14 : Int) ≤ 2147483647))⟩)  ) (fun o V' hq => ?_)
              obtain ⟨r1403, rfl, rfl, b1404, q1405⟩ := hq
              refine .inr ⟨_, rfl, ?_⟩
              rcases q1405 with ⟨rfl, a1406⟩ | rfl
              · have _q : True := trivial
                refine jx_if_ne (pc' := 74) (tg := 93) rfl rfl rfl (by decide) (by decide) (fun h1407 => ?_) (fun h1407 => ?_)
                · have _q := h1407
                  refine jx_ld (pc' := 94) (l' := L1400) (st' := [.ref 66]) rfl (jl_aloadn gL1400_0) ?_
                  refine jx_vr (pc' := 97) (as := []) (st := []) rfl rfl rfl rfl ⟨rfl, rfl, Nat.le_of_ble_eq_true rfl⟩ rfl rfl (c_readIndex_w (dd := d) (k := 9) (hE := REw_all X 9) (hd := by omega) (hW := hW1379)  (ln := ln) (e_ln := show G1375 9 = ln from ((hF1380.1 9 rfl).trans ((hF1347.1 9 rfl).trans ((hF1278.1 9 rfl).trans (e_ln))))) (le := le) (e_le := show A1376 4 (ln).toNat = le from (congrFun ((hF1380.2 4 rfl).trans ((hF1347.2 4 rfl).trans (hF1278.2 4 rfl))) _).trans (e_le)) (at0 := at2_1377) (e_at0 := show G1375 10 = at2_1377 from (e1381)) (fk := fk2_1345) (e_fk := show G1375 16 = fk2_1345 from ((hF1380.1 16 rfl).trans (e1349))) (op0 := op0) (e_op0 := show G1375 15 = op0 from ((hF1380.1 15 rfl).trans ((hF1347.1 15 rfl).trans ((hF1278.1 15 rfl).trans (e_op0))))) (nd := nd2_1275) (e_nd := show G1375 31 = nd2_1275 from ((hF1380.1 31 rfl).trans ((hF1347.1 31 rfl).trans (e1280)))) (tk0 := tk2_1378) (e_tk0 := show G1375 11 = tk2_1378 from (e1382)) (ec := ec2_1276) (e_ec := show ecn A1376 (G1375 31) = ec2_1276 from ec1390) (i_SV := (SV_ext (((hF1380.1 29 rfl).trans ((hF1347.1 29 rfl).trans (hF1278.1 29 rfl)))) (((hF1380.2 14 rfl).trans ((hF1347.2 14 rfl).trans (hF1278.2 14 rfl)))) i_SV))   (p_0 := by omega) (p_1 := by omega) (p_2 := by omega) (p_3 := by omega) (p_4 := by omega) (p_5 := by omega) (p_6 := by omega) (p_7 := by omega) (p_8 := by omega)) (fun o V' hq => ?_)
                  obtain ⟨G1408, A1409, r1410, at2_1411, fk2_1412, op2_1413, nd2_1414, tk2_1415, ec2_1416, rfl, rfl, hW1417, hF1418, hQ1419, b1420, e1421, e1422, e1423, e1424, e1425, e1426, p1427, p1428, p1429, p1430, p1431, p1432, q1433⟩ := hq
                  have hF1434 := Fr_tr hF1387 hF1418 (Fr_sub (by decide)) (Fr_sub (by decide))
                  have hP1435 := Pf_tr hP1388 hQ1419 (by omega)
                  have sf1436 : ND A1409 (nd) (33) (0) (0) (0) (0) (0) (0) := ND_ag (by omega) (Ag_pf hQ1419 (by omega)) sf1389
                  have bat2_1411 : (0 : Int) ≤ at2_1411 ∧ at2_1411 ≤ 3002 := e1421 ▸ hW1417.1 10
                  have bfk2_1412 : (0 : Int) ≤ fk2_1412 ∧ fk2_1412 ≤ 6 := e1422 ▸ hW1417.1 16
                  have bop2_1413 : (-2147483648 : Int) ≤ op2_1413 ∧ op2_1413 ≤ 2147483647 := e1423 ▸ hW1417.1 15
                  have bnd2_1414 : (0 : Int) ≤ nd2_1414 ∧ nd2_1414 ≤ 6999 := e1424 ▸ hW1417.1 31
                  have ztk2_1415 := tz_b tk2_1415
                  have btk2_1415 : (0 : Int) ≤ tk2_1415 ∧ tk2_1415 ≤ 5 := e1425 ▸ hW1417.1 11
                  refine .inr ⟨_, rfl, ?_⟩
                  rcases q1433 with ⟨a1437, a1438, a1439⟩ | ⟨a1440, a1441, a1442, a1443, a1444⟩
                  · have _q : True := trivial
                    refine jx_ld (pc' := 99) (l' := jSto1 L1400 5 (.int (i32 (r1410)))) (st' := []) rfl rfl ?_
                    obtain ⟨L1445, eL1445⟩ : ∃ q, q = jSto1 L1400 5 (.int (i32 (r1410))) := ⟨_, rfl⟩
                    rw [← eL1445]
                    have gL1445_0 : jGet L1445 0 = some (.ref 66) := eL1445 ▸ jg_ne (by decide) gL1400_0 rfl
                    have gL1445_1 : jGet L1445 1 = some (.int (i32 (nd))) := eL1445 ▸ jg_ne (by decide) gL1400_1 rfl
                    have gL1445_2 : jGet L1445 2 = some (.int (i32 (0))) := eL1445 ▸ jg_ne (by decide) gL1400_2 rfl
                    have gL1445_3 : jGet L1445 3 = some (.int (i32 (G 12))) := eL1445 ▸ jg_ne (by decide) gL1400_3 rfl
                    have gL1445_4 : jGet L1445 4 = some (.int (i32 (r1344))) := eL1445 ▸ jg_ne (by decide) gL1400_4 rfl
                    have gL1445_6 : jGet L1445 6 = some (.int (i32 (1))) := eL1445 ▸ jg_ne (by decide) gL1400_6 rfl
                    have gL1445_5 : jGet L1445 5 = some (.int (i32 (r1410))) := eL1445 ▸ jg_eq
                    refine jx_ld (pc' := 100) (l' := L1445) (st' := [.ref 66]) rfl (jl_aloadn gL1445_0) ?_
                    refine jx_vr (pc' := 103) (as := []) (st := []) rfl rfl rfl rfl ⟨rfl, rfl, Nat.le_of_ble_eq_true rfl⟩ rfl rfl (c_bad (dd := d) (hd := by omega) (hW := hW1417)  (fk := fk2_1412) (e_fk := show G1408 16 = fk2_1412 from (e1422))    ) (fun o V' hq => ?_)
                    obtain ⟨r1446, rfl, rfl, b1447, q1448⟩ := hq
                    refine .inr ⟨_, rfl, ?_⟩
                    rcases q1448 with ⟨rfl, a1449⟩ | ⟨rfl, a1450⟩
                    · have _q : True := trivial
                      refine jx_if_eq (pc' := 106) (tg := 108) rfl rfl rfl (by decide) (by decide) (fun h1451 => ?_) (fun h1451 => ?_)
                      · have _q := h1451
                        exact absurd h1451 (by omega)
                      · have _q := h1451
                        refine jx_ar (pc' := 107) (st' := [.int (i32 (0))]) rfl rfl rfl rfl ?_
                        refine jx_rt (v := some (.int (i32 (0)))) rfl rfl rfl rfl rfl rfl ?_
                        exact ⟨_, _, _, at2_1411, fk2_1412, nd2_1414, ln, ec2_1416, rfl, rfl, hW1417, hF1434, hP1435, by omega, (e1421), (e1422), (e1424), ((hF1418.1 9 rfl).trans ((hF1380.1 9 rfl).trans ((hF1347.1 9 rfl).trans ((hF1278.1 9 rfl).trans (e_ln))))), e1426, by omega, by omega, by omega, by omega, by omega, by first | exact Or.inl (⟨by omega, by omega, by omega⟩)⟩
                    · have _q : True := trivial
                      exfalso
                      omega
                  · have _q : True := trivial
                    refine jx_ld (pc' := 99) (l' := jSto1 L1400 5 (.int (i32 (r1410)))) (st' := []) rfl rfl ?_
                    obtain ⟨L1452, eL1452⟩ : ∃ q, q = jSto1 L1400 5 (.int (i32 (r1410))) := ⟨_, rfl⟩
                    rw [← eL1452]
                    have gL1452_0 : jGet L1452 0 = some (.ref 66) := eL1452 ▸ jg_ne (by decide) gL1400_0 rfl
                    have gL1452_1 : jGet L1452 1 = some (.int (i32 (nd))) := eL1452 ▸ jg_ne (by decide) gL1400_1 rfl
                    have gL1452_2 : jGet L1452 2 = some (.int (i32 (0))) := eL1452 ▸ jg_ne (by decide) gL1400_2 rfl
                    have gL1452_3 : jGet L1452 3 = some (.int (i32 (G 12))) := eL1452 ▸ jg_ne (by decide) gL1400_3 rfl
                    have gL1452_4 : jGet L1452 4 = some (.int (i32 (r1344))) := eL1452 ▸ jg_ne (by decide) gL1400_4 rfl
                    have gL1452_6 : jGet L1452 6 = some (.int (i32 (1))) := eL1452 ▸ jg_ne (by decide) gL1400_6 rfl
                    have gL1452_5 : jGet L1452 5 = some (.int (i32 (r1410))) := eL1452 ▸ jg_eq
                    refine jx_ld (pc' := 100) (l' := L1452) (st' := [.ref 66]) rfl (jl_aloadn gL1452_0) ?_
                    refine jx_vr (pc' := 103) (as := []) (st := []) rfl rfl rfl rfl ⟨rfl, rfl, Nat.le_of_ble_eq_true rfl⟩ rfl rfl (c_bad (dd := d) (hd := by omega) (hW := hW1417)  (fk := fk2_1412) (e_fk := show G1408 16 = fk2_1412 from (e1422))    ) (fun o V' hq => ?_)
                    obtain ⟨r1453, rfl, rfl, b1454, q1455⟩ := hq
                    refine .inr ⟨_, rfl, ?_⟩
                    rcases q1455 with ⟨rfl, a1456⟩ | ⟨rfl, a1457⟩
                    · have _q : True := trivial
                      exfalso
                      omega
                    · have _q : True := trivial
                      refine jx_if_eq (pc' := 106) (tg := 108) rfl rfl rfl (by decide) (by decide) (fun h1458 => ?_) (fun h1458 => ?_)
                      · have _q := h1458
                        have z1459 := tz_f (tk2_1415)
                        exact c_readGuard_w_at_108_1 (X := X) (d := d) (Vs := Vs) (sb := sb) (c0 := c0) (c1 := c1) (G := G) (A := A) (T := T) (ln := ln) (le := le) (at0 := at0) (fk := fk) (op0 := op0) (nd := nd) (tk0 := tk0) (li := li) (ec := ec) (hd := hd) (hW := hW) (e_ln := e_ln) (e_le := e_le) (e_at0 := e_at0) (e_fk := e_fk) (e_op0 := e_op0) (e_nd := e_nd) (e_tk0 := e_tk0) (e_li := e_li) (e_ec := e_ec) (i_SV := i_SV) (p_0 := p_0) (p_1 := p_1) (p_2 := p_2) (p_3 := p_3) (p_4 := p_4) L1452 G1408 A1409 (nd) (G 12) (r1344) (r1410) (at2_1411) (tk2_1415) (fk2_1412) (nd2_1414) (op2_1413) (A 7 (r1344).toNat) (ec2_1416) gL1452_0 gL1452_6 gL1452_1 gL1452_3 gL1452_4 gL1452_5 hW1417 hF1434 hP1435 ((e1421)) ((e1425)) ((e1422)) ((e1424)) ((e1423)) ((congrFun ((hF1418.2 7 rfl).trans ((hF1380.2 7 rfl).trans ((hF1347.2 7 rfl).trans (hF1278.2 7 rfl)))) _)) (e1426) (((hF1418.1 9 rfl).trans ((hF1380.1 9 rfl).trans ((hF1347.1 9 rfl).trans ((hF1278.1 9 rfl).trans (e_ln)))))) (by omega) (by omega) (by omega) (by omega) (by omega) (by omega) (by omega) (by omega) (by omega) (by omega) (by omega) (by omega) (by omega) (by omega) (a1360) (sf1436) ((wE_mono (by omega) (by omega) (by omega) a1443)) (by omega)
                      · have _q := h1458
                        exact absurd h1458 (by omega)
                · have _q := h1407
                  exact absurd h1407 (by omega)
              · have _q : True := trivial
                refine jx_if_ne (pc' := 74) (tg := 93) rfl rfl rfl (by decide) (by decide) (fun h1460 => ?_) (fun h1460 => ?_)
                · have _q := h1460
                  exact absurd h1460 (by omega)
                · have _q := h1460
                  refine jx_ld (pc' := 75) (l' := L1400) (st' := [.ref 66]) rfl (jl_aloadn gL1400_0) ?_
                  refine jr_get (pc' := 78) (i := 21) (v := .ref 74) rfl rfl (by decide) rfl rfl ?_
                  refine jx_ld (pc' := 80) (l' := L1400) (st' := [.int (i32 (r1344)), .ref 74]) rfl (jl_iload gL1400_4) ?_
                  refine jr_ldv (pc' := 81) (i := 7) (m := 260) (z := r1344) (y := A 7 (r1344).toNat) rfl (by decide) rfl (by decide) (by omega) (by omega) rfl (show A1376 7 (r1344).toNat = A 7 (r1344).toNat from (congrFun ((hF1380.2 7 rfl).trans ((hF1347.2 7 rfl).trans (hF1278.2 7 rfl))) _)) ?_
                  refine jx_ar (pc' := 82) (st' := [.int (i32 (4)), .int (i32 (A 7 (r1344).toNat))]) rfl rfl rfl rfl ?_
                  refine jx_icmp_eq (pc' := 85) (tg := 93) rfl rfl rfl (Int.le_trans (by decide : (-2147483648 : Int) ≤ 0) b1402.1) (Int.le_trans b1402.2 (by decide : (14 : Int) ≤ 2147483647)) (by decide) (by decide) (fun h1461 => ?_) (fun h1461 => ?_)
                  · have _q := h1461
                    refine jx_ld (pc' := 94) (l' := L1400) (st' := [.ref 66]) rfl (jl_aloadn gL1400_0) ?_
                    refine jx_vr (pc' := 97) (as := []) (st := []) rfl rfl rfl rfl ⟨rfl, rfl, Nat.le_of_ble_eq_true rfl⟩ rfl rfl (c_readIndex_w (dd := d) (k := 9) (hE := REw_all X 9) (hd := by omega) (hW := hW1379)  (ln := ln) (e_ln := show G1375 9 = ln from ((hF1380.1 9 rfl).trans ((hF1347.1 9 rfl).trans ((hF1278.1 9 rfl).trans (e_ln))))) (le := le) (e_le := show A1376 4 (ln).toNat = le from (congrFun ((hF1380.2 4 rfl).trans ((hF1347.2 4 rfl).trans (hF1278.2 4 rfl))) _).trans (e_le)) (at0 := at2_1377) (e_at0 := show G1375 10 = at2_1377 from (e1381)) (fk := fk2_1345) (e_fk := show G1375 16 = fk2_1345 from ((hF1380.1 16 rfl).trans (e1349))) (op0 := op0) (e_op0 := show G1375 15 = op0 from ((hF1380.1 15 rfl).trans ((hF1347.1 15 rfl).trans ((hF1278.1 15 rfl).trans (e_op0))))) (nd := nd2_1275) (e_nd := show G1375 31 = nd2_1275 from ((hF1380.1 31 rfl).trans ((hF1347.1 31 rfl).trans (e1280)))) (tk0 := tk2_1378) (e_tk0 := show G1375 11 = tk2_1378 from (e1382)) (ec := ec2_1276) (e_ec := show ecn A1376 (G1375 31) = ec2_1276 from ec1390) (i_SV := (SV_ext (((hF1380.1 29 rfl).trans ((hF1347.1 29 rfl).trans (hF1278.1 29 rfl)))) (((hF1380.2 14 rfl).trans ((hF1347.2 14 rfl).trans (hF1278.2 14 rfl)))) i_SV))   (p_0 := by omega) (p_1 := by omega) (p_2 := by omega) (p_3 := by omega) (p_4 := by omega) (p_5 := by omega) (p_6 := by omega) (p_7 := by omega) (p_8 := by omega)) (fun o V' hq => ?_)
                    obtain ⟨G1462, A1463, r1464, at2_1465, fk2_1466, op2_1467, nd2_1468, tk2_1469, ec2_1470, rfl, rfl, hW1471, hF1472, hQ1473, b1474, e1475, e1476, e1477, e1478, e1479, e1480, p1481, p1482, p1483, p1484, p1485, p1486, q1487⟩ := hq
                    have hF1488 := Fr_tr hF1387 hF1472 (Fr_sub (by decide)) (Fr_sub (by decide))
                    have hP1489 := Pf_tr hP1388 hQ1473 (by omega)
                    have sf1490 : ND A1463 (nd) (33) (0) (0) (0) (0) (0) (0) := ND_ag (by omega) (Ag_pf hQ1473 (by omega)) sf1389
                    have bat2_1465 : (0 : Int) ≤ at2_1465 ∧ at2_1465 ≤ 3002 := e1475 ▸ hW1471.1 10
                    have bfk2_1466 : (0 : Int) ≤ fk2_1466 ∧ fk2_1466 ≤ 6 := e1476 ▸ hW1471.1 16
                    have bop2_1467 : (-2147483648 : Int) ≤ op2_1467 ∧ op2_1467 ≤ 2147483647 := e1477 ▸ hW1471.1 15
                    have bnd2_1468 : (0 : Int) ≤ nd2_1468 ∧ nd2_1468 ≤ 6999 := e1478 ▸ hW1471.1 31
                    have ztk2_1469 := tz_b tk2_1469
                    have btk2_1469 : (0 : Int) ≤ tk2_1469 ∧ tk2_1469 ≤ 5 := e1479 ▸ hW1471.1 11
                    refine .inr ⟨_, rfl, ?_⟩
                    rcases q1487 with ⟨a1491, a1492, a1493⟩ | ⟨a1494, a1495, a1496, a1497, a1498⟩
                    · have _q : True := trivial
                      refine jx_ld (pc' := 99) (l' := jSto1 L1400 5 (.int (i32 (r1464)))) (st' := []) rfl rfl ?_
                      obtain ⟨L1499, eL1499⟩ : ∃ q, q = jSto1 L1400 5 (.int (i32 (r1464))) := ⟨_, rfl⟩
                      rw [← eL1499]
                      have gL1499_0 : jGet L1499 0 = some (.ref 66) := eL1499 ▸ jg_ne (by decide) gL1400_0 rfl
                      have gL1499_1 : jGet L1499 1 = some (.int (i32 (nd))) := eL1499 ▸ jg_ne (by decide) gL1400_1 rfl
                      have gL1499_2 : jGet L1499 2 = some (.int (i32 (0))) := eL1499 ▸ jg_ne (by decide) gL1400_2 rfl
                      have gL1499_3 : jGet L1499 3 = some (.int (i32 (G 12))) := eL1499 ▸ jg_ne (by decide) gL1400_3 rfl
                      have gL1499_4 : jGet L1499 4 = some (.int (i32 (r1344))) := eL1499 ▸ jg_ne (by decide) gL1400_4 rfl
                      have gL1499_6 : jGet L1499 6 = some (.int (i32 (1))) := eL1499 ▸ jg_ne (by decide) gL1400_6 rfl
                      have gL1499_5 : jGet L1499 5 = some (.int (i32 (r1464))) := eL1499 ▸ jg_eq
                      refine jx_ld (pc' := 100) (l' := L1499) (st' := [.ref 66]) rfl (jl_aloadn gL1499_0) ?_
                      refine jx_vr (pc' := 103) (as := []) (st := []) rfl rfl rfl rfl ⟨rfl, rfl, Nat.le_of_ble_eq_true rfl⟩ rfl rfl (c_bad (dd := d) (hd := by omega) (hW := hW1471)  (fk := fk2_1466) (e_fk := show G1462 16 = fk2_1466 from (e1476))    ) (fun o V' hq => ?_)
                      obtain ⟨r1500, rfl, rfl, b1501, q1502⟩ := hq
                      refine .inr ⟨_, rfl, ?_⟩
                      rcases q1502 with ⟨rfl, a1503⟩ | ⟨rfl, a1504⟩
                      · have _q : True := trivial
                        refine jx_if_eq (pc' := 106) (tg := 108) rfl rfl rfl (by decide) (by decide) (fun h1505 => ?_) (fun h1505 => ?_)
                        · have _q := h1505
                          exact absurd h1505 (by omega)
                        · have _q := h1505
                          refine jx_ar (pc' := 107) (st' := [.int (i32 (0))]) rfl rfl rfl rfl ?_
                          refine jx_rt (v := some (.int (i32 (0)))) rfl rfl rfl rfl rfl rfl ?_
                          exact ⟨_, _, _, at2_1465, fk2_1466, nd2_1468, ln, ec2_1470, rfl, rfl, hW1471, hF1488, hP1489, by omega, (e1475), (e1476), (e1478), ((hF1472.1 9 rfl).trans ((hF1380.1 9 rfl).trans ((hF1347.1 9 rfl).trans ((hF1278.1 9 rfl).trans (e_ln))))), e1480, by omega, by omega, by omega, by omega, by omega, by first | exact Or.inl (⟨by omega, by omega, by omega⟩)⟩
                      · have _q : True := trivial
                        exfalso
                        omega
                    · have _q : True := trivial
                      refine jx_ld (pc' := 99) (l' := jSto1 L1400 5 (.int (i32 (r1464)))) (st' := []) rfl rfl ?_
                      obtain ⟨L1506, eL1506⟩ : ∃ q, q = jSto1 L1400 5 (.int (i32 (r1464))) := ⟨_, rfl⟩
                      rw [← eL1506]
                      have gL1506_0 : jGet L1506 0 = some (.ref 66) := eL1506 ▸ jg_ne (by decide) gL1400_0 rfl
                      have gL1506_1 : jGet L1506 1 = some (.int (i32 (nd))) := eL1506 ▸ jg_ne (by decide) gL1400_1 rfl
                      have gL1506_2 : jGet L1506 2 = some (.int (i32 (0))) := eL1506 ▸ jg_ne (by decide) gL1400_2 rfl
                      have gL1506_3 : jGet L1506 3 = some (.int (i32 (G 12))) := eL1506 ▸ jg_ne (by decide) gL1400_3 rfl
                      have gL1506_4 : jGet L1506 4 = some (.int (i32 (r1344))) := eL1506 ▸ jg_ne (by decide) gL1400_4 rfl
                      have gL1506_6 : jGet L1506 6 = some (.int (i32 (1))) := eL1506 ▸ jg_ne (by decide) gL1400_6 rfl
                      have gL1506_5 : jGet L1506 5 = some (.int (i32 (r1464))) := eL1506 ▸ jg_eq
                      refine jx_ld (pc' := 100) (l' := L1506) (st' := [.ref 66]) rfl (jl_aloadn gL1506_0) ?_
                      refine jx_vr (pc' := 103) (as := []) (st := []) rfl rfl rfl rfl ⟨rfl, rfl, Nat.le_of_ble_eq_true rfl⟩ rfl rfl (c_bad (dd := d) (hd := by omega) (hW := hW1471)  (fk := fk2_1466) (e_fk := show G1462 16 = fk2_1466 from (e1476))    ) (fun o V' hq => ?_)
                      obtain ⟨r1507, rfl, rfl, b1508, q1509⟩ := hq
                      refine .inr ⟨_, rfl, ?_⟩
                      rcases q1509 with ⟨rfl, a1510⟩ | ⟨rfl, a1511⟩
                      · have _q : True := trivial
                        exfalso
                        omega
                      · have _q : True := trivial
                        refine jx_if_eq (pc' := 106) (tg := 108) rfl rfl rfl (by decide) (by decide) (fun h1512 => ?_) (fun h1512 => ?_)
                        · have _q := h1512
                          have z1513 := tz_f (tk2_1469)
                          exact c_readGuard_w_at_108_1 (X := X) (d := d) (Vs := Vs) (sb := sb) (c0 := c0) (c1 := c1) (G := G) (A := A) (T := T) (ln := ln) (le := le) (at0 := at0) (fk := fk) (op0 := op0) (nd := nd) (tk0 := tk0) (li := li) (ec := ec) (hd := hd) (hW := hW) (e_ln := e_ln) (e_le := e_le) (e_at0 := e_at0) (e_fk := e_fk) (e_op0 := e_op0) (e_nd := e_nd) (e_tk0 := e_tk0) (e_li := e_li) (e_ec := e_ec) (i_SV := i_SV) (p_0 := p_0) (p_1 := p_1) (p_2 := p_2) (p_3 := p_3) (p_4 := p_4) L1506 G1462 A1463 (nd) (G 12) (r1344) (r1464) (at2_1465) (tk2_1469) (fk2_1466) (nd2_1468) (op2_1467) (A 7 (r1344).toNat) (ec2_1470) gL1506_0 gL1506_6 gL1506_1 gL1506_3 gL1506_4 gL1506_5 hW1471 hF1488 hP1489 ((e1475)) ((e1479)) ((e1476)) ((e1478)) ((e1477)) ((congrFun ((hF1472.2 7 rfl).trans ((hF1380.2 7 rfl).trans ((hF1347.2 7 rfl).trans (hF1278.2 7 rfl)))) _)) (e1480) (((hF1472.1 9 rfl).trans ((hF1380.1 9 rfl).trans ((hF1347.1 9 rfl).trans ((hF1278.1 9 rfl).trans (e_ln)))))) (by omega) (by omega) (by omega) (by omega) (by omega) (by omega) (by omega) (by omega) (by omega) (by omega) (by omega) (by omega) (by omega) (by omega) (a1360) (sf1490) ((wE_mono (by omega) (by omega) (by omega) a1497)) (by omega)
                        · have _q := h1512
                          exact absurd h1512 (by omega)
                  · have _q := h1461
                    refine jx_ld (pc' := 86) (l' := L1400) (st' := [.ref 66]) rfl (jl_aloadn gL1400_0) ?_
                    refine jx_ar (pc' := 87) (st' := [.int (i32 (4)), .ref 66]) rfl rfl rfl rfl ?_
                    refine jx_ld (pc' := 88) (l' := L1400) (st' := [.int (i32 (G 12)), .int (i32 (4)), .ref 66]) rfl (jl_iloadn gL1400_3) ?_
                    refine jx_vr (pc' := 91) (as := [.int (i32 (4)), .int (i32 (G 12))]) (st := []) rfl rfl rfl rfl ⟨rfl, rfl, Nat.le_of_ble_eq_true rfl⟩ rfl rfl (c_fail (dd := d) (hd := by omega) (hW := hW1379) (kind := 4) (place := G 12) (fk := fk2_1345) (e_fk := show G1375 16 = fk2_1345 from ((hF1380.1 16 rfl).trans (e1349)))  (h_kind := ⟨(by decide), (by decide)⟩) (h_place := ⟨(Int.le_trans (by decide : (-2147483648 : Int) ≤ -3000) b1340.1), (Int.le_trans b1340.2 (by decide : (3002 : Int) ≤ 2147483647))⟩)  (p_0 := by omega) (p_1 := by omega)) (fun o V' hq => ?_)
                    obtain ⟨G1514, A1515, fk2_1516, rfl, rfl, hW1517, hF1518, e1519, p1520, -⟩ := hq
                    have hF1522 := Fr_tr hF1387 hF1518 (Fr_sub (by decide)) (Fr_sub (by decide))
                    have hP1523 := Pf_f hP1388 hF1518 (by decide)
                    have sf1524 : ND A1515 (nd) (33) (0) (0) (0) (0) (0) (0) := ND_ag (by omega) (Ag_fr hF1518 (by decide)) sf1389
                    have ec1525 : ecn A1515 (G1514 31) = ec2_1276 := (ecn_f (hF1518.2 15 rfl) (hF1518.1 31 rfl)).trans ec1390
                    have bfk2_1516 : (0 : Int) ≤ fk2_1516 ∧ fk2_1516 ≤ 6 := e1519 ▸ hW1517.1 16
                    refine .inl ⟨rfl, ?_⟩
                    refine jx_ar (pc' := 92) (st' := [.int (i32 (0))]) rfl rfl rfl rfl ?_
                    refine jx_rt (v := some (.int (i32 (0)))) rfl rfl rfl rfl rfl rfl ?_
                    exact ⟨_, _, _, at2_1377, fk2_1516, nd2_1275, ln, ec2_1276, rfl, rfl, hW1517, hF1522, hP1523, by omega, ((hF1518.1 10 rfl).trans (e1381)), (e1519), ((hF1518.1 31 rfl).trans ((hF1380.1 31 rfl).trans ((hF1347.1 31 rfl).trans (e1280)))), ((hF1518.1 9 rfl).trans ((hF1380.1 9 rfl).trans ((hF1347.1 9 rfl).trans ((hF1278.1 9 rfl).trans (e_ln))))), ec1525, by omega, by omega, by omega, by omega, by omega, by first | exact Or.inl (⟨by omega, by omega, by omega⟩)⟩
          · have _q : True := trivial
            refine jx_ld (pc' := 56) (l' := jSto1 L1392 6 (.int (i32 (0)))) (st' := []) rfl rfl ?_
            obtain ⟨L1526, eL1526⟩ : ∃ q, q = jSto1 L1392 6 (.int (i32 (0))) := ⟨_, rfl⟩
            rw [← eL1526]
            have gL1526_0 : jGet L1526 0 = some (.ref 66) := eL1526 ▸ jg_ne (by decide) gL1392_0 rfl
            have gL1526_1 : jGet L1526 1 = some (.int (i32 (nd))) := eL1526 ▸ jg_ne (by decide) gL1392_1 rfl
            have gL1526_2 : jGet L1526 2 = some (.int (i32 (0))) := eL1526 ▸ jg_ne (by decide) gL1392_2 rfl
            have gL1526_3 : jGet L1526 3 = some (.int (i32 (G 12))) := eL1526 ▸ jg_ne (by decide) gL1392_3 rfl
            have gL1526_4 : jGet L1526 4 = some (.int (i32 (r1344))) := eL1526 ▸ jg_ne (by decide) gL1392_4 rfl
            have gL1526_5 : jGet L1526 5 = some (.int (i32 (0))) := eL1526 ▸ jg_ne (by decide) gL1392_5 rfl
            have gL1526_6 : jGet L1526 6 = some (.int (i32 (0))) := eL1526 ▸ jg_eq
            refine jx_ld (pc' := 58) (l' := L1526) (st' := [.int (i32 (0))]) rfl (jl_iload gL1526_6) ?_
            refine jx_if_eq (pc' := 61) (tg := 99) rfl rfl rfl (by decide) (by decide) (fun h1527 => ?_) (fun h1527 => ?_)
            · have _q := h1527
              refine jx_ld (pc' := 100) (l' := L1526) (st' := [.ref 66]) rfl (jl_aloadn gL1526_0) ?_
              refine jx_vr (pc' := 103) (as := []) (st := []) rfl rfl rfl rfl ⟨rfl, rfl, Nat.le_of_ble_eq_true rfl⟩ rfl rfl (c_bad (dd := d) (hd := by omega) (hW := hW1379)  (fk := fk2_1345) (e_fk := show G1375 16 = fk2_1345 from ((hF1380.1 16 rfl).trans (e1349)))    ) (fun o V' hq => ?_)
              obtain ⟨r1528, rfl, rfl, b1529, q1530⟩ := hq
              refine .inr ⟨_, rfl, ?_⟩
              rcases q1530 with ⟨rfl, a1531⟩ | ⟨rfl, a1532⟩
              · have _q : True := trivial
                exfalso
                omega
              · have _q : True := trivial
                refine jx_if_eq (pc' := 106) (tg := 108) rfl rfl rfl (by decide) (by decide) (fun h1533 => ?_) (fun h1533 => ?_)
                · have _q := h1533
                  have z1534 := tz_f (tk2_1378)
                  exact c_readGuard_w_at_108_0 (X := X) (d := d) (Vs := Vs) (sb := sb) (c0 := c0) (c1 := c1) (G := G) (A := A) (T := T) (ln := ln) (le := le) (at0 := at0) (fk := fk) (op0 := op0) (nd := nd) (tk0 := tk0) (li := li) (ec := ec) (hd := hd) (hW := hW) (e_ln := e_ln) (e_le := e_le) (e_at0 := e_at0) (e_fk := e_fk) (e_op0 := e_op0) (e_nd := e_nd) (e_tk0 := e_tk0) (e_li := e_li) (e_ec := e_ec) (i_SV := i_SV) (p_0 := p_0) (p_1 := p_1) (p_2 := p_2) (p_3 := p_3) (p_4 := p_4) L1526 G1375 A1376 (nd) (G 12) (r1344) (at2_1377) (tk2_1378) (fk2_1345) (nd2_1275) (op0) (A 7 (r1344).toNat) (ec2_1276) gL1526_0 gL1526_6 gL1526_5 gL1526_1 gL1526_3 gL1526_4 hW1379 hF1387 hP1388 ((e1381)) ((e1382)) (((hF1380.1 16 rfl).trans (e1349))) (((hF1380.1 31 rfl).trans ((hF1347.1 31 rfl).trans (e1280)))) (((hF1380.1 15 rfl).trans ((hF1347.1 15 rfl).trans ((hF1278.1 15 rfl).trans (e_op0))))) ((congrFun ((hF1380.2 7 rfl).trans ((hF1347.2 7 rfl).trans (hF1278.2 7 rfl))) _)) (ec1390) (((hF1380.1 9 rfl).trans ((hF1347.1 9 rfl).trans ((hF1278.1 9 rfl).trans (e_ln))))) (by omega) (by omega) (by omega) (by omega) (by omega) (by omega) (by omega) (by omega) (by omega) (by omega) (by omega) (by omega) (by omega) (a1360) (sf1389) (by omega)
                · have _q := h1533
                  exact absurd h1533 (by omega)
            · have _q := h1527
              exact absurd h1527 (by omega)
        · have _q := h1374
          exact absurd h1374 (by omega)
