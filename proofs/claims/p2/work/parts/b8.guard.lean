set_option maxRecDepth 20000 in
set_option maxHeartbeats 4000000 in
theorem c_readGuard_w_at_359p {X : jX} {d : Nat} {Vs : Nat → Prop} {sb : Int} {c0 c1 : jC} {G : Nat → Int} {A : Nat → Nat → Int} {T : jH} {ln le at0 fk op0 nd tk0 li ec : Int} (hd : 71 ≤ d + 1) (hW : Wk G A) (e_ln : G 9 = ln) (e_le : A 4 (ln).toNat = le) (e_at0 : G 10 = at0) (e_fk : G 16 = fk) (e_op0 : G 15 = op0) (e_nd : G 31 = nd) (e_tk0 : G 11 = tk0) (e_li : G 3 = li) (e_ec : ecn A (G 31) = ec) (i_SV : SV Vs sb G A) (p_0 : 0 ≤ op0 ∧ op0 ≤ 8) (p_1 : fk = 0) (p_2 : nd ≤ 2 * at0 - tz tk0 + 42) (p_3 : at0 ≤ le) (p_4 : ln < li) : ∀ (L : jL) (Gx : Nat → Int) (Ax : Nat → Nat → Int) (one at1 tk1 fk1 nd1 op1 ec1 : Int), jGet L 0 = some (.ref 66) → jGet L 1 = some (.int (i32 one)) → Wk Gx Ax → Fr [9, 10, 11, 12, 13, 14, 15, 16, 17, 18, 31] [15, 16, 17, 18, 19, 20, 21, 22, 24, 28] G A Gx Ax → Pf nd A Ax → Gx 10 = at1 → Gx 11 = tk1 → Gx 16 = fk1 → Gx 31 = nd1 → Gx 15 = op1 → ecn Ax (Gx 31) = ec1 → Gx 9 = ln → ((-2147483648 : Int) ≤ one ∧ one ≤ 2147483647) → (at0 ≤ at1) → (at1 ≤ le) → (nd ≤ nd1) → (op1 = op0) → (one = nd) → (one ≤ 6998 ∧ one < nd1) → (1 ≤ fk1) → (nd1 - nd ≤ (2 * at1 - tz tk1) - (2 * at0 - tz tk0) + 6) → wj X d jm303 (359, L, [], rV c0 c1 Gx Ax T) (fun o V' => ∃ (G' : Nat → Int) (A' : Nat → Nat → Int) (r : Int) (at2 : Int) (fk2 : Int) (nd2 : Int) (ln2 : Int) (ec2 : Int), V' = rV c0 c1 G' A' T ∧ o = .inl (some (.int (i32 r))) ∧ Wk G' A' ∧ Fr [9, 10, 11, 12, 13, 14, 15, 16, 17, 18, 31] [15, 16, 17, 18, 19, 20, 21, 22, 24, 28] G A G' A' ∧ Pf nd A A' ∧ ((-2147483648 : Int) ≤ r ∧ r ≤ 2147483647) ∧ G' 10 = at2 ∧ G' 16 = fk2 ∧ G' 31 = nd2 ∧ G' 9 = ln2 ∧ ecn A' (G' 31) = ec2 ∧ (at0 ≤ at2) ∧ (at2 ≤ le) ∧ (nd ≤ nd2) ∧ (0 ≤ r) ∧ (r ≤ nd2) ∧ (((1 ≤ fk2) ∧ (ln2 = ln) ∧ (nd2 - nd ≤ 2 * at2 - 2 * at0 + 12)) ∨ ((fk2 = 0) ∧ (ln2 = ln + 1) ∧ (nd2 - nd ≤ 2 * at2 - (2 * at0 - tz tk0) + 0) ∧ (nd ≤ r) ∧ (r < nd2) ∧ (wU A' Vs sb (r) (nd) (nd2)) ∧ (NX A' (r)) ∧ (nd2 - nd + 5 * (ec2 - ec) ≤ 2 * at2 - (2 * at0 - tz tk0) + 0) ∧ (nd + 5 * ec ≤ r)))) := by
  have hF0 : Fr [9, 10, 11, 12, 13, 14, 15, 16, 17, 18, 31] [15, 16, 17, 18, 19, 20, 21, 22, 24, 28] G A G A := Fr_rf
  have hP0 : Pf nd A A := Pf_rf
  have b_ln : (0 : Int) ≤ ln ∧ ln ≤ 3000 := e_ln ▸ hW.1 9
  have b_le : (0 : Int) ≤ le ∧ le ≤ 3000 := e_le ▸ hW.2 4 _
  have b_at0 : (0 : Int) ≤ at0 ∧ at0 ≤ 3002 := e_at0 ▸ hW.1 10
  have b_fk : (0 : Int) ≤ fk ∧ fk ≤ 6 := e_fk ▸ hW.1 16
  have b_op0 : (-2147483648 : Int) ≤ op0 ∧ op0 ≤ 2147483647 := e_op0 ▸ hW.1 15
  have b_nd : (0 : Int) ≤ nd ∧ nd ≤ 6999 := e_nd ▸ hW.1 31
  have z_tk0 := tz_f tk0
  have b_tk0 : (0 : Int) ≤ tk0 ∧ tk0 ≤ 5 := e_tk0 ▸ hW.1 11
  have b_li : (0 : Int) ≤ li ∧ li ≤ 3000 := e_li ▸ hW.1 3
  intro L Gx Ax one at1 tk1 fk1 nd1 op1 ec1 gL_0 gL_1 hWx hFx hPx ex_at1 ex_tk1 ex_fk1 ex_nd1 ex_op1 ex_ec1 fx_9 rx_one iv_0 iv_1 iv_2 iv_3 iv_4 iv_5 iv_6 iv_7
  have b_at1 : (0 : Int) ≤ at1 ∧ at1 ≤ 3002 := ex_at1 ▸ hWx.1 10
  have z_tk1 := tz_f tk1
  have b_tk1 : (0 : Int) ≤ tk1 ∧ tk1 ≤ 5 := ex_tk1 ▸ hWx.1 11
  have b_fk1 : (0 : Int) ≤ fk1 ∧ fk1 ≤ 6 := ex_fk1 ▸ hWx.1 16
  have b_nd1 : (0 : Int) ≤ nd1 ∧ nd1 ≤ 6999 := ex_nd1 ▸ hWx.1 31
  have b_op1 : (-2147483648 : Int) ≤ op1 ∧ op1 ≤ 2147483647 := ex_op1 ▸ hWx.1 15
  refine jx_ld (pc' := 360) (l' := L) (st' := [.ref 66]) rfl (jl_aloadn gL_0) ?_
  refine jx_vr (pc' := 363) (as := []) (st := []) rfl rfl rfl rfl ⟨rfl, rfl, Nat.le_of_ble_eq_true rfl⟩ rfl rfl (c_endLine (dd := d) (hd := by omega) (hW := hWx)  (ln := ln) (e_ln := show Gx 9 = ln from (fx_9)) (li := li) (e_li := show Gx 3 = li from ((hFx.1 3 rfl).trans (e_li))) (fk := fk1) (e_fk := show Gx 16 = fk1 from (ex_fk1)) (tk0 := tk1) (e_tk0 := show Gx 11 = tk1 from (ex_tk1))    (p_0 := by omega)) (fun o V' hq => ?_)
  obtain ⟨G1, A2, ln2_3, fk2_4, rfl, rfl, hW5, hF6, e7, e8, q9⟩ := hq
  have hF10 := Fr_tr hFx hF6 (Fr_sub (by decide)) (Fr_sub (by decide))
  have hP11 := Pf_f hPx hF6 (by decide)
  have ec12 : ecn A2 (G1 31) = ec1 := (ecn_f (hF6.2 15 rfl) (hF6.1 31 rfl)).trans ex_ec1
  have bln2_3 : (0 : Int) ≤ ln2_3 ∧ ln2_3 ≤ 3000 := e7 ▸ hW5.1 9
  have bfk2_4 : (0 : Int) ≤ fk2_4 ∧ fk2_4 ≤ 6 := e8 ▸ hW5.1 16
  refine .inl ⟨rfl, ?_⟩
  rcases q9 with ⟨a13, a14, a15, a16, a17⟩ | ⟨a18, a19⟩
  · have _q : True := trivial
    exfalso
    omega
  · have _q : True := trivial
    refine jx_ld (pc' := 364) (l' := L) (st' := [.int (i32 (one))]) rfl (jl_iloadn gL_1) ?_
    refine jx_rt (v := some (.int (i32 (one)))) rfl rfl rfl rfl rfl rfl ?_
    exact ⟨_, _, _, at1, fk2_4, nd1, ln2_3, ec1, rfl, rfl, hW5, hF10, hP11, by omega, ((hF6.1 10 rfl).trans (ex_at1)), (e8), ((hF6.1 31 rfl).trans (ex_nd1)), (e7), ec12, by omega, by omega, by omega, by omega, by omega, by first | exact Or.inl (⟨by omega, by omega, by omega⟩)⟩
set_option maxRecDepth 20000 in
set_option maxHeartbeats 4000000 in
theorem c_readGuard_w_at_348p {X : jX} {d : Nat} {Vs : Nat → Prop} {sb : Int} {c0 c1 : jC} {G : Nat → Int} {A : Nat → Nat → Int} {T : jH} {ln le at0 fk op0 nd tk0 li ec : Int} (hd : 71 ≤ d + 1) (hW : Wk G A) (e_ln : G 9 = ln) (e_le : A 4 (ln).toNat = le) (e_at0 : G 10 = at0) (e_fk : G 16 = fk) (e_op0 : G 15 = op0) (e_nd : G 31 = nd) (e_tk0 : G 11 = tk0) (e_li : G 3 = li) (e_ec : ecn A (G 31) = ec) (i_SV : SV Vs sb G A) (p_0 : 0 ≤ op0 ∧ op0 ≤ 8) (p_1 : fk = 0) (p_2 : nd ≤ 2 * at0 - tz tk0 + 42) (p_3 : at0 ≤ le) (p_4 : ln < li) : ∀ (L : jL) (Gx : Nat → Int) (Ax : Nat → Nat → Int) (one at1 tk1 fk1 nd1 op1 ec1 : Int), jGet L 0 = some (.ref 66) → jGet L 1 = some (.int (i32 one)) → Wk Gx Ax → Fr [9, 10, 11, 12, 13, 14, 15, 16, 17, 18, 31] [15, 16, 17, 18, 19, 20, 21, 22, 24, 28] G A Gx Ax → Pf nd A Ax → Gx 10 = at1 → Gx 11 = tk1 → Gx 16 = fk1 → Gx 31 = nd1 → Gx 15 = op1 → ecn Ax (Gx 31) = ec1 → Gx 9 = ln → ((-2147483648 : Int) ≤ one ∧ one ≤ 2147483647) → (at0 ≤ at1) → (at1 ≤ le) → (nd ≤ nd1) → (op1 = op0) → (one = nd) → (one ≤ 6998 ∧ one < nd1) → (1 ≤ fk1) → (nd1 - nd ≤ (2 * at1 - tz tk1) - (2 * at0 - tz tk0) + 6) → wj X d jm303 (348, L, [], rV c0 c1 Gx Ax T) (fun o V' => ∃ (G' : Nat → Int) (A' : Nat → Nat → Int) (r : Int) (at2 : Int) (fk2 : Int) (nd2 : Int) (ln2 : Int) (ec2 : Int), V' = rV c0 c1 G' A' T ∧ o = .inl (some (.int (i32 r))) ∧ Wk G' A' ∧ Fr [9, 10, 11, 12, 13, 14, 15, 16, 17, 18, 31] [15, 16, 17, 18, 19, 20, 21, 22, 24, 28] G A G' A' ∧ Pf nd A A' ∧ ((-2147483648 : Int) ≤ r ∧ r ≤ 2147483647) ∧ G' 10 = at2 ∧ G' 16 = fk2 ∧ G' 31 = nd2 ∧ G' 9 = ln2 ∧ ecn A' (G' 31) = ec2 ∧ (at0 ≤ at2) ∧ (at2 ≤ le) ∧ (nd ≤ nd2) ∧ (0 ≤ r) ∧ (r ≤ nd2) ∧ (((1 ≤ fk2) ∧ (ln2 = ln) ∧ (nd2 - nd ≤ 2 * at2 - 2 * at0 + 12)) ∨ ((fk2 = 0) ∧ (ln2 = ln + 1) ∧ (nd2 - nd ≤ 2 * at2 - (2 * at0 - tz tk0) + 0) ∧ (nd ≤ r) ∧ (r < nd2) ∧ (wU A' Vs sb (r) (nd) (nd2)) ∧ (NX A' (r)) ∧ (nd2 - nd + 5 * (ec2 - ec) ≤ 2 * at2 - (2 * at0 - tz tk0) + 0) ∧ (nd + 5 * ec ≤ r)))) := by
  have hF0 : Fr [9, 10, 11, 12, 13, 14, 15, 16, 17, 18, 31] [15, 16, 17, 18, 19, 20, 21, 22, 24, 28] G A G A := Fr_rf
  have hP0 : Pf nd A A := Pf_rf
  have b_ln : (0 : Int) ≤ ln ∧ ln ≤ 3000 := e_ln ▸ hW.1 9
  have b_le : (0 : Int) ≤ le ∧ le ≤ 3000 := e_le ▸ hW.2 4 _
  have b_at0 : (0 : Int) ≤ at0 ∧ at0 ≤ 3002 := e_at0 ▸ hW.1 10
  have b_fk : (0 : Int) ≤ fk ∧ fk ≤ 6 := e_fk ▸ hW.1 16
  have b_op0 : (-2147483648 : Int) ≤ op0 ∧ op0 ≤ 2147483647 := e_op0 ▸ hW.1 15
  have b_nd : (0 : Int) ≤ nd ∧ nd ≤ 6999 := e_nd ▸ hW.1 31
  have z_tk0 := tz_f tk0
  have b_tk0 : (0 : Int) ≤ tk0 ∧ tk0 ≤ 5 := e_tk0 ▸ hW.1 11
  have b_li : (0 : Int) ≤ li ∧ li ≤ 3000 := e_li ▸ hW.1 3
  intro L Gx Ax one at1 tk1 fk1 nd1 op1 ec1 gL_0 gL_1 hWx hFx hPx ex_at1 ex_tk1 ex_fk1 ex_nd1 ex_op1 ex_ec1 fx_9 rx_one iv_0 iv_1 iv_2 iv_3 iv_4 iv_5 iv_6 iv_7
  have b_at1 : (0 : Int) ≤ at1 ∧ at1 ≤ 3002 := ex_at1 ▸ hWx.1 10
  have z_tk1 := tz_f tk1
  have b_tk1 : (0 : Int) ≤ tk1 ∧ tk1 ≤ 5 := ex_tk1 ▸ hWx.1 11
  have b_fk1 : (0 : Int) ≤ fk1 ∧ fk1 ≤ 6 := ex_fk1 ▸ hWx.1 16
  have b_nd1 : (0 : Int) ≤ nd1 ∧ nd1 ≤ 6999 := ex_nd1 ▸ hWx.1 31
  have b_op1 : (-2147483648 : Int) ≤ op1 ∧ op1 ≤ 2147483647 := ex_op1 ▸ hWx.1 15
  refine jx_ld (pc' := 349) (l' := L) (st' := [.ref 66]) rfl (jl_aloadn gL_0) ?_
  refine jr_get (pc' := 352) (i := 36) (v := .ref 86) rfl rfl (by decide) rfl rfl ?_
  refine jx_ld (pc' := 353) (l' := L) (st' := [.int (i32 (one)), .ref 86]) rfl (jl_iloadn gL_1) ?_
  refine jx_ld (pc' := 354) (l' := L) (st' := [.ref 66, .int (i32 (one)), .ref 86]) rfl (jl_aloadn gL_0) ?_
  refine jx_ar (pc' := 355) (st' := [.int (i32 (0)), .ref 66, .int (i32 (one)), .ref 86]) rfl rfl rfl rfl ?_
  refine jx_vr (pc' := 358) (as := [.int (i32 (0))]) (st := [.int (i32 (one)), .ref 86]) rfl rfl rfl rfl ⟨rfl, rfl, Nat.le_of_ble_eq_true rfl⟩ rfl rfl (c_readReference_w (dd := d) (hd := by omega) (hW := hWx) (ch := 0) (ln := ln) (e_ln := show Gx 9 = ln from (fx_9)) (le := le) (e_le := show Ax 4 (ln).toNat = le from (congrFun (hFx.2 4 rfl) _).trans (e_le)) (at0 := at1) (e_at0 := show Gx 10 = at1 from (ex_at1)) (fk := fk1) (e_fk := show Gx 16 = fk1 from (ex_fk1)) (op0 := op1) (e_op0 := show Gx 15 = op1 from (ex_op1)) (nd := nd1) (e_nd := show Gx 31 = nd1 from (ex_nd1)) (tk0 := tk1) (e_tk0 := show Gx 11 = tk1 from (ex_tk1)) (ec := ec1) (e_ec := show ecn Ax (Gx 31) = ec1 from ex_ec1) (i_SV := (SV_ext ((hFx.1 29 rfl)) ((hFx.2 14 rfl)) i_SV)) (h_ch := ⟨(by decide), (by decide)⟩)  (p_0 := by omega) (p_1 := by omega) (p_2 := by omega) (p_3 := by omega) (p_4 := by omega)) (fun o V' hq => ?_)
  obtain ⟨G20, A21, r22, at2_23, fk2_24, op2_25, nd2_26, tk2_27, ec2_28, rfl, rfl, hW29, hF30, hQ31, b32, e33, e34, e35, e36, e37, e38, p39, p40, p41, p42, p43, p44, q45⟩ := hq
  have hF46 := Fr_tr hFx hF30 (Fr_sub (by decide)) (Fr_sub (by decide))
  have hP47 := Pf_tr hPx hQ31 (by omega)
  have bat2_23 : (0 : Int) ≤ at2_23 ∧ at2_23 ≤ 3002 := e33 ▸ hW29.1 10
  have bfk2_24 : (0 : Int) ≤ fk2_24 ∧ fk2_24 ≤ 6 := e34 ▸ hW29.1 16
  have bop2_25 : (-2147483648 : Int) ≤ op2_25 ∧ op2_25 ≤ 2147483647 := e35 ▸ hW29.1 15
  have bnd2_26 : (0 : Int) ≤ nd2_26 ∧ nd2_26 ≤ 6999 := e36 ▸ hW29.1 31
  have ztk2_27 := tz_b tk2_27
  have btk2_27 : (0 : Int) ≤ tk2_27 ∧ tk2_27 ≤ 5 := e37 ▸ hW29.1 11
  refine .inr ⟨_, rfl, ?_⟩
  rcases q45 with ⟨a48, a49, a50, a51, a52, a53⟩ | ⟨a54, a55, a56⟩ | ⟨a57, a58, a59, a60, a61⟩
  · have _q : True := trivial
    refine jr_st (pc' := 359) (i := 19) (m := 7000) (z := one) (y := r22) rfl (by decide) rfl (by decide) (by omega) (by omega) rfl ?_
    have hW63 : Wk G20 (uA A21 19 (one).toNat (r22)) := Wk_a hW29 (show (-2147483648 : Int) ≤ r22 by omega) (show r22 ≤ (2147483647 : Int) by omega)
    have hF64 := Fr_a (z := r22) (k := 19) (n := (one).toNat) hF46 (by decide)
    obtain ⟨A62, eA62⟩ : ∃ q, q = uA A21 19 (one).toNat (r22) := ⟨_, rfl⟩
    rw [← eA62]
    rw [← eA62] at hW63 hF64
    have q65 : A62 19 (one).toNat = r22 := by rw [eA62]; exact uA_eq
    have hP66 : Pf nd A A62 := eA62 ▸ Pf_a hP47 (z := one) (by omega) (by omega)
    have ec67 : ecn A62 (G20 31) = ec2_28 := (ecn_e ((congrFun eA62 15).trans (uA_ne (by decide)))).trans e38
    have z68 := tz_f (tk2_27)
    exact c_readGuard_w_at_359p (X := X) (d := d) (Vs := Vs) (sb := sb) (c0 := c0) (c1 := c1) (G := G) (A := A) (T := T) (ln := ln) (le := le) (at0 := at0) (fk := fk) (op0 := op0) (nd := nd) (tk0 := tk0) (li := li) (ec := ec) (hd := hd) (hW := hW) (e_ln := e_ln) (e_le := e_le) (e_at0 := e_at0) (e_fk := e_fk) (e_op0 := e_op0) (e_nd := e_nd) (e_tk0 := e_tk0) (e_li := e_li) (e_ec := e_ec) (i_SV := i_SV) (p_0 := p_0) (p_1 := p_1) (p_2 := p_2) (p_3 := p_3) (p_4 := p_4) L G20 A62 (one) (at2_23) (tk2_27) (fk2_24) (nd2_26) (op2_25) (ec2_28) gL_0 gL_1 hW63 hF64 hP66 ((e33)) ((e37)) ((e34)) ((e36)) ((e35)) (ec67) (((hF30.1 9 rfl).trans (fx_9))) (by omega) (by omega) (by omega) (by omega) (by omega) (by omega) (by omega) (by omega) (by omega)
  · have _q : True := trivial
    exfalso
    omega
  · have _q : True := trivial
    exfalso
    omega
set_option maxRecDepth 20000 in
set_option maxHeartbeats 4000000 in
theorem c_readGuard_w_at_338p {X : jX} {d : Nat} {Vs : Nat → Prop} {sb : Int} {c0 c1 : jC} {G : Nat → Int} {A : Nat → Nat → Int} {T : jH} {ln le at0 fk op0 nd tk0 li ec : Int} (hd : 71 ≤ d + 1) (hW : Wk G A) (e_ln : G 9 = ln) (e_le : A 4 (ln).toNat = le) (e_at0 : G 10 = at0) (e_fk : G 16 = fk) (e_op0 : G 15 = op0) (e_nd : G 31 = nd) (e_tk0 : G 11 = tk0) (e_li : G 3 = li) (e_ec : ecn A (G 31) = ec) (i_SV : SV Vs sb G A) (p_0 : 0 ≤ op0 ∧ op0 ≤ 8) (p_1 : fk = 0) (p_2 : nd ≤ 2 * at0 - tz tk0 + 42) (p_3 : at0 ≤ le) (p_4 : ln < li) : ∀ (L : jL) (Gx : Nat → Int) (Ax : Nat → Nat → Int) (one at1 tk1 fk1 nd1 op1 ec1 : Int), jGet L 0 = some (.ref 66) → jGet L 1 = some (.int (i32 one)) → Wk Gx Ax → Fr [9, 10, 11, 12, 13, 14, 15, 16, 17, 18, 31] [15, 16, 17, 18, 19, 20, 21, 22, 24, 28] G A Gx Ax → Pf nd A Ax → Gx 10 = at1 → Gx 11 = tk1 → Gx 16 = fk1 → Gx 31 = nd1 → Gx 15 = op1 → ecn Ax (Gx 31) = ec1 → Gx 9 = ln → ((-2147483648 : Int) ≤ one ∧ one ≤ 2147483647) → (at0 ≤ at1) → (at1 ≤ le) → (nd ≤ nd1) → (op1 = op0) → (one = nd) → (one ≤ 6998 ∧ one < nd1) → (1 ≤ fk1) → (nd1 - nd ≤ (2 * at1 - tz tk1) - (2 * at0 - tz tk0) + 6) → wj X d jm303 (338, L, [], rV c0 c1 Gx Ax T) (fun o V' => ∃ (G' : Nat → Int) (A' : Nat → Nat → Int) (r : Int) (at2 : Int) (fk2 : Int) (nd2 : Int) (ln2 : Int) (ec2 : Int), V' = rV c0 c1 G' A' T ∧ o = .inl (some (.int (i32 r))) ∧ Wk G' A' ∧ Fr [9, 10, 11, 12, 13, 14, 15, 16, 17, 18, 31] [15, 16, 17, 18, 19, 20, 21, 22, 24, 28] G A G' A' ∧ Pf nd A A' ∧ ((-2147483648 : Int) ≤ r ∧ r ≤ 2147483647) ∧ G' 10 = at2 ∧ G' 16 = fk2 ∧ G' 31 = nd2 ∧ G' 9 = ln2 ∧ ecn A' (G' 31) = ec2 ∧ (at0 ≤ at2) ∧ (at2 ≤ le) ∧ (nd ≤ nd2) ∧ (0 ≤ r) ∧ (r ≤ nd2) ∧ (((1 ≤ fk2) ∧ (ln2 = ln) ∧ (nd2 - nd ≤ 2 * at2 - 2 * at0 + 12)) ∨ ((fk2 = 0) ∧ (ln2 = ln + 1) ∧ (nd2 - nd ≤ 2 * at2 - (2 * at0 - tz tk0) + 0) ∧ (nd ≤ r) ∧ (r < nd2) ∧ (wU A' Vs sb (r) (nd) (nd2)) ∧ (NX A' (r)) ∧ (nd2 - nd + 5 * (ec2 - ec) ≤ 2 * at2 - (2 * at0 - tz tk0) + 0) ∧ (nd + 5 * ec ≤ r)))) := by
  have hF0 : Fr [9, 10, 11, 12, 13, 14, 15, 16, 17, 18, 31] [15, 16, 17, 18, 19, 20, 21, 22, 24, 28] G A G A := Fr_rf
  have hP0 : Pf nd A A := Pf_rf
  have b_ln : (0 : Int) ≤ ln ∧ ln ≤ 3000 := e_ln ▸ hW.1 9
  have b_le : (0 : Int) ≤ le ∧ le ≤ 3000 := e_le ▸ hW.2 4 _
  have b_at0 : (0 : Int) ≤ at0 ∧ at0 ≤ 3002 := e_at0 ▸ hW.1 10
  have b_fk : (0 : Int) ≤ fk ∧ fk ≤ 6 := e_fk ▸ hW.1 16
  have b_op0 : (-2147483648 : Int) ≤ op0 ∧ op0 ≤ 2147483647 := e_op0 ▸ hW.1 15
  have b_nd : (0 : Int) ≤ nd ∧ nd ≤ 6999 := e_nd ▸ hW.1 31
  have z_tk0 := tz_f tk0
  have b_tk0 : (0 : Int) ≤ tk0 ∧ tk0 ≤ 5 := e_tk0 ▸ hW.1 11
  have b_li : (0 : Int) ≤ li ∧ li ≤ 3000 := e_li ▸ hW.1 3
  intro L Gx Ax one at1 tk1 fk1 nd1 op1 ec1 gL_0 gL_1 hWx hFx hPx ex_at1 ex_tk1 ex_fk1 ex_nd1 ex_op1 ex_ec1 fx_9 rx_one iv_0 iv_1 iv_2 iv_3 iv_4 iv_5 iv_6 iv_7
  have b_at1 : (0 : Int) ≤ at1 ∧ at1 ≤ 3002 := ex_at1 ▸ hWx.1 10
  have z_tk1 := tz_f tk1
  have b_tk1 : (0 : Int) ≤ tk1 ∧ tk1 ≤ 5 := ex_tk1 ▸ hWx.1 11
  have b_fk1 : (0 : Int) ≤ fk1 ∧ fk1 ≤ 6 := ex_fk1 ▸ hWx.1 16
  have b_nd1 : (0 : Int) ≤ nd1 ∧ nd1 ≤ 6999 := ex_nd1 ▸ hWx.1 31
  have b_op1 : (-2147483648 : Int) ≤ op1 ∧ op1 ≤ 2147483647 := ex_op1 ▸ hWx.1 15
  refine jx_ld (pc' := 339) (l' := L) (st' := [.ref 66]) rfl (jl_aloadn gL_0) ?_
  refine jx_ld (pc' := 340) (l' := L) (st' := [.ref 66, .ref 66]) rfl (jl_aloadn gL_0) ?_
  refine jx_ar (pc' := 342) (st' := [.int (i32 (63)), .ref 66, .ref 66]) rfl rfl rfl rfl ?_
  have b69 : (-2147483648 : Int) ≤ Gx 13 ∧ Gx 13 ≤ 2147483647 := hWx.1 13
  refine jx_vr (pc' := 345) (as := [.int (i32 (63))]) (st := [.ref 66]) rfl rfl rfl rfl ⟨rfl, rfl, Nat.le_of_ble_eq_true rfl⟩ rfl rfl (c_is (dd := d) (hd := by omega) (hW := hWx) (k := 63) (tk := tk1) (e_tk := show Gx 11 = tk1 from (ex_tk1)) (tn := Gx 13) (e_tn := show Gx 13 = Gx 13 from rfl)  (h_k := ⟨(by decide), (by decide)⟩)  ) (fun o V' hq => ?_)
  obtain ⟨r70, rfl, rfl, b71, q72⟩ := hq
  refine .inr ⟨_, rfl, ?_⟩
  rcases q72 with ⟨rfl, a73, a74, a75⟩ | rfl
  · have _q : True := trivial
    refine jx_vr (pc' := 348) (as := [.int (i32 (1))]) (st := []) rfl rfl rfl rfl ⟨rfl, rfl, Nat.le_of_ble_eq_true rfl⟩ rfl rfl (c_need (dd := d) (hd := by omega) (hW := hWx) (g := 1) (ln := ln) (e_ln := show Gx 9 = ln from (fx_9)) (le := le) (e_le := show Ax 4 (ln).toNat = le from (congrFun (hFx.2 4 rfl) _).trans (e_le)) (at0 := at1) (e_at0 := show Gx 10 = at1 from (ex_at1)) (fk := fk1) (e_fk := show Gx 16 = fk1 from (ex_fk1)) (tk0 := tk1) (e_tk0 := show Gx 11 = tk1 from (ex_tk1))  (h_g := ⟨(by decide), (by decide)⟩)  (p_0 := by omega)) (fun o V' hq => ?_)
    obtain ⟨G76, A77, at2_78, tk2_79, fk2_80, rfl, rfl, hW81, hF82, e83, e84, e85, p86, p87, q88⟩ := hq
    have hF89 := Fr_tr hFx hF82 (Fr_sub (by decide)) (Fr_sub (by decide))
    have hP90 := Pf_f hPx hF82 (by decide)
    have ec91 : ecn A77 (G76 31) = ec1 := (ecn_f (hF82.2 15 rfl) (hF82.1 31 rfl)).trans ex_ec1
    have bat2_78 : (0 : Int) ≤ at2_78 ∧ at2_78 ≤ 3002 := e83 ▸ hW81.1 10
    have ztk2_79 := tz_b tk2_79
    have btk2_79 : (0 : Int) ≤ tk2_79 ∧ tk2_79 ≤ 5 := e84 ▸ hW81.1 11
    have bfk2_80 : (0 : Int) ≤ fk2_80 ∧ fk2_80 ≤ 6 := e85 ▸ hW81.1 16
    refine .inl ⟨rfl, ?_⟩
    rcases q88 with ⟨a92, a93, a94, a95⟩ | ⟨a96, a97, a98, a99⟩
    · have _q : True := trivial
      have z100 := tz_f (tk2_79)
      exact c_readGuard_w_at_348p (X := X) (d := d) (Vs := Vs) (sb := sb) (c0 := c0) (c1 := c1) (G := G) (A := A) (T := T) (ln := ln) (le := le) (at0 := at0) (fk := fk) (op0 := op0) (nd := nd) (tk0 := tk0) (li := li) (ec := ec) (hd := hd) (hW := hW) (e_ln := e_ln) (e_le := e_le) (e_at0 := e_at0) (e_fk := e_fk) (e_op0 := e_op0) (e_nd := e_nd) (e_tk0 := e_tk0) (e_li := e_li) (e_ec := e_ec) (i_SV := i_SV) (p_0 := p_0) (p_1 := p_1) (p_2 := p_2) (p_3 := p_3) (p_4 := p_4) L G76 A77 (one) (at2_78) (tk2_79) (fk2_80) (nd1) (op1) (ec1) gL_0 gL_1 hW81 hF89 hP90 ((e83)) ((e84)) ((e85)) (((hF82.1 31 rfl).trans (ex_nd1))) (((hF82.1 15 rfl).trans (ex_op1))) (ec91) (((hF82.1 9 rfl).trans (fx_9))) (by omega) (by omega) (by omega) (by omega) (by omega) (by omega) (by omega) (by omega) (by omega)
    · have _q : True := trivial
      exfalso
      omega
  · have _q : True := trivial
    refine jx_vr (pc' := 348) (as := [.int (i32 (0))]) (st := []) rfl rfl rfl rfl ⟨rfl, rfl, Nat.le_of_ble_eq_true rfl⟩ rfl rfl (c_need (dd := d) (hd := by omega) (hW := hWx) (g := 0) (ln := ln) (e_ln := show Gx 9 = ln from (fx_9)) (le := le) (e_le := show Ax 4 (ln).toNat = le from (congrFun (hFx.2 4 rfl) _).trans (e_le)) (at0 := at1) (e_at0 := show Gx 10 = at1 from (ex_at1)) (fk := fk1) (e_fk := show Gx 16 = fk1 from (ex_fk1)) (tk0 := tk1) (e_tk0 := show Gx 11 = tk1 from (ex_tk1))  (h_g := ⟨(by decide), (by decide)⟩)  (p_0 := by omega)) (fun o V' hq => ?_)
    obtain ⟨G101, A102, at2_103, tk2_104, fk2_105, rfl, rfl, hW106, hF107, e108, e109, e110, p111, p112, q113⟩ := hq
    have hF114 := Fr_tr hFx hF107 (Fr_sub (by decide)) (Fr_sub (by decide))
    have hP115 := Pf_f hPx hF107 (by decide)
    have ec116 : ecn A102 (G101 31) = ec1 := (ecn_f (hF107.2 15 rfl) (hF107.1 31 rfl)).trans ex_ec1
    have bat2_103 : (0 : Int) ≤ at2_103 ∧ at2_103 ≤ 3002 := e108 ▸ hW106.1 10
    have ztk2_104 := tz_b tk2_104
    have btk2_104 : (0 : Int) ≤ tk2_104 ∧ tk2_104 ≤ 5 := e109 ▸ hW106.1 11
    have bfk2_105 : (0 : Int) ≤ fk2_105 ∧ fk2_105 ≤ 6 := e110 ▸ hW106.1 16
    refine .inl ⟨rfl, ?_⟩
    rcases q113 with ⟨a117, a118, a119, a120⟩ | ⟨a121, a122, a123, a124⟩
    · have _q : True := trivial
      have z125 := tz_f (tk2_104)
      exact c_readGuard_w_at_348p (X := X) (d := d) (Vs := Vs) (sb := sb) (c0 := c0) (c1 := c1) (G := G) (A := A) (T := T) (ln := ln) (le := le) (at0 := at0) (fk := fk) (op0 := op0) (nd := nd) (tk0 := tk0) (li := li) (ec := ec) (hd := hd) (hW := hW) (e_ln := e_ln) (e_le := e_le) (e_at0 := e_at0) (e_fk := e_fk) (e_op0 := e_op0) (e_nd := e_nd) (e_tk0 := e_tk0) (e_li := e_li) (e_ec := e_ec) (i_SV := i_SV) (p_0 := p_0) (p_1 := p_1) (p_2 := p_2) (p_3 := p_3) (p_4 := p_4) L G101 A102 (one) (at2_103) (tk2_104) (fk2_105) (nd1) (op1) (ec1) gL_0 gL_1 hW106 hF114 hP115 ((e108)) ((e109)) ((e110)) (((hF107.1 31 rfl).trans (ex_nd1))) (((hF107.1 15 rfl).trans (ex_op1))) (ec116) (((hF107.1 9 rfl).trans (fx_9))) (by omega) (by omega) (by omega) (by omega) (by omega) (by omega) (by omega) (by omega) (by omega)
    · have _q : True := trivial
      exfalso
      omega
set_option maxRecDepth 20000 in
set_option maxHeartbeats 4000000 in
theorem c_readGuard_w_at_327p {X : jX} {d : Nat} {Vs : Nat → Prop} {sb : Int} {c0 c1 : jC} {G : Nat → Int} {A : Nat → Nat → Int} {T : jH} {ln le at0 fk op0 nd tk0 li ec : Int} (hd : 71 ≤ d + 1) (hW : Wk G A) (e_ln : G 9 = ln) (e_le : A 4 (ln).toNat = le) (e_at0 : G 10 = at0) (e_fk : G 16 = fk) (e_op0 : G 15 = op0) (e_nd : G 31 = nd) (e_tk0 : G 11 = tk0) (e_li : G 3 = li) (e_ec : ecn A (G 31) = ec) (i_SV : SV Vs sb G A) (p_0 : 0 ≤ op0 ∧ op0 ≤ 8) (p_1 : fk = 0) (p_2 : nd ≤ 2 * at0 - tz tk0 + 42) (p_3 : at0 ≤ le) (p_4 : ln < li) : ∀ (L : jL) (Gx : Nat → Int) (Ax : Nat → Nat → Int) (one at1 tk1 fk1 nd1 op1 ec1 : Int), jGet L 0 = some (.ref 66) → jGet L 1 = some (.int (i32 one)) → Wk Gx Ax → Fr [9, 10, 11, 12, 13, 14, 15, 16, 17, 18, 31] [15, 16, 17, 18, 19, 20, 21, 22, 24, 28] G A Gx Ax → Pf nd A Ax → Gx 10 = at1 → Gx 11 = tk1 → Gx 16 = fk1 → Gx 31 = nd1 → Gx 15 = op1 → ecn Ax (Gx 31) = ec1 → Gx 9 = ln → ((-2147483648 : Int) ≤ one ∧ one ≤ 2147483647) → (at0 ≤ at1) → (at1 ≤ le) → (nd ≤ nd1) → (op1 = op0) → (one = nd) → (one ≤ 6998 ∧ one < nd1) → (1 ≤ fk1) → (nd1 - nd ≤ (2 * at1 - tz tk1) - (2 * at0 - tz tk0) + 6) → wj X d jm303 (327, L, [], rV c0 c1 Gx Ax T) (fun o V' => ∃ (G' : Nat → Int) (A' : Nat → Nat → Int) (r : Int) (at2 : Int) (fk2 : Int) (nd2 : Int) (ln2 : Int) (ec2 : Int), V' = rV c0 c1 G' A' T ∧ o = .inl (some (.int (i32 r))) ∧ Wk G' A' ∧ Fr [9, 10, 11, 12, 13, 14, 15, 16, 17, 18, 31] [15, 16, 17, 18, 19, 20, 21, 22, 24, 28] G A G' A' ∧ Pf nd A A' ∧ ((-2147483648 : Int) ≤ r ∧ r ≤ 2147483647) ∧ G' 10 = at2 ∧ G' 16 = fk2 ∧ G' 31 = nd2 ∧ G' 9 = ln2 ∧ ecn A' (G' 31) = ec2 ∧ (at0 ≤ at2) ∧ (at2 ≤ le) ∧ (nd ≤ nd2) ∧ (0 ≤ r) ∧ (r ≤ nd2) ∧ (((1 ≤ fk2) ∧ (ln2 = ln) ∧ (nd2 - nd ≤ 2 * at2 - 2 * at0 + 12)) ∨ ((fk2 = 0) ∧ (ln2 = ln + 1) ∧ (nd2 - nd ≤ 2 * at2 - (2 * at0 - tz tk0) + 0) ∧ (nd ≤ r) ∧ (r < nd2) ∧ (wU A' Vs sb (r) (nd) (nd2)) ∧ (NX A' (r)) ∧ (nd2 - nd + 5 * (ec2 - ec) ≤ 2 * at2 - (2 * at0 - tz tk0) + 0) ∧ (nd + 5 * ec ≤ r)))) := by
  have hF0 : Fr [9, 10, 11, 12, 13, 14, 15, 16, 17, 18, 31] [15, 16, 17, 18, 19, 20, 21, 22, 24, 28] G A G A := Fr_rf
  have hP0 : Pf nd A A := Pf_rf
  have b_ln : (0 : Int) ≤ ln ∧ ln ≤ 3000 := e_ln ▸ hW.1 9
  have b_le : (0 : Int) ≤ le ∧ le ≤ 3000 := e_le ▸ hW.2 4 _
  have b_at0 : (0 : Int) ≤ at0 ∧ at0 ≤ 3002 := e_at0 ▸ hW.1 10
  have b_fk : (0 : Int) ≤ fk ∧ fk ≤ 6 := e_fk ▸ hW.1 16
  have b_op0 : (-2147483648 : Int) ≤ op0 ∧ op0 ≤ 2147483647 := e_op0 ▸ hW.1 15
  have b_nd : (0 : Int) ≤ nd ∧ nd ≤ 6999 := e_nd ▸ hW.1 31
  have z_tk0 := tz_f tk0
  have b_tk0 : (0 : Int) ≤ tk0 ∧ tk0 ≤ 5 := e_tk0 ▸ hW.1 11
  have b_li : (0 : Int) ≤ li ∧ li ≤ 3000 := e_li ▸ hW.1 3
  intro L Gx Ax one at1 tk1 fk1 nd1 op1 ec1 gL_0 gL_1 hWx hFx hPx ex_at1 ex_tk1 ex_fk1 ex_nd1 ex_op1 ex_ec1 fx_9 rx_one iv_0 iv_1 iv_2 iv_3 iv_4 iv_5 iv_6 iv_7
  have b_at1 : (0 : Int) ≤ at1 ∧ at1 ≤ 3002 := ex_at1 ▸ hWx.1 10
  have z_tk1 := tz_f tk1
  have b_tk1 : (0 : Int) ≤ tk1 ∧ tk1 ≤ 5 := ex_tk1 ▸ hWx.1 11
  have b_fk1 : (0 : Int) ≤ fk1 ∧ fk1 ≤ 6 := ex_fk1 ▸ hWx.1 16
  have b_nd1 : (0 : Int) ≤ nd1 ∧ nd1 ≤ 6999 := ex_nd1 ▸ hWx.1 31
  have b_op1 : (-2147483648 : Int) ≤ op1 ∧ op1 ≤ 2147483647 := ex_op1 ▸ hWx.1 15
  refine jx_ld (pc' := 328) (l' := L) (st' := [.ref 66]) rfl (jl_aloadn gL_0) ?_
  refine jr_get (pc' := 331) (i := 35) (v := .ref 85) rfl rfl (by decide) rfl rfl ?_
  refine jx_ld (pc' := 332) (l' := L) (st' := [.int (i32 (one)), .ref 85]) rfl (jl_iloadn gL_1) ?_
  refine jx_ld (pc' := 333) (l' := L) (st' := [.ref 66, .int (i32 (one)), .ref 85]) rfl (jl_aloadn gL_0) ?_
  refine jx_ar (pc' := 334) (st' := [.int (i32 (1)), .ref 66, .int (i32 (one)), .ref 85]) rfl rfl rfl rfl ?_
  refine jx_vr (pc' := 337) (as := [.int (i32 (1))]) (st := [.int (i32 (one)), .ref 85]) rfl rfl rfl rfl ⟨rfl, rfl, Nat.le_of_ble_eq_true rfl⟩ rfl rfl (c_readReference_w (dd := d) (hd := by omega) (hW := hWx) (ch := 1) (ln := ln) (e_ln := show Gx 9 = ln from (fx_9)) (le := le) (e_le := show Ax 4 (ln).toNat = le from (congrFun (hFx.2 4 rfl) _).trans (e_le)) (at0 := at1) (e_at0 := show Gx 10 = at1 from (ex_at1)) (fk := fk1) (e_fk := show Gx 16 = fk1 from (ex_fk1)) (op0 := op1) (e_op0 := show Gx 15 = op1 from (ex_op1)) (nd := nd1) (e_nd := show Gx 31 = nd1 from (ex_nd1)) (tk0 := tk1) (e_tk0 := show Gx 11 = tk1 from (ex_tk1)) (ec := ec1) (e_ec := show ecn Ax (Gx 31) = ec1 from ex_ec1) (i_SV := (SV_ext ((hFx.1 29 rfl)) ((hFx.2 14 rfl)) i_SV)) (h_ch := ⟨(by decide), (by decide)⟩)  (p_0 := by omega) (p_1 := by omega) (p_2 := by omega) (p_3 := by omega) (p_4 := by omega)) (fun o V' hq => ?_)
  obtain ⟨G126, A127, r128, at2_129, fk2_130, op2_131, nd2_132, tk2_133, ec2_134, rfl, rfl, hW135, hF136, hQ137, b138, e139, e140, e141, e142, e143, e144, p145, p146, p147, p148, p149, p150, q151⟩ := hq
  have hF152 := Fr_tr hFx hF136 (Fr_sub (by decide)) (Fr_sub (by decide))
  have hP153 := Pf_tr hPx hQ137 (by omega)
  have bat2_129 : (0 : Int) ≤ at2_129 ∧ at2_129 ≤ 3002 := e139 ▸ hW135.1 10
  have bfk2_130 : (0 : Int) ≤ fk2_130 ∧ fk2_130 ≤ 6 := e140 ▸ hW135.1 16
  have bop2_131 : (-2147483648 : Int) ≤ op2_131 ∧ op2_131 ≤ 2147483647 := e141 ▸ hW135.1 15
  have bnd2_132 : (0 : Int) ≤ nd2_132 ∧ nd2_132 ≤ 6999 := e142 ▸ hW135.1 31
  have ztk2_133 := tz_b tk2_133
  have btk2_133 : (0 : Int) ≤ tk2_133 ∧ tk2_133 ≤ 5 := e143 ▸ hW135.1 11
  refine .inr ⟨_, rfl, ?_⟩
  rcases q151 with ⟨a154, a155, a156, a157, a158, a159⟩ | ⟨a160, a161, a162⟩ | ⟨a163, a164, a165, a166, a167⟩
  · have _q : True := trivial
    refine jr_st (pc' := 338) (i := 18) (m := 7000) (z := one) (y := r128) rfl (by decide) rfl (by decide) (by omega) (by omega) rfl ?_
    have hW169 : Wk G126 (uA A127 18 (one).toNat (r128)) := Wk_a hW135 (show (-2147483648 : Int) ≤ r128 by omega) (show r128 ≤ (2147483647 : Int) by omega)
    have hF170 := Fr_a (z := r128) (k := 18) (n := (one).toNat) hF152 (by decide)
    obtain ⟨A168, eA168⟩ : ∃ q, q = uA A127 18 (one).toNat (r128) := ⟨_, rfl⟩
    rw [← eA168]
    rw [← eA168] at hW169 hF170
    have q171 : A168 18 (one).toNat = r128 := by rw [eA168]; exact uA_eq
    have hP172 : Pf nd A A168 := eA168 ▸ Pf_a hP153 (z := one) (by omega) (by omega)
    have ec173 : ecn A168 (G126 31) = ec2_134 := (ecn_e ((congrFun eA168 15).trans (uA_ne (by decide)))).trans e144
    have z174 := tz_f (tk2_133)
    exact c_readGuard_w_at_338p (X := X) (d := d) (Vs := Vs) (sb := sb) (c0 := c0) (c1 := c1) (G := G) (A := A) (T := T) (ln := ln) (le := le) (at0 := at0) (fk := fk) (op0 := op0) (nd := nd) (tk0 := tk0) (li := li) (ec := ec) (hd := hd) (hW := hW) (e_ln := e_ln) (e_le := e_le) (e_at0 := e_at0) (e_fk := e_fk) (e_op0 := e_op0) (e_nd := e_nd) (e_tk0 := e_tk0) (e_li := e_li) (e_ec := e_ec) (i_SV := i_SV) (p_0 := p_0) (p_1 := p_1) (p_2 := p_2) (p_3 := p_3) (p_4 := p_4) L G126 A168 (one) (at2_129) (tk2_133) (fk2_130) (nd2_132) (op2_131) (ec2_134) gL_0 gL_1 hW169 hF170 hP172 ((e139)) ((e143)) ((e140)) ((e142)) ((e141)) (ec173) (((hF136.1 9 rfl).trans (fx_9))) (by omega) (by omega) (by omega) (by omega) (by omega) (by omega) (by omega) (by omega) (by omega)
  · have _q : True := trivial
    exfalso
    omega
  · have _q : True := trivial
    exfalso
    omega
set_option maxRecDepth 20000 in
set_option maxHeartbeats 4000000 in
theorem c_readGuard_w_at_310p {X : jX} {d : Nat} {Vs : Nat → Prop} {sb : Int} {c0 c1 : jC} {G : Nat → Int} {A : Nat → Nat → Int} {T : jH} {ln le at0 fk op0 nd tk0 li ec : Int} (hd : 71 ≤ d + 1) (hW : Wk G A) (e_ln : G 9 = ln) (e_le : A 4 (ln).toNat = le) (e_at0 : G 10 = at0) (e_fk : G 16 = fk) (e_op0 : G 15 = op0) (e_nd : G 31 = nd) (e_tk0 : G 11 = tk0) (e_li : G 3 = li) (e_ec : ecn A (G 31) = ec) (i_SV : SV Vs sb G A) (p_0 : 0 ≤ op0 ∧ op0 ≤ 8) (p_1 : fk = 0) (p_2 : nd ≤ 2 * at0 - tz tk0 + 42) (p_3 : at0 ≤ le) (p_4 : ln < li) : ∀ (L : jL) (Gx : Nat → Int) (Ax : Nat → Nat → Int) (one at1 tk1 fk1 nd1 op1 ec1 : Int), jGet L 0 = some (.ref 66) → jGet L 1 = some (.int (i32 one)) → Wk Gx Ax → Fr [9, 10, 11, 12, 13, 14, 15, 16, 17, 18, 31] [15, 16, 17, 18, 19, 20, 21, 22, 24, 28] G A Gx Ax → Pf nd A Ax → Gx 10 = at1 → Gx 11 = tk1 → Gx 16 = fk1 → Gx 31 = nd1 → Gx 15 = op1 → ecn Ax (Gx 31) = ec1 → Gx 9 = ln → ((-2147483648 : Int) ≤ one ∧ one ≤ 2147483647) → (at0 ≤ at1) → (at1 ≤ le) → (nd ≤ nd1) → (op1 = op0) → (one = nd) → (one ≤ 6998 ∧ one < nd1) → (1 ≤ fk1) → (nd1 - nd ≤ (2 * at1 - tz tk1) - (2 * at0 - tz tk0) + 6) → wj X d jm303 (310, L, [], rV c0 c1 Gx Ax T) (fun o V' => ∃ (G' : Nat → Int) (A' : Nat → Nat → Int) (r : Int) (at2 : Int) (fk2 : Int) (nd2 : Int) (ln2 : Int) (ec2 : Int), V' = rV c0 c1 G' A' T ∧ o = .inl (some (.int (i32 r))) ∧ Wk G' A' ∧ Fr [9, 10, 11, 12, 13, 14, 15, 16, 17, 18, 31] [15, 16, 17, 18, 19, 20, 21, 22, 24, 28] G A G' A' ∧ Pf nd A A' ∧ ((-2147483648 : Int) ≤ r ∧ r ≤ 2147483647) ∧ G' 10 = at2 ∧ G' 16 = fk2 ∧ G' 31 = nd2 ∧ G' 9 = ln2 ∧ ecn A' (G' 31) = ec2 ∧ (at0 ≤ at2) ∧ (at2 ≤ le) ∧ (nd ≤ nd2) ∧ (0 ≤ r) ∧ (r ≤ nd2) ∧ (((1 ≤ fk2) ∧ (ln2 = ln) ∧ (nd2 - nd ≤ 2 * at2 - 2 * at0 + 12)) ∨ ((fk2 = 0) ∧ (ln2 = ln + 1) ∧ (nd2 - nd ≤ 2 * at2 - (2 * at0 - tz tk0) + 0) ∧ (nd ≤ r) ∧ (r < nd2) ∧ (wU A' Vs sb (r) (nd) (nd2)) ∧ (NX A' (r)) ∧ (nd2 - nd + 5 * (ec2 - ec) ≤ 2 * at2 - (2 * at0 - tz tk0) + 0) ∧ (nd + 5 * ec ≤ r)))) := by
  have hF0 : Fr [9, 10, 11, 12, 13, 14, 15, 16, 17, 18, 31] [15, 16, 17, 18, 19, 20, 21, 22, 24, 28] G A G A := Fr_rf
  have hP0 : Pf nd A A := Pf_rf
  have b_ln : (0 : Int) ≤ ln ∧ ln ≤ 3000 := e_ln ▸ hW.1 9
  have b_le : (0 : Int) ≤ le ∧ le ≤ 3000 := e_le ▸ hW.2 4 _
  have b_at0 : (0 : Int) ≤ at0 ∧ at0 ≤ 3002 := e_at0 ▸ hW.1 10
  have b_fk : (0 : Int) ≤ fk ∧ fk ≤ 6 := e_fk ▸ hW.1 16
  have b_op0 : (-2147483648 : Int) ≤ op0 ∧ op0 ≤ 2147483647 := e_op0 ▸ hW.1 15
  have b_nd : (0 : Int) ≤ nd ∧ nd ≤ 6999 := e_nd ▸ hW.1 31
  have z_tk0 := tz_f tk0
  have b_tk0 : (0 : Int) ≤ tk0 ∧ tk0 ≤ 5 := e_tk0 ▸ hW.1 11
  have b_li : (0 : Int) ≤ li ∧ li ≤ 3000 := e_li ▸ hW.1 3
  intro L Gx Ax one at1 tk1 fk1 nd1 op1 ec1 gL_0 gL_1 hWx hFx hPx ex_at1 ex_tk1 ex_fk1 ex_nd1 ex_op1 ex_ec1 fx_9 rx_one iv_0 iv_1 iv_2 iv_3 iv_4 iv_5 iv_6 iv_7
  have b_at1 : (0 : Int) ≤ at1 ∧ at1 ≤ 3002 := ex_at1 ▸ hWx.1 10
  have z_tk1 := tz_f tk1
  have b_tk1 : (0 : Int) ≤ tk1 ∧ tk1 ≤ 5 := ex_tk1 ▸ hWx.1 11
  have b_fk1 : (0 : Int) ≤ fk1 ∧ fk1 ≤ 6 := ex_fk1 ▸ hWx.1 16
  have b_nd1 : (0 : Int) ≤ nd1 ∧ nd1 ≤ 6999 := ex_nd1 ▸ hWx.1 31
  have b_op1 : (-2147483648 : Int) ≤ op1 ∧ op1 ≤ 2147483647 := ex_op1 ▸ hWx.1 15
  refine jx_ld (pc' := 311) (l' := L) (st' := [.ref 66]) rfl (jl_aloadn gL_0) ?_
  refine jx_ar (pc' := 313) (st' := [.int (i32 (7)), .ref 66]) rfl rfl rfl rfl ?_
  have b175 : (-2147483648 : Int) ≤ Gx 13 ∧ Gx 13 ≤ 2147483647 := hWx.1 13
  refine jx_vr (pc' := 316) (as := [.int (i32 (7))]) (st := []) rfl rfl rfl rfl ⟨rfl, rfl, Nat.le_of_ble_eq_true rfl⟩ rfl rfl (c_isKey (dd := d) (hd := by omega) (hW := hWx) (k := 7) (tk := tk1) (e_tk := show Gx 11 = tk1 from (ex_tk1)) (tn := Gx 13) (e_tn := show Gx 13 = Gx 13 from rfl)  (h_k := ⟨(by decide), (by decide)⟩)  ) (fun o V' hq => ?_)
  obtain ⟨r176, rfl, rfl, b177, q178⟩ := hq
  refine .inr ⟨_, rfl, ?_⟩
  rcases q178 with ⟨rfl, a179, a180, a181⟩ | rfl
  · have _q : True := trivial
    refine jx_if_eq (pc' := 319) (tg := 327) rfl rfl rfl (by decide) (by decide) (fun h182 => ?_) (fun h182 => ?_)
    · have _q := h182
      exact absurd h182 (by omega)
    · have _q := h182
      refine jx_ld (pc' := 320) (l' := L) (st' := [.ref 66]) rfl (jl_aloadn gL_0) ?_
      refine jx_ar (pc' := 321) (st' := [.int (i32 (1)), .ref 66]) rfl rfl rfl rfl ?_
      refine jx_vr (pc' := 324) (as := [.int (i32 (1))]) (st := []) rfl rfl rfl rfl ⟨rfl, rfl, Nat.le_of_ble_eq_true rfl⟩ rfl rfl (c_need (dd := d) (hd := by omega) (hW := hWx) (g := 1) (ln := ln) (e_ln := show Gx 9 = ln from (fx_9)) (le := le) (e_le := show Ax 4 (ln).toNat = le from (congrFun (hFx.2 4 rfl) _).trans (e_le)) (at0 := at1) (e_at0 := show Gx 10 = at1 from (ex_at1)) (fk := fk1) (e_fk := show Gx 16 = fk1 from (ex_fk1)) (tk0 := tk1) (e_tk0 := show Gx 11 = tk1 from (ex_tk1))  (h_g := ⟨(by decide), (by decide)⟩)  (p_0 := by omega)) (fun o V' hq => ?_)
      obtain ⟨G183, A184, at2_185, tk2_186, fk2_187, rfl, rfl, hW188, hF189, e190, e191, e192, p193, p194, q195⟩ := hq
      have hF196 := Fr_tr hFx hF189 (Fr_sub (by decide)) (Fr_sub (by decide))
      have hP197 := Pf_f hPx hF189 (by decide)
      have ec198 : ecn A184 (G183 31) = ec1 := (ecn_f (hF189.2 15 rfl) (hF189.1 31 rfl)).trans ex_ec1
      have bat2_185 : (0 : Int) ≤ at2_185 ∧ at2_185 ≤ 3002 := e190 ▸ hW188.1 10
      have ztk2_186 := tz_b tk2_186
      have btk2_186 : (0 : Int) ≤ tk2_186 ∧ tk2_186 ≤ 5 := e191 ▸ hW188.1 11
      have bfk2_187 : (0 : Int) ≤ fk2_187 ∧ fk2_187 ≤ 6 := e192 ▸ hW188.1 16
      refine .inl ⟨rfl, ?_⟩
      rcases q195 with ⟨a199, a200, a201, a202⟩ | ⟨a203, a204, a205, a206⟩
      · have _q : True := trivial
        refine jx_go (tg := 359) rfl rfl ?_
        have z207 := tz_f (tk2_186)
        exact c_readGuard_w_at_359p (X := X) (d := d) (Vs := Vs) (sb := sb) (c0 := c0) (c1 := c1) (G := G) (A := A) (T := T) (ln := ln) (le := le) (at0 := at0) (fk := fk) (op0 := op0) (nd := nd) (tk0 := tk0) (li := li) (ec := ec) (hd := hd) (hW := hW) (e_ln := e_ln) (e_le := e_le) (e_at0 := e_at0) (e_fk := e_fk) (e_op0 := e_op0) (e_nd := e_nd) (e_tk0 := e_tk0) (e_li := e_li) (e_ec := e_ec) (i_SV := i_SV) (p_0 := p_0) (p_1 := p_1) (p_2 := p_2) (p_3 := p_3) (p_4 := p_4) L G183 A184 (one) (at2_185) (tk2_186) (fk2_187) (nd1) (op1) (ec1) gL_0 gL_1 hW188 hF196 hP197 ((e190)) ((e191)) ((e192)) (((hF189.1 31 rfl).trans (ex_nd1))) (((hF189.1 15 rfl).trans (ex_op1))) (ec198) (((hF189.1 9 rfl).trans (fx_9))) (by omega) (by omega) (by omega) (by omega) (by omega) (by omega) (by omega) (by omega) (by omega)
      · have _q : True := trivial
        exfalso
        omega
  · have _q : True := trivial
    refine jx_if_eq (pc' := 319) (tg := 327) rfl rfl rfl (by decide) (by decide) (fun h208 => ?_) (fun h208 => ?_)
    · have _q := h208
      have z209 := tz_f (tk1)
      exact c_readGuard_w_at_327p (X := X) (d := d) (Vs := Vs) (sb := sb) (c0 := c0) (c1 := c1) (G := G) (A := A) (T := T) (ln := ln) (le := le) (at0 := at0) (fk := fk) (op0 := op0) (nd := nd) (tk0 := tk0) (li := li) (ec := ec) (hd := hd) (hW := hW) (e_ln := e_ln) (e_le := e_le) (e_at0 := e_at0) (e_fk := e_fk) (e_op0 := e_op0) (e_nd := e_nd) (e_tk0 := e_tk0) (e_li := e_li) (e_ec := e_ec) (i_SV := i_SV) (p_0 := p_0) (p_1 := p_1) (p_2 := p_2) (p_3 := p_3) (p_4 := p_4) L Gx Ax (one) (at1) (tk1) (fk1) (nd1) (op1) (ec1) gL_0 gL_1 hWx hFx hPx ((ex_at1)) ((ex_tk1)) ((ex_fk1)) ((ex_nd1)) ((ex_op1)) (ex_ec1) ((fx_9)) (by omega) (by omega) (by omega) (by omega) (by omega) (by omega) (by omega) (by omega) (by omega)
    · have _q := h208
      exact absurd h208 (by omega)
set_option maxRecDepth 20000 in
set_option maxHeartbeats 4000000 in
theorem c_readGuard_w_at_293 {X : jX} {d : Nat} {Vs : Nat → Prop} {sb : Int} {c0 c1 : jC} {G : Nat → Int} {A : Nat → Nat → Int} {T : jH} {ln le at0 fk op0 nd tk0 li ec : Int} (hd : 71 ≤ d + 1) (hW : Wk G A) (e_ln : G 9 = ln) (e_le : A 4 (ln).toNat = le) (e_at0 : G 10 = at0) (e_fk : G 16 = fk) (e_op0 : G 15 = op0) (e_nd : G 31 = nd) (e_tk0 : G 11 = tk0) (e_li : G 3 = li) (e_ec : ecn A (G 31) = ec) (i_SV : SV Vs sb G A) (p_0 : 0 ≤ op0 ∧ op0 ≤ 8) (p_1 : fk = 0) (p_2 : nd ≤ 2 * at0 - tz tk0 + 42) (p_3 : at0 ≤ le) (p_4 : ln < li) : ∀ (L : jL) (Gx : Nat → Int) (Ax : Nat → Nat → Int) (one e at1 tk1 fk1 nd1 op1 ec1 : Int), jGet L 0 = some (.ref 66) → jGet L 1 = some (.int (i32 one)) → jGet L 2 = some (.int (i32 e)) → Wk Gx Ax → Fr [9, 10, 11, 12, 13, 14, 15, 16, 17, 18, 31] [15, 16, 17, 18, 19, 20, 21, 22, 24, 28] G A Gx Ax → Pf nd A Ax → Gx 10 = at1 → Gx 11 = tk1 → Gx 16 = fk1 → Gx 31 = nd1 → Gx 15 = op1 → ecn Ax (Gx 31) = ec1 → Gx 9 = ln → ((-2147483648 : Int) ≤ one ∧ one ≤ 2147483647) → ((-2147483648 : Int) ≤ e ∧ e ≤ 2147483647) → (at0 ≤ at1) → (at1 ≤ le) → (nd ≤ nd1) → (op1 = op0) → (one = nd) → (one ≤ 6998 ∧ one < nd1) → (fk1 = 0) → (nd1 - nd ≤ (2 * at1 - tz tk1) - (2 * at0 - tz tk0) + 1) → (0 ≤ e ∧ e ≤ nd1) → (ND Ax (one) (33) (0) (0) (0) (0) (0) (0)) → (wE Ax Vs sb (22) (e) (one + 1) (nd1)) → (nd + 5 * ec ≤ nd1 - tz tk1) → (nd1 - nd + 5 * (ec1 - ec) ≤ (2 * at1 - tz tk1) - (2 * at0 - tz tk0) + 1 - tz tk1) → wj X d jm303 (293, L, [], rV c0 c1 Gx Ax T) (fun o V' => ∃ (G' : Nat → Int) (A' : Nat → Nat → Int) (r : Int) (at2 : Int) (fk2 : Int) (nd2 : Int) (ln2 : Int) (ec2 : Int), V' = rV c0 c1 G' A' T ∧ o = .inl (some (.int (i32 r))) ∧ Wk G' A' ∧ Fr [9, 10, 11, 12, 13, 14, 15, 16, 17, 18, 31] [15, 16, 17, 18, 19, 20, 21, 22, 24, 28] G A G' A' ∧ Pf nd A A' ∧ ((-2147483648 : Int) ≤ r ∧ r ≤ 2147483647) ∧ G' 10 = at2 ∧ G' 16 = fk2 ∧ G' 31 = nd2 ∧ G' 9 = ln2 ∧ ecn A' (G' 31) = ec2 ∧ (at0 ≤ at2) ∧ (at2 ≤ le) ∧ (nd ≤ nd2) ∧ (0 ≤ r) ∧ (r ≤ nd2) ∧ (((1 ≤ fk2) ∧ (ln2 = ln) ∧ (nd2 - nd ≤ 2 * at2 - 2 * at0 + 12)) ∨ ((fk2 = 0) ∧ (ln2 = ln + 1) ∧ (nd2 - nd ≤ 2 * at2 - (2 * at0 - tz tk0) + 0) ∧ (nd ≤ r) ∧ (r < nd2) ∧ (wU A' Vs sb (r) (nd) (nd2)) ∧ (NX A' (r)) ∧ (nd2 - nd + 5 * (ec2 - ec) ≤ 2 * at2 - (2 * at0 - tz tk0) + 0) ∧ (nd + 5 * ec ≤ r)))) := by
  have hF0 : Fr [9, 10, 11, 12, 13, 14, 15, 16, 17, 18, 31] [15, 16, 17, 18, 19, 20, 21, 22, 24, 28] G A G A := Fr_rf
  have hP0 : Pf nd A A := Pf_rf
  have b_ln : (0 : Int) ≤ ln ∧ ln ≤ 3000 := e_ln ▸ hW.1 9
  have b_le : (0 : Int) ≤ le ∧ le ≤ 3000 := e_le ▸ hW.2 4 _
  have b_at0 : (0 : Int) ≤ at0 ∧ at0 ≤ 3002 := e_at0 ▸ hW.1 10
  have b_fk : (0 : Int) ≤ fk ∧ fk ≤ 6 := e_fk ▸ hW.1 16
  have b_op0 : (-2147483648 : Int) ≤ op0 ∧ op0 ≤ 2147483647 := e_op0 ▸ hW.1 15
  have b_nd : (0 : Int) ≤ nd ∧ nd ≤ 6999 := e_nd ▸ hW.1 31
  have z_tk0 := tz_f tk0
  have b_tk0 : (0 : Int) ≤ tk0 ∧ tk0 ≤ 5 := e_tk0 ▸ hW.1 11
  have b_li : (0 : Int) ≤ li ∧ li ≤ 3000 := e_li ▸ hW.1 3
  intro L Gx Ax one e at1 tk1 fk1 nd1 op1 ec1 gL_0 gL_1 gL_2 hWx hFx hPx ex_at1 ex_tk1 ex_fk1 ex_nd1 ex_op1 ex_ec1 fx_9 rx_one rx_e iv_0 iv_1 iv_2 iv_3 iv_4 iv_5 iv_6 iv_7 iv_8 iv_9 iv_10 iv_11 iv_12
  have b_at1 : (0 : Int) ≤ at1 ∧ at1 ≤ 3002 := ex_at1 ▸ hWx.1 10
  have z_tk1 := tz_f tk1
  have b_tk1 : (0 : Int) ≤ tk1 ∧ tk1 ≤ 5 := ex_tk1 ▸ hWx.1 11
  have b_fk1 : (0 : Int) ≤ fk1 ∧ fk1 ≤ 6 := ex_fk1 ▸ hWx.1 16
  have b_nd1 : (0 : Int) ≤ nd1 ∧ nd1 ≤ 6999 := ex_nd1 ▸ hWx.1 31
  have b_op1 : (-2147483648 : Int) ≤ op1 ∧ op1 ≤ 2147483647 := ex_op1 ▸ hWx.1 15
  refine jx_ld (pc' := 294) (l' := L) (st' := [.ref 66]) rfl (jl_aloadn gL_0) ?_
  refine jr_get (pc' := 297) (i := 34) (v := .ref 84) rfl rfl (by decide) rfl rfl ?_
  refine jx_ld (pc' := 298) (l' := L) (st' := [.int (i32 (one)), .ref 84]) rfl (jl_iloadn gL_1) ?_
  refine jx_ld (pc' := 299) (l' := L) (st' := [.int (i32 (e)), .int (i32 (one)), .ref 84]) rfl (jl_iloadn gL_2) ?_
  refine jr_st (pc' := 300) (i := 17) (m := 7000) (z := one) (y := e) rfl (by decide) rfl (by decide) (by omega) (by omega) rfl ?_
  have hW211 : Wk Gx (uA Ax 17 (one).toNat (e)) := Wk_a hWx (show (-2147483648 : Int) ≤ e by omega) (show e ≤ (2147483647 : Int) by omega)
  have hF212 := Fr_a (z := e) (k := 17) (n := (one).toNat) hFx (by decide)
  obtain ⟨A210, eA210⟩ : ∃ q, q = uA Ax 17 (one).toNat (e) := ⟨_, rfl⟩
  rw [← eA210]
  rw [← eA210] at hW211 hF212
  have q213 : A210 17 (one).toNat = e := by rw [eA210]; exact uA_eq
  have hP214 : Pf nd A A210 := eA210 ▸ Pf_a hPx (z := one) (by omega) (by omega)
  have sf215 : ND A210 (one) (33) (e) (0) (0) (0) (0) (0) := ND_a eA210 iv_9
  have sf216 : wE A210 Vs sb (22) (e) (one + 1) (nd1) := wE_ag (by omega) (Sg_ne eA210 rfl) (Ag_st eA210 (by omega) (by omega)) iv_10
  have ec217 : ecn A210 (Gx 31) = ec1 := (ecn_e ((congrFun eA210 15).trans (uA_ne (by decide)))).trans ex_ec1
  refine jx_ld (pc' := 301) (l' := L) (st' := [.ref 66]) rfl (jl_aloadn gL_0) ?_
  refine jx_ld (pc' := 302) (l' := L) (st' := [.ref 66, .ref 66]) rfl (jl_aloadn gL_0) ?_
  refine jx_ar (pc' := 304) (st' := [.int (i32 (38)), .ref 66, .ref 66]) rfl rfl rfl rfl ?_
  have b218 : (-2147483648 : Int) ≤ Gx 13 ∧ Gx 13 ≤ 2147483647 := hWx.1 13
  refine jx_vr (pc' := 307) (as := [.int (i32 (38))]) (st := [.ref 66]) rfl rfl rfl rfl ⟨rfl, rfl, Nat.le_of_ble_eq_true rfl⟩ rfl rfl (c_is (dd := d) (hd := by omega) (hW := hW211) (k := 38) (tk := tk1) (e_tk := show Gx 11 = tk1 from (ex_tk1)) (tn := Gx 13) (e_tn := show Gx 13 = Gx 13 from rfl)  (h_k := ⟨(by decide), (by decide)⟩)  ) (fun o V' hq => ?_)
  obtain ⟨r219, rfl, rfl, b220, q221⟩ := hq
  refine .inr ⟨_, rfl, ?_⟩
  rcases q221 with ⟨rfl, a222, a223, a224⟩ | rfl
  · have _q : True := trivial
    refine jx_vr (pc' := 310) (as := [.int (i32 (1))]) (st := []) rfl rfl rfl rfl ⟨rfl, rfl, Nat.le_of_ble_eq_true rfl⟩ rfl rfl (c_need (dd := d) (hd := by omega) (hW := hW211) (g := 1) (ln := ln) (e_ln := show Gx 9 = ln from (fx_9)) (le := le) (e_le := show A210 4 (ln).toNat = le from (congrFun (((congrFun eA210 4).trans (uA_ne (by decide))).trans (hFx.2 4 rfl)) _).trans (e_le)) (at0 := at1) (e_at0 := show Gx 10 = at1 from (ex_at1)) (fk := fk1) (e_fk := show Gx 16 = fk1 from (ex_fk1)) (tk0 := tk1) (e_tk0 := show Gx 11 = tk1 from (ex_tk1))  (h_g := ⟨(by decide), (by decide)⟩)  (p_0 := by omega)) (fun o V' hq => ?_)
    obtain ⟨G225, A226, at2_227, tk2_228, fk2_229, rfl, rfl, hW230, hF231, e232, e233, e234, p235, p236, q237⟩ := hq
    have hF238 := Fr_tr hF212 hF231 (Fr_sub (by decide)) (Fr_sub (by decide))
    have hP239 := Pf_f hP214 hF231 (by decide)
    have sf240 : ND A226 (one) (33) (e) (0) (0) (0) (0) (0) := ND_ag (by omega) (Ag_fr hF231 (by decide)) sf215
    have sf241 : wE A226 Vs sb (22) (e) (one + 1) (nd1) := wE_ag (by omega) (Sg_fr hF231 (by decide)) (Ag_fr hF231 (by decide)) sf216
    have ec242 : ecn A226 (G225 31) = ec1 := (ecn_f (hF231.2 15 rfl) (hF231.1 31 rfl)).trans ec217
    have bat2_227 : (0 : Int) ≤ at2_227 ∧ at2_227 ≤ 3002 := e232 ▸ hW230.1 10
    have ztk2_228 := tz_b tk2_228
    have btk2_228 : (0 : Int) ≤ tk2_228 ∧ tk2_228 ≤ 5 := e233 ▸ hW230.1 11
    have bfk2_229 : (0 : Int) ≤ fk2_229 ∧ fk2_229 ≤ 6 := e234 ▸ hW230.1 16
    refine .inl ⟨rfl, ?_⟩
    rcases q237 with ⟨a243, a244, a245, a246⟩ | ⟨a247, a248, a249, a250⟩
    · have _q : True := trivial
      have z251 := tz_f (tk2_228)
      exact c_readGuard_w_at_310p (X := X) (d := d) (Vs := Vs) (sb := sb) (c0 := c0) (c1 := c1) (G := G) (A := A) (T := T) (ln := ln) (le := le) (at0 := at0) (fk := fk) (op0 := op0) (nd := nd) (tk0 := tk0) (li := li) (ec := ec) (hd := hd) (hW := hW) (e_ln := e_ln) (e_le := e_le) (e_at0 := e_at0) (e_fk := e_fk) (e_op0 := e_op0) (e_nd := e_nd) (e_tk0 := e_tk0) (e_li := e_li) (e_ec := e_ec) (i_SV := i_SV) (p_0 := p_0) (p_1 := p_1) (p_2 := p_2) (p_3 := p_3) (p_4 := p_4) L G225 A226 (one) (at2_227) (tk2_228) (fk2_229) (nd1) (op1) (ec1) gL_0 gL_1 hW230 hF238 hP239 ((e232)) ((e233)) ((e234)) (((hF231.1 31 rfl).trans (ex_nd1))) (((hF231.1 15 rfl).trans (ex_op1))) (ec242) (((hF231.1 9 rfl).trans (fx_9))) (by omega) (by omega) (by omega) (by omega) (by omega) (by omega) (by omega) (by omega) (by omega)
    · have _q : True := trivial
      refine jx_ld (pc' := 311) (l' := L) (st' := [.ref 66]) rfl (jl_aloadn gL_0) ?_
      refine jx_ar (pc' := 313) (st' := [.int (i32 (7)), .ref 66]) rfl rfl rfl rfl ?_
      have b252 : (-2147483648 : Int) ≤ G225 13 ∧ G225 13 ≤ 2147483647 := hW230.1 13
      refine jx_vr (pc' := 316) (as := [.int (i32 (7))]) (st := []) rfl rfl rfl rfl ⟨rfl, rfl, Nat.le_of_ble_eq_true rfl⟩ rfl rfl (c_isKey (dd := d) (hd := by omega) (hW := hW230) (k := 7) (tk := tk2_228) (e_tk := show G225 11 = tk2_228 from (e233)) (tn := G225 13) (e_tn := show G225 13 = G225 13 from rfl)  (h_k := ⟨(by decide), (by decide)⟩)  ) (fun o V' hq => ?_)
      obtain ⟨r253, rfl, rfl, b254, q255⟩ := hq
      refine .inr ⟨_, rfl, ?_⟩
      rcases q255 with ⟨rfl, a256, a257, a258⟩ | rfl
      · have _q : True := trivial
        refine jx_if_eq (pc' := 319) (tg := 327) rfl rfl rfl (by decide) (by decide) (fun h259 => ?_) (fun h259 => ?_)
        · have _q := h259
          exact absurd h259 (by omega)
        · have _q := h259
          refine jx_ld (pc' := 320) (l' := L) (st' := [.ref 66]) rfl (jl_aloadn gL_0) ?_
          refine jx_ar (pc' := 321) (st' := [.int (i32 (1)), .ref 66]) rfl rfl rfl rfl ?_
          refine jx_vr (pc' := 324) (as := [.int (i32 (1))]) (st := []) rfl rfl rfl rfl ⟨rfl, rfl, Nat.le_of_ble_eq_true rfl⟩ rfl rfl (c_need (dd := d) (hd := by omega) (hW := hW230) (g := 1) (ln := ln) (e_ln := show G225 9 = ln from ((hF231.1 9 rfl).trans (fx_9))) (le := le) (e_le := show A226 4 (ln).toNat = le from (congrFun ((hF231.2 4 rfl).trans (((congrFun eA210 4).trans (uA_ne (by decide))).trans (hFx.2 4 rfl))) _).trans (e_le)) (at0 := at2_227) (e_at0 := show G225 10 = at2_227 from (e232)) (fk := fk2_229) (e_fk := show G225 16 = fk2_229 from (e234)) (tk0 := tk2_228) (e_tk0 := show G225 11 = tk2_228 from (e233))  (h_g := ⟨(by decide), (by decide)⟩)  (p_0 := by omega)) (fun o V' hq => ?_)
          obtain ⟨G260, A261, at2_262, tk2_263, fk2_264, rfl, rfl, hW265, hF266, e267, e268, e269, p270, p271, q272⟩ := hq
          have hF273 := Fr_tr hF238 hF266 (Fr_sub (by decide)) (Fr_sub (by decide))
          have hP274 := Pf_f hP239 hF266 (by decide)
          have sf275 : ND A261 (one) (33) (e) (0) (0) (0) (0) (0) := ND_ag (by omega) (Ag_fr hF266 (by decide)) sf240
          have sf276 : wE A261 Vs sb (22) (e) (one + 1) (nd1) := wE_ag (by omega) (Sg_fr hF266 (by decide)) (Ag_fr hF266 (by decide)) sf241
          have ec277 : ecn A261 (G260 31) = ec1 := (ecn_f (hF266.2 15 rfl) (hF266.1 31 rfl)).trans ec242
          have bat2_262 : (0 : Int) ≤ at2_262 ∧ at2_262 ≤ 3002 := e267 ▸ hW265.1 10
          have ztk2_263 := tz_b tk2_263
          have btk2_263 : (0 : Int) ≤ tk2_263 ∧ tk2_263 ≤ 5 := e268 ▸ hW265.1 11
          have bfk2_264 : (0 : Int) ≤ fk2_264 ∧ fk2_264 ≤ 6 := e269 ▸ hW265.1 16
          refine .inl ⟨rfl, ?_⟩
          rcases q272 with ⟨a278, a279, a280, a281⟩ | ⟨a282, a283, a284, a285⟩
          · have _q : True := trivial
            refine jx_go (tg := 359) rfl rfl ?_
            have z286 := tz_f (tk2_263)
            exact c_readGuard_w_at_359p (X := X) (d := d) (Vs := Vs) (sb := sb) (c0 := c0) (c1 := c1) (G := G) (A := A) (T := T) (ln := ln) (le := le) (at0 := at0) (fk := fk) (op0 := op0) (nd := nd) (tk0 := tk0) (li := li) (ec := ec) (hd := hd) (hW := hW) (e_ln := e_ln) (e_le := e_le) (e_at0 := e_at0) (e_fk := e_fk) (e_op0 := e_op0) (e_nd := e_nd) (e_tk0 := e_tk0) (e_li := e_li) (e_ec := e_ec) (i_SV := i_SV) (p_0 := p_0) (p_1 := p_1) (p_2 := p_2) (p_3 := p_3) (p_4 := p_4) L G260 A261 (one) (at2_262) (tk2_263) (fk2_264) (nd1) (op1) (ec1) gL_0 gL_1 hW265 hF273 hP274 ((e267)) ((e268)) ((e269)) (((hF266.1 31 rfl).trans ((hF231.1 31 rfl).trans (ex_nd1)))) (((hF266.1 15 rfl).trans ((hF231.1 15 rfl).trans (ex_op1)))) (ec277) (((hF266.1 9 rfl).trans ((hF231.1 9 rfl).trans (fx_9)))) (by omega) (by omega) (by omega) (by omega) (by omega) (by omega) (by omega) (by omega) (by omega)
          · have _q : True := trivial
            refine jx_go (tg := 359) rfl rfl ?_
            refine jx_ld (pc' := 360) (l' := L) (st' := [.ref 66]) rfl (jl_aloadn gL_0) ?_
            refine jx_vr (pc' := 363) (as := []) (st := []) rfl rfl rfl rfl ⟨rfl, rfl, Nat.le_of_ble_eq_true rfl⟩ rfl rfl (c_endLine (dd := d) (hd := by omega) (hW := hW265)  (ln := ln) (e_ln := show G260 9 = ln from ((hF266.1 9 rfl).trans ((hF231.1 9 rfl).trans (fx_9)))) (li := li) (e_li := show G260 3 = li from ((hF266.1 3 rfl).trans ((hF231.1 3 rfl).trans ((hFx.1 3 rfl).trans (e_li))))) (fk := fk2_264) (e_fk := show G260 16 = fk2_264 from (e269)) (tk0 := tk2_263) (e_tk0 := show G260 11 = tk2_263 from (e268))    (p_0 := by omega)) (fun o V' hq => ?_)
            obtain ⟨G287, A288, ln2_289, fk2_290, rfl, rfl, hW291, hF292, e293, e294, q295⟩ := hq
            have hF296 := Fr_tr hF273 hF292 (Fr_sub (by decide)) (Fr_sub (by decide))
            have hP297 := Pf_f hP274 hF292 (by decide)
            have sf298 : ND A288 (one) (33) (e) (0) (0) (0) (0) (0) := ND_ag (by omega) (Ag_fr hF292 (by decide)) sf275
            have sf299 : wE A288 Vs sb (22) (e) (one + 1) (nd1) := wE_ag (by omega) (Sg_fr hF292 (by decide)) (Ag_fr hF292 (by decide)) sf276
            have ec300 : ecn A288 (G287 31) = ec1 := (ecn_f (hF292.2 15 rfl) (hF292.1 31 rfl)).trans ec277
            have bln2_289 : (0 : Int) ≤ ln2_289 ∧ ln2_289 ≤ 3000 := e293 ▸ hW291.1 9
            have bfk2_290 : (0 : Int) ≤ fk2_290 ∧ fk2_290 ≤ 6 := e294 ▸ hW291.1 16
            refine .inl ⟨rfl, ?_⟩
            rcases q295 with ⟨a301, a302, a303, a304, a305⟩ | ⟨a306, a307⟩
            · have _q : True := trivial
              refine jx_ld (pc' := 364) (l' := L) (st' := [.int (i32 (one))]) rfl (jl_iloadn gL_1) ?_
              refine jx_rt (v := some (.int (i32 (one)))) rfl rfl rfl rfl rfl rfl ?_
              exact ⟨_, _, _, at2_262, fk2_290, nd1, ln2_289, ec1, rfl, rfl, hW291, hF296, hP297, by omega, ((hF292.1 10 rfl).trans (e267)), (e294), ((hF292.1 31 rfl).trans ((hF266.1 31 rfl).trans ((hF231.1 31 rfl).trans (ex_nd1)))), (e293), ec300, by omega, by omega, by omega, by omega, by omega, by first | exact Or.inr ((⟨by omega, by omega, by omega, by omega, by omega, (wU_sk sf298 (by omega) (by omega) (wE_mono (by omega) (by omega) (by omega) sf299)), (NX_nd sf298), by omega, by omega⟩))⟩
            · have _q : True := trivial
              refine jx_ld (pc' := 364) (l' := L) (st' := [.int (i32 (one))]) rfl (jl_iloadn gL_1) ?_
              refine jx_rt (v := some (.int (i32 (one)))) rfl rfl rfl rfl rfl rfl ?_
              exact ⟨_, _, _, at2_262, fk2_290, nd1, ln2_289, ec1, rfl, rfl, hW291, hF296, hP297, by omega, ((hF292.1 10 rfl).trans (e267)), (e294), ((hF292.1 31 rfl).trans ((hF266.1 31 rfl).trans ((hF231.1 31 rfl).trans (ex_nd1)))), (e293), ec300, by omega, by omega, by omega, by omega, by omega, by first | exact Or.inl (⟨by omega, by omega, by omega⟩)⟩
      · have _q : True := trivial
        refine jx_if_eq (pc' := 319) (tg := 327) rfl rfl rfl (by decide) (by decide) (fun h308 => ?_) (fun h308 => ?_)
        · have _q := h308
          refine jx_ld (pc' := 328) (l' := L) (st' := [.ref 66]) rfl (jl_aloadn gL_0) ?_
          refine jr_get (pc' := 331) (i := 35) (v := .ref 85) rfl rfl (by decide) rfl rfl ?_
          refine jx_ld (pc' := 332) (l' := L) (st' := [.int (i32 (one)), .ref 85]) rfl (jl_iloadn gL_1) ?_
          refine jx_ld (pc' := 333) (l' := L) (st' := [.ref 66, .int (i32 (one)), .ref 85]) rfl (jl_aloadn gL_0) ?_
          refine jx_ar (pc' := 334) (st' := [.int (i32 (1)), .ref 66, .int (i32 (one)), .ref 85]) rfl rfl rfl rfl ?_
          refine jx_vr (pc' := 337) (as := [.int (i32 (1))]) (st := [.int (i32 (one)), .ref 85]) rfl rfl rfl rfl ⟨rfl, rfl, Nat.le_of_ble_eq_true rfl⟩ rfl rfl (c_readReference_w (dd := d) (hd := by omega) (hW := hW230) (ch := 1) (ln := ln) (e_ln := show G225 9 = ln from ((hF231.1 9 rfl).trans (fx_9))) (le := le) (e_le := show A226 4 (ln).toNat = le from (congrFun ((hF231.2 4 rfl).trans (((congrFun eA210 4).trans (uA_ne (by decide))).trans (hFx.2 4 rfl))) _).trans (e_le)) (at0 := at2_227) (e_at0 := show G225 10 = at2_227 from (e232)) (fk := fk2_229) (e_fk := show G225 16 = fk2_229 from (e234)) (op0 := op1) (e_op0 := show G225 15 = op1 from ((hF231.1 15 rfl).trans (ex_op1))) (nd := nd1) (e_nd := show G225 31 = nd1 from ((hF231.1 31 rfl).trans (ex_nd1))) (tk0 := tk2_228) (e_tk0 := show G225 11 = tk2_228 from (e233)) (ec := ec1) (e_ec := show ecn A226 (G225 31) = ec1 from ec242) (i_SV := (SV_ext (((hF231.1 29 rfl).trans (hFx.1 29 rfl))) (((hF231.2 14 rfl).trans (((congrFun eA210 14).trans (uA_ne (by decide))).trans (hFx.2 14 rfl)))) i_SV)) (h_ch := ⟨(by decide), (by decide)⟩)  (p_0 := by omega) (p_1 := by omega) (p_2 := by omega) (p_3 := by omega) (p_4 := by omega)) (fun o V' hq => ?_)
          obtain ⟨G309, A310, r311, at2_312, fk2_313, op2_314, nd2_315, tk2_316, ec2_317, rfl, rfl, hW318, hF319, hQ320, b321, e322, e323, e324, e325, e326, e327, p328, p329, p330, p331, p332, p333, q334⟩ := hq
          have hF335 := Fr_tr hF238 hF319 (Fr_sub (by decide)) (Fr_sub (by decide))
          have k336 : A310 17 (one).toNat = e := (hQ320 17 _ rfl (by omega)).trans (show A226 17 (one).toNat = e from (congrFun (hF231.2 17 rfl) _).trans (q213))
          have hP337 := Pf_tr hP239 hQ320 (by omega)
          have sf338 : ND A310 (one) (33) (e) (0) (0) (0) (0) (0) := ND_ag (by omega) (Ag_pf hQ320 (by omega)) sf240
          have sf339 : wE A310 Vs sb (22) (e) (one + 1) (nd1) := wE_ag (by omega) (Sg_fr hF319 (by decide)) (Ag_pf hQ320 (by omega)) sf241
          have bat2_312 : (0 : Int) ≤ at2_312 ∧ at2_312 ≤ 3002 := e322 ▸ hW318.1 10
          have bfk2_313 : (0 : Int) ≤ fk2_313 ∧ fk2_313 ≤ 6 := e323 ▸ hW318.1 16
          have bop2_314 : (-2147483648 : Int) ≤ op2_314 ∧ op2_314 ≤ 2147483647 := e324 ▸ hW318.1 15
          have bnd2_315 : (0 : Int) ≤ nd2_315 ∧ nd2_315 ≤ 6999 := e325 ▸ hW318.1 31
          have ztk2_316 := tz_b tk2_316
          have btk2_316 : (0 : Int) ≤ tk2_316 ∧ tk2_316 ≤ 5 := e326 ▸ hW318.1 11
          refine .inr ⟨_, rfl, ?_⟩
          rcases q334 with ⟨a340, a341, a342, a343, a344, a345⟩ | ⟨a346, a347, a348⟩ | ⟨a349, a350, a351, a352, a353⟩
          · have _q : True := trivial
            exfalso
            omega
          · have _q : True := trivial
            refine jr_st (pc' := 338) (i := 18) (m := 7000) (z := one) (y := r311) rfl (by decide) rfl (by decide) (by omega) (by omega) rfl ?_
            have hW355 : Wk G309 (uA A310 18 (one).toNat (r311)) := Wk_a hW318 (show (-2147483648 : Int) ≤ r311 by omega) (show r311 ≤ (2147483647 : Int) by omega)
            have hF356 := Fr_a (z := r311) (k := 18) (n := (one).toNat) hF335 (by decide)
            obtain ⟨A354, eA354⟩ : ∃ q, q = uA A310 18 (one).toNat (r311) := ⟨_, rfl⟩
            rw [← eA354]
            rw [← eA354] at hW355 hF356
            have q357 : A354 18 (one).toNat = r311 := by rw [eA354]; exact uA_eq
            have hP358 : Pf nd A A354 := eA354 ▸ Pf_a hP337 (z := one) (by omega) (by omega)
            have sf359 : ND A354 (one) (33) (e) (r311) (0) (0) (0) (0) := ND_b eA354 sf338
            have sf360 : wE A354 Vs sb (22) (e) (one + 1) (nd1) := wE_ag (by omega) (Sg_ne eA354 rfl) (Ag_st eA354 (by omega) (by omega)) sf339
            have ec361 : ecn A354 (G309 31) = ec2_317 := (ecn_e ((congrFun eA354 15).trans (uA_ne (by decide)))).trans e327
            have z362 := tz_f (tk2_316)
            exact c_readGuard_w_at_338p (X := X) (d := d) (Vs := Vs) (sb := sb) (c0 := c0) (c1 := c1) (G := G) (A := A) (T := T) (ln := ln) (le := le) (at0 := at0) (fk := fk) (op0 := op0) (nd := nd) (tk0 := tk0) (li := li) (ec := ec) (hd := hd) (hW := hW) (e_ln := e_ln) (e_le := e_le) (e_at0 := e_at0) (e_fk := e_fk) (e_op0 := e_op0) (e_nd := e_nd) (e_tk0 := e_tk0) (e_li := e_li) (e_ec := e_ec) (i_SV := i_SV) (p_0 := p_0) (p_1 := p_1) (p_2 := p_2) (p_3 := p_3) (p_4 := p_4) L G309 A354 (one) (at2_312) (tk2_316) (fk2_313) (nd2_315) (op2_314) (ec2_317) gL_0 gL_1 hW355 hF356 hP358 ((e322)) ((e326)) ((e323)) ((e325)) ((e324)) (ec361) (((hF319.1 9 rfl).trans ((hF231.1 9 rfl).trans (fx_9)))) (by omega) (by omega) (by omega) (by omega) (by omega) (by omega) (by omega) (by omega) (by omega)
          · have _q : True := trivial
            refine jr_st (pc' := 338) (i := 18) (m := 7000) (z := one) (y := r311) rfl (by decide) rfl (by decide) (by omega) (by omega) rfl ?_
            have hW364 : Wk G309 (uA A310 18 (one).toNat (r311)) := Wk_a hW318 (show (-2147483648 : Int) ≤ r311 by omega) (show r311 ≤ (2147483647 : Int) by omega)
            have hF365 := Fr_a (z := r311) (k := 18) (n := (one).toNat) hF335 (by decide)
            obtain ⟨A363, eA363⟩ : ∃ q, q = uA A310 18 (one).toNat (r311) := ⟨_, rfl⟩
            rw [← eA363]
            rw [← eA363] at hW364 hF365
            have q366 : A363 18 (one).toNat = r311 := by rw [eA363]; exact uA_eq
            have hP367 : Pf nd A A363 := eA363 ▸ Pf_a hP337 (z := one) (by omega) (by omega)
            have sf368 : ND A363 (one) (33) (e) (r311) (0) (0) (0) (0) := ND_b eA363 sf338
            have sf369 : wE A363 Vs sb (22) (e) (one + 1) (nd1) := wE_ag (by omega) (Sg_ne eA363 rfl) (Ag_st eA363 (by omega) (by omega)) sf339
            have sf370 : wR A363 Vs sb (20) (1) (r311) (nd1) (nd2_315) := wR_ag (by omega) (Sg_ne eA363 rfl) (Ag_st eA363 (by omega) (by omega)) a352
            have ec371 : ecn A363 (G309 31) = ec2_317 := (ecn_e ((congrFun eA363 15).trans (uA_ne (by decide)))).trans e327
            refine jx_ld (pc' := 339) (l' := L) (st' := [.ref 66]) rfl (jl_aloadn gL_0) ?_
            refine jx_ld (pc' := 340) (l' := L) (st' := [.ref 66, .ref 66]) rfl (jl_aloadn gL_0) ?_
            refine jx_ar (pc' := 342) (st' := [.int (i32 (63)), .ref 66, .ref 66]) rfl rfl rfl rfl ?_
            have b372 : (-2147483648 : Int) ≤ G309 13 ∧ G309 13 ≤ 2147483647 := hW318.1 13
            refine jx_vr (pc' := 345) (as := [.int (i32 (63))]) (st := [.ref 66]) rfl rfl rfl rfl ⟨rfl, rfl, Nat.le_of_ble_eq_true rfl⟩ rfl rfl (c_is (dd := d) (hd := by omega) (hW := hW364) (k := 63) (tk := tk2_316) (e_tk := show G309 11 = tk2_316 from (e326)) (tn := G309 13) (e_tn := show G309 13 = G309 13 from rfl)  (h_k := ⟨(by decide), (by decide)⟩)  ) (fun o V' hq => ?_)
            obtain ⟨r373, rfl, rfl, b374, q375⟩ := hq
            refine .inr ⟨_, rfl, ?_⟩
            rcases q375 with ⟨rfl, a376, a377, a378⟩ | rfl
            · have _q : True := trivial
              refine jx_vr (pc' := 348) (as := [.int (i32 (1))]) (st := []) rfl rfl rfl rfl ⟨rfl, rfl, Nat.le_of_ble_eq_true rfl⟩ rfl rfl (c_need (dd := d) (hd := by omega) (hW := hW364) (g := 1) (ln := ln) (e_ln := show G309 9 = ln from ((hF319.1 9 rfl).trans ((hF231.1 9 rfl).trans (fx_9)))) (le := le) (e_le := show A363 4 (ln).toNat = le from (congrFun (((congrFun eA363 4).trans (uA_ne (by decide))).trans ((hF319.2 4 rfl).trans ((hF231.2 4 rfl).trans (((congrFun eA210 4).trans (uA_ne (by decide))).trans (hFx.2 4 rfl))))) _).trans (e_le)) (at0 := at2_312) (e_at0 := show G309 10 = at2_312 from (e322)) (fk := fk2_313) (e_fk := show G309 16 = fk2_313 from (e323)) (tk0 := tk2_316) (e_tk0 := show G309 11 = tk2_316 from (e326))  (h_g := ⟨(by decide), (by decide)⟩)  (p_0 := by omega)) (fun o V' hq => ?_)
              obtain ⟨G379, A380, at2_381, tk2_382, fk2_383, rfl, rfl, hW384, hF385, e386, e387, e388, p389, p390, q391⟩ := hq
              have hF392 := Fr_tr hF365 hF385 (Fr_sub (by decide)) (Fr_sub (by decide))
              have hP393 := Pf_f hP367 hF385 (by decide)
              have sf394 : ND A380 (one) (33) (e) (r311) (0) (0) (0) (0) := ND_ag (by omega) (Ag_fr hF385 (by decide)) sf368
              have sf395 : wE A380 Vs sb (22) (e) (one + 1) (nd1) := wE_ag (by omega) (Sg_fr hF385 (by decide)) (Ag_fr hF385 (by decide)) sf369
              have sf396 : wR A380 Vs sb (20) (1) (r311) (nd1) (nd2_315) := wR_ag (by omega) (Sg_fr hF385 (by decide)) (Ag_fr hF385 (by decide)) sf370
              have ec397 : ecn A380 (G379 31) = ec2_317 := (ecn_f (hF385.2 15 rfl) (hF385.1 31 rfl)).trans ec371
              have bat2_381 : (0 : Int) ≤ at2_381 ∧ at2_381 ≤ 3002 := e386 ▸ hW384.1 10
              have ztk2_382 := tz_b tk2_382
              have btk2_382 : (0 : Int) ≤ tk2_382 ∧ tk2_382 ≤ 5 := e387 ▸ hW384.1 11
              have bfk2_383 : (0 : Int) ≤ fk2_383 ∧ fk2_383 ≤ 6 := e388 ▸ hW384.1 16
              refine .inl ⟨rfl, ?_⟩
              rcases q391 with ⟨a398, a399, a400, a401⟩ | ⟨a402, a403, a404, a405⟩
              · have _q : True := trivial
                have z406 := tz_f (tk2_382)
                exact c_readGuard_w_at_348p (X := X) (d := d) (Vs := Vs) (sb := sb) (c0 := c0) (c1 := c1) (G := G) (A := A) (T := T) (ln := ln) (le := le) (at0 := at0) (fk := fk) (op0 := op0) (nd := nd) (tk0 := tk0) (li := li) (ec := ec) (hd := hd) (hW := hW) (e_ln := e_ln) (e_le := e_le) (e_at0 := e_at0) (e_fk := e_fk) (e_op0 := e_op0) (e_nd := e_nd) (e_tk0 := e_tk0) (e_li := e_li) (e_ec := e_ec) (i_SV := i_SV) (p_0 := p_0) (p_1 := p_1) (p_2 := p_2) (p_3 := p_3) (p_4 := p_4) L G379 A380 (one) (at2_381) (tk2_382) (fk2_383) (nd2_315) (op2_314) (ec2_317) gL_0 gL_1 hW384 hF392 hP393 ((e386)) ((e387)) ((e388)) (((hF385.1 31 rfl).trans (e325))) (((hF385.1 15 rfl).trans (e324))) (ec397) (((hF385.1 9 rfl).trans ((hF319.1 9 rfl).trans ((hF231.1 9 rfl).trans (fx_9))))) (by omega) (by omega) (by omega) (by omega) (by omega) (by omega) (by omega) (by omega) (by omega)
              · have _q : True := trivial
                refine jx_ld (pc' := 349) (l' := L) (st' := [.ref 66]) rfl (jl_aloadn gL_0) ?_
                refine jr_get (pc' := 352) (i := 36) (v := .ref 86) rfl rfl (by decide) rfl rfl ?_
                refine jx_ld (pc' := 353) (l' := L) (st' := [.int (i32 (one)), .ref 86]) rfl (jl_iloadn gL_1) ?_
                refine jx_ld (pc' := 354) (l' := L) (st' := [.ref 66, .int (i32 (one)), .ref 86]) rfl (jl_aloadn gL_0) ?_
                refine jx_ar (pc' := 355) (st' := [.int (i32 (0)), .ref 66, .int (i32 (one)), .ref 86]) rfl rfl rfl rfl ?_
                refine jx_vr (pc' := 358) (as := [.int (i32 (0))]) (st := [.int (i32 (one)), .ref 86]) rfl rfl rfl rfl ⟨rfl, rfl, Nat.le_of_ble_eq_true rfl⟩ rfl rfl (c_readReference_w (dd := d) (hd := by omega) (hW := hW384) (ch := 0) (ln := ln) (e_ln := show G379 9 = ln from ((hF385.1 9 rfl).trans ((hF319.1 9 rfl).trans ((hF231.1 9 rfl).trans (fx_9))))) (le := le) (e_le := show A380 4 (ln).toNat = le from (congrFun ((hF385.2 4 rfl).trans (((congrFun eA363 4).trans (uA_ne (by decide))).trans ((hF319.2 4 rfl).trans ((hF231.2 4 rfl).trans (((congrFun eA210 4).trans (uA_ne (by decide))).trans (hFx.2 4 rfl)))))) _).trans (e_le)) (at0 := at2_381) (e_at0 := show G379 10 = at2_381 from (e386)) (fk := fk2_383) (e_fk := show G379 16 = fk2_383 from (e388)) (op0 := op2_314) (e_op0 := show G379 15 = op2_314 from ((hF385.1 15 rfl).trans (e324))) (nd := nd2_315) (e_nd := show G379 31 = nd2_315 from ((hF385.1 31 rfl).trans (e325))) (tk0 := tk2_382) (e_tk0 := show G379 11 = tk2_382 from (e387)) (ec := ec2_317) (e_ec := show ecn A380 (G379 31) = ec2_317 from ec397) (i_SV := (SV_ext (((hF385.1 29 rfl).trans ((hF319.1 29 rfl).trans ((hF231.1 29 rfl).trans (hFx.1 29 rfl))))) (((hF385.2 14 rfl).trans (((congrFun eA363 14).trans (uA_ne (by decide))).trans ((hF319.2 14 rfl).trans ((hF231.2 14 rfl).trans (((congrFun eA210 14).trans (uA_ne (by decide))).trans (hFx.2 14 rfl))))))) i_SV)) (h_ch := ⟨(by decide), (by decide)⟩)  (p_0 := by omega) (p_1 := by omega) (p_2 := by omega) (p_3 := by omega) (p_4 := by omega)) (fun o V' hq => ?_)
                obtain ⟨G407, A408, r409, at2_410, fk2_411, op2_412, nd2_413, tk2_414, ec2_415, rfl, rfl, hW416, hF417, hQ418, b419, e420, e421, e422, e423, e424, e425, p426, p427, p428, p429, p430, p431, q432⟩ := hq
                have hF433 := Fr_tr hF392 hF417 (Fr_sub (by decide)) (Fr_sub (by decide))
                have k434 : A408 17 (one).toNat = e := (hQ418 17 _ rfl (by omega)).trans (show A380 17 (one).toNat = e from (congrFun ((hF385.2 17 rfl).trans ((congrFun eA363 17).trans (uA_ne (by decide)))) _).trans (k336))
                have k435 : A408 18 (one).toNat = r311 := (hQ418 18 _ rfl (by omega)).trans (show A380 18 (one).toNat = r311 from (congrFun (hF385.2 18 rfl) _).trans (q366))
                have hP436 := Pf_tr hP393 hQ418 (by omega)
                have sf437 : ND A408 (one) (33) (e) (r311) (0) (0) (0) (0) := ND_ag (by omega) (Ag_pf hQ418 (by omega)) sf394
                have sf438 : wE A408 Vs sb (22) (e) (one + 1) (nd1) := wE_ag (by omega) (Sg_fr hF417 (by decide)) (Ag_pf hQ418 (by omega)) sf395
                have sf439 : wR A408 Vs sb (20) (1) (r311) (nd1) (nd2_315) := wR_ag (by omega) (Sg_fr hF417 (by decide)) (Ag_pf hQ418 (by omega)) sf396
                have bat2_410 : (0 : Int) ≤ at2_410 ∧ at2_410 ≤ 3002 := e420 ▸ hW416.1 10
                have bfk2_411 : (0 : Int) ≤ fk2_411 ∧ fk2_411 ≤ 6 := e421 ▸ hW416.1 16
                have bop2_412 : (-2147483648 : Int) ≤ op2_412 ∧ op2_412 ≤ 2147483647 := e422 ▸ hW416.1 15
                have bnd2_413 : (0 : Int) ≤ nd2_413 ∧ nd2_413 ≤ 6999 := e423 ▸ hW416.1 31
                have ztk2_414 := tz_b tk2_414
                have btk2_414 : (0 : Int) ≤ tk2_414 ∧ tk2_414 ≤ 5 := e424 ▸ hW416.1 11
                refine .inr ⟨_, rfl, ?_⟩
                rcases q432 with ⟨a440, a441, a442, a443, a444, a445⟩ | ⟨a446, a447, a448⟩ | ⟨a449, a450, a451, a452, a453⟩
                · have _q : True := trivial
                  exfalso
                  omega
                · have _q : True := trivial
                  refine jr_st (pc' := 359) (i := 19) (m := 7000) (z := one) (y := r409) rfl (by decide) rfl (by decide) (by omega) (by omega) rfl ?_
                  have hW455 : Wk G407 (uA A408 19 (one).toNat (r409)) := Wk_a hW416 (show (-2147483648 : Int) ≤ r409 by omega) (show r409 ≤ (2147483647 : Int) by omega)
                  have hF456 := Fr_a (z := r409) (k := 19) (n := (one).toNat) hF433 (by decide)
                  obtain ⟨A454, eA454⟩ : ∃ q, q = uA A408 19 (one).toNat (r409) := ⟨_, rfl⟩
                  rw [← eA454]
                  rw [← eA454] at hW455 hF456
                  have q457 : A454 19 (one).toNat = r409 := by rw [eA454]; exact uA_eq
                  have hP458 : Pf nd A A454 := eA454 ▸ Pf_a hP436 (z := one) (by omega) (by omega)
                  have sf459 : ND A454 (one) (33) (e) (r311) (r409) (0) (0) (0) := ND_c eA454 sf437
                  have sf460 : wE A454 Vs sb (22) (e) (one + 1) (nd1) := wE_ag (by omega) (Sg_ne eA454 rfl) (Ag_st eA454 (by omega) (by omega)) sf438
                  have sf461 : wR A454 Vs sb (20) (1) (r311) (nd1) (nd2_315) := wR_ag (by omega) (Sg_ne eA454 rfl) (Ag_st eA454 (by omega) (by omega)) sf439
                  have ec462 : ecn A454 (G407 31) = ec2_415 := (ecn_e ((congrFun eA454 15).trans (uA_ne (by decide)))).trans e425
                  have z463 := tz_f (tk2_414)
                  exact c_readGuard_w_at_359p (X := X) (d := d) (Vs := Vs) (sb := sb) (c0 := c0) (c1 := c1) (G := G) (A := A) (T := T) (ln := ln) (le := le) (at0 := at0) (fk := fk) (op0 := op0) (nd := nd) (tk0 := tk0) (li := li) (ec := ec) (hd := hd) (hW := hW) (e_ln := e_ln) (e_le := e_le) (e_at0 := e_at0) (e_fk := e_fk) (e_op0 := e_op0) (e_nd := e_nd) (e_tk0 := e_tk0) (e_li := e_li) (e_ec := e_ec) (i_SV := i_SV) (p_0 := p_0) (p_1 := p_1) (p_2 := p_2) (p_3 := p_3) (p_4 := p_4) L G407 A454 (one) (at2_410) (tk2_414) (fk2_411) (nd2_413) (op2_412) (ec2_415) gL_0 gL_1 hW455 hF456 hP458 ((e420)) ((e424)) ((e421)) ((e423)) ((e422)) (ec462) (((hF417.1 9 rfl).trans ((hF385.1 9 rfl).trans ((hF319.1 9 rfl).trans ((hF231.1 9 rfl).trans (fx_9)))))) (by omega) (by omega) (by omega) (by omega) (by omega) (by omega) (by omega) (by omega) (by omega)
                · have _q : True := trivial
                  refine jr_st (pc' := 359) (i := 19) (m := 7000) (z := one) (y := r409) rfl (by decide) rfl (by decide) (by omega) (by omega) rfl ?_
                  have hW465 : Wk G407 (uA A408 19 (one).toNat (r409)) := Wk_a hW416 (show (-2147483648 : Int) ≤ r409 by omega) (show r409 ≤ (2147483647 : Int) by omega)
                  have hF466 := Fr_a (z := r409) (k := 19) (n := (one).toNat) hF433 (by decide)
                  obtain ⟨A464, eA464⟩ : ∃ q, q = uA A408 19 (one).toNat (r409) := ⟨_, rfl⟩
                  rw [← eA464]
                  rw [← eA464] at hW465 hF466
                  have q467 : A464 19 (one).toNat = r409 := by rw [eA464]; exact uA_eq
                  have hP468 : Pf nd A A464 := eA464 ▸ Pf_a hP436 (z := one) (by omega) (by omega)
                  have sf469 : ND A464 (one) (33) (e) (r311) (r409) (0) (0) (0) := ND_c eA464 sf437
                  have sf470 : wE A464 Vs sb (22) (e) (one + 1) (nd1) := wE_ag (by omega) (Sg_ne eA464 rfl) (Ag_st eA464 (by omega) (by omega)) sf438
                  have sf471 : wR A464 Vs sb (20) (1) (r311) (nd1) (nd2_315) := wR_ag (by omega) (Sg_ne eA464 rfl) (Ag_st eA464 (by omega) (by omega)) sf439
                  have sf472 : wR A464 Vs sb (20) (0) (r409) (nd2_315) (nd2_413) := wR_ag (by omega) (Sg_ne eA464 rfl) (Ag_st eA464 (by omega) (by omega)) a452
                  have ec473 : ecn A464 (G407 31) = ec2_415 := (ecn_e ((congrFun eA464 15).trans (uA_ne (by decide)))).trans e425
                  refine jx_ld (pc' := 360) (l' := L) (st' := [.ref 66]) rfl (jl_aloadn gL_0) ?_
                  refine jx_vr (pc' := 363) (as := []) (st := []) rfl rfl rfl rfl ⟨rfl, rfl, Nat.le_of_ble_eq_true rfl⟩ rfl rfl (c_endLine (dd := d) (hd := by omega) (hW := hW465)  (ln := ln) (e_ln := show G407 9 = ln from ((hF417.1 9 rfl).trans ((hF385.1 9 rfl).trans ((hF319.1 9 rfl).trans ((hF231.1 9 rfl).trans (fx_9)))))) (li := li) (e_li := show G407 3 = li from ((hF417.1 3 rfl).trans ((hF385.1 3 rfl).trans ((hF319.1 3 rfl).trans ((hF231.1 3 rfl).trans ((hFx.1 3 rfl).trans (e_li))))))) (fk := fk2_411) (e_fk := show G407 16 = fk2_411 from (e421)) (tk0 := tk2_414) (e_tk0 := show G407 11 = tk2_414 from (e424))    (p_0 := by omega)) (fun o V' hq => ?_)
                  obtain ⟨G474, A475, ln2_476, fk2_477, rfl, rfl, hW478, hF479, e480, e481, q482⟩ := hq
                  have hF483 := Fr_tr hF466 hF479 (Fr_sub (by decide)) (Fr_sub (by decide))
                  have hP484 := Pf_f hP468 hF479 (by decide)
                  have sf485 : ND A475 (one) (33) (e) (r311) (r409) (0) (0) (0) := ND_ag (by omega) (Ag_fr hF479 (by decide)) sf469
                  have sf486 : wE A475 Vs sb (22) (e) (one + 1) (nd1) := wE_ag (by omega) (Sg_fr hF479 (by decide)) (Ag_fr hF479 (by decide)) sf470
                  have sf487 : wR A475 Vs sb (20) (1) (r311) (nd1) (nd2_315) := wR_ag (by omega) (Sg_fr hF479 (by decide)) (Ag_fr hF479 (by decide)) sf471
                  have sf488 : wR A475 Vs sb (20) (0) (r409) (nd2_315) (nd2_413) := wR_ag (by omega) (Sg_fr hF479 (by decide)) (Ag_fr hF479 (by decide)) sf472
                  have ec489 : ecn A475 (G474 31) = ec2_415 := (ecn_f (hF479.2 15 rfl) (hF479.1 31 rfl)).trans ec473
                  have bln2_476 : (0 : Int) ≤ ln2_476 ∧ ln2_476 ≤ 3000 := e480 ▸ hW478.1 9
                  have bfk2_477 : (0 : Int) ≤ fk2_477 ∧ fk2_477 ≤ 6 := e481 ▸ hW478.1 16
                  refine .inl ⟨rfl, ?_⟩
                  rcases q482 with ⟨a490, a491, a492, a493, a494⟩ | ⟨a495, a496⟩
                  · have _q : True := trivial
                    refine jx_ld (pc' := 364) (l' := L) (st' := [.int (i32 (one))]) rfl (jl_iloadn gL_1) ?_
                    refine jx_rt (v := some (.int (i32 (one)))) rfl rfl rfl rfl rfl rfl ?_
                    exact ⟨_, _, _, at2_410, fk2_477, nd2_413, ln2_476, ec2_415, rfl, rfl, hW478, hF483, hP484, by omega, ((hF479.1 10 rfl).trans (e420)), (e481), ((hF479.1 31 rfl).trans (e423)), (e480), ec489, by omega, by omega, by omega, by omega, by omega, by first | exact Or.inr ((⟨by omega, by omega, by omega, by omega, by omega, (wU_bo (m := nd1) (k := nd2_315) sf485 (by omega) (by omega) (by omega) (by omega) (by omega) (wE_mono (by omega) (by omega) (by omega) sf486) (wR_mono (by omega) (by omega) (by omega) sf487) (wR_mono (by omega) (by omega) (by omega) sf488)), (NX_nd sf485), by omega, by omega⟩))⟩
                  · have _q : True := trivial
                    refine jx_ld (pc' := 364) (l' := L) (st' := [.int (i32 (one))]) rfl (jl_iloadn gL_1) ?_
                    refine jx_rt (v := some (.int (i32 (one)))) rfl rfl rfl rfl rfl rfl ?_
                    exact ⟨_, _, _, at2_410, fk2_477, nd2_413, ln2_476, ec2_415, rfl, rfl, hW478, hF483, hP484, by omega, ((hF479.1 10 rfl).trans (e420)), (e481), ((hF479.1 31 rfl).trans (e423)), (e480), ec489, by omega, by omega, by omega, by omega, by omega, by first | exact Or.inl (⟨by omega, by omega, by omega⟩)⟩
            · have _q : True := trivial
              refine jx_vr (pc' := 348) (as := [.int (i32 (0))]) (st := []) rfl rfl rfl rfl ⟨rfl, rfl, Nat.le_of_ble_eq_true rfl⟩ rfl rfl (c_need (dd := d) (hd := by omega) (hW := hW364) (g := 0) (ln := ln) (e_ln := show G309 9 = ln from ((hF319.1 9 rfl).trans ((hF231.1 9 rfl).trans (fx_9)))) (le := le) (e_le := show A363 4 (ln).toNat = le from (congrFun (((congrFun eA363 4).trans (uA_ne (by decide))).trans ((hF319.2 4 rfl).trans ((hF231.2 4 rfl).trans (((congrFun eA210 4).trans (uA_ne (by decide))).trans (hFx.2 4 rfl))))) _).trans (e_le)) (at0 := at2_312) (e_at0 := show G309 10 = at2_312 from (e322)) (fk := fk2_313) (e_fk := show G309 16 = fk2_313 from (e323)) (tk0 := tk2_316) (e_tk0 := show G309 11 = tk2_316 from (e326))  (h_g := ⟨(by decide), (by decide)⟩)  (p_0 := by omega)) (fun o V' hq => ?_)
              obtain ⟨G497, A498, at2_499, tk2_500, fk2_501, rfl, rfl, hW502, hF503, e504, e505, e506, p507, p508, q509⟩ := hq
              have hF510 := Fr_tr hF365 hF503 (Fr_sub (by decide)) (Fr_sub (by decide))
              have hP511 := Pf_f hP367 hF503 (by decide)
              have sf512 : ND A498 (one) (33) (e) (r311) (0) (0) (0) (0) := ND_ag (by omega) (Ag_fr hF503 (by decide)) sf368
              have sf513 : wE A498 Vs sb (22) (e) (one + 1) (nd1) := wE_ag (by omega) (Sg_fr hF503 (by decide)) (Ag_fr hF503 (by decide)) sf369
              have sf514 : wR A498 Vs sb (20) (1) (r311) (nd1) (nd2_315) := wR_ag (by omega) (Sg_fr hF503 (by decide)) (Ag_fr hF503 (by decide)) sf370
              have ec515 : ecn A498 (G497 31) = ec2_317 := (ecn_f (hF503.2 15 rfl) (hF503.1 31 rfl)).trans ec371
              have bat2_499 : (0 : Int) ≤ at2_499 ∧ at2_499 ≤ 3002 := e504 ▸ hW502.1 10
              have ztk2_500 := tz_b tk2_500
              have btk2_500 : (0 : Int) ≤ tk2_500 ∧ tk2_500 ≤ 5 := e505 ▸ hW502.1 11
              have bfk2_501 : (0 : Int) ≤ fk2_501 ∧ fk2_501 ≤ 6 := e506 ▸ hW502.1 16
              refine .inl ⟨rfl, ?_⟩
              rcases q509 with ⟨a516, a517, a518, a519⟩ | ⟨a520, a521, a522, a523⟩
              · have _q : True := trivial
                have z524 := tz_f (tk2_500)
                exact c_readGuard_w_at_348p (X := X) (d := d) (Vs := Vs) (sb := sb) (c0 := c0) (c1 := c1) (G := G) (A := A) (T := T) (ln := ln) (le := le) (at0 := at0) (fk := fk) (op0 := op0) (nd := nd) (tk0 := tk0) (li := li) (ec := ec) (hd := hd) (hW := hW) (e_ln := e_ln) (e_le := e_le) (e_at0 := e_at0) (e_fk := e_fk) (e_op0 := e_op0) (e_nd := e_nd) (e_tk0 := e_tk0) (e_li := e_li) (e_ec := e_ec) (i_SV := i_SV) (p_0 := p_0) (p_1 := p_1) (p_2 := p_2) (p_3 := p_3) (p_4 := p_4) L G497 A498 (one) (at2_499) (tk2_500) (fk2_501) (nd2_315) (op2_314) (ec2_317) gL_0 gL_1 hW502 hF510 hP511 ((e504)) ((e505)) ((e506)) (((hF503.1 31 rfl).trans (e325))) (((hF503.1 15 rfl).trans (e324))) (ec515) (((hF503.1 9 rfl).trans ((hF319.1 9 rfl).trans ((hF231.1 9 rfl).trans (fx_9))))) (by omega) (by omega) (by omega) (by omega) (by omega) (by omega) (by omega) (by omega) (by omega)
              · have _q : True := trivial
                exfalso
                omega
        · have _q := h308
          exact absurd h308 (by omega)
  · have _q : True := trivial
    refine jx_vr (pc' := 310) (as := [.int (i32 (0))]) (st := []) rfl rfl rfl rfl ⟨rfl, rfl, Nat.le_of_ble_eq_true rfl⟩ rfl rfl (c_need (dd := d) (hd := by omega) (hW := hW211) (g := 0) (ln := ln) (e_ln := show Gx 9 = ln from (fx_9)) (le := le) (e_le := show A210 4 (ln).toNat = le from (congrFun (((congrFun eA210 4).trans (uA_ne (by decide))).trans (hFx.2 4 rfl)) _).trans (e_le)) (at0 := at1) (e_at0 := show Gx 10 = at1 from (ex_at1)) (fk := fk1) (e_fk := show Gx 16 = fk1 from (ex_fk1)) (tk0 := tk1) (e_tk0 := show Gx 11 = tk1 from (ex_tk1))  (h_g := ⟨(by decide), (by decide)⟩)  (p_0 := by omega)) (fun o V' hq => ?_)
    obtain ⟨G525, A526, at2_527, tk2_528, fk2_529, rfl, rfl, hW530, hF531, e532, e533, e534, p535, p536, q537⟩ := hq
    have hF538 := Fr_tr hF212 hF531 (Fr_sub (by decide)) (Fr_sub (by decide))
    have hP539 := Pf_f hP214 hF531 (by decide)
    have sf540 : ND A526 (one) (33) (e) (0) (0) (0) (0) (0) := ND_ag (by omega) (Ag_fr hF531 (by decide)) sf215
    have sf541 : wE A526 Vs sb (22) (e) (one + 1) (nd1) := wE_ag (by omega) (Sg_fr hF531 (by decide)) (Ag_fr hF531 (by decide)) sf216
    have ec542 : ecn A526 (G525 31) = ec1 := (ecn_f (hF531.2 15 rfl) (hF531.1 31 rfl)).trans ec217
    have bat2_527 : (0 : Int) ≤ at2_527 ∧ at2_527 ≤ 3002 := e532 ▸ hW530.1 10
    have ztk2_528 := tz_b tk2_528
    have btk2_528 : (0 : Int) ≤ tk2_528 ∧ tk2_528 ≤ 5 := e533 ▸ hW530.1 11
    have bfk2_529 : (0 : Int) ≤ fk2_529 ∧ fk2_529 ≤ 6 := e534 ▸ hW530.1 16
    refine .inl ⟨rfl, ?_⟩
    rcases q537 with ⟨a543, a544, a545, a546⟩ | ⟨a547, a548, a549, a550⟩
    · have _q : True := trivial
      have z551 := tz_f (tk2_528)
      exact c_readGuard_w_at_310p (X := X) (d := d) (Vs := Vs) (sb := sb) (c0 := c0) (c1 := c1) (G := G) (A := A) (T := T) (ln := ln) (le := le) (at0 := at0) (fk := fk) (op0 := op0) (nd := nd) (tk0 := tk0) (li := li) (ec := ec) (hd := hd) (hW := hW) (e_ln := e_ln) (e_le := e_le) (e_at0 := e_at0) (e_fk := e_fk) (e_op0 := e_op0) (e_nd := e_nd) (e_tk0 := e_tk0) (e_li := e_li) (e_ec := e_ec) (i_SV := i_SV) (p_0 := p_0) (p_1 := p_1) (p_2 := p_2) (p_3 := p_3) (p_4 := p_4) L G525 A526 (one) (at2_527) (tk2_528) (fk2_529) (nd1) (op1) (ec1) gL_0 gL_1 hW530 hF538 hP539 ((e532)) ((e533)) ((e534)) (((hF531.1 31 rfl).trans (ex_nd1))) (((hF531.1 15 rfl).trans (ex_op1))) (ec542) (((hF531.1 9 rfl).trans (fx_9))) (by omega) (by omega) (by omega) (by omega) (by omega) (by omega) (by omega) (by omega) (by omega)
    · have _q : True := trivial
      exfalso
      omega
set_option maxRecDepth 20000 in
set_option maxHeartbeats 4000000 in
theorem c_readGuard_w_at_293p {X : jX} {d : Nat} {Vs : Nat → Prop} {sb : Int} {c0 c1 : jC} {G : Nat → Int} {A : Nat → Nat → Int} {T : jH} {ln le at0 fk op0 nd tk0 li ec : Int} (hd : 71 ≤ d + 1) (hW : Wk G A) (e_ln : G 9 = ln) (e_le : A 4 (ln).toNat = le) (e_at0 : G 10 = at0) (e_fk : G 16 = fk) (e_op0 : G 15 = op0) (e_nd : G 31 = nd) (e_tk0 : G 11 = tk0) (e_li : G 3 = li) (e_ec : ecn A (G 31) = ec) (i_SV : SV Vs sb G A) (p_0 : 0 ≤ op0 ∧ op0 ≤ 8) (p_1 : fk = 0) (p_2 : nd ≤ 2 * at0 - tz tk0 + 42) (p_3 : at0 ≤ le) (p_4 : ln < li) : ∀ (L : jL) (Gx : Nat → Int) (Ax : Nat → Nat → Int) (one e at1 tk1 fk1 nd1 op1 ec1 : Int), jGet L 0 = some (.ref 66) → jGet L 1 = some (.int (i32 one)) → jGet L 2 = some (.int (i32 e)) → Wk Gx Ax → Fr [9, 10, 11, 12, 13, 14, 15, 16, 17, 18, 31] [15, 16, 17, 18, 19, 20, 21, 22, 24, 28] G A Gx Ax → Pf nd A Ax → Gx 10 = at1 → Gx 11 = tk1 → Gx 16 = fk1 → Gx 31 = nd1 → Gx 15 = op1 → ecn Ax (Gx 31) = ec1 → Gx 9 = ln → ((-2147483648 : Int) ≤ one ∧ one ≤ 2147483647) → ((-2147483648 : Int) ≤ e ∧ e ≤ 2147483647) → (at0 ≤ at1) → (at1 ≤ le) → (nd ≤ nd1) → (op1 = op0) → (one = nd) → (one ≤ 6998 ∧ one < nd1) → (1 ≤ fk1) → (nd1 - nd ≤ (2 * at1 - tz tk1) - (2 * at0 - tz tk0) + 5) → wj X d jm303 (293, L, [], rV c0 c1 Gx Ax T) (fun o V' => ∃ (G' : Nat → Int) (A' : Nat → Nat → Int) (r : Int) (at2 : Int) (fk2 : Int) (nd2 : Int) (ln2 : Int) (ec2 : Int), V' = rV c0 c1 G' A' T ∧ o = .inl (some (.int (i32 r))) ∧ Wk G' A' ∧ Fr [9, 10, 11, 12, 13, 14, 15, 16, 17, 18, 31] [15, 16, 17, 18, 19, 20, 21, 22, 24, 28] G A G' A' ∧ Pf nd A A' ∧ ((-2147483648 : Int) ≤ r ∧ r ≤ 2147483647) ∧ G' 10 = at2 ∧ G' 16 = fk2 ∧ G' 31 = nd2 ∧ G' 9 = ln2 ∧ ecn A' (G' 31) = ec2 ∧ (at0 ≤ at2) ∧ (at2 ≤ le) ∧ (nd ≤ nd2) ∧ (0 ≤ r) ∧ (r ≤ nd2) ∧ (((1 ≤ fk2) ∧ (ln2 = ln) ∧ (nd2 - nd ≤ 2 * at2 - 2 * at0 + 12)) ∨ ((fk2 = 0) ∧ (ln2 = ln + 1) ∧ (nd2 - nd ≤ 2 * at2 - (2 * at0 - tz tk0) + 0) ∧ (nd ≤ r) ∧ (r < nd2) ∧ (wU A' Vs sb (r) (nd) (nd2)) ∧ (NX A' (r)) ∧ (nd2 - nd + 5 * (ec2 - ec) ≤ 2 * at2 - (2 * at0 - tz tk0) + 0) ∧ (nd + 5 * ec ≤ r)))) := by
  have hF0 : Fr [9, 10, 11, 12, 13, 14, 15, 16, 17, 18, 31] [15, 16, 17, 18, 19, 20, 21, 22, 24, 28] G A G A := Fr_rf
  have hP0 : Pf nd A A := Pf_rf
  have b_ln : (0 : Int) ≤ ln ∧ ln ≤ 3000 := e_ln ▸ hW.1 9
  have b_le : (0 : Int) ≤ le ∧ le ≤ 3000 := e_le ▸ hW.2 4 _
  have b_at0 : (0 : Int) ≤ at0 ∧ at0 ≤ 3002 := e_at0 ▸ hW.1 10
  have b_fk : (0 : Int) ≤ fk ∧ fk ≤ 6 := e_fk ▸ hW.1 16
  have b_op0 : (-2147483648 : Int) ≤ op0 ∧ op0 ≤ 2147483647 := e_op0 ▸ hW.1 15
  have b_nd : (0 : Int) ≤ nd ∧ nd ≤ 6999 := e_nd ▸ hW.1 31
  have z_tk0 := tz_f tk0
  have b_tk0 : (0 : Int) ≤ tk0 ∧ tk0 ≤ 5 := e_tk0 ▸ hW.1 11
  have b_li : (0 : Int) ≤ li ∧ li ≤ 3000 := e_li ▸ hW.1 3
  intro L Gx Ax one e at1 tk1 fk1 nd1 op1 ec1 gL_0 gL_1 gL_2 hWx hFx hPx ex_at1 ex_tk1 ex_fk1 ex_nd1 ex_op1 ex_ec1 fx_9 rx_one rx_e iv_0 iv_1 iv_2 iv_3 iv_4 iv_5 iv_6 iv_7
  have b_at1 : (0 : Int) ≤ at1 ∧ at1 ≤ 3002 := ex_at1 ▸ hWx.1 10
  have z_tk1 := tz_f tk1
  have b_tk1 : (0 : Int) ≤ tk1 ∧ tk1 ≤ 5 := ex_tk1 ▸ hWx.1 11
  have b_fk1 : (0 : Int) ≤ fk1 ∧ fk1 ≤ 6 := ex_fk1 ▸ hWx.1 16
  have b_nd1 : (0 : Int) ≤ nd1 ∧ nd1 ≤ 6999 := ex_nd1 ▸ hWx.1 31
  have b_op1 : (-2147483648 : Int) ≤ op1 ∧ op1 ≤ 2147483647 := ex_op1 ▸ hWx.1 15
  refine jx_ld (pc' := 294) (l' := L) (st' := [.ref 66]) rfl (jl_aloadn gL_0) ?_
  refine jr_get (pc' := 297) (i := 34) (v := .ref 84) rfl rfl (by decide) rfl rfl ?_
  refine jx_ld (pc' := 298) (l' := L) (st' := [.int (i32 (one)), .ref 84]) rfl (jl_iloadn gL_1) ?_
  refine jx_ld (pc' := 299) (l' := L) (st' := [.int (i32 (e)), .int (i32 (one)), .ref 84]) rfl (jl_iloadn gL_2) ?_
  refine jr_st (pc' := 300) (i := 17) (m := 7000) (z := one) (y := e) rfl (by decide) rfl (by decide) (by omega) (by omega) rfl ?_
  have hW553 : Wk Gx (uA Ax 17 (one).toNat (e)) := Wk_a hWx (show (-2147483648 : Int) ≤ e by omega) (show e ≤ (2147483647 : Int) by omega)
  have hF554 := Fr_a (z := e) (k := 17) (n := (one).toNat) hFx (by decide)
  obtain ⟨A552, eA552⟩ : ∃ q, q = uA Ax 17 (one).toNat (e) := ⟨_, rfl⟩
  rw [← eA552]
  rw [← eA552] at hW553 hF554
  have q555 : A552 17 (one).toNat = e := by rw [eA552]; exact uA_eq
  have hP556 : Pf nd A A552 := eA552 ▸ Pf_a hPx (z := one) (by omega) (by omega)
  have ec557 : ecn A552 (Gx 31) = ec1 := (ecn_e ((congrFun eA552 15).trans (uA_ne (by decide)))).trans ex_ec1
  refine jx_ld (pc' := 301) (l' := L) (st' := [.ref 66]) rfl (jl_aloadn gL_0) ?_
  refine jx_ld (pc' := 302) (l' := L) (st' := [.ref 66, .ref 66]) rfl (jl_aloadn gL_0) ?_
  refine jx_ar (pc' := 304) (st' := [.int (i32 (38)), .ref 66, .ref 66]) rfl rfl rfl rfl ?_
  have b558 : (-2147483648 : Int) ≤ Gx 13 ∧ Gx 13 ≤ 2147483647 := hWx.1 13
  refine jx_vr (pc' := 307) (as := [.int (i32 (38))]) (st := [.ref 66]) rfl rfl rfl rfl ⟨rfl, rfl, Nat.le_of_ble_eq_true rfl⟩ rfl rfl (c_is (dd := d) (hd := by omega) (hW := hW553) (k := 38) (tk := tk1) (e_tk := show Gx 11 = tk1 from (ex_tk1)) (tn := Gx 13) (e_tn := show Gx 13 = Gx 13 from rfl)  (h_k := ⟨(by decide), (by decide)⟩)  ) (fun o V' hq => ?_)
  obtain ⟨r559, rfl, rfl, b560, q561⟩ := hq
  refine .inr ⟨_, rfl, ?_⟩
  rcases q561 with ⟨rfl, a562, a563, a564⟩ | rfl
  · have _q : True := trivial
    refine jx_vr (pc' := 310) (as := [.int (i32 (1))]) (st := []) rfl rfl rfl rfl ⟨rfl, rfl, Nat.le_of_ble_eq_true rfl⟩ rfl rfl (c_need (dd := d) (hd := by omega) (hW := hW553) (g := 1) (ln := ln) (e_ln := show Gx 9 = ln from (fx_9)) (le := le) (e_le := show A552 4 (ln).toNat = le from (congrFun (((congrFun eA552 4).trans (uA_ne (by decide))).trans (hFx.2 4 rfl)) _).trans (e_le)) (at0 := at1) (e_at0 := show Gx 10 = at1 from (ex_at1)) (fk := fk1) (e_fk := show Gx 16 = fk1 from (ex_fk1)) (tk0 := tk1) (e_tk0 := show Gx 11 = tk1 from (ex_tk1))  (h_g := ⟨(by decide), (by decide)⟩)  (p_0 := by omega)) (fun o V' hq => ?_)
    obtain ⟨G565, A566, at2_567, tk2_568, fk2_569, rfl, rfl, hW570, hF571, e572, e573, e574, p575, p576, q577⟩ := hq
    have hF578 := Fr_tr hF554 hF571 (Fr_sub (by decide)) (Fr_sub (by decide))
    have hP579 := Pf_f hP556 hF571 (by decide)
    have ec580 : ecn A566 (G565 31) = ec1 := (ecn_f (hF571.2 15 rfl) (hF571.1 31 rfl)).trans ec557
    have bat2_567 : (0 : Int) ≤ at2_567 ∧ at2_567 ≤ 3002 := e572 ▸ hW570.1 10
    have ztk2_568 := tz_b tk2_568
    have btk2_568 : (0 : Int) ≤ tk2_568 ∧ tk2_568 ≤ 5 := e573 ▸ hW570.1 11
    have bfk2_569 : (0 : Int) ≤ fk2_569 ∧ fk2_569 ≤ 6 := e574 ▸ hW570.1 16
    refine .inl ⟨rfl, ?_⟩
    rcases q577 with ⟨a581, a582, a583, a584⟩ | ⟨a585, a586, a587, a588⟩
    · have _q : True := trivial
      have z589 := tz_f (tk2_568)
      exact c_readGuard_w_at_310p (X := X) (d := d) (Vs := Vs) (sb := sb) (c0 := c0) (c1 := c1) (G := G) (A := A) (T := T) (ln := ln) (le := le) (at0 := at0) (fk := fk) (op0 := op0) (nd := nd) (tk0 := tk0) (li := li) (ec := ec) (hd := hd) (hW := hW) (e_ln := e_ln) (e_le := e_le) (e_at0 := e_at0) (e_fk := e_fk) (e_op0 := e_op0) (e_nd := e_nd) (e_tk0 := e_tk0) (e_li := e_li) (e_ec := e_ec) (i_SV := i_SV) (p_0 := p_0) (p_1 := p_1) (p_2 := p_2) (p_3 := p_3) (p_4 := p_4) L G565 A566 (one) (at2_567) (tk2_568) (fk2_569) (nd1) (op1) (ec1) gL_0 gL_1 hW570 hF578 hP579 ((e572)) ((e573)) ((e574)) (((hF571.1 31 rfl).trans (ex_nd1))) (((hF571.1 15 rfl).trans (ex_op1))) (ec580) (((hF571.1 9 rfl).trans (fx_9))) (by omega) (by omega) (by omega) (by omega) (by omega) (by omega) (by omega) (by omega) (by omega)
    · have _q : True := trivial
      exfalso
      omega
  · have _q : True := trivial
    refine jx_vr (pc' := 310) (as := [.int (i32 (0))]) (st := []) rfl rfl rfl rfl ⟨rfl, rfl, Nat.le_of_ble_eq_true rfl⟩ rfl rfl (c_need (dd := d) (hd := by omega) (hW := hW553) (g := 0) (ln := ln) (e_ln := show Gx 9 = ln from (fx_9)) (le := le) (e_le := show A552 4 (ln).toNat = le from (congrFun (((congrFun eA552 4).trans (uA_ne (by decide))).trans (hFx.2 4 rfl)) _).trans (e_le)) (at0 := at1) (e_at0 := show Gx 10 = at1 from (ex_at1)) (fk := fk1) (e_fk := show Gx 16 = fk1 from (ex_fk1)) (tk0 := tk1) (e_tk0 := show Gx 11 = tk1 from (ex_tk1))  (h_g := ⟨(by decide), (by decide)⟩)  (p_0 := by omega)) (fun o V' hq => ?_)
    obtain ⟨G590, A591, at2_592, tk2_593, fk2_594, rfl, rfl, hW595, hF596, e597, e598, e599, p600, p601, q602⟩ := hq
    have hF603 := Fr_tr hF554 hF596 (Fr_sub (by decide)) (Fr_sub (by decide))
    have hP604 := Pf_f hP556 hF596 (by decide)
    have ec605 : ecn A591 (G590 31) = ec1 := (ecn_f (hF596.2 15 rfl) (hF596.1 31 rfl)).trans ec557
    have bat2_592 : (0 : Int) ≤ at2_592 ∧ at2_592 ≤ 3002 := e597 ▸ hW595.1 10
    have ztk2_593 := tz_b tk2_593
    have btk2_593 : (0 : Int) ≤ tk2_593 ∧ tk2_593 ≤ 5 := e598 ▸ hW595.1 11
    have bfk2_594 : (0 : Int) ≤ fk2_594 ∧ fk2_594 ≤ 6 := e599 ▸ hW595.1 16
    refine .inl ⟨rfl, ?_⟩
    rcases q602 with ⟨a606, a607, a608, a609⟩ | ⟨a610, a611, a612, a613⟩
    · have _q : True := trivial
      have z614 := tz_f (tk2_593)
      exact c_readGuard_w_at_310p (X := X) (d := d) (Vs := Vs) (sb := sb) (c0 := c0) (c1 := c1) (G := G) (A := A) (T := T) (ln := ln) (le := le) (at0 := at0) (fk := fk) (op0 := op0) (nd := nd) (tk0 := tk0) (li := li) (ec := ec) (hd := hd) (hW := hW) (e_ln := e_ln) (e_le := e_le) (e_at0 := e_at0) (e_fk := e_fk) (e_op0 := e_op0) (e_nd := e_nd) (e_tk0 := e_tk0) (e_li := e_li) (e_ec := e_ec) (i_SV := i_SV) (p_0 := p_0) (p_1 := p_1) (p_2 := p_2) (p_3 := p_3) (p_4 := p_4) L G590 A591 (one) (at2_592) (tk2_593) (fk2_594) (nd1) (op1) (ec1) gL_0 gL_1 hW595 hF603 hP604 ((e597)) ((e598)) ((e599)) (((hF596.1 31 rfl).trans (ex_nd1))) (((hF596.1 15 rfl).trans (ex_op1))) (ec605) (((hF596.1 9 rfl).trans (fx_9))) (by omega) (by omega) (by omega) (by omega) (by omega) (by omega) (by omega) (by omega) (by omega)
    · have _q : True := trivial
      exfalso
      omega
set_option maxRecDepth 20000 in
set_option maxHeartbeats 4000000 in
theorem c_readGuard_w_at_222_1_1 {X : jX} {d : Nat} {Vs : Nat → Prop} {sb : Int} {c0 c1 : jC} {G : Nat → Int} {A : Nat → Nat → Int} {T : jH} {ln le at0 fk op0 nd tk0 li ec : Int} (hd : 71 ≤ d + 1) (hW : Wk G A) (e_ln : G 9 = ln) (e_le : A 4 (ln).toNat = le) (e_at0 : G 10 = at0) (e_fk : G 16 = fk) (e_op0 : G 15 = op0) (e_nd : G 31 = nd) (e_tk0 : G 11 = tk0) (e_li : G 3 = li) (e_ec : ecn A (G 31) = ec) (i_SV : SV Vs sb G A) (p_0 : 0 ≤ op0 ∧ op0 ≤ 8) (p_1 : fk = 0) (p_2 : nd ≤ 2 * at0 - tz tk0 + 42) (p_3 : at0 ≤ le) (p_4 : ln < li) : ∀ (L : jL) (Gx : Nat → Int) (Ax : Nat → Nat → Int) (one s ix at1 tk1 fk1 nd1 op1 ks ec1 : Int), jGet L 0 = some (.ref 66) → jGet L 6 = some (.int (i32 (1))) → jGet L 7 = some (.int (i32 (1))) → jGet L 1 = some (.int (i32 one)) → jGet L 4 = some (.int (i32 s)) → jGet L 5 = some (.int (i32 ix)) → Wk Gx Ax → Fr [9, 10, 11, 12, 13, 14, 15, 16, 17, 18, 31] [15, 16, 17, 18, 19, 20, 21, 22, 24, 28] G A Gx Ax → Pf nd A Ax → Gx 10 = at1 → Gx 11 = tk1 → Gx 16 = fk1 → Gx 31 = nd1 → Gx 15 = op1 → Ax 7 (s).toNat = ks → ecn Ax (Gx 31) = ec1 → Gx 9 = ln → ((-2147483648 : Int) ≤ one ∧ one ≤ 2147483647) → ((-2147483648 : Int) ≤ s ∧ s ≤ 2147483647) → ((-2147483648 : Int) ≤ ix ∧ ix ≤ 2147483647) → (at0 ≤ at1) → (at1 ≤ le) → (nd ≤ nd1) → (op1 = op0) → (one = nd) → (one ≤ 6998 ∧ one < nd1) → (fk1 = 0) → (nd1 - nd ≤ (2 * at1 - tz tk1) - (2 * at0 - tz tk0)) → (0 ≤ s ∧ s ≤ 201) → (SY Vs sb (s)) → (ND Ax (one) (33) (0) (0) (0) (0) (0) (0)) → (tz tk1 = 1) → (ks = 4) → (wE Ax Vs sb (20) (ix) (one + 1) (nd1)) → (nd + 5 * ec ≤ nd1 - 5 - tz tk1) → (nd1 - nd + 5 * (ec1 - ec) ≤ (2 * at1 - tz tk1) - (2 * at0 - tz tk0) - 5 - tz tk1) → wj X d jm303 (222, L, [], rV c0 c1 Gx Ax T) (fun o V' => ∃ (G' : Nat → Int) (A' : Nat → Nat → Int) (r : Int) (at2 : Int) (fk2 : Int) (nd2 : Int) (ln2 : Int) (ec2 : Int), V' = rV c0 c1 G' A' T ∧ o = .inl (some (.int (i32 r))) ∧ Wk G' A' ∧ Fr [9, 10, 11, 12, 13, 14, 15, 16, 17, 18, 31] [15, 16, 17, 18, 19, 20, 21, 22, 24, 28] G A G' A' ∧ Pf nd A A' ∧ ((-2147483648 : Int) ≤ r ∧ r ≤ 2147483647) ∧ G' 10 = at2 ∧ G' 16 = fk2 ∧ G' 31 = nd2 ∧ G' 9 = ln2 ∧ ecn A' (G' 31) = ec2 ∧ (at0 ≤ at2) ∧ (at2 ≤ le) ∧ (nd ≤ nd2) ∧ (0 ≤ r) ∧ (r ≤ nd2) ∧ (((1 ≤ fk2) ∧ (ln2 = ln) ∧ (nd2 - nd ≤ 2 * at2 - 2 * at0 + 12)) ∨ ((fk2 = 0) ∧ (ln2 = ln + 1) ∧ (nd2 - nd ≤ 2 * at2 - (2 * at0 - tz tk0) + 0) ∧ (nd ≤ r) ∧ (r < nd2) ∧ (wU A' Vs sb (r) (nd) (nd2)) ∧ (NX A' (r)) ∧ (nd2 - nd + 5 * (ec2 - ec) ≤ 2 * at2 - (2 * at0 - tz tk0) + 0) ∧ (nd + 5 * ec ≤ r)))) := by
  have hF0 : Fr [9, 10, 11, 12, 13, 14, 15, 16, 17, 18, 31] [15, 16, 17, 18, 19, 20, 21, 22, 24, 28] G A G A := Fr_rf
  have hP0 : Pf nd A A := Pf_rf
  have b_ln : (0 : Int) ≤ ln ∧ ln ≤ 3000 := e_ln ▸ hW.1 9
  have b_le : (0 : Int) ≤ le ∧ le ≤ 3000 := e_le ▸ hW.2 4 _
  have b_at0 : (0 : Int) ≤ at0 ∧ at0 ≤ 3002 := e_at0 ▸ hW.1 10
  have b_fk : (0 : Int) ≤ fk ∧ fk ≤ 6 := e_fk ▸ hW.1 16
  have b_op0 : (-2147483648 : Int) ≤ op0 ∧ op0 ≤ 2147483647 := e_op0 ▸ hW.1 15
  have b_nd : (0 : Int) ≤ nd ∧ nd ≤ 6999 := e_nd ▸ hW.1 31
  have z_tk0 := tz_f tk0
  have b_tk0 : (0 : Int) ≤ tk0 ∧ tk0 ≤ 5 := e_tk0 ▸ hW.1 11
  have b_li : (0 : Int) ≤ li ∧ li ≤ 3000 := e_li ▸ hW.1 3
  intro L Gx Ax one s ix at1 tk1 fk1 nd1 op1 ks ec1 gL_0 gL_6 gL_7 gL_1 gL_4 gL_5 hWx hFx hPx ex_at1 ex_tk1 ex_fk1 ex_nd1 ex_op1 ex_ks ex_ec1 fx_9 rx_one rx_s rx_ix iv_0 iv_1 iv_2 iv_3 iv_4 iv_5 iv_6 iv_7 iv_8 iv_9 iv_10 iv_11 iv_12 iv_13 iv_14 iv_15
  have b_at1 : (0 : Int) ≤ at1 ∧ at1 ≤ 3002 := ex_at1 ▸ hWx.1 10
  have z_tk1 := tz_f tk1
  have b_tk1 : (0 : Int) ≤ tk1 ∧ tk1 ≤ 5 := ex_tk1 ▸ hWx.1 11
  have b_fk1 : (0 : Int) ≤ fk1 ∧ fk1 ≤ 6 := ex_fk1 ▸ hWx.1 16
  have b_nd1 : (0 : Int) ≤ nd1 ∧ nd1 ≤ 6999 := ex_nd1 ▸ hWx.1 31
  have b_op1 : (-2147483648 : Int) ≤ op1 ∧ op1 ≤ 2147483647 := ex_op1 ▸ hWx.1 15
  have b_ks : (0 : Int) ≤ ks ∧ ks ≤ 14 := ex_ks ▸ hWx.2 7 _
  refine jx_ld (pc' := 223) (l' := L) (st' := [.ref 66]) rfl (jl_aloadn gL_0) ?_
  refine jx_ld (pc' := 225) (l' := L) (st' := [.int (i32 (1)), .ref 66]) rfl (jl_iload gL_6) ?_
  refine jx_if_eq (pc' := 228) (tg := 232) rfl rfl rfl (by decide) (by decide) (fun h615 => ?_) (fun h615 => ?_)
  · have _q := h615
    exact absurd h615 (by omega)
  · have _q := h615
    refine jx_ar (pc' := 229) (st' := [.int (i32 (3)), .ref 66]) rfl rfl rfl rfl ?_
    refine jx_go (tg := 233) rfl rfl ?_
    refine jx_ld (pc' := 235) (l' := L) (st' := [.int (i32 (s)), .int (i32 (3)), .ref 66]) rfl (jl_iload gL_4) ?_
    refine jx_ld (pc' := 237) (l' := L) (st' := [.int (i32 (ix)), .int (i32 (s)), .int (i32 (3)), .ref 66]) rfl (jl_iload gL_5) ?_
    refine jx_ar (pc' := 238) (st' := [.int (i32 (0)), .int (i32 (ix)), .int (i32 (s)), .int (i32 (3)), .ref 66]) rfl rfl rfl rfl ?_
    refine jx_ar (pc' := 239) (st' := [.int (i32 (0)), .int (i32 (0)), .int (i32 (ix)), .int (i32 (s)), .int (i32 (3)), .ref 66]) rfl rfl rfl rfl ?_
    refine jx_vr (pc' := 242) (as := [.int (i32 (3)), .int (i32 (s)), .int (i32 (ix)), .int (i32 (0)), .int (i32 (0))]) (st := []) rfl rfl rfl rfl ⟨rfl, rfl, Nat.le_of_ble_eq_true rfl⟩ rfl rfl (c_node_e (dd := d) (hd := by omega) (hW := hWx) (kind := 3) (a := s) (b := ix) (c := 0) (e := 0) (nd := nd1) (e_nd := show Gx 31 = nd1 from (ex_nd1)) (ec := ec1) (e_ec := show ecn Ax (Gx 31) = ec1 from ex_ec1)  (h_kind := ⟨(by decide), (by decide)⟩) (h_a := ⟨(Int.le_trans (by decide : (-2147483648 : Int) ≤ -2147483648) rx_s.1), (Int.le_trans rx_s.2 (by decide : (2147483647 : Int) ≤ 2147483647))⟩) (h_b := ⟨(Int.le_trans (by decide : (-2147483648 : Int) ≤ -2147483648) rx_ix.1), (Int.le_trans rx_ix.2 (by decide : (2147483647 : Int) ≤ 2147483647))⟩) (h_c := ⟨(by decide), (by decide)⟩) (h_e := ⟨(by decide), (by decide)⟩)  (p_0 := by omega) (p_1 := by omega) (p_2 := by omega)) (fun o V' hq => ?_)
    obtain ⟨G616, A617, nd2_618, ec2_619, rfl, rfl, hW620, hF621, hQ622, e623, e624, p625, p626, p627, -⟩ := hq
    have hF629 := Fr_tr hFx hF621 (Fr_sub (by decide)) (Fr_sub (by decide))
    have hP630 := Pf_tr hPx hQ622 (by omega)
    have sf631 : ND A617 (one) (33) (0) (0) (0) (0) (0) (0) := ND_ag (by omega) (Ag_pf hQ622 (by omega)) iv_10
    have sf632 : wE A617 Vs sb (20) (ix) (one + 1) (nd1) := wE_ag (by omega) (Sg_fr hF621 (by decide)) (Ag_pf hQ622 (by omega)) iv_13
    have bnd2_618 : (0 : Int) ≤ nd2_618 ∧ nd2_618 ≤ 6999 := e623 ▸ hW620.1 31
    refine .inr ⟨_, rfl, ?_⟩
    refine jx_ld (pc' := 244) (l' := jSto1 L 10 (.int (i32 (nd1)))) (st' := []) rfl rfl ?_
    obtain ⟨L633, eL633⟩ : ∃ q, q = jSto1 L 10 (.int (i32 (nd1))) := ⟨_, rfl⟩
    rw [← eL633]
    have gL633_0 : jGet L633 0 = some (.ref 66) := eL633 ▸ jg_ne (by decide) gL_0 rfl
    have gL633_6 : jGet L633 6 = some (.int (i32 (1))) := eL633 ▸ jg_ne (by decide) gL_6 rfl
    have gL633_7 : jGet L633 7 = some (.int (i32 (1))) := eL633 ▸ jg_ne (by decide) gL_7 rfl
    have gL633_1 : jGet L633 1 = some (.int (i32 (one))) := eL633 ▸ jg_ne (by decide) gL_1 rfl
    have gL633_4 : jGet L633 4 = some (.int (i32 (s))) := eL633 ▸ jg_ne (by decide) gL_4 rfl
    have gL633_5 : jGet L633 5 = some (.int (i32 (ix))) := eL633 ▸ jg_ne (by decide) gL_5 rfl
    have gL633_10 : jGet L633 10 = some (.int (i32 (nd1))) := eL633 ▸ jg_eq
    refine jx_ld (pc' := 246) (l' := L633) (st' := [.int (i32 (1))]) rfl (jl_iload gL633_7) ?_
    refine jx_if_eq (pc' := 249) (tg := 278) rfl rfl rfl (by decide) (by decide) (fun h634 => ?_) (fun h634 => ?_)
    · have _q := h634
      exact absurd h634 (by omega)
    · have _q := h634
      refine jx_ld (pc' := 250) (l' := L633) (st' := [.ref 66]) rfl (jl_aloadn gL633_0) ?_
      refine jr_get (pc' := 253) (i := 35) (v := .ref 85) rfl rfl (by decide) rfl rfl ?_
      refine jx_ld (pc' := 254) (l' := L633) (st' := [.int (i32 (one)), .ref 85]) rfl (jl_iloadn gL633_1) ?_
      refine jx_ld (pc' := 256) (l' := L633) (st' := [.int (i32 (nd1)), .int (i32 (one)), .ref 85]) rfl (jl_iload gL633_10) ?_
      refine jr_st (pc' := 257) (i := 18) (m := 7000) (z := one) (y := nd1) rfl (by decide) rfl (by decide) (by omega) (by omega) rfl ?_
      have hW636 : Wk G616 (uA A617 18 (one).toNat (nd1)) := Wk_a hW620 (show (-2147483648 : Int) ≤ nd1 by omega) (show nd1 ≤ (2147483647 : Int) by omega)
      have hF637 := Fr_a (z := nd1) (k := 18) (n := (one).toNat) hF629 (by decide)
      obtain ⟨A635, eA635⟩ : ∃ q, q = uA A617 18 (one).toNat (nd1) := ⟨_, rfl⟩
      rw [← eA635]
      rw [← eA635] at hW636 hF637
      have q638 : A635 18 (one).toNat = nd1 := by rw [eA635]; exact uA_eq
      have hP639 : Pf nd A A635 := eA635 ▸ Pf_a hP630 (z := one) (by omega) (by omega)
      have sf640 : ND A635 (one) (33) (0) (nd1) (0) (0) (0) (0) := ND_b eA635 sf631
      have sf641 : wE A635 Vs sb (20) (ix) (one + 1) (nd1) := wE_ag (by omega) (Sg_ne eA635 rfl) (Ag_st eA635 (by omega) (by omega)) sf632
      have sf642 : ND A635 (nd1) (3) (s) (ix) (0) (0) (0) (0) := ND_ag (by omega) (Ag_st eA635 (by omega) (by omega)) p627
      have ec643 : ecn A635 (G616 31) = ec2_619 := (ecn_e ((congrFun eA635 15).trans (uA_ne (by decide)))).trans e624
      refine jx_ld (pc' := 258) (l' := L633) (st' := [.ref 66]) rfl (jl_aloadn gL633_0) ?_
      refine jx_vr (pc' := 261) (as := []) (st := []) rfl rfl rfl rfl ⟨rfl, rfl, Nat.le_of_ble_eq_true rfl⟩ rfl rfl (c_next (dd := d) (hd := by omega) (hW := hW636)  (ln := ln) (e_ln := show G616 9 = ln from ((hF621.1 9 rfl).trans (fx_9))) (le := le) (e_le := show A635 4 (ln).toNat = le from (congrFun (((congrFun eA635 4).trans (uA_ne (by decide))).trans ((hF621.2 4 rfl).trans (hFx.2 4 rfl))) _).trans (e_le)) (at0 := at1) (e_at0 := show G616 10 = at1 from ((hF621.1 10 rfl).trans (ex_at1)))    (p_0 := by omega)) (fun o V' hq => ?_)
      obtain ⟨G644, A645, at2_646, tk2_647, rfl, rfl, hW648, hF649, e650, e651, p652, p653, p654, -⟩ := hq
      have hF656 := Fr_tr hF637 hF649 (Fr_sub (by decide)) (Fr_sub (by decide))
      have hP657 := Pf_f hP639 hF649 (by decide)
      have sf658 : ND A645 (one) (33) (0) (nd1) (0) (0) (0) (0) := ND_ag (by omega) (Ag_fr hF649 (by decide)) sf640
      have sf659 : wE A645 Vs sb (20) (ix) (one + 1) (nd1) := wE_ag (by omega) (Sg_fr hF649 (by decide)) (Ag_fr hF649 (by decide)) sf641
      have sf660 : ND A645 (nd1) (3) (s) (ix) (0) (0) (0) (0) := ND_ag (by omega) (Ag_fr hF649 (by decide)) sf642
      have ec661 : ecn A645 (G644 31) = ec2_619 := (ecn_f (hF649.2 15 rfl) (hF649.1 31 rfl)).trans ec643
      have bat2_646 : (0 : Int) ≤ at2_646 ∧ at2_646 ≤ 3002 := e650 ▸ hW648.1 10
      have ztk2_647 := tz_b tk2_647
      have btk2_647 : (0 : Int) ≤ tk2_647 ∧ tk2_647 ≤ 5 := e651 ▸ hW648.1 11
      refine .inl ⟨rfl, ?_⟩
      refine jx_ld (pc' := 262) (l' := L633) (st' := [.ref 66]) rfl (jl_aloadn gL633_0) ?_
      refine jr_get (pc' := 265) (i := 36) (v := .ref 86) rfl rfl (by decide) rfl rfl ?_
      refine jx_ld (pc' := 266) (l' := L633) (st' := [.int (i32 (one)), .ref 86]) rfl (jl_iloadn gL633_1) ?_
      refine jx_ld (pc' := 267) (l' := L633) (st' := [.ref 66, .int (i32 (one)), .ref 86]) rfl (jl_aloadn gL633_0) ?_
      refine jx_ar (pc' := 268) (st' := [.int (i32 (0)), .ref 66, .int (i32 (one)), .ref 86]) rfl rfl rfl rfl ?_
      refine jx_vr (pc' := 271) (as := [.int (i32 (0))]) (st := [.int (i32 (one)), .ref 86]) rfl rfl rfl rfl ⟨rfl, rfl, Nat.le_of_ble_eq_true rfl⟩ rfl rfl (c_readReference_w (dd := d) (hd := by omega) (hW := hW648) (ch := 0) (ln := ln) (e_ln := show G644 9 = ln from ((hF649.1 9 rfl).trans ((hF621.1 9 rfl).trans (fx_9)))) (le := le) (e_le := show A645 4 (ln).toNat = le from (congrFun ((hF649.2 4 rfl).trans (((congrFun eA635 4).trans (uA_ne (by decide))).trans ((hF621.2 4 rfl).trans (hFx.2 4 rfl)))) _).trans (e_le)) (at0 := at2_646) (e_at0 := show G644 10 = at2_646 from (e650)) (fk := fk1) (e_fk := show G644 16 = fk1 from ((hF649.1 16 rfl).trans ((hF621.1 16 rfl).trans (ex_fk1)))) (op0 := op1) (e_op0 := show G644 15 = op1 from ((hF649.1 15 rfl).trans ((hF621.1 15 rfl).trans (ex_op1)))) (nd := nd2_618) (e_nd := show G644 31 = nd2_618 from ((hF649.1 31 rfl).trans (e623))) (tk0 := tk2_647) (e_tk0 := show G644 11 = tk2_647 from (e651)) (ec := ec2_619) (e_ec := show ecn A645 (G644 31) = ec2_619 from ec661) (i_SV := (SV_ext (((hF649.1 29 rfl).trans ((hF621.1 29 rfl).trans (hFx.1 29 rfl)))) (((hF649.2 14 rfl).trans (((congrFun eA635 14).trans (uA_ne (by decide))).trans ((hF621.2 14 rfl).trans (hFx.2 14 rfl))))) i_SV)) (h_ch := ⟨(by decide), (by decide)⟩)  (p_0 := by omega) (p_1 := by omega) (p_2 := by omega) (p_3 := by omega) (p_4 := by omega)) (fun o V' hq => ?_)
      obtain ⟨G662, A663, r664, at2_665, fk2_666, op2_667, nd2_668, tk2_669, ec2_670, rfl, rfl, hW671, hF672, hQ673, b674, e675, e676, e677, e678, e679, e680, p681, p682, p683, p684, p685, p686, q687⟩ := hq
      have hF688 := Fr_tr hF656 hF672 (Fr_sub (by decide)) (Fr_sub (by decide))
      have k689 : A663 18 (one).toNat = nd1 := (hQ673 18 _ rfl (by omega)).trans (show A645 18 (one).toNat = nd1 from (congrFun (hF649.2 18 rfl) _).trans (q638))
      have hP690 := Pf_tr hP657 hQ673 (by omega)
      have sf691 : ND A663 (one) (33) (0) (nd1) (0) (0) (0) (0) := ND_ag (by omega) (Ag_pf hQ673 (by omega)) sf658
      have sf692 : wE A663 Vs sb (20) (ix) (one + 1) (nd1) := wE_ag (by omega) (Sg_fr hF672 (by decide)) (Ag_pf hQ673 (by omega)) sf659
      have sf693 : ND A663 (nd1) (3) (s) (ix) (0) (0) (0) (0) := ND_ag (by omega) (Ag_pf hQ673 (by omega)) sf660
      have bat2_665 : (0 : Int) ≤ at2_665 ∧ at2_665 ≤ 3002 := e675 ▸ hW671.1 10
      have bfk2_666 : (0 : Int) ≤ fk2_666 ∧ fk2_666 ≤ 6 := e676 ▸ hW671.1 16
      have bop2_667 : (-2147483648 : Int) ≤ op2_667 ∧ op2_667 ≤ 2147483647 := e677 ▸ hW671.1 15
      have bnd2_668 : (0 : Int) ≤ nd2_668 ∧ nd2_668 ≤ 6999 := e678 ▸ hW671.1 31
      have ztk2_669 := tz_b tk2_669
      have btk2_669 : (0 : Int) ≤ tk2_669 ∧ tk2_669 ≤ 5 := e679 ▸ hW671.1 11
      refine .inr ⟨_, rfl, ?_⟩
      rcases q687 with ⟨a694, a695, a696, a697, a698, a699⟩ | ⟨a700, a701, a702⟩ | ⟨a703, a704, a705, a706, a707⟩
      · have _q : True := trivial
        exfalso
        omega
      · have _q : True := trivial
        refine jr_st (pc' := 272) (i := 19) (m := 7000) (z := one) (y := r664) rfl (by decide) rfl (by decide) (by omega) (by omega) rfl ?_
        have hW709 : Wk G662 (uA A663 19 (one).toNat (r664)) := Wk_a hW671 (show (-2147483648 : Int) ≤ r664 by omega) (show r664 ≤ (2147483647 : Int) by omega)
        have hF710 := Fr_a (z := r664) (k := 19) (n := (one).toNat) hF688 (by decide)
        obtain ⟨A708, eA708⟩ : ∃ q, q = uA A663 19 (one).toNat (r664) := ⟨_, rfl⟩
        rw [← eA708]
        rw [← eA708] at hW709 hF710
        have q711 : A708 19 (one).toNat = r664 := by rw [eA708]; exact uA_eq
        have hP712 : Pf nd A A708 := eA708 ▸ Pf_a hP690 (z := one) (by omega) (by omega)
        have sf713 : ND A708 (one) (33) (0) (nd1) (r664) (0) (0) (0) := ND_c eA708 sf691
        have sf714 : wE A708 Vs sb (20) (ix) (one + 1) (nd1) := wE_ag (by omega) (Sg_ne eA708 rfl) (Ag_st eA708 (by omega) (by omega)) sf692
        have sf715 : ND A708 (nd1) (3) (s) (ix) (0) (0) (0) (0) := ND_ag (by omega) (Ag_st eA708 (by omega) (by omega)) sf693
        have ec716 : ecn A708 (G662 31) = ec2_670 := (ecn_e ((congrFun eA708 15).trans (uA_ne (by decide)))).trans e680
        refine jx_ld (pc' := 273) (l' := L633) (st' := [.ref 66]) rfl (jl_aloadn gL633_0) ?_
        refine jx_vr (pc' := 276) (as := []) (st := []) rfl rfl rfl rfl ⟨rfl, rfl, Nat.le_of_ble_eq_true rfl⟩ rfl rfl (c_endLine (dd := d) (hd := by omega) (hW := hW709)  (ln := ln) (e_ln := show G662 9 = ln from ((hF672.1 9 rfl).trans ((hF649.1 9 rfl).trans ((hF621.1 9 rfl).trans (fx_9))))) (li := li) (e_li := show G662 3 = li from ((hF672.1 3 rfl).trans ((hF649.1 3 rfl).trans ((hF621.1 3 rfl).trans ((hFx.1 3 rfl).trans (e_li)))))) (fk := fk2_666) (e_fk := show G662 16 = fk2_666 from (e676)) (tk0 := tk2_669) (e_tk0 := show G662 11 = tk2_669 from (e679))    (p_0 := by omega)) (fun o V' hq => ?_)
        obtain ⟨G717, A718, ln2_719, fk2_720, rfl, rfl, hW721, hF722, e723, e724, q725⟩ := hq
        have hF726 := Fr_tr hF710 hF722 (Fr_sub (by decide)) (Fr_sub (by decide))
        have hP727 := Pf_f hP712 hF722 (by decide)
        have sf728 : ND A718 (one) (33) (0) (nd1) (r664) (0) (0) (0) := ND_ag (by omega) (Ag_fr hF722 (by decide)) sf713
        have sf729 : wE A718 Vs sb (20) (ix) (one + 1) (nd1) := wE_ag (by omega) (Sg_fr hF722 (by decide)) (Ag_fr hF722 (by decide)) sf714
        have sf730 : ND A718 (nd1) (3) (s) (ix) (0) (0) (0) (0) := ND_ag (by omega) (Ag_fr hF722 (by decide)) sf715
        have ec731 : ecn A718 (G717 31) = ec2_670 := (ecn_f (hF722.2 15 rfl) (hF722.1 31 rfl)).trans ec716
        have bln2_719 : (0 : Int) ≤ ln2_719 ∧ ln2_719 ≤ 3000 := e723 ▸ hW721.1 9
        have bfk2_720 : (0 : Int) ≤ fk2_720 ∧ fk2_720 ≤ 6 := e724 ▸ hW721.1 16
        refine .inl ⟨rfl, ?_⟩
        rcases q725 with ⟨a732, a733, a734, a735, a736⟩ | ⟨a737, a738⟩
        · have _q : True := trivial
          exfalso
          omega
        · have _q : True := trivial
          refine jx_ld (pc' := 277) (l' := L633) (st' := [.int (i32 (one))]) rfl (jl_iloadn gL633_1) ?_
          refine jx_rt (v := some (.int (i32 (one)))) rfl rfl rfl rfl rfl rfl ?_
          exact ⟨_, _, _, at2_665, fk2_720, nd2_668, ln2_719, ec2_670, rfl, rfl, hW721, hF726, hP727, by omega, ((hF722.1 10 rfl).trans (e675)), (e724), ((hF722.1 31 rfl).trans (e678)), (e723), ec731, by omega, by omega, by omega, by omega, by omega, by first | exact Or.inl (⟨by omega, by omega, by omega⟩)⟩
      · have _q : True := trivial
        refine jr_st (pc' := 272) (i := 19) (m := 7000) (z := one) (y := r664) rfl (by decide) rfl (by decide) (by omega) (by omega) rfl ?_
        have hW740 : Wk G662 (uA A663 19 (one).toNat (r664)) := Wk_a hW671 (show (-2147483648 : Int) ≤ r664 by omega) (show r664 ≤ (2147483647 : Int) by omega)
        have hF741 := Fr_a (z := r664) (k := 19) (n := (one).toNat) hF688 (by decide)
        obtain ⟨A739, eA739⟩ : ∃ q, q = uA A663 19 (one).toNat (r664) := ⟨_, rfl⟩
        rw [← eA739]
        rw [← eA739] at hW740 hF741
        have q742 : A739 19 (one).toNat = r664 := by rw [eA739]; exact uA_eq
        have hP743 : Pf nd A A739 := eA739 ▸ Pf_a hP690 (z := one) (by omega) (by omega)
        have sf744 : ND A739 (one) (33) (0) (nd1) (r664) (0) (0) (0) := ND_c eA739 sf691
        have sf745 : wE A739 Vs sb (20) (ix) (one + 1) (nd1) := wE_ag (by omega) (Sg_ne eA739 rfl) (Ag_st eA739 (by omega) (by omega)) sf692
        have sf746 : ND A739 (nd1) (3) (s) (ix) (0) (0) (0) (0) := ND_ag (by omega) (Ag_st eA739 (by omega) (by omega)) sf693
        have sf747 : wR A739 Vs sb (20) (0) (r664) (nd2_618) (nd2_668) := wR_ag (by omega) (Sg_ne eA739 rfl) (Ag_st eA739 (by omega) (by omega)) a706
        have ec748 : ecn A739 (G662 31) = ec2_670 := (ecn_e ((congrFun eA739 15).trans (uA_ne (by decide)))).trans e680
        refine jx_ld (pc' := 273) (l' := L633) (st' := [.ref 66]) rfl (jl_aloadn gL633_0) ?_
        refine jx_vr (pc' := 276) (as := []) (st := []) rfl rfl rfl rfl ⟨rfl, rfl, Nat.le_of_ble_eq_true rfl⟩ rfl rfl (c_endLine (dd := d) (hd := by omega) (hW := hW740)  (ln := ln) (e_ln := show G662 9 = ln from ((hF672.1 9 rfl).trans ((hF649.1 9 rfl).trans ((hF621.1 9 rfl).trans (fx_9))))) (li := li) (e_li := show G662 3 = li from ((hF672.1 3 rfl).trans ((hF649.1 3 rfl).trans ((hF621.1 3 rfl).trans ((hFx.1 3 rfl).trans (e_li)))))) (fk := fk2_666) (e_fk := show G662 16 = fk2_666 from (e676)) (tk0 := tk2_669) (e_tk0 := show G662 11 = tk2_669 from (e679))    (p_0 := by omega)) (fun o V' hq => ?_)
        obtain ⟨G749, A750, ln2_751, fk2_752, rfl, rfl, hW753, hF754, e755, e756, q757⟩ := hq
        have hF758 := Fr_tr hF741 hF754 (Fr_sub (by decide)) (Fr_sub (by decide))
        have hP759 := Pf_f hP743 hF754 (by decide)
        have sf760 : ND A750 (one) (33) (0) (nd1) (r664) (0) (0) (0) := ND_ag (by omega) (Ag_fr hF754 (by decide)) sf744
        have sf761 : wE A750 Vs sb (20) (ix) (one + 1) (nd1) := wE_ag (by omega) (Sg_fr hF754 (by decide)) (Ag_fr hF754 (by decide)) sf745
        have sf762 : ND A750 (nd1) (3) (s) (ix) (0) (0) (0) (0) := ND_ag (by omega) (Ag_fr hF754 (by decide)) sf746
        have sf763 : wR A750 Vs sb (20) (0) (r664) (nd2_618) (nd2_668) := wR_ag (by omega) (Sg_fr hF754 (by decide)) (Ag_fr hF754 (by decide)) sf747
        have ec764 : ecn A750 (G749 31) = ec2_670 := (ecn_f (hF754.2 15 rfl) (hF754.1 31 rfl)).trans ec748
        have bln2_751 : (0 : Int) ≤ ln2_751 ∧ ln2_751 ≤ 3000 := e755 ▸ hW753.1 9
        have bfk2_752 : (0 : Int) ≤ fk2_752 ∧ fk2_752 ≤ 6 := e756 ▸ hW753.1 16
        refine .inl ⟨rfl, ?_⟩
        rcases q757 with ⟨a765, a766, a767, a768, a769⟩ | ⟨a770, a771⟩
        · have _q : True := trivial
          refine jx_ld (pc' := 277) (l' := L633) (st' := [.int (i32 (one))]) rfl (jl_iloadn gL633_1) ?_
          refine jx_rt (v := some (.int (i32 (one)))) rfl rfl rfl rfl rfl rfl ?_
          exact ⟨_, _, _, at2_665, fk2_752, nd2_668, ln2_751, ec2_670, rfl, rfl, hW753, hF758, hP759, by omega, ((hF754.1 10 rfl).trans (e675)), (e756), ((hF754.1 31 rfl).trans (e678)), (e755), ec764, by omega, by omega, by omega, by omega, by omega, by first | exact Or.inr ((⟨by omega, by omega, by omega, by omega, by omega, (wU_ch (m := (nd1 + 1)) sf760 (by omega) (by omega) (by omega) (by omega) (wR_elem sf762 (by omega) (by omega) iv_9 (kq (P := kRow (1)) (show A750 7 (s).toNat = ks from (congrFun ((hF754.2 7 rfl).trans (((congrFun eA739 7).trans (uA_ne (by decide))).trans ((hF672.2 7 rfl).trans ((hF649.2 7 rfl).trans (((congrFun eA635 7).trans (uA_ne (by decide))).trans (hF621.2 7 rfl)))))) _).trans (ex_ks)) (by first | exact .inr ⟨by omega, by omega⟩)) (wE_mono (by omega) (by omega) (by omega) sf761)) (wR_mono (by omega) (by omega) (by omega) sf763)), (NX_nd sf760), by omega, by omega⟩))⟩
        · have _q : True := trivial
          refine jx_ld (pc' := 277) (l' := L633) (st' := [.int (i32 (one))]) rfl (jl_iloadn gL633_1) ?_
          refine jx_rt (v := some (.int (i32 (one)))) rfl rfl rfl rfl rfl rfl ?_
          exact ⟨_, _, _, at2_665, fk2_752, nd2_668, ln2_751, ec2_670, rfl, rfl, hW753, hF758, hP759, by omega, ((hF754.1 10 rfl).trans (e675)), (e756), ((hF754.1 31 rfl).trans (e678)), (e755), ec764, by omega, by omega, by omega, by omega, by omega, by first | exact Or.inl (⟨by omega, by omega, by omega⟩)⟩
set_option maxRecDepth 20000 in
set_option maxHeartbeats 4000000 in
theorem c_readGuard_w_at_222_1_0 {X : jX} {d : Nat} {Vs : Nat → Prop} {sb : Int} {c0 c1 : jC} {G : Nat → Int} {A : Nat → Nat → Int} {T : jH} {ln le at0 fk op0 nd tk0 li ec : Int} (hd : 71 ≤ d + 1) (hW : Wk G A) (e_ln : G 9 = ln) (e_le : A 4 (ln).toNat = le) (e_at0 : G 10 = at0) (e_fk : G 16 = fk) (e_op0 : G 15 = op0) (e_nd : G 31 = nd) (e_tk0 : G 11 = tk0) (e_li : G 3 = li) (e_ec : ecn A (G 31) = ec) (i_SV : SV Vs sb G A) (p_0 : 0 ≤ op0 ∧ op0 ≤ 8) (p_1 : fk = 0) (p_2 : nd ≤ 2 * at0 - tz tk0 + 42) (p_3 : at0 ≤ le) (p_4 : ln < li) : ∀ (L : jL) (Gx : Nat → Int) (Ax : Nat → Nat → Int) (one s ix at1 tk1 fk1 nd1 op1 ks ec1 : Int), jGet L 0 = some (.ref 66) → jGet L 6 = some (.int (i32 (1))) → jGet L 7 = some (.int (i32 (0))) → jGet L 1 = some (.int (i32 one)) → jGet L 4 = some (.int (i32 s)) → jGet L 5 = some (.int (i32 ix)) → Wk Gx Ax → Fr [9, 10, 11, 12, 13, 14, 15, 16, 17, 18, 31] [15, 16, 17, 18, 19, 20, 21, 22, 24, 28] G A Gx Ax → Pf nd A Ax → Gx 10 = at1 → Gx 11 = tk1 → Gx 16 = fk1 → Gx 31 = nd1 → Gx 15 = op1 → Ax 7 (s).toNat = ks → ecn Ax (Gx 31) = ec1 → Gx 9 = ln → ((-2147483648 : Int) ≤ one ∧ one ≤ 2147483647) → ((-2147483648 : Int) ≤ s ∧ s ≤ 2147483647) → ((-2147483648 : Int) ≤ ix ∧ ix ≤ 2147483647) → (at0 ≤ at1) → (at1 ≤ le) → (nd ≤ nd1) → (op1 = op0) → (one = nd) → (one ≤ 6998 ∧ one < nd1) → (fk1 = 0) → (nd1 - nd ≤ (2 * at1 - tz tk1) - (2 * at0 - tz tk0)) → (0 ≤ s ∧ s ≤ 201) → (SY Vs sb (s)) → (ND Ax (one) (33) (0) (0) (0) (0) (0) (0)) → (kArr (ks)) → (wE Ax Vs sb (20) (ix) (one + 1) (nd1)) → (nd + 5 * ec ≤ nd1 - 5 - tz tk1) → (nd1 - nd + 5 * (ec1 - ec) ≤ (2 * at1 - tz tk1) - (2 * at0 - tz tk0) - 5 - tz tk1) → wj X d jm303 (222, L, [], rV c0 c1 Gx Ax T) (fun o V' => ∃ (G' : Nat → Int) (A' : Nat → Nat → Int) (r : Int) (at2 : Int) (fk2 : Int) (nd2 : Int) (ln2 : Int) (ec2 : Int), V' = rV c0 c1 G' A' T ∧ o = .inl (some (.int (i32 r))) ∧ Wk G' A' ∧ Fr [9, 10, 11, 12, 13, 14, 15, 16, 17, 18, 31] [15, 16, 17, 18, 19, 20, 21, 22, 24, 28] G A G' A' ∧ Pf nd A A' ∧ ((-2147483648 : Int) ≤ r ∧ r ≤ 2147483647) ∧ G' 10 = at2 ∧ G' 16 = fk2 ∧ G' 31 = nd2 ∧ G' 9 = ln2 ∧ ecn A' (G' 31) = ec2 ∧ (at0 ≤ at2) ∧ (at2 ≤ le) ∧ (nd ≤ nd2) ∧ (0 ≤ r) ∧ (r ≤ nd2) ∧ (((1 ≤ fk2) ∧ (ln2 = ln) ∧ (nd2 - nd ≤ 2 * at2 - 2 * at0 + 12)) ∨ ((fk2 = 0) ∧ (ln2 = ln + 1) ∧ (nd2 - nd ≤ 2 * at2 - (2 * at0 - tz tk0) + 0) ∧ (nd ≤ r) ∧ (r < nd2) ∧ (wU A' Vs sb (r) (nd) (nd2)) ∧ (NX A' (r)) ∧ (nd2 - nd + 5 * (ec2 - ec) ≤ 2 * at2 - (2 * at0 - tz tk0) + 0) ∧ (nd + 5 * ec ≤ r)))) := by
  have hF0 : Fr [9, 10, 11, 12, 13, 14, 15, 16, 17, 18, 31] [15, 16, 17, 18, 19, 20, 21, 22, 24, 28] G A G A := Fr_rf
  have hP0 : Pf nd A A := Pf_rf
  have b_ln : (0 : Int) ≤ ln ∧ ln ≤ 3000 := e_ln ▸ hW.1 9
  have b_le : (0 : Int) ≤ le ∧ le ≤ 3000 := e_le ▸ hW.2 4 _
  have b_at0 : (0 : Int) ≤ at0 ∧ at0 ≤ 3002 := e_at0 ▸ hW.1 10
  have b_fk : (0 : Int) ≤ fk ∧ fk ≤ 6 := e_fk ▸ hW.1 16
  have b_op0 : (-2147483648 : Int) ≤ op0 ∧ op0 ≤ 2147483647 := e_op0 ▸ hW.1 15
  have b_nd : (0 : Int) ≤ nd ∧ nd ≤ 6999 := e_nd ▸ hW.1 31
  have z_tk0 := tz_f tk0
  have b_tk0 : (0 : Int) ≤ tk0 ∧ tk0 ≤ 5 := e_tk0 ▸ hW.1 11
  have b_li : (0 : Int) ≤ li ∧ li ≤ 3000 := e_li ▸ hW.1 3
  intro L Gx Ax one s ix at1 tk1 fk1 nd1 op1 ks ec1 gL_0 gL_6 gL_7 gL_1 gL_4 gL_5 hWx hFx hPx ex_at1 ex_tk1 ex_fk1 ex_nd1 ex_op1 ex_ks ex_ec1 fx_9 rx_one rx_s rx_ix iv_0 iv_1 iv_2 iv_3 iv_4 iv_5 iv_6 iv_7 iv_8 iv_9 iv_10 iv_11 iv_12 iv_13 iv_14
  have b_at1 : (0 : Int) ≤ at1 ∧ at1 ≤ 3002 := ex_at1 ▸ hWx.1 10
  have z_tk1 := tz_f tk1
  have b_tk1 : (0 : Int) ≤ tk1 ∧ tk1 ≤ 5 := ex_tk1 ▸ hWx.1 11
  have b_fk1 : (0 : Int) ≤ fk1 ∧ fk1 ≤ 6 := ex_fk1 ▸ hWx.1 16
  have b_nd1 : (0 : Int) ≤ nd1 ∧ nd1 ≤ 6999 := ex_nd1 ▸ hWx.1 31
  have b_op1 : (-2147483648 : Int) ≤ op1 ∧ op1 ≤ 2147483647 := ex_op1 ▸ hWx.1 15
  have b_ks : (0 : Int) ≤ ks ∧ ks ≤ 14 := ex_ks ▸ hWx.2 7 _
  refine jx_ld (pc' := 223) (l' := L) (st' := [.ref 66]) rfl (jl_aloadn gL_0) ?_
  refine jx_ld (pc' := 225) (l' := L) (st' := [.int (i32 (1)), .ref 66]) rfl (jl_iload gL_6) ?_
  refine jx_if_eq (pc' := 228) (tg := 232) rfl rfl rfl (by decide) (by decide) (fun h772 => ?_) (fun h772 => ?_)
  · have _q := h772
    exact absurd h772 (by omega)
  · have _q := h772
    refine jx_ar (pc' := 229) (st' := [.int (i32 (3)), .ref 66]) rfl rfl rfl rfl ?_
    refine jx_go (tg := 233) rfl rfl ?_
    refine jx_ld (pc' := 235) (l' := L) (st' := [.int (i32 (s)), .int (i32 (3)), .ref 66]) rfl (jl_iload gL_4) ?_
    refine jx_ld (pc' := 237) (l' := L) (st' := [.int (i32 (ix)), .int (i32 (s)), .int (i32 (3)), .ref 66]) rfl (jl_iload gL_5) ?_
    refine jx_ar (pc' := 238) (st' := [.int (i32 (0)), .int (i32 (ix)), .int (i32 (s)), .int (i32 (3)), .ref 66]) rfl rfl rfl rfl ?_
    refine jx_ar (pc' := 239) (st' := [.int (i32 (0)), .int (i32 (0)), .int (i32 (ix)), .int (i32 (s)), .int (i32 (3)), .ref 66]) rfl rfl rfl rfl ?_
    refine jx_vr (pc' := 242) (as := [.int (i32 (3)), .int (i32 (s)), .int (i32 (ix)), .int (i32 (0)), .int (i32 (0))]) (st := []) rfl rfl rfl rfl ⟨rfl, rfl, Nat.le_of_ble_eq_true rfl⟩ rfl rfl (c_node_e (dd := d) (hd := by omega) (hW := hWx) (kind := 3) (a := s) (b := ix) (c := 0) (e := 0) (nd := nd1) (e_nd := show Gx 31 = nd1 from (ex_nd1)) (ec := ec1) (e_ec := show ecn Ax (Gx 31) = ec1 from ex_ec1)  (h_kind := ⟨(by decide), (by decide)⟩) (h_a := ⟨(Int.le_trans (by decide : (-2147483648 : Int) ≤ -2147483648) rx_s.1), (Int.le_trans rx_s.2 (by decide : (2147483647 : Int) ≤ 2147483647))⟩) (h_b := ⟨(Int.le_trans (by decide : (-2147483648 : Int) ≤ -2147483648) rx_ix.1), (Int.le_trans rx_ix.2 (by decide : (2147483647 : Int) ≤ 2147483647))⟩) (h_c := ⟨(by decide), (by decide)⟩) (h_e := ⟨(by decide), (by decide)⟩)  (p_0 := by omega) (p_1 := by omega) (p_2 := by omega)) (fun o V' hq => ?_)
    obtain ⟨G773, A774, nd2_775, ec2_776, rfl, rfl, hW777, hF778, hQ779, e780, e781, p782, p783, p784, -⟩ := hq
    have hF786 := Fr_tr hFx hF778 (Fr_sub (by decide)) (Fr_sub (by decide))
    have hP787 := Pf_tr hPx hQ779 (by omega)
    have sf788 : ND A774 (one) (33) (0) (0) (0) (0) (0) (0) := ND_ag (by omega) (Ag_pf hQ779 (by omega)) iv_10
    have sf789 : wE A774 Vs sb (20) (ix) (one + 1) (nd1) := wE_ag (by omega) (Sg_fr hF778 (by decide)) (Ag_pf hQ779 (by omega)) iv_12
    have bnd2_775 : (0 : Int) ≤ nd2_775 ∧ nd2_775 ≤ 6999 := e780 ▸ hW777.1 31
    refine .inr ⟨_, rfl, ?_⟩
    refine jx_ld (pc' := 244) (l' := jSto1 L 10 (.int (i32 (nd1)))) (st' := []) rfl rfl ?_
    obtain ⟨L790, eL790⟩ : ∃ q, q = jSto1 L 10 (.int (i32 (nd1))) := ⟨_, rfl⟩
    rw [← eL790]
    have gL790_0 : jGet L790 0 = some (.ref 66) := eL790 ▸ jg_ne (by decide) gL_0 rfl
    have gL790_6 : jGet L790 6 = some (.int (i32 (1))) := eL790 ▸ jg_ne (by decide) gL_6 rfl
    have gL790_7 : jGet L790 7 = some (.int (i32 (0))) := eL790 ▸ jg_ne (by decide) gL_7 rfl
    have gL790_1 : jGet L790 1 = some (.int (i32 (one))) := eL790 ▸ jg_ne (by decide) gL_1 rfl
    have gL790_4 : jGet L790 4 = some (.int (i32 (s))) := eL790 ▸ jg_ne (by decide) gL_4 rfl
    have gL790_5 : jGet L790 5 = some (.int (i32 (ix))) := eL790 ▸ jg_ne (by decide) gL_5 rfl
    have gL790_10 : jGet L790 10 = some (.int (i32 (nd1))) := eL790 ▸ jg_eq
    refine jx_ld (pc' := 246) (l' := L790) (st' := [.int (i32 (0))]) rfl (jl_iload gL790_7) ?_
    refine jx_if_eq (pc' := 249) (tg := 278) rfl rfl rfl (by decide) (by decide) (fun h791 => ?_) (fun h791 => ?_)
    · have _q := h791
      refine jx_ld (pc' := 279) (l' := L790) (st' := [.ref 66]) rfl (jl_aloadn gL790_0) ?_
      refine jx_ld (pc' := 281) (l' := L790) (st' := [.int (i32 (nd1)), .ref 66]) rfl (jl_iload gL790_10) ?_
      refine jx_vr (pc' := 284) (as := [.int (i32 (nd1))]) (st := []) rfl rfl rfl rfl ⟨rfl, rfl, Nat.le_of_ble_eq_true rfl⟩ rfl rfl (c_readRest_w (dd := d) (k := 9) (hE := RE_all X 9) (hd := by omega) (hW := hW777) (x := nd1) (lo := (one + 1)) (ln := ln) (e_ln := show G773 9 = ln from ((hF778.1 9 rfl).trans (fx_9))) (le := le) (e_le := show A774 4 (ln).toNat = le from (congrFun ((hF778.2 4 rfl).trans (hFx.2 4 rfl)) _).trans (e_le)) (at0 := at1) (e_at0 := show G773 10 = at1 from ((hF778.1 10 rfl).trans (ex_at1))) (fk := fk1) (e_fk := show G773 16 = fk1 from ((hF778.1 16 rfl).trans (ex_fk1))) (op0 := op1) (e_op0 := show G773 15 = op1 from ((hF778.1 15 rfl).trans (ex_op1))) (nd := nd2_775) (e_nd := show G773 31 = nd2_775 from (e780)) (tk0 := tk1) (e_tk0 := show G773 11 = tk1 from ((hF778.1 11 rfl).trans (ex_tk1))) (ec := ec2_776) (e_ec := show ecn A774 (G773 31) = ec2_776 from e781) (i_SV := (SV_ext (((hF778.1 29 rfl).trans (hFx.1 29 rfl))) (((hF778.2 14 rfl).trans (hFx.2 14 rfl))) i_SV)) (h_x := ⟨(Int.le_trans (by decide : (-2147483648 : Int) ≤ 0) b_nd1.1), (Int.le_trans b_nd1.2 (by decide : (6999 : Int) ≤ 2147483647))⟩)  (p_0 := by omega) (p_1 := by omega) (p_2 := by omega) (p_3 := by omega) (p_4 := by omega) (p_5 := by omega) (p_6 := by omega) (p_7 := by omega) (p_8 := by omega) (p_9 := (fun _ => (wE_elem p784 (by omega) (by omega) iv_9 (kq (P := kArr) (show A774 7 (s).toNat = ks from (congrFun (hF778.2 7 rfl) _).trans (ex_ks)) iv_11) (wE_mono (by omega) (by omega) (by omega) sf789))))) (fun o V' hq => ?_)
      obtain ⟨G792, A793, r794, at2_795, fk2_796, op2_797, nd2_798, tk2_799, ec2_800, rfl, rfl, hW801, hF802, hQ803, b804, e805, e806, e807, e808, e809, e810, p811, p812, p813, p814, p815, p816, q817⟩ := hq
      have hF818 := Fr_tr hF786 hF802 (Fr_sub (by decide)) (Fr_sub (by decide))
      have hP819 := Pf_tr hP787 hQ803 (by omega)
      have sf820 : ND A793 (one) (33) (0) (0) (0) (0) (0) (0) := ND_ag (by omega) (Ag_pf hQ803 (by omega)) sf788
      have sf821 : wE A793 Vs sb (20) (ix) (one + 1) (nd1) := wE_ag (by omega) (Sg_fr hF802 (by decide)) (Ag_pf hQ803 (by omega)) sf789
      have sf822 : ND A793 (nd1) (3) (s) (ix) (0) (0) (0) (0) := ND_ag (by omega) (Ag_pf hQ803 (by omega)) p784
      have bat2_795 : (0 : Int) ≤ at2_795 ∧ at2_795 ≤ 3002 := e805 ▸ hW801.1 10
      have bfk2_796 : (0 : Int) ≤ fk2_796 ∧ fk2_796 ≤ 6 := e806 ▸ hW801.1 16
      have bop2_797 : (-2147483648 : Int) ≤ op2_797 ∧ op2_797 ≤ 2147483647 := e807 ▸ hW801.1 15
      have bnd2_798 : (0 : Int) ≤ nd2_798 ∧ nd2_798 ≤ 6999 := e808 ▸ hW801.1 31
      have ztk2_799 := tz_b tk2_799
      have btk2_799 : (0 : Int) ≤ tk2_799 ∧ tk2_799 ≤ 5 := e809 ▸ hW801.1 11
      refine .inr ⟨_, rfl, ?_⟩
      rcases q817 with ⟨a823, a824, a825, a826, a827, a828⟩ | ⟨a829, a830, a831⟩ | ⟨a832, a833, a834, a835, a836⟩
      · have _q : True := trivial
        exfalso
        omega
      · have _q : True := trivial
        refine jx_ld (pc' := 285) (l' := jSto1 L790 2 (.int (i32 (r794)))) (st' := []) rfl rfl ?_
        obtain ⟨L837, eL837⟩ : ∃ q, q = jSto1 L790 2 (.int (i32 (r794))) := ⟨_, rfl⟩
        rw [← eL837]
        have gL837_0 : jGet L837 0 = some (.ref 66) := eL837 ▸ jg_ne (by decide) gL790_0 rfl
        have gL837_6 : jGet L837 6 = some (.int (i32 (1))) := eL837 ▸ jg_ne (by decide) gL790_6 rfl
        have gL837_7 : jGet L837 7 = some (.int (i32 (0))) := eL837 ▸ jg_ne (by decide) gL790_7 rfl
        have gL837_1 : jGet L837 1 = some (.int (i32 (one))) := eL837 ▸ jg_ne (by decide) gL790_1 rfl
        have gL837_4 : jGet L837 4 = some (.int (i32 (s))) := eL837 ▸ jg_ne (by decide) gL790_4 rfl
        have gL837_5 : jGet L837 5 = some (.int (i32 (ix))) := eL837 ▸ jg_ne (by decide) gL790_5 rfl
        have gL837_10 : jGet L837 10 = some (.int (i32 (nd1))) := eL837 ▸ jg_ne (by decide) gL790_10 rfl
        have gL837_2 : jGet L837 2 = some (.int (i32 (r794))) := eL837 ▸ jg_eq
        refine jx_go (tg := 293) rfl rfl ?_
        have z838 := tz_f (tk2_799)
        exact c_readGuard_w_at_293p (X := X) (d := d) (Vs := Vs) (sb := sb) (c0 := c0) (c1 := c1) (G := G) (A := A) (T := T) (ln := ln) (le := le) (at0 := at0) (fk := fk) (op0 := op0) (nd := nd) (tk0 := tk0) (li := li) (ec := ec) (hd := hd) (hW := hW) (e_ln := e_ln) (e_le := e_le) (e_at0 := e_at0) (e_fk := e_fk) (e_op0 := e_op0) (e_nd := e_nd) (e_tk0 := e_tk0) (e_li := e_li) (e_ec := e_ec) (i_SV := i_SV) (p_0 := p_0) (p_1 := p_1) (p_2 := p_2) (p_3 := p_3) (p_4 := p_4) L837 G792 A793 (one) (r794) (at2_795) (tk2_799) (fk2_796) (nd2_798) (op2_797) (ec2_800) gL837_0 gL837_1 gL837_2 hW801 hF818 hP819 ((e805)) ((e809)) ((e806)) ((e808)) ((e807)) (e810) (((hF802.1 9 rfl).trans ((hF778.1 9 rfl).trans (fx_9)))) (by omega) (by omega) (by omega) (by omega) (by omega) (by omega) (by omega) (by omega) (by omega) (by omega)
      · have _q : True := trivial
        refine jx_ld (pc' := 285) (l' := jSto1 L790 2 (.int (i32 (r794)))) (st' := []) rfl rfl ?_
        obtain ⟨L839, eL839⟩ : ∃ q, q = jSto1 L790 2 (.int (i32 (r794))) := ⟨_, rfl⟩
        rw [← eL839]
        have gL839_0 : jGet L839 0 = some (.ref 66) := eL839 ▸ jg_ne (by decide) gL790_0 rfl
        have gL839_6 : jGet L839 6 = some (.int (i32 (1))) := eL839 ▸ jg_ne (by decide) gL790_6 rfl
        have gL839_7 : jGet L839 7 = some (.int (i32 (0))) := eL839 ▸ jg_ne (by decide) gL790_7 rfl
        have gL839_1 : jGet L839 1 = some (.int (i32 (one))) := eL839 ▸ jg_ne (by decide) gL790_1 rfl
        have gL839_4 : jGet L839 4 = some (.int (i32 (s))) := eL839 ▸ jg_ne (by decide) gL790_4 rfl
        have gL839_5 : jGet L839 5 = some (.int (i32 (ix))) := eL839 ▸ jg_ne (by decide) gL790_5 rfl
        have gL839_10 : jGet L839 10 = some (.int (i32 (nd1))) := eL839 ▸ jg_ne (by decide) gL790_10 rfl
        have gL839_2 : jGet L839 2 = some (.int (i32 (r794))) := eL839 ▸ jg_eq
        refine jx_go (tg := 293) rfl rfl ?_
        have z840 := tz_f (tk2_799)
        exact c_readGuard_w_at_293 (X := X) (d := d) (Vs := Vs) (sb := sb) (c0 := c0) (c1 := c1) (G := G) (A := A) (T := T) (ln := ln) (le := le) (at0 := at0) (fk := fk) (op0 := op0) (nd := nd) (tk0 := tk0) (li := li) (ec := ec) (hd := hd) (hW := hW) (e_ln := e_ln) (e_le := e_le) (e_at0 := e_at0) (e_fk := e_fk) (e_op0 := e_op0) (e_nd := e_nd) (e_tk0 := e_tk0) (e_li := e_li) (e_ec := e_ec) (i_SV := i_SV) (p_0 := p_0) (p_1 := p_1) (p_2 := p_2) (p_3 := p_3) (p_4 := p_4) L839 G792 A793 (one) (r794) (at2_795) (tk2_799) (fk2_796) (nd2_798) (op2_797) (ec2_800) gL839_0 gL839_1 gL839_2 hW801 hF818 hP819 ((e805)) ((e809)) ((e806)) ((e808)) ((e807)) (e810) (((hF802.1 9 rfl).trans ((hF778.1 9 rfl).trans (fx_9)))) (by omega) (by omega) (by omega) (by omega) (by omega) (by omega) (by omega) (by omega) (by omega) (by omega) (by omega) (sf820) ((wE_mono (by omega) (by omega) (by omega) a835)) (by omega) (by omega)
    · have _q := h791
      exact absurd h791 (by omega)
set_option maxRecDepth 20000 in
set_option maxHeartbeats 4000000 in
theorem c_readGuard_w_at_222_0_1 {X : jX} {d : Nat} {Vs : Nat → Prop} {sb : Int} {c0 c1 : jC} {G : Nat → Int} {A : Nat → Nat → Int} {T : jH} {ln le at0 fk op0 nd tk0 li ec : Int} (hd : 71 ≤ d + 1) (hW : Wk G A) (e_ln : G 9 = ln) (e_le : A 4 (ln).toNat = le) (e_at0 : G 10 = at0) (e_fk : G 16 = fk) (e_op0 : G 15 = op0) (e_nd : G 31 = nd) (e_tk0 : G 11 = tk0) (e_li : G 3 = li) (e_ec : ecn A (G 31) = ec) (i_SV : SV Vs sb G A) (p_0 : 0 ≤ op0 ∧ op0 ≤ 8) (p_1 : fk = 0) (p_2 : nd ≤ 2 * at0 - tz tk0 + 42) (p_3 : at0 ≤ le) (p_4 : ln < li) : ∀ (L : jL) (Gx : Nat → Int) (Ax : Nat → Nat → Int) (one s at1 tk1 fk1 nd1 op1 ks ec1 : Int), jGet L 0 = some (.ref 66) → jGet L 6 = some (.int (i32 (0))) → jGet L 7 = some (.int (i32 (1))) → jGet L 5 = some (.int (i32 (0))) → jGet L 1 = some (.int (i32 one)) → jGet L 4 = some (.int (i32 s)) → Wk Gx Ax → Fr [9, 10, 11, 12, 13, 14, 15, 16, 17, 18, 31] [15, 16, 17, 18, 19, 20, 21, 22, 24, 28] G A Gx Ax → Pf nd A Ax → Gx 10 = at1 → Gx 11 = tk1 → Gx 16 = fk1 → Gx 31 = nd1 → Gx 15 = op1 → Ax 7 (s).toNat = ks → ecn Ax (Gx 31) = ec1 → Gx 9 = ln → ((-2147483648 : Int) ≤ one ∧ one ≤ 2147483647) → ((-2147483648 : Int) ≤ s ∧ s ≤ 2147483647) → (at0 ≤ at1) → (at1 ≤ le) → (nd ≤ nd1) → (op1 = op0) → (one = nd) → (one ≤ 6998 ∧ one < nd1) → (fk1 = 0) → (nd1 - nd ≤ (2 * at1 - tz tk1) - (2 * at0 - tz tk0)) → (0 ≤ s ∧ s ≤ 201) → (SY Vs sb (s)) → (ND Ax (one) (33) (0) (0) (0) (0) (0) (0)) → (tz tk1 = 1) → (kCh (ks)) → (nd + 5 * ec ≤ nd1 - tz tk1) → (nd1 - nd + 5 * (ec1 - ec) ≤ (2 * at1 - tz tk1) - (2 * at0 - tz tk0) - tz tk1) → wj X d jm303 (222, L, [], rV c0 c1 Gx Ax T) (fun o V' => ∃ (G' : Nat → Int) (A' : Nat → Nat → Int) (r : Int) (at2 : Int) (fk2 : Int) (nd2 : Int) (ln2 : Int) (ec2 : Int), V' = rV c0 c1 G' A' T ∧ o = .inl (some (.int (i32 r))) ∧ Wk G' A' ∧ Fr [9, 10, 11, 12, 13, 14, 15, 16, 17, 18, 31] [15, 16, 17, 18, 19, 20, 21, 22, 24, 28] G A G' A' ∧ Pf nd A A' ∧ ((-2147483648 : Int) ≤ r ∧ r ≤ 2147483647) ∧ G' 10 = at2 ∧ G' 16 = fk2 ∧ G' 31 = nd2 ∧ G' 9 = ln2 ∧ ecn A' (G' 31) = ec2 ∧ (at0 ≤ at2) ∧ (at2 ≤ le) ∧ (nd ≤ nd2) ∧ (0 ≤ r) ∧ (r ≤ nd2) ∧ (((1 ≤ fk2) ∧ (ln2 = ln) ∧ (nd2 - nd ≤ 2 * at2 - 2 * at0 + 12)) ∨ ((fk2 = 0) ∧ (ln2 = ln + 1) ∧ (nd2 - nd ≤ 2 * at2 - (2 * at0 - tz tk0) + 0) ∧ (nd ≤ r) ∧ (r < nd2) ∧ (wU A' Vs sb (r) (nd) (nd2)) ∧ (NX A' (r)) ∧ (nd2 - nd + 5 * (ec2 - ec) ≤ 2 * at2 - (2 * at0 - tz tk0) + 0) ∧ (nd + 5 * ec ≤ r)))) := by
  have hF0 : Fr [9, 10, 11, 12, 13, 14, 15, 16, 17, 18, 31] [15, 16, 17, 18, 19, 20, 21, 22, 24, 28] G A G A := Fr_rf
  have hP0 : Pf nd A A := Pf_rf
  have b_ln : (0 : Int) ≤ ln ∧ ln ≤ 3000 := e_ln ▸ hW.1 9
  have b_le : (0 : Int) ≤ le ∧ le ≤ 3000 := e_le ▸ hW.2 4 _
  have b_at0 : (0 : Int) ≤ at0 ∧ at0 ≤ 3002 := e_at0 ▸ hW.1 10
  have b_fk : (0 : Int) ≤ fk ∧ fk ≤ 6 := e_fk ▸ hW.1 16
  have b_op0 : (-2147483648 : Int) ≤ op0 ∧ op0 ≤ 2147483647 := e_op0 ▸ hW.1 15
  have b_nd : (0 : Int) ≤ nd ∧ nd ≤ 6999 := e_nd ▸ hW.1 31
  have z_tk0 := tz_f tk0
  have b_tk0 : (0 : Int) ≤ tk0 ∧ tk0 ≤ 5 := e_tk0 ▸ hW.1 11
  have b_li : (0 : Int) ≤ li ∧ li ≤ 3000 := e_li ▸ hW.1 3
  intro L Gx Ax one s at1 tk1 fk1 nd1 op1 ks ec1 gL_0 gL_6 gL_7 gL_5 gL_1 gL_4 hWx hFx hPx ex_at1 ex_tk1 ex_fk1 ex_nd1 ex_op1 ex_ks ex_ec1 fx_9 rx_one rx_s iv_0 iv_1 iv_2 iv_3 iv_4 iv_5 iv_6 iv_7 iv_8 iv_9 iv_10 iv_11 iv_12 iv_13 iv_14
  have b_at1 : (0 : Int) ≤ at1 ∧ at1 ≤ 3002 := ex_at1 ▸ hWx.1 10
  have z_tk1 := tz_f tk1
  have b_tk1 : (0 : Int) ≤ tk1 ∧ tk1 ≤ 5 := ex_tk1 ▸ hWx.1 11
  have b_fk1 : (0 : Int) ≤ fk1 ∧ fk1 ≤ 6 := ex_fk1 ▸ hWx.1 16
  have b_nd1 : (0 : Int) ≤ nd1 ∧ nd1 ≤ 6999 := ex_nd1 ▸ hWx.1 31
  have b_op1 : (-2147483648 : Int) ≤ op1 ∧ op1 ≤ 2147483647 := ex_op1 ▸ hWx.1 15
  have b_ks : (0 : Int) ≤ ks ∧ ks ≤ 14 := ex_ks ▸ hWx.2 7 _
  refine jx_ld (pc' := 223) (l' := L) (st' := [.ref 66]) rfl (jl_aloadn gL_0) ?_
  refine jx_ld (pc' := 225) (l' := L) (st' := [.int (i32 (0)), .ref 66]) rfl (jl_iload gL_6) ?_
  refine jx_if_eq (pc' := 228) (tg := 232) rfl rfl rfl (by decide) (by decide) (fun h841 => ?_) (fun h841 => ?_)
  · have _q := h841
    refine jx_ar (pc' := 233) (st' := [.int (i32 (2)), .ref 66]) rfl rfl rfl rfl ?_
    refine jx_ld (pc' := 235) (l' := L) (st' := [.int (i32 (s)), .int (i32 (2)), .ref 66]) rfl (jl_iload gL_4) ?_
    refine jx_ld (pc' := 237) (l' := L) (st' := [.int (i32 (0)), .int (i32 (s)), .int (i32 (2)), .ref 66]) rfl (jl_iload gL_5) ?_
    refine jx_ar (pc' := 238) (st' := [.int (i32 (0)), .int (i32 (0)), .int (i32 (s)), .int (i32 (2)), .ref 66]) rfl rfl rfl rfl ?_
    refine jx_ar (pc' := 239) (st' := [.int (i32 (0)), .int (i32 (0)), .int (i32 (0)), .int (i32 (s)), .int (i32 (2)), .ref 66]) rfl rfl rfl rfl ?_
    refine jx_vr (pc' := 242) (as := [.int (i32 (2)), .int (i32 (s)), .int (i32 (0)), .int (i32 (0)), .int (i32 (0))]) (st := []) rfl rfl rfl rfl ⟨rfl, rfl, Nat.le_of_ble_eq_true rfl⟩ rfl rfl (c_node_o (dd := d) (hd := by omega) (hW := hWx) (kind := 2) (a := s) (b := 0) (c := 0) (e := 0) (nd := nd1) (e_nd := show Gx 31 = nd1 from (ex_nd1)) (ec := ec1) (e_ec := show ecn Ax (Gx 31) = ec1 from ex_ec1)  (h_kind := ⟨(by decide), (by decide)⟩) (h_a := ⟨(Int.le_trans (by decide : (-2147483648 : Int) ≤ -2147483648) rx_s.1), (Int.le_trans rx_s.2 (by decide : (2147483647 : Int) ≤ 2147483647))⟩) (h_b := ⟨(by decide), (by decide)⟩) (h_c := ⟨(by decide), (by decide)⟩) (h_e := ⟨(by decide), (by decide)⟩)  (p_0 := by omega) (p_1 := by omega) (p_2 := by omega)) (fun o V' hq => ?_)
    obtain ⟨G842, A843, nd2_844, ec2_845, rfl, rfl, hW846, hF847, hQ848, e849, e850, p851, p852, p853, -⟩ := hq
    have hF855 := Fr_tr hFx hF847 (Fr_sub (by decide)) (Fr_sub (by decide))
    have hP856 := Pf_tr hPx hQ848 (by omega)
    have sf857 : ND A843 (one) (33) (0) (0) (0) (0) (0) (0) := ND_ag (by omega) (Ag_pf hQ848 (by omega)) iv_10
    have bnd2_844 : (0 : Int) ≤ nd2_844 ∧ nd2_844 ≤ 6999 := e849 ▸ hW846.1 31
    refine .inr ⟨_, rfl, ?_⟩
    refine jx_ld (pc' := 244) (l' := jSto1 L 10 (.int (i32 (nd1)))) (st' := []) rfl rfl ?_
    obtain ⟨L858, eL858⟩ : ∃ q, q = jSto1 L 10 (.int (i32 (nd1))) := ⟨_, rfl⟩
    rw [← eL858]
    have gL858_0 : jGet L858 0 = some (.ref 66) := eL858 ▸ jg_ne (by decide) gL_0 rfl
    have gL858_6 : jGet L858 6 = some (.int (i32 (0))) := eL858 ▸ jg_ne (by decide) gL_6 rfl
    have gL858_7 : jGet L858 7 = some (.int (i32 (1))) := eL858 ▸ jg_ne (by decide) gL_7 rfl
    have gL858_5 : jGet L858 5 = some (.int (i32 (0))) := eL858 ▸ jg_ne (by decide) gL_5 rfl
    have gL858_1 : jGet L858 1 = some (.int (i32 (one))) := eL858 ▸ jg_ne (by decide) gL_1 rfl
    have gL858_4 : jGet L858 4 = some (.int (i32 (s))) := eL858 ▸ jg_ne (by decide) gL_4 rfl
    have gL858_10 : jGet L858 10 = some (.int (i32 (nd1))) := eL858 ▸ jg_eq
    refine jx_ld (pc' := 246) (l' := L858) (st' := [.int (i32 (1))]) rfl (jl_iload gL858_7) ?_
    refine jx_if_eq (pc' := 249) (tg := 278) rfl rfl rfl (by decide) (by decide) (fun h859 => ?_) (fun h859 => ?_)
    · have _q := h859
      exact absurd h859 (by omega)
    · have _q := h859
      refine jx_ld (pc' := 250) (l' := L858) (st' := [.ref 66]) rfl (jl_aloadn gL858_0) ?_
      refine jr_get (pc' := 253) (i := 35) (v := .ref 85) rfl rfl (by decide) rfl rfl ?_
      refine jx_ld (pc' := 254) (l' := L858) (st' := [.int (i32 (one)), .ref 85]) rfl (jl_iloadn gL858_1) ?_
      refine jx_ld (pc' := 256) (l' := L858) (st' := [.int (i32 (nd1)), .int (i32 (one)), .ref 85]) rfl (jl_iload gL858_10) ?_
      refine jr_st (pc' := 257) (i := 18) (m := 7000) (z := one) (y := nd1) rfl (by decide) rfl (by decide) (by omega) (by omega) rfl ?_
      have hW861 : Wk G842 (uA A843 18 (one).toNat (nd1)) := Wk_a hW846 (show (-2147483648 : Int) ≤ nd1 by omega) (show nd1 ≤ (2147483647 : Int) by omega)
      have hF862 := Fr_a (z := nd1) (k := 18) (n := (one).toNat) hF855 (by decide)
      obtain ⟨A860, eA860⟩ : ∃ q, q = uA A843 18 (one).toNat (nd1) := ⟨_, rfl⟩
      rw [← eA860]
      rw [← eA860] at hW861 hF862
      have q863 : A860 18 (one).toNat = nd1 := by rw [eA860]; exact uA_eq
      have hP864 : Pf nd A A860 := eA860 ▸ Pf_a hP856 (z := one) (by omega) (by omega)
      have sf865 : ND A860 (one) (33) (0) (nd1) (0) (0) (0) (0) := ND_b eA860 sf857
      have sf866 : ND A860 (nd1) (2) (s) (0) (0) (0) (0) (0) := ND_ag (by omega) (Ag_st eA860 (by omega) (by omega)) p853
      have ec867 : ecn A860 (G842 31) = ec2_845 := (ecn_e ((congrFun eA860 15).trans (uA_ne (by decide)))).trans e850
      refine jx_ld (pc' := 258) (l' := L858) (st' := [.ref 66]) rfl (jl_aloadn gL858_0) ?_
      refine jx_vr (pc' := 261) (as := []) (st := []) rfl rfl rfl rfl ⟨rfl, rfl, Nat.le_of_ble_eq_true rfl⟩ rfl rfl (c_next (dd := d) (hd := by omega) (hW := hW861)  (ln := ln) (e_ln := show G842 9 = ln from ((hF847.1 9 rfl).trans (fx_9))) (le := le) (e_le := show A860 4 (ln).toNat = le from (congrFun (((congrFun eA860 4).trans (uA_ne (by decide))).trans ((hF847.2 4 rfl).trans (hFx.2 4 rfl))) _).trans (e_le)) (at0 := at1) (e_at0 := show G842 10 = at1 from ((hF847.1 10 rfl).trans (ex_at1)))    (p_0 := by omega)) (fun o V' hq => ?_)
      obtain ⟨G868, A869, at2_870, tk2_871, rfl, rfl, hW872, hF873, e874, e875, p876, p877, p878, -⟩ := hq
      have hF880 := Fr_tr hF862 hF873 (Fr_sub (by decide)) (Fr_sub (by decide))
      have hP881 := Pf_f hP864 hF873 (by decide)
      have sf882 : ND A869 (one) (33) (0) (nd1) (0) (0) (0) (0) := ND_ag (by omega) (Ag_fr hF873 (by decide)) sf865
      have sf883 : ND A869 (nd1) (2) (s) (0) (0) (0) (0) (0) := ND_ag (by omega) (Ag_fr hF873 (by decide)) sf866
      have ec884 : ecn A869 (G868 31) = ec2_845 := (ecn_f (hF873.2 15 rfl) (hF873.1 31 rfl)).trans ec867
      have bat2_870 : (0 : Int) ≤ at2_870 ∧ at2_870 ≤ 3002 := e874 ▸ hW872.1 10
      have ztk2_871 := tz_b tk2_871
      have btk2_871 : (0 : Int) ≤ tk2_871 ∧ tk2_871 ≤ 5 := e875 ▸ hW872.1 11
      refine .inl ⟨rfl, ?_⟩
      refine jx_ld (pc' := 262) (l' := L858) (st' := [.ref 66]) rfl (jl_aloadn gL858_0) ?_
      refine jr_get (pc' := 265) (i := 36) (v := .ref 86) rfl rfl (by decide) rfl rfl ?_
      refine jx_ld (pc' := 266) (l' := L858) (st' := [.int (i32 (one)), .ref 86]) rfl (jl_iloadn gL858_1) ?_
      refine jx_ld (pc' := 267) (l' := L858) (st' := [.ref 66, .int (i32 (one)), .ref 86]) rfl (jl_aloadn gL858_0) ?_
      refine jx_ar (pc' := 268) (st' := [.int (i32 (0)), .ref 66, .int (i32 (one)), .ref 86]) rfl rfl rfl rfl ?_
      refine jx_vr (pc' := 271) (as := [.int (i32 (0))]) (st := [.int (i32 (one)), .ref 86]) rfl rfl rfl rfl ⟨rfl, rfl, Nat.le_of_ble_eq_true rfl⟩ rfl rfl (c_readReference_w (dd := d) (hd := by omega) (hW := hW872) (ch := 0) (ln := ln) (e_ln := show G868 9 = ln from ((hF873.1 9 rfl).trans ((hF847.1 9 rfl).trans (fx_9)))) (le := le) (e_le := show A869 4 (ln).toNat = le from (congrFun ((hF873.2 4 rfl).trans (((congrFun eA860 4).trans (uA_ne (by decide))).trans ((hF847.2 4 rfl).trans (hFx.2 4 rfl)))) _).trans (e_le)) (at0 := at2_870) (e_at0 := show G868 10 = at2_870 from (e874)) (fk := fk1) (e_fk := show G868 16 = fk1 from ((hF873.1 16 rfl).trans ((hF847.1 16 rfl).trans (ex_fk1)))) (op0 := op1) (e_op0 := show G868 15 = op1 from ((hF873.1 15 rfl).trans ((hF847.1 15 rfl).trans (ex_op1)))) (nd := nd2_844) (e_nd := show G868 31 = nd2_844 from ((hF873.1 31 rfl).trans (e849))) (tk0 := tk2_871) (e_tk0 := show G868 11 = tk2_871 from (e875)) (ec := ec2_845) (e_ec := show ecn A869 (G868 31) = ec2_845 from ec884) (i_SV := (SV_ext (((hF873.1 29 rfl).trans ((hF847.1 29 rfl).trans (hFx.1 29 rfl)))) (((hF873.2 14 rfl).trans (((congrFun eA860 14).trans (uA_ne (by decide))).trans ((hF847.2 14 rfl).trans (hFx.2 14 rfl))))) i_SV)) (h_ch := ⟨(by decide), (by decide)⟩)  (p_0 := by omega) (p_1 := by omega) (p_2 := by omega) (p_3 := by omega) (p_4 := by omega)) (fun o V' hq => ?_)
      obtain ⟨G885, A886, r887, at2_888, fk2_889, op2_890, nd2_891, tk2_892, ec2_893, rfl, rfl, hW894, hF895, hQ896, b897, e898, e899, e900, e901, e902, e903, p904, p905, p906, p907, p908, p909, q910⟩ := hq
      have hF911 := Fr_tr hF880 hF895 (Fr_sub (by decide)) (Fr_sub (by decide))
      have k912 : A886 18 (one).toNat = nd1 := (hQ896 18 _ rfl (by omega)).trans (show A869 18 (one).toNat = nd1 from (congrFun (hF873.2 18 rfl) _).trans (q863))
      have hP913 := Pf_tr hP881 hQ896 (by omega)
      have sf914 : ND A886 (one) (33) (0) (nd1) (0) (0) (0) (0) := ND_ag (by omega) (Ag_pf hQ896 (by omega)) sf882
      have sf915 : ND A886 (nd1) (2) (s) (0) (0) (0) (0) (0) := ND_ag (by omega) (Ag_pf hQ896 (by omega)) sf883
      have bat2_888 : (0 : Int) ≤ at2_888 ∧ at2_888 ≤ 3002 := e898 ▸ hW894.1 10
      have bfk2_889 : (0 : Int) ≤ fk2_889 ∧ fk2_889 ≤ 6 := e899 ▸ hW894.1 16
      have bop2_890 : (-2147483648 : Int) ≤ op2_890 ∧ op2_890 ≤ 2147483647 := e900 ▸ hW894.1 15
      have bnd2_891 : (0 : Int) ≤ nd2_891 ∧ nd2_891 ≤ 6999 := e901 ▸ hW894.1 31
      have ztk2_892 := tz_b tk2_892
      have btk2_892 : (0 : Int) ≤ tk2_892 ∧ tk2_892 ≤ 5 := e902 ▸ hW894.1 11
      refine .inr ⟨_, rfl, ?_⟩
      rcases q910 with ⟨a916, a917, a918, a919, a920, a921⟩ | ⟨a922, a923, a924⟩ | ⟨a925, a926, a927, a928, a929⟩
      · have _q : True := trivial
        exfalso
        omega
      · have _q : True := trivial
        refine jr_st (pc' := 272) (i := 19) (m := 7000) (z := one) (y := r887) rfl (by decide) rfl (by decide) (by omega) (by omega) rfl ?_
        have hW931 : Wk G885 (uA A886 19 (one).toNat (r887)) := Wk_a hW894 (show (-2147483648 : Int) ≤ r887 by omega) (show r887 ≤ (2147483647 : Int) by omega)
        have hF932 := Fr_a (z := r887) (k := 19) (n := (one).toNat) hF911 (by decide)
        obtain ⟨A930, eA930⟩ : ∃ q, q = uA A886 19 (one).toNat (r887) := ⟨_, rfl⟩
        rw [← eA930]
        rw [← eA930] at hW931 hF932
        have q933 : A930 19 (one).toNat = r887 := by rw [eA930]; exact uA_eq
        have hP934 : Pf nd A A930 := eA930 ▸ Pf_a hP913 (z := one) (by omega) (by omega)
        have sf935 : ND A930 (one) (33) (0) (nd1) (r887) (0) (0) (0) := ND_c eA930 sf914
        have sf936 : ND A930 (nd1) (2) (s) (0) (0) (0) (0) (0) := ND_ag (by omega) (Ag_st eA930 (by omega) (by omega)) sf915
        have ec937 : ecn A930 (G885 31) = ec2_893 := (ecn_e ((congrFun eA930 15).trans (uA_ne (by decide)))).trans e903
        refine jx_ld (pc' := 273) (l' := L858) (st' := [.ref 66]) rfl (jl_aloadn gL858_0) ?_
        refine jx_vr (pc' := 276) (as := []) (st := []) rfl rfl rfl rfl ⟨rfl, rfl, Nat.le_of_ble_eq_true rfl⟩ rfl rfl (c_endLine (dd := d) (hd := by omega) (hW := hW931)  (ln := ln) (e_ln := show G885 9 = ln from ((hF895.1 9 rfl).trans ((hF873.1 9 rfl).trans ((hF847.1 9 rfl).trans (fx_9))))) (li := li) (e_li := show G885 3 = li from ((hF895.1 3 rfl).trans ((hF873.1 3 rfl).trans ((hF847.1 3 rfl).trans ((hFx.1 3 rfl).trans (e_li)))))) (fk := fk2_889) (e_fk := show G885 16 = fk2_889 from (e899)) (tk0 := tk2_892) (e_tk0 := show G885 11 = tk2_892 from (e902))    (p_0 := by omega)) (fun o V' hq => ?_)
        obtain ⟨G938, A939, ln2_940, fk2_941, rfl, rfl, hW942, hF943, e944, e945, q946⟩ := hq
        have hF947 := Fr_tr hF932 hF943 (Fr_sub (by decide)) (Fr_sub (by decide))
        have hP948 := Pf_f hP934 hF943 (by decide)
        have sf949 : ND A939 (one) (33) (0) (nd1) (r887) (0) (0) (0) := ND_ag (by omega) (Ag_fr hF943 (by decide)) sf935
        have sf950 : ND A939 (nd1) (2) (s) (0) (0) (0) (0) (0) := ND_ag (by omega) (Ag_fr hF943 (by decide)) sf936
        have ec951 : ecn A939 (G938 31) = ec2_893 := (ecn_f (hF943.2 15 rfl) (hF943.1 31 rfl)).trans ec937
        have bln2_940 : (0 : Int) ≤ ln2_940 ∧ ln2_940 ≤ 3000 := e944 ▸ hW942.1 9
        have bfk2_941 : (0 : Int) ≤ fk2_941 ∧ fk2_941 ≤ 6 := e945 ▸ hW942.1 16
        refine .inl ⟨rfl, ?_⟩
        rcases q946 with ⟨a952, a953, a954, a955, a956⟩ | ⟨a957, a958⟩
        · have _q : True := trivial
          exfalso
          omega
        · have _q : True := trivial
          refine jx_ld (pc' := 277) (l' := L858) (st' := [.int (i32 (one))]) rfl (jl_iloadn gL858_1) ?_
          refine jx_rt (v := some (.int (i32 (one)))) rfl rfl rfl rfl rfl rfl ?_
          exact ⟨_, _, _, at2_888, fk2_941, nd2_891, ln2_940, ec2_893, rfl, rfl, hW942, hF947, hP948, by omega, ((hF943.1 10 rfl).trans (e898)), (e945), ((hF943.1 31 rfl).trans (e901)), (e944), ec951, by omega, by omega, by omega, by omega, by omega, by first | exact Or.inl (⟨by omega, by omega, by omega⟩)⟩
      · have _q : True := trivial
        refine jr_st (pc' := 272) (i := 19) (m := 7000) (z := one) (y := r887) rfl (by decide) rfl (by decide) (by omega) (by omega) rfl ?_
        have hW960 : Wk G885 (uA A886 19 (one).toNat (r887)) := Wk_a hW894 (show (-2147483648 : Int) ≤ r887 by omega) (show r887 ≤ (2147483647 : Int) by omega)
        have hF961 := Fr_a (z := r887) (k := 19) (n := (one).toNat) hF911 (by decide)
        obtain ⟨A959, eA959⟩ : ∃ q, q = uA A886 19 (one).toNat (r887) := ⟨_, rfl⟩
        rw [← eA959]
        rw [← eA959] at hW960 hF961
        have q962 : A959 19 (one).toNat = r887 := by rw [eA959]; exact uA_eq
        have hP963 : Pf nd A A959 := eA959 ▸ Pf_a hP913 (z := one) (by omega) (by omega)
        have sf964 : ND A959 (one) (33) (0) (nd1) (r887) (0) (0) (0) := ND_c eA959 sf914
        have sf965 : ND A959 (nd1) (2) (s) (0) (0) (0) (0) (0) := ND_ag (by omega) (Ag_st eA959 (by omega) (by omega)) sf915
        have sf966 : wR A959 Vs sb (20) (0) (r887) (nd2_844) (nd2_891) := wR_ag (by omega) (Sg_ne eA959 rfl) (Ag_st eA959 (by omega) (by omega)) a928
        have ec967 : ecn A959 (G885 31) = ec2_893 := (ecn_e ((congrFun eA959 15).trans (uA_ne (by decide)))).trans e903
        refine jx_ld (pc' := 273) (l' := L858) (st' := [.ref 66]) rfl (jl_aloadn gL858_0) ?_
        refine jx_vr (pc' := 276) (as := []) (st := []) rfl rfl rfl rfl ⟨rfl, rfl, Nat.le_of_ble_eq_true rfl⟩ rfl rfl (c_endLine (dd := d) (hd := by omega) (hW := hW960)  (ln := ln) (e_ln := show G885 9 = ln from ((hF895.1 9 rfl).trans ((hF873.1 9 rfl).trans ((hF847.1 9 rfl).trans (fx_9))))) (li := li) (e_li := show G885 3 = li from ((hF895.1 3 rfl).trans ((hF873.1 3 rfl).trans ((hF847.1 3 rfl).trans ((hFx.1 3 rfl).trans (e_li)))))) (fk := fk2_889) (e_fk := show G885 16 = fk2_889 from (e899)) (tk0 := tk2_892) (e_tk0 := show G885 11 = tk2_892 from (e902))    (p_0 := by omega)) (fun o V' hq => ?_)
        obtain ⟨G968, A969, ln2_970, fk2_971, rfl, rfl, hW972, hF973, e974, e975, q976⟩ := hq
        have hF977 := Fr_tr hF961 hF973 (Fr_sub (by decide)) (Fr_sub (by decide))
        have hP978 := Pf_f hP963 hF973 (by decide)
        have sf979 : ND A969 (one) (33) (0) (nd1) (r887) (0) (0) (0) := ND_ag (by omega) (Ag_fr hF973 (by decide)) sf964
        have sf980 : ND A969 (nd1) (2) (s) (0) (0) (0) (0) (0) := ND_ag (by omega) (Ag_fr hF973 (by decide)) sf965
        have sf981 : wR A969 Vs sb (20) (0) (r887) (nd2_844) (nd2_891) := wR_ag (by omega) (Sg_fr hF973 (by decide)) (Ag_fr hF973 (by decide)) sf966
        have ec982 : ecn A969 (G968 31) = ec2_893 := (ecn_f (hF973.2 15 rfl) (hF973.1 31 rfl)).trans ec967
        have bln2_970 : (0 : Int) ≤ ln2_970 ∧ ln2_970 ≤ 3000 := e974 ▸ hW972.1 9
        have bfk2_971 : (0 : Int) ≤ fk2_971 ∧ fk2_971 ≤ 6 := e975 ▸ hW972.1 16
        refine .inl ⟨rfl, ?_⟩
        rcases q976 with ⟨a983, a984, a985, a986, a987⟩ | ⟨a988, a989⟩
        · have _q : True := trivial
          refine jx_ld (pc' := 277) (l' := L858) (st' := [.int (i32 (one))]) rfl (jl_iloadn gL858_1) ?_
          refine jx_rt (v := some (.int (i32 (one)))) rfl rfl rfl rfl rfl rfl ?_
          exact ⟨_, _, _, at2_888, fk2_971, nd2_891, ln2_970, ec2_893, rfl, rfl, hW972, hF977, hP978, by omega, ((hF973.1 10 rfl).trans (e898)), (e975), ((hF973.1 31 rfl).trans (e901)), (e974), ec982, by omega, by omega, by omega, by omega, by omega, by first | exact Or.inr ((⟨by omega, by omega, by omega, by omega, by omega, (wU_ch (m := (nd1 + 1)) sf979 (by omega) (by omega) (by omega) (by omega) (wR_var sf980 (by omega) (by omega) iv_9 (kq (P := kRef (1)) (show A969 7 (s).toNat = ks from (congrFun ((hF973.2 7 rfl).trans (((congrFun eA959 7).trans (uA_ne (by decide))).trans ((hF895.2 7 rfl).trans ((hF873.2 7 rfl).trans (((congrFun eA860 7).trans (uA_ne (by decide))).trans (hF847.2 7 rfl)))))) _).trans (ex_ks)) (by first | exact .inr ⟨by omega, iv_12⟩))) (wR_mono (by omega) (by omega) (by omega) sf981)), (NX_nd sf979), by omega, by omega⟩))⟩
        · have _q : True := trivial
          refine jx_ld (pc' := 277) (l' := L858) (st' := [.int (i32 (one))]) rfl (jl_iloadn gL858_1) ?_
          refine jx_rt (v := some (.int (i32 (one)))) rfl rfl rfl rfl rfl rfl ?_
          exact ⟨_, _, _, at2_888, fk2_971, nd2_891, ln2_970, ec2_893, rfl, rfl, hW972, hF977, hP978, by omega, ((hF973.1 10 rfl).trans (e898)), (e975), ((hF973.1 31 rfl).trans (e901)), (e974), ec982, by omega, by omega, by omega, by omega, by omega, by first | exact Or.inl (⟨by omega, by omega, by omega⟩)⟩
  · have _q := h841
    exact absurd h841 (by omega)
set_option maxRecDepth 20000 in
set_option maxHeartbeats 4000000 in
theorem c_readGuard_w_at_222_0_0 {X : jX} {d : Nat} {Vs : Nat → Prop} {sb : Int} {c0 c1 : jC} {G : Nat → Int} {A : Nat → Nat → Int} {T : jH} {ln le at0 fk op0 nd tk0 li ec : Int} (hd : 71 ≤ d + 1) (hW : Wk G A) (e_ln : G 9 = ln) (e_le : A 4 (ln).toNat = le) (e_at0 : G 10 = at0) (e_fk : G 16 = fk) (e_op0 : G 15 = op0) (e_nd : G 31 = nd) (e_tk0 : G 11 = tk0) (e_li : G 3 = li) (e_ec : ecn A (G 31) = ec) (i_SV : SV Vs sb G A) (p_0 : 0 ≤ op0 ∧ op0 ≤ 8) (p_1 : fk = 0) (p_2 : nd ≤ 2 * at0 - tz tk0 + 42) (p_3 : at0 ≤ le) (p_4 : ln < li) : ∀ (L : jL) (Gx : Nat → Int) (Ax : Nat → Nat → Int) (one s at1 tk1 fk1 nd1 op1 ks ec1 : Int), jGet L 0 = some (.ref 66) → jGet L 6 = some (.int (i32 (0))) → jGet L 7 = some (.int (i32 (0))) → jGet L 5 = some (.int (i32 (0))) → jGet L 1 = some (.int (i32 one)) → jGet L 4 = some (.int (i32 s)) → Wk Gx Ax → Fr [9, 10, 11, 12, 13, 14, 15, 16, 17, 18, 31] [15, 16, 17, 18, 19, 20, 21, 22, 24, 28] G A Gx Ax → Pf nd A Ax → Gx 10 = at1 → Gx 11 = tk1 → Gx 16 = fk1 → Gx 31 = nd1 → Gx 15 = op1 → Ax 7 (s).toNat = ks → ecn Ax (Gx 31) = ec1 → Gx 9 = ln → ((-2147483648 : Int) ≤ one ∧ one ≤ 2147483647) → ((-2147483648 : Int) ≤ s ∧ s ≤ 2147483647) → (at0 ≤ at1) → (at1 ≤ le) → (nd ≤ nd1) → (op1 = op0) → (one = nd) → (one ≤ 6998 ∧ one < nd1) → (fk1 = 0) → (nd1 - nd ≤ (2 * at1 - tz tk1) - (2 * at0 - tz tk0)) → (0 ≤ s ∧ s ≤ 201) → (SY Vs sb (s)) → (ND Ax (one) (33) (0) (0) (0) (0) (0) (0)) → (kVal (ks)) → (nd + 5 * ec ≤ nd1 - tz tk1) → (nd1 - nd + 5 * (ec1 - ec) ≤ (2 * at1 - tz tk1) - (2 * at0 - tz tk0) - tz tk1) → wj X d jm303 (222, L, [], rV c0 c1 Gx Ax T) (fun o V' => ∃ (G' : Nat → Int) (A' : Nat → Nat → Int) (r : Int) (at2 : Int) (fk2 : Int) (nd2 : Int) (ln2 : Int) (ec2 : Int), V' = rV c0 c1 G' A' T ∧ o = .inl (some (.int (i32 r))) ∧ Wk G' A' ∧ Fr [9, 10, 11, 12, 13, 14, 15, 16, 17, 18, 31] [15, 16, 17, 18, 19, 20, 21, 22, 24, 28] G A G' A' ∧ Pf nd A A' ∧ ((-2147483648 : Int) ≤ r ∧ r ≤ 2147483647) ∧ G' 10 = at2 ∧ G' 16 = fk2 ∧ G' 31 = nd2 ∧ G' 9 = ln2 ∧ ecn A' (G' 31) = ec2 ∧ (at0 ≤ at2) ∧ (at2 ≤ le) ∧ (nd ≤ nd2) ∧ (0 ≤ r) ∧ (r ≤ nd2) ∧ (((1 ≤ fk2) ∧ (ln2 = ln) ∧ (nd2 - nd ≤ 2 * at2 - 2 * at0 + 12)) ∨ ((fk2 = 0) ∧ (ln2 = ln + 1) ∧ (nd2 - nd ≤ 2 * at2 - (2 * at0 - tz tk0) + 0) ∧ (nd ≤ r) ∧ (r < nd2) ∧ (wU A' Vs sb (r) (nd) (nd2)) ∧ (NX A' (r)) ∧ (nd2 - nd + 5 * (ec2 - ec) ≤ 2 * at2 - (2 * at0 - tz tk0) + 0) ∧ (nd + 5 * ec ≤ r)))) := by
  have hF0 : Fr [9, 10, 11, 12, 13, 14, 15, 16, 17, 18, 31] [15, 16, 17, 18, 19, 20, 21, 22, 24, 28] G A G A := Fr_rf
  have hP0 : Pf nd A A := Pf_rf
  have b_ln : (0 : Int) ≤ ln ∧ ln ≤ 3000 := e_ln ▸ hW.1 9
  have b_le : (0 : Int) ≤ le ∧ le ≤ 3000 := e_le ▸ hW.2 4 _
  have b_at0 : (0 : Int) ≤ at0 ∧ at0 ≤ 3002 := e_at0 ▸ hW.1 10
  have b_fk : (0 : Int) ≤ fk ∧ fk ≤ 6 := e_fk ▸ hW.1 16
  have b_op0 : (-2147483648 : Int) ≤ op0 ∧ op0 ≤ 2147483647 := e_op0 ▸ hW.1 15
  have b_nd : (0 : Int) ≤ nd ∧ nd ≤ 6999 := e_nd ▸ hW.1 31
  have z_tk0 := tz_f tk0
  have b_tk0 : (0 : Int) ≤ tk0 ∧ tk0 ≤ 5 := e_tk0 ▸ hW.1 11
  have b_li : (0 : Int) ≤ li ∧ li ≤ 3000 := e_li ▸ hW.1 3
  intro L Gx Ax one s at1 tk1 fk1 nd1 op1 ks ec1 gL_0 gL_6 gL_7 gL_5 gL_1 gL_4 hWx hFx hPx ex_at1 ex_tk1 ex_fk1 ex_nd1 ex_op1 ex_ks ex_ec1 fx_9 rx_one rx_s iv_0 iv_1 iv_2 iv_3 iv_4 iv_5 iv_6 iv_7 iv_8 iv_9 iv_10 iv_11 iv_12 iv_13
  have b_at1 : (0 : Int) ≤ at1 ∧ at1 ≤ 3002 := ex_at1 ▸ hWx.1 10
  have z_tk1 := tz_f tk1
  have b_tk1 : (0 : Int) ≤ tk1 ∧ tk1 ≤ 5 := ex_tk1 ▸ hWx.1 11
  have b_fk1 : (0 : Int) ≤ fk1 ∧ fk1 ≤ 6 := ex_fk1 ▸ hWx.1 16
  have b_nd1 : (0 : Int) ≤ nd1 ∧ nd1 ≤ 6999 := ex_nd1 ▸ hWx.1 31
  have b_op1 : (-2147483648 : Int) ≤ op1 ∧ op1 ≤ 2147483647 := ex_op1 ▸ hWx.1 15
  have b_ks : (0 : Int) ≤ ks ∧ ks ≤ 14 := ex_ks ▸ hWx.2 7 _
  refine jx_ld (pc' := 223) (l' := L) (st' := [.ref 66]) rfl (jl_aloadn gL_0) ?_
  refine jx_ld (pc' := 225) (l' := L) (st' := [.int (i32 (0)), .ref 66]) rfl (jl_iload gL_6) ?_
  refine jx_if_eq (pc' := 228) (tg := 232) rfl rfl rfl (by decide) (by decide) (fun h990 => ?_) (fun h990 => ?_)
  · have _q := h990
    refine jx_ar (pc' := 233) (st' := [.int (i32 (2)), .ref 66]) rfl rfl rfl rfl ?_
    refine jx_ld (pc' := 235) (l' := L) (st' := [.int (i32 (s)), .int (i32 (2)), .ref 66]) rfl (jl_iload gL_4) ?_
    refine jx_ld (pc' := 237) (l' := L) (st' := [.int (i32 (0)), .int (i32 (s)), .int (i32 (2)), .ref 66]) rfl (jl_iload gL_5) ?_
    refine jx_ar (pc' := 238) (st' := [.int (i32 (0)), .int (i32 (0)), .int (i32 (s)), .int (i32 (2)), .ref 66]) rfl rfl rfl rfl ?_
    refine jx_ar (pc' := 239) (st' := [.int (i32 (0)), .int (i32 (0)), .int (i32 (0)), .int (i32 (s)), .int (i32 (2)), .ref 66]) rfl rfl rfl rfl ?_
    refine jx_vr (pc' := 242) (as := [.int (i32 (2)), .int (i32 (s)), .int (i32 (0)), .int (i32 (0)), .int (i32 (0))]) (st := []) rfl rfl rfl rfl ⟨rfl, rfl, Nat.le_of_ble_eq_true rfl⟩ rfl rfl (c_node_o (dd := d) (hd := by omega) (hW := hWx) (kind := 2) (a := s) (b := 0) (c := 0) (e := 0) (nd := nd1) (e_nd := show Gx 31 = nd1 from (ex_nd1)) (ec := ec1) (e_ec := show ecn Ax (Gx 31) = ec1 from ex_ec1)  (h_kind := ⟨(by decide), (by decide)⟩) (h_a := ⟨(Int.le_trans (by decide : (-2147483648 : Int) ≤ -2147483648) rx_s.1), (Int.le_trans rx_s.2 (by decide : (2147483647 : Int) ≤ 2147483647))⟩) (h_b := ⟨(by decide), (by decide)⟩) (h_c := ⟨(by decide), (by decide)⟩) (h_e := ⟨(by decide), (by decide)⟩)  (p_0 := by omega) (p_1 := by omega) (p_2 := by omega)) (fun o V' hq => ?_)
    obtain ⟨G991, A992, nd2_993, ec2_994, rfl, rfl, hW995, hF996, hQ997, e998, e999, p1000, p1001, p1002, -⟩ := hq
    have hF1004 := Fr_tr hFx hF996 (Fr_sub (by decide)) (Fr_sub (by decide))
    have hP1005 := Pf_tr hPx hQ997 (by omega)
    have sf1006 : ND A992 (one) (33) (0) (0) (0) (0) (0) (0) := ND_ag (by omega) (Ag_pf hQ997 (by omega)) iv_10
    have bnd2_993 : (0 : Int) ≤ nd2_993 ∧ nd2_993 ≤ 6999 := e998 ▸ hW995.1 31
    refine .inr ⟨_, rfl, ?_⟩
    refine jx_ld (pc' := 244) (l' := jSto1 L 10 (.int (i32 (nd1)))) (st' := []) rfl rfl ?_
    obtain ⟨L1007, eL1007⟩ : ∃ q, q = jSto1 L 10 (.int (i32 (nd1))) := ⟨_, rfl⟩
    rw [← eL1007]
    have gL1007_0 : jGet L1007 0 = some (.ref 66) := eL1007 ▸ jg_ne (by decide) gL_0 rfl
    have gL1007_6 : jGet L1007 6 = some (.int (i32 (0))) := eL1007 ▸ jg_ne (by decide) gL_6 rfl
    have gL1007_7 : jGet L1007 7 = some (.int (i32 (0))) := eL1007 ▸ jg_ne (by decide) gL_7 rfl
    have gL1007_5 : jGet L1007 5 = some (.int (i32 (0))) := eL1007 ▸ jg_ne (by decide) gL_5 rfl
    have gL1007_1 : jGet L1007 1 = some (.int (i32 (one))) := eL1007 ▸ jg_ne (by decide) gL_1 rfl
    have gL1007_4 : jGet L1007 4 = some (.int (i32 (s))) := eL1007 ▸ jg_ne (by decide) gL_4 rfl
    have gL1007_10 : jGet L1007 10 = some (.int (i32 (nd1))) := eL1007 ▸ jg_eq
    refine jx_ld (pc' := 246) (l' := L1007) (st' := [.int (i32 (0))]) rfl (jl_iload gL1007_7) ?_
    refine jx_if_eq (pc' := 249) (tg := 278) rfl rfl rfl (by decide) (by decide) (fun h1008 => ?_) (fun h1008 => ?_)
    · have _q := h1008
      refine jx_ld (pc' := 279) (l' := L1007) (st' := [.ref 66]) rfl (jl_aloadn gL1007_0) ?_
      refine jx_ld (pc' := 281) (l' := L1007) (st' := [.int (i32 (nd1)), .ref 66]) rfl (jl_iload gL1007_10) ?_
      refine jx_vr (pc' := 284) (as := [.int (i32 (nd1))]) (st := []) rfl rfl rfl rfl ⟨rfl, rfl, Nat.le_of_ble_eq_true rfl⟩ rfl rfl (c_readRest_w (dd := d) (k := 9) (hE := RE_all X 9) (hd := by omega) (hW := hW995) (x := nd1) (lo := (one + 1)) (ln := ln) (e_ln := show G991 9 = ln from ((hF996.1 9 rfl).trans (fx_9))) (le := le) (e_le := show A992 4 (ln).toNat = le from (congrFun ((hF996.2 4 rfl).trans (hFx.2 4 rfl)) _).trans (e_le)) (at0 := at1) (e_at0 := show G991 10 = at1 from ((hF996.1 10 rfl).trans (ex_at1))) (fk := fk1) (e_fk := show G991 16 = fk1 from ((hF996.1 16 rfl).trans (ex_fk1))) (op0 := op1) (e_op0 := show G991 15 = op1 from ((hF996.1 15 rfl).trans (ex_op1))) (nd := nd2_993) (e_nd := show G991 31 = nd2_993 from (e998)) (tk0 := tk1) (e_tk0 := show G991 11 = tk1 from ((hF996.1 11 rfl).trans (ex_tk1))) (ec := ec2_994) (e_ec := show ecn A992 (G991 31) = ec2_994 from e999) (i_SV := (SV_ext (((hF996.1 29 rfl).trans (hFx.1 29 rfl))) (((hF996.2 14 rfl).trans (hFx.2 14 rfl))) i_SV)) (h_x := ⟨(Int.le_trans (by decide : (-2147483648 : Int) ≤ 0) b_nd1.1), (Int.le_trans b_nd1.2 (by decide : (6999 : Int) ≤ 2147483647))⟩)  (p_0 := by omega) (p_1 := by omega) (p_2 := by omega) (p_3 := by omega) (p_4 := by omega) (p_5 := by omega) (p_6 := by omega) (p_7 := by omega) (p_8 := by omega) (p_9 := (fun _ => (wE_var p1002 (by omega) (by omega) iv_9 (kq (P := kVal) (show A992 7 (s).toNat = ks from (congrFun (hF996.2 7 rfl) _).trans (ex_ks)) iv_11))))) (fun o V' hq => ?_)
      obtain ⟨G1009, A1010, r1011, at2_1012, fk2_1013, op2_1014, nd2_1015, tk2_1016, ec2_1017, rfl, rfl, hW1018, hF1019, hQ1020, b1021, e1022, e1023, e1024, e1025, e1026, e1027, p1028, p1029, p1030, p1031, p1032, p1033, q1034⟩ := hq
      have hF1035 := Fr_tr hF1004 hF1019 (Fr_sub (by decide)) (Fr_sub (by decide))
      have hP1036 := Pf_tr hP1005 hQ1020 (by omega)
      have sf1037 : ND A1010 (one) (33) (0) (0) (0) (0) (0) (0) := ND_ag (by omega) (Ag_pf hQ1020 (by omega)) sf1006
      have sf1038 : ND A1010 (nd1) (2) (s) (0) (0) (0) (0) (0) := ND_ag (by omega) (Ag_pf hQ1020 (by omega)) p1002
      have bat2_1012 : (0 : Int) ≤ at2_1012 ∧ at2_1012 ≤ 3002 := e1022 ▸ hW1018.1 10
      have bfk2_1013 : (0 : Int) ≤ fk2_1013 ∧ fk2_1013 ≤ 6 := e1023 ▸ hW1018.1 16
      have bop2_1014 : (-2147483648 : Int) ≤ op2_1014 ∧ op2_1014 ≤ 2147483647 := e1024 ▸ hW1018.1 15
      have bnd2_1015 : (0 : Int) ≤ nd2_1015 ∧ nd2_1015 ≤ 6999 := e1025 ▸ hW1018.1 31
      have ztk2_1016 := tz_b tk2_1016
      have btk2_1016 : (0 : Int) ≤ tk2_1016 ∧ tk2_1016 ≤ 5 := e1026 ▸ hW1018.1 11
      refine .inr ⟨_, rfl, ?_⟩
      rcases q1034 with ⟨a1039, a1040, a1041, a1042, a1043, a1044⟩ | ⟨a1045, a1046, a1047⟩ | ⟨a1048, a1049, a1050, a1051, a1052⟩
      · have _q : True := trivial
        exfalso
        omega
      · have _q : True := trivial
        refine jx_ld (pc' := 285) (l' := jSto1 L1007 2 (.int (i32 (r1011)))) (st' := []) rfl rfl ?_
        obtain ⟨L1053, eL1053⟩ : ∃ q, q = jSto1 L1007 2 (.int (i32 (r1011))) := ⟨_, rfl⟩
        rw [← eL1053]
        have gL1053_0 : jGet L1053 0 = some (.ref 66) := eL1053 ▸ jg_ne (by decide) gL1007_0 rfl
        have gL1053_6 : jGet L1053 6 = some (.int (i32 (0))) := eL1053 ▸ jg_ne (by decide) gL1007_6 rfl
        have gL1053_7 : jGet L1053 7 = some (.int (i32 (0))) := eL1053 ▸ jg_ne (by decide) gL1007_7 rfl
        have gL1053_5 : jGet L1053 5 = some (.int (i32 (0))) := eL1053 ▸ jg_ne (by decide) gL1007_5 rfl
        have gL1053_1 : jGet L1053 1 = some (.int (i32 (one))) := eL1053 ▸ jg_ne (by decide) gL1007_1 rfl
        have gL1053_4 : jGet L1053 4 = some (.int (i32 (s))) := eL1053 ▸ jg_ne (by decide) gL1007_4 rfl
        have gL1053_10 : jGet L1053 10 = some (.int (i32 (nd1))) := eL1053 ▸ jg_ne (by decide) gL1007_10 rfl
        have gL1053_2 : jGet L1053 2 = some (.int (i32 (r1011))) := eL1053 ▸ jg_eq
        refine jx_go (tg := 293) rfl rfl ?_
        have z1054 := tz_f (tk2_1016)
        exact c_readGuard_w_at_293p (X := X) (d := d) (Vs := Vs) (sb := sb) (c0 := c0) (c1 := c1) (G := G) (A := A) (T := T) (ln := ln) (le := le) (at0 := at0) (fk := fk) (op0 := op0) (nd := nd) (tk0 := tk0) (li := li) (ec := ec) (hd := hd) (hW := hW) (e_ln := e_ln) (e_le := e_le) (e_at0 := e_at0) (e_fk := e_fk) (e_op0 := e_op0) (e_nd := e_nd) (e_tk0 := e_tk0) (e_li := e_li) (e_ec := e_ec) (i_SV := i_SV) (p_0 := p_0) (p_1 := p_1) (p_2 := p_2) (p_3 := p_3) (p_4 := p_4) L1053 G1009 A1010 (one) (r1011) (at2_1012) (tk2_1016) (fk2_1013) (nd2_1015) (op2_1014) (ec2_1017) gL1053_0 gL1053_1 gL1053_2 hW1018 hF1035 hP1036 ((e1022)) ((e1026)) ((e1023)) ((e1025)) ((e1024)) (e1027) (((hF1019.1 9 rfl).trans ((hF996.1 9 rfl).trans (fx_9)))) (by omega) (by omega) (by omega) (by omega) (by omega) (by omega) (by omega) (by omega) (by omega) (by omega)
      · have _q : True := trivial
        refine jx_ld (pc' := 285) (l' := jSto1 L1007 2 (.int (i32 (r1011)))) (st' := []) rfl rfl ?_
        obtain ⟨L1055, eL1055⟩ : ∃ q, q = jSto1 L1007 2 (.int (i32 (r1011))) := ⟨_, rfl⟩
        rw [← eL1055]
        have gL1055_0 : jGet L1055 0 = some (.ref 66) := eL1055 ▸ jg_ne (by decide) gL1007_0 rfl
        have gL1055_6 : jGet L1055 6 = some (.int (i32 (0))) := eL1055 ▸ jg_ne (by decide) gL1007_6 rfl
        have gL1055_7 : jGet L1055 7 = some (.int (i32 (0))) := eL1055 ▸ jg_ne (by decide) gL1007_7 rfl
        have gL1055_5 : jGet L1055 5 = some (.int (i32 (0))) := eL1055 ▸ jg_ne (by decide) gL1007_5 rfl
        have gL1055_1 : jGet L1055 1 = some (.int (i32 (one))) := eL1055 ▸ jg_ne (by decide) gL1007_1 rfl
        have gL1055_4 : jGet L1055 4 = some (.int (i32 (s))) := eL1055 ▸ jg_ne (by decide) gL1007_4 rfl
        have gL1055_10 : jGet L1055 10 = some (.int (i32 (nd1))) := eL1055 ▸ jg_ne (by decide) gL1007_10 rfl
        have gL1055_2 : jGet L1055 2 = some (.int (i32 (r1011))) := eL1055 ▸ jg_eq
        refine jx_go (tg := 293) rfl rfl ?_
        have z1056 := tz_f (tk2_1016)
        exact c_readGuard_w_at_293 (X := X) (d := d) (Vs := Vs) (sb := sb) (c0 := c0) (c1 := c1) (G := G) (A := A) (T := T) (ln := ln) (le := le) (at0 := at0) (fk := fk) (op0 := op0) (nd := nd) (tk0 := tk0) (li := li) (ec := ec) (hd := hd) (hW := hW) (e_ln := e_ln) (e_le := e_le) (e_at0 := e_at0) (e_fk := e_fk) (e_op0 := e_op0) (e_nd := e_nd) (e_tk0 := e_tk0) (e_li := e_li) (e_ec := e_ec) (i_SV := i_SV) (p_0 := p_0) (p_1 := p_1) (p_2 := p_2) (p_3 := p_3) (p_4 := p_4) L1055 G1009 A1010 (one) (r1011) (at2_1012) (tk2_1016) (fk2_1013) (nd2_1015) (op2_1014) (ec2_1017) gL1055_0 gL1055_1 gL1055_2 hW1018 hF1035 hP1036 ((e1022)) ((e1026)) ((e1023)) ((e1025)) ((e1024)) (e1027) (((hF1019.1 9 rfl).trans ((hF996.1 9 rfl).trans (fx_9)))) (by omega) (by omega) (by omega) (by omega) (by omega) (by omega) (by omega) (by omega) (by omega) (by omega) (by omega) (sf1037) ((wE_mono (by omega) (by omega) (by omega) a1051)) (by omega) (by omega)
    · have _q := h1008
      exact absurd h1008 (by omega)
  · have _q := h990
    exact absurd h990 (by omega)
set_option maxRecDepth 20000 in
set_option maxHeartbeats 4000000 in
theorem c_readGuard_w_at_157_1_1 {X : jX} {d : Nat} {Vs : Nat → Prop} {sb : Int} {c0 c1 : jC} {G : Nat → Int} {A : Nat → Nat → Int} {T : jH} {ln le at0 fk op0 nd tk0 li ec : Int} (hd : 71 ≤ d + 1) (hW : Wk G A) (e_ln : G 9 = ln) (e_le : A 4 (ln).toNat = le) (e_at0 : G 10 = at0) (e_fk : G 16 = fk) (e_op0 : G 15 = op0) (e_nd : G 31 = nd) (e_tk0 : G 11 = tk0) (e_li : G 3 = li) (e_ec : ecn A (G 31) = ec) (i_SV : SV Vs sb G A) (p_0 : 0 ≤ op0 ∧ op0 ≤ 8) (p_1 : fk = 0) (p_2 : nd ≤ 2 * at0 - tz tk0 + 42) (p_3 : at0 ≤ le) (p_4 : ln < li) : ∀ (L : jL) (Gx : Nat → Int) (Ax : Nat → Nat → Int) (one pl s ix at1 tk1 fk1 nd1 op1 ks ec1 : Int), jGet L 0 = some (.ref 66) → jGet L 6 = some (.int (i32 (1))) → jGet L 7 = some (.int (i32 (1))) → jGet L 8 = some (.int (i32 (ks))) → jGet L 1 = some (.int (i32 one)) → jGet L 3 = some (.int (i32 pl)) → jGet L 4 = some (.int (i32 s)) → jGet L 5 = some (.int (i32 ix)) → Wk Gx Ax → Fr [9, 10, 11, 12, 13, 14, 15, 16, 17, 18, 31] [15, 16, 17, 18, 19, 20, 21, 22, 24, 28] G A Gx Ax → Pf nd A Ax → Gx 10 = at1 → Gx 11 = tk1 → Gx 16 = fk1 → Gx 31 = nd1 → Gx 15 = op1 → Ax 7 (s).toNat = ks → ecn Ax (Gx 31) = ec1 → Gx 9 = ln → ((-2147483648 : Int) ≤ one ∧ one ≤ 2147483647) → ((-2147483648 : Int) ≤ pl ∧ pl ≤ 2147483647) → ((-2147483648 : Int) ≤ s ∧ s ≤ 2147483647) → ((-2147483648 : Int) ≤ ix ∧ ix ≤ 2147483647) → (at0 ≤ at1) → (at1 ≤ le) → (nd ≤ nd1) → (op1 = op0) → (one = nd) → (one ≤ 6998 ∧ one < nd1) → (fk1 = 0) → (nd1 - nd ≤ (2 * at1 - tz tk1) - (2 * at0 - tz tk0)) → (0 ≤ s ∧ s ≤ 201) → (-3000 ≤ pl ∧ pl ≤ 3002) → (SY Vs sb (s)) → (ND Ax (one) (33) (0) (0) (0) (0) (0) (0)) → (tz tk1 = 1) → (wE Ax Vs sb (20) (ix) (one + 1) (nd1)) → (nd + 5 * ec ≤ nd1 - 5 - tz tk1) → (nd1 - nd + 5 * (ec1 - ec) ≤ (2 * at1 - tz tk1) - (2 * at0 - tz tk0) - 5 - tz tk1) → wj X d jm303 (157, L, [], rV c0 c1 Gx Ax T) (fun o V' => ∃ (G' : Nat → Int) (A' : Nat → Nat → Int) (r : Int) (at2 : Int) (fk2 : Int) (nd2 : Int) (ln2 : Int) (ec2 : Int), V' = rV c0 c1 G' A' T ∧ o = .inl (some (.int (i32 r))) ∧ Wk G' A' ∧ Fr [9, 10, 11, 12, 13, 14, 15, 16, 17, 18, 31] [15, 16, 17, 18, 19, 20, 21, 22, 24, 28] G A G' A' ∧ Pf nd A A' ∧ ((-2147483648 : Int) ≤ r ∧ r ≤ 2147483647) ∧ G' 10 = at2 ∧ G' 16 = fk2 ∧ G' 31 = nd2 ∧ G' 9 = ln2 ∧ ecn A' (G' 31) = ec2 ∧ (at0 ≤ at2) ∧ (at2 ≤ le) ∧ (nd ≤ nd2) ∧ (0 ≤ r) ∧ (r ≤ nd2) ∧ (((1 ≤ fk2) ∧ (ln2 = ln) ∧ (nd2 - nd ≤ 2 * at2 - 2 * at0 + 12)) ∨ ((fk2 = 0) ∧ (ln2 = ln + 1) ∧ (nd2 - nd ≤ 2 * at2 - (2 * at0 - tz tk0) + 0) ∧ (nd ≤ r) ∧ (r < nd2) ∧ (wU A' Vs sb (r) (nd) (nd2)) ∧ (NX A' (r)) ∧ (nd2 - nd + 5 * (ec2 - ec) ≤ 2 * at2 - (2 * at0 - tz tk0) + 0) ∧ (nd + 5 * ec ≤ r)))) := by
  have hF0 : Fr [9, 10, 11, 12, 13, 14, 15, 16, 17, 18, 31] [15, 16, 17, 18, 19, 20, 21, 22, 24, 28] G A G A := Fr_rf
  have hP0 : Pf nd A A := Pf_rf
  have b_ln : (0 : Int) ≤ ln ∧ ln ≤ 3000 := e_ln ▸ hW.1 9
  have b_le : (0 : Int) ≤ le ∧ le ≤ 3000 := e_le ▸ hW.2 4 _
  have b_at0 : (0 : Int) ≤ at0 ∧ at0 ≤ 3002 := e_at0 ▸ hW.1 10
  have b_fk : (0 : Int) ≤ fk ∧ fk ≤ 6 := e_fk ▸ hW.1 16
  have b_op0 : (-2147483648 : Int) ≤ op0 ∧ op0 ≤ 2147483647 := e_op0 ▸ hW.1 15
  have b_nd : (0 : Int) ≤ nd ∧ nd ≤ 6999 := e_nd ▸ hW.1 31
  have z_tk0 := tz_f tk0
  have b_tk0 : (0 : Int) ≤ tk0 ∧ tk0 ≤ 5 := e_tk0 ▸ hW.1 11
  have b_li : (0 : Int) ≤ li ∧ li ≤ 3000 := e_li ▸ hW.1 3
  intro L Gx Ax one pl s ix at1 tk1 fk1 nd1 op1 ks ec1 gL_0 gL_6 gL_7 gL_8 gL_1 gL_3 gL_4 gL_5 hWx hFx hPx ex_at1 ex_tk1 ex_fk1 ex_nd1 ex_op1 ex_ks ex_ec1 fx_9 rx_one rx_pl rx_s rx_ix iv_0 iv_1 iv_2 iv_3 iv_4 iv_5 iv_6 iv_7 iv_8 iv_9 iv_10 iv_11 iv_12 iv_13 iv_14 iv_15
  have b_at1 : (0 : Int) ≤ at1 ∧ at1 ≤ 3002 := ex_at1 ▸ hWx.1 10
  have z_tk1 := tz_f tk1
  have b_tk1 : (0 : Int) ≤ tk1 ∧ tk1 ≤ 5 := ex_tk1 ▸ hWx.1 11
  have b_fk1 : (0 : Int) ≤ fk1 ∧ fk1 ≤ 6 := ex_fk1 ▸ hWx.1 16
  have b_nd1 : (0 : Int) ≤ nd1 ∧ nd1 ≤ 6999 := ex_nd1 ▸ hWx.1 31
  have b_op1 : (-2147483648 : Int) ≤ op1 ∧ op1 ≤ 2147483647 := ex_op1 ▸ hWx.1 15
  have b_ks : (0 : Int) ≤ ks ∧ ks ≤ 14 := ex_ks ▸ hWx.2 7 _
  refine jx_ld (pc' := 159) (l' := L) (st' := [.int (i32 (1))]) rfl (jl_iload gL_7) ?_
  refine jx_if_eq (pc' := 162) (tg := 189) rfl rfl rfl (by decide) (by decide) (fun h1057 => ?_) (fun h1057 => ?_)
  · have _q := h1057
    exact absurd h1057 (by omega)
  · have _q := h1057
    refine jx_ld (pc' := 164) (l' := L) (st' := [.int (i32 (1))]) rfl (jl_iload gL_6) ?_
    refine jx_if_eq (pc' := 167) (tg := 181) rfl rfl rfl (by decide) (by decide) (fun h1058 => ?_) (fun h1058 => ?_)
    · have _q := h1058
      exact absurd h1058 (by omega)
    · have _q := h1058
      refine jx_ld (pc' := 169) (l' := L) (st' := [.int (i32 (ks))]) rfl (jl_iload gL_8) ?_
      refine jx_ar (pc' := 170) (st' := [.int (i32 (4)), .int (i32 (ks))]) rfl rfl rfl rfl ?_
      refine jx_icmp_ne (pc' := 173) (tg := 177) rfl rfl rfl (Int.le_trans (by decide : (-2147483648 : Int) ≤ 0) b_ks.1) (Int.le_trans b_ks.2 (by decide : (14 : Int) ≤ 2147483647)) (by decide) (by decide) (fun h1059 => ?_) (fun h1059 => ?_)
      · have _q := h1059
        refine jx_ar (pc' := 178) (st' := [.int (i32 (0))]) rfl rfl rfl rfl ?_
        refine jx_go (tg := 207) rfl rfl ?_
        refine jx_ld (pc' := 209) (l' := jSto1 L 9 (.int (i32 (0)))) (st' := []) rfl rfl ?_
        obtain ⟨L1060, eL1060⟩ : ∃ q, q = jSto1 L 9 (.int (i32 (0))) := ⟨_, rfl⟩
        rw [← eL1060]
        have gL1060_0 : jGet L1060 0 = some (.ref 66) := eL1060 ▸ jg_ne (by decide) gL_0 rfl
        have gL1060_6 : jGet L1060 6 = some (.int (i32 (1))) := eL1060 ▸ jg_ne (by decide) gL_6 rfl
        have gL1060_7 : jGet L1060 7 = some (.int (i32 (1))) := eL1060 ▸ jg_ne (by decide) gL_7 rfl
        have gL1060_8 : jGet L1060 8 = some (.int (i32 (ks))) := eL1060 ▸ jg_ne (by decide) gL_8 rfl
        have gL1060_1 : jGet L1060 1 = some (.int (i32 (one))) := eL1060 ▸ jg_ne (by decide) gL_1 rfl
        have gL1060_3 : jGet L1060 3 = some (.int (i32 (pl))) := eL1060 ▸ jg_ne (by decide) gL_3 rfl
        have gL1060_4 : jGet L1060 4 = some (.int (i32 (s))) := eL1060 ▸ jg_ne (by decide) gL_4 rfl
        have gL1060_5 : jGet L1060 5 = some (.int (i32 (ix))) := eL1060 ▸ jg_ne (by decide) gL_5 rfl
        have gL1060_9 : jGet L1060 9 = some (.int (i32 (0))) := eL1060 ▸ jg_eq
        refine jx_ld (pc' := 211) (l' := L1060) (st' := [.int (i32 (0))]) rfl (jl_iload gL1060_9) ?_
        refine jx_if_ne (pc' := 214) (tg := 222) rfl rfl rfl (by decide) (by decide) (fun h1061 => ?_) (fun h1061 => ?_)
        · have _q := h1061
          exact absurd h1061 (by omega)
        · have _q := h1061
          refine jx_ld (pc' := 215) (l' := L1060) (st' := [.ref 66]) rfl (jl_aloadn gL1060_0) ?_
          refine jx_ar (pc' := 216) (st' := [.int (i32 (4)), .ref 66]) rfl rfl rfl rfl ?_
          refine jx_ld (pc' := 217) (l' := L1060) (st' := [.int (i32 (pl)), .int (i32 (4)), .ref 66]) rfl (jl_iloadn gL1060_3) ?_
          refine jx_vr (pc' := 220) (as := [.int (i32 (4)), .int (i32 (pl))]) (st := []) rfl rfl rfl rfl ⟨rfl, rfl, Nat.le_of_ble_eq_true rfl⟩ rfl rfl (c_fail (dd := d) (hd := by omega) (hW := hWx) (kind := 4) (place := pl) (fk := fk1) (e_fk := show Gx 16 = fk1 from (ex_fk1))  (h_kind := ⟨(by decide), (by decide)⟩) (h_place := ⟨(Int.le_trans (by decide : (-2147483648 : Int) ≤ -2147483648) rx_pl.1), (Int.le_trans rx_pl.2 (by decide : (2147483647 : Int) ≤ 2147483647))⟩)  (p_0 := by omega) (p_1 := by omega)) (fun o V' hq => ?_)
          obtain ⟨G1062, A1063, fk2_1064, rfl, rfl, hW1065, hF1066, e1067, p1068, -⟩ := hq
          have hF1070 := Fr_tr hFx hF1066 (Fr_sub (by decide)) (Fr_sub (by decide))
          have hP1071 := Pf_f hPx hF1066 (by decide)
          have sf1072 : ND A1063 (one) (33) (0) (0) (0) (0) (0) (0) := ND_ag (by omega) (Ag_fr hF1066 (by decide)) iv_11
          have sf1073 : wE A1063 Vs sb (20) (ix) (one + 1) (nd1) := wE_ag (by omega) (Sg_fr hF1066 (by decide)) (Ag_fr hF1066 (by decide)) iv_13
          have ec1074 : ecn A1063 (G1062 31) = ec1 := (ecn_f (hF1066.2 15 rfl) (hF1066.1 31 rfl)).trans ex_ec1
          have bfk2_1064 : (0 : Int) ≤ fk2_1064 ∧ fk2_1064 ≤ 6 := e1067 ▸ hW1065.1 16
          refine .inl ⟨rfl, ?_⟩
          refine jx_ar (pc' := 221) (st' := [.int (i32 (0))]) rfl rfl rfl rfl ?_
          refine jx_rt (v := some (.int (i32 (0)))) rfl rfl rfl rfl rfl rfl ?_
          exact ⟨_, _, _, at1, fk2_1064, nd1, ln, ec1, rfl, rfl, hW1065, hF1070, hP1071, by omega, ((hF1066.1 10 rfl).trans (ex_at1)), (e1067), ((hF1066.1 31 rfl).trans (ex_nd1)), ((hF1066.1 9 rfl).trans (fx_9)), ec1074, by omega, by omega, by omega, by omega, by omega, by first | exact Or.inl (⟨by omega, by omega, by omega⟩)⟩
      · have _q := h1059
        refine jx_ar (pc' := 174) (st' := [.int (i32 (1))]) rfl rfl rfl rfl ?_
        refine jx_go (tg := 207) rfl rfl ?_
        refine jx_ld (pc' := 209) (l' := jSto1 L 9 (.int (i32 (1)))) (st' := []) rfl rfl ?_
        obtain ⟨L1075, eL1075⟩ : ∃ q, q = jSto1 L 9 (.int (i32 (1))) := ⟨_, rfl⟩
        rw [← eL1075]
        have gL1075_0 : jGet L1075 0 = some (.ref 66) := eL1075 ▸ jg_ne (by decide) gL_0 rfl
        have gL1075_6 : jGet L1075 6 = some (.int (i32 (1))) := eL1075 ▸ jg_ne (by decide) gL_6 rfl
        have gL1075_7 : jGet L1075 7 = some (.int (i32 (1))) := eL1075 ▸ jg_ne (by decide) gL_7 rfl
        have gL1075_8 : jGet L1075 8 = some (.int (i32 (ks))) := eL1075 ▸ jg_ne (by decide) gL_8 rfl
        have gL1075_1 : jGet L1075 1 = some (.int (i32 (one))) := eL1075 ▸ jg_ne (by decide) gL_1 rfl
        have gL1075_3 : jGet L1075 3 = some (.int (i32 (pl))) := eL1075 ▸ jg_ne (by decide) gL_3 rfl
        have gL1075_4 : jGet L1075 4 = some (.int (i32 (s))) := eL1075 ▸ jg_ne (by decide) gL_4 rfl
        have gL1075_5 : jGet L1075 5 = some (.int (i32 (ix))) := eL1075 ▸ jg_ne (by decide) gL_5 rfl
        have gL1075_9 : jGet L1075 9 = some (.int (i32 (1))) := eL1075 ▸ jg_eq
        refine jx_ld (pc' := 211) (l' := L1075) (st' := [.int (i32 (1))]) rfl (jl_iload gL1075_9) ?_
        refine jx_if_ne (pc' := 214) (tg := 222) rfl rfl rfl (by decide) (by decide) (fun h1076 => ?_) (fun h1076 => ?_)
        · have _q := h1076
          have z1077 := tz_f (tk1)
          exact c_readGuard_w_at_222_1_1 (X := X) (d := d) (Vs := Vs) (sb := sb) (c0 := c0) (c1 := c1) (G := G) (A := A) (T := T) (ln := ln) (le := le) (at0 := at0) (fk := fk) (op0 := op0) (nd := nd) (tk0 := tk0) (li := li) (ec := ec) (hd := hd) (hW := hW) (e_ln := e_ln) (e_le := e_le) (e_at0 := e_at0) (e_fk := e_fk) (e_op0 := e_op0) (e_nd := e_nd) (e_tk0 := e_tk0) (e_li := e_li) (e_ec := e_ec) (i_SV := i_SV) (p_0 := p_0) (p_1 := p_1) (p_2 := p_2) (p_3 := p_3) (p_4 := p_4) L1075 Gx Ax (one) (s) (ix) (at1) (tk1) (fk1) (nd1) (op1) (ks) (ec1) gL1075_0 gL1075_6 gL1075_7 gL1075_1 gL1075_4 gL1075_5 hWx hFx hPx ((ex_at1)) ((ex_tk1)) ((ex_fk1)) ((ex_nd1)) ((ex_op1)) ((ex_ks)) (ex_ec1) ((fx_9)) (by omega) (by omega) (by omega) (by omega) (by omega) (by omega) (by omega) (by omega) (by omega) (by omega) (by omega) (by omega) (iv_10) (iv_11) (by omega) (by omega) (iv_13) (by omega) (by omega)
        · have _q := h1076
          exact absurd h1076 (by omega)
set_option maxRecDepth 20000 in
set_option maxHeartbeats 4000000 in
theorem c_readGuard_w_at_157_1_0 {X : jX} {d : Nat} {Vs : Nat → Prop} {sb : Int} {c0 c1 : jC} {G : Nat → Int} {A : Nat → Nat → Int} {T : jH} {ln le at0 fk op0 nd tk0 li ec : Int} (hd : 71 ≤ d + 1) (hW : Wk G A) (e_ln : G 9 = ln) (e_le : A 4 (ln).toNat = le) (e_at0 : G 10 = at0) (e_fk : G 16 = fk) (e_op0 : G 15 = op0) (e_nd : G 31 = nd) (e_tk0 : G 11 = tk0) (e_li : G 3 = li) (e_ec : ecn A (G 31) = ec) (i_SV : SV Vs sb G A) (p_0 : 0 ≤ op0 ∧ op0 ≤ 8) (p_1 : fk = 0) (p_2 : nd ≤ 2 * at0 - tz tk0 + 42) (p_3 : at0 ≤ le) (p_4 : ln < li) : ∀ (L : jL) (Gx : Nat → Int) (Ax : Nat → Nat → Int) (one pl s ix at1 tk1 fk1 nd1 op1 ks ec1 : Int), jGet L 0 = some (.ref 66) → jGet L 6 = some (.int (i32 (1))) → jGet L 7 = some (.int (i32 (0))) → jGet L 8 = some (.int (i32 (ks))) → jGet L 1 = some (.int (i32 one)) → jGet L 3 = some (.int (i32 pl)) → jGet L 4 = some (.int (i32 s)) → jGet L 5 = some (.int (i32 ix)) → Wk Gx Ax → Fr [9, 10, 11, 12, 13, 14, 15, 16, 17, 18, 31] [15, 16, 17, 18, 19, 20, 21, 22, 24, 28] G A Gx Ax → Pf nd A Ax → Gx 10 = at1 → Gx 11 = tk1 → Gx 16 = fk1 → Gx 31 = nd1 → Gx 15 = op1 → Ax 7 (s).toNat = ks → ecn Ax (Gx 31) = ec1 → Gx 9 = ln → ((-2147483648 : Int) ≤ one ∧ one ≤ 2147483647) → ((-2147483648 : Int) ≤ pl ∧ pl ≤ 2147483647) → ((-2147483648 : Int) ≤ s ∧ s ≤ 2147483647) → ((-2147483648 : Int) ≤ ix ∧ ix ≤ 2147483647) → (at0 ≤ at1) → (at1 ≤ le) → (nd ≤ nd1) → (op1 = op0) → (one = nd) → (one ≤ 6998 ∧ one < nd1) → (fk1 = 0) → (nd1 - nd ≤ (2 * at1 - tz tk1) - (2 * at0 - tz tk0)) → (0 ≤ s ∧ s ≤ 201) → (-3000 ≤ pl ∧ pl ≤ 3002) → (SY Vs sb (s)) → (ND Ax (one) (33) (0) (0) (0) (0) (0) (0)) → (wE Ax Vs sb (20) (ix) (one + 1) (nd1)) → (nd + 5 * ec ≤ nd1 - 5 - tz tk1) → (nd1 - nd + 5 * (ec1 - ec) ≤ (2 * at1 - tz tk1) - (2 * at0 - tz tk0) - 5 - tz tk1) → wj X d jm303 (157, L, [], rV c0 c1 Gx Ax T) (fun o V' => ∃ (G' : Nat → Int) (A' : Nat → Nat → Int) (r : Int) (at2 : Int) (fk2 : Int) (nd2 : Int) (ln2 : Int) (ec2 : Int), V' = rV c0 c1 G' A' T ∧ o = .inl (some (.int (i32 r))) ∧ Wk G' A' ∧ Fr [9, 10, 11, 12, 13, 14, 15, 16, 17, 18, 31] [15, 16, 17, 18, 19, 20, 21, 22, 24, 28] G A G' A' ∧ Pf nd A A' ∧ ((-2147483648 : Int) ≤ r ∧ r ≤ 2147483647) ∧ G' 10 = at2 ∧ G' 16 = fk2 ∧ G' 31 = nd2 ∧ G' 9 = ln2 ∧ ecn A' (G' 31) = ec2 ∧ (at0 ≤ at2) ∧ (at2 ≤ le) ∧ (nd ≤ nd2) ∧ (0 ≤ r) ∧ (r ≤ nd2) ∧ (((1 ≤ fk2) ∧ (ln2 = ln) ∧ (nd2 - nd ≤ 2 * at2 - 2 * at0 + 12)) ∨ ((fk2 = 0) ∧ (ln2 = ln + 1) ∧ (nd2 - nd ≤ 2 * at2 - (2 * at0 - tz tk0) + 0) ∧ (nd ≤ r) ∧ (r < nd2) ∧ (wU A' Vs sb (r) (nd) (nd2)) ∧ (NX A' (r)) ∧ (nd2 - nd + 5 * (ec2 - ec) ≤ 2 * at2 - (2 * at0 - tz tk0) + 0) ∧ (nd + 5 * ec ≤ r)))) := by
  have hF0 : Fr [9, 10, 11, 12, 13, 14, 15, 16, 17, 18, 31] [15, 16, 17, 18, 19, 20, 21, 22, 24, 28] G A G A := Fr_rf
  have hP0 : Pf nd A A := Pf_rf
  have b_ln : (0 : Int) ≤ ln ∧ ln ≤ 3000 := e_ln ▸ hW.1 9
  have b_le : (0 : Int) ≤ le ∧ le ≤ 3000 := e_le ▸ hW.2 4 _
  have b_at0 : (0 : Int) ≤ at0 ∧ at0 ≤ 3002 := e_at0 ▸ hW.1 10
  have b_fk : (0 : Int) ≤ fk ∧ fk ≤ 6 := e_fk ▸ hW.1 16
  have b_op0 : (-2147483648 : Int) ≤ op0 ∧ op0 ≤ 2147483647 := e_op0 ▸ hW.1 15
  have b_nd : (0 : Int) ≤ nd ∧ nd ≤ 6999 := e_nd ▸ hW.1 31
  have z_tk0 := tz_f tk0
  have b_tk0 : (0 : Int) ≤ tk0 ∧ tk0 ≤ 5 := e_tk0 ▸ hW.1 11
  have b_li : (0 : Int) ≤ li ∧ li ≤ 3000 := e_li ▸ hW.1 3
  intro L Gx Ax one pl s ix at1 tk1 fk1 nd1 op1 ks ec1 gL_0 gL_6 gL_7 gL_8 gL_1 gL_3 gL_4 gL_5 hWx hFx hPx ex_at1 ex_tk1 ex_fk1 ex_nd1 ex_op1 ex_ks ex_ec1 fx_9 rx_one rx_pl rx_s rx_ix iv_0 iv_1 iv_2 iv_3 iv_4 iv_5 iv_6 iv_7 iv_8 iv_9 iv_10 iv_11 iv_12 iv_13 iv_14
  have b_at1 : (0 : Int) ≤ at1 ∧ at1 ≤ 3002 := ex_at1 ▸ hWx.1 10
  have z_tk1 := tz_f tk1
  have b_tk1 : (0 : Int) ≤ tk1 ∧ tk1 ≤ 5 := ex_tk1 ▸ hWx.1 11
  have b_fk1 : (0 : Int) ≤ fk1 ∧ fk1 ≤ 6 := ex_fk1 ▸ hWx.1 16
  have b_nd1 : (0 : Int) ≤ nd1 ∧ nd1 ≤ 6999 := ex_nd1 ▸ hWx.1 31
  have b_op1 : (-2147483648 : Int) ≤ op1 ∧ op1 ≤ 2147483647 := ex_op1 ▸ hWx.1 15
  have b_ks : (0 : Int) ≤ ks ∧ ks ≤ 14 := ex_ks ▸ hWx.2 7 _
  refine jx_ld (pc' := 159) (l' := L) (st' := [.int (i32 (0))]) rfl (jl_iload gL_7) ?_
  refine jx_if_eq (pc' := 162) (tg := 189) rfl rfl rfl (by decide) (by decide) (fun h1078 => ?_) (fun h1078 => ?_)
  · have _q := h1078
    refine jx_ld (pc' := 191) (l' := L) (st' := [.int (i32 (1))]) rfl (jl_iload gL_6) ?_
    refine jx_if_eq (pc' := 194) (tg := 202) rfl rfl rfl (by decide) (by decide) (fun h1079 => ?_) (fun h1079 => ?_)
    · have _q := h1079
      exact absurd h1079 (by omega)
    · have _q := h1079
      refine jx_ld (pc' := 196) (l' := L) (st' := [.int (i32 (ks))]) rfl (jl_iload gL_8) ?_
      refine jx_st (pc' := 199) (as := [.int (i32 (ks))]) (st := []) rfl rfl ⟨rfl, Nat.le_of_ble_eq_true rfl⟩ rfl rfl rfl (c_isArray (dd := d) (hd := by omega) (k := ks)   (h_k := ⟨(Int.le_trans (by decide : (-2147483648 : Int) ≤ 0) b_ks.1), (Int.le_trans b_ks.2 (by decide : (14 : Int) ≤ 2147483647))⟩)  ) (fun o V' hq => ?_)
      obtain ⟨r1080, rfl, rfl, b1081, q1082⟩ := hq
      refine .inr ⟨_, rfl, ?_⟩
      rcases q1082 with ⟨rfl, a1083⟩ | rfl
      · have _q : True := trivial
        refine jx_go (tg := 207) rfl rfl ?_
        refine jx_ld (pc' := 209) (l' := jSto1 L 9 (.int (i32 (1)))) (st' := []) rfl rfl ?_
        obtain ⟨L1084, eL1084⟩ : ∃ q, q = jSto1 L 9 (.int (i32 (1))) := ⟨_, rfl⟩
        rw [← eL1084]
        have gL1084_0 : jGet L1084 0 = some (.ref 66) := eL1084 ▸ jg_ne (by decide) gL_0 rfl
        have gL1084_6 : jGet L1084 6 = some (.int (i32 (1))) := eL1084 ▸ jg_ne (by decide) gL_6 rfl
        have gL1084_7 : jGet L1084 7 = some (.int (i32 (0))) := eL1084 ▸ jg_ne (by decide) gL_7 rfl
        have gL1084_8 : jGet L1084 8 = some (.int (i32 (ks))) := eL1084 ▸ jg_ne (by decide) gL_8 rfl
        have gL1084_1 : jGet L1084 1 = some (.int (i32 (one))) := eL1084 ▸ jg_ne (by decide) gL_1 rfl
        have gL1084_3 : jGet L1084 3 = some (.int (i32 (pl))) := eL1084 ▸ jg_ne (by decide) gL_3 rfl
        have gL1084_4 : jGet L1084 4 = some (.int (i32 (s))) := eL1084 ▸ jg_ne (by decide) gL_4 rfl
        have gL1084_5 : jGet L1084 5 = some (.int (i32 (ix))) := eL1084 ▸ jg_ne (by decide) gL_5 rfl
        have gL1084_9 : jGet L1084 9 = some (.int (i32 (1))) := eL1084 ▸ jg_eq
        refine jx_ld (pc' := 211) (l' := L1084) (st' := [.int (i32 (1))]) rfl (jl_iload gL1084_9) ?_
        refine jx_if_ne (pc' := 214) (tg := 222) rfl rfl rfl (by decide) (by decide) (fun h1085 => ?_) (fun h1085 => ?_)
        · have _q := h1085
          have z1086 := tz_f (tk1)
          exact c_readGuard_w_at_222_1_0 (X := X) (d := d) (Vs := Vs) (sb := sb) (c0 := c0) (c1 := c1) (G := G) (A := A) (T := T) (ln := ln) (le := le) (at0 := at0) (fk := fk) (op0 := op0) (nd := nd) (tk0 := tk0) (li := li) (ec := ec) (hd := hd) (hW := hW) (e_ln := e_ln) (e_le := e_le) (e_at0 := e_at0) (e_fk := e_fk) (e_op0 := e_op0) (e_nd := e_nd) (e_tk0 := e_tk0) (e_li := e_li) (e_ec := e_ec) (i_SV := i_SV) (p_0 := p_0) (p_1 := p_1) (p_2 := p_2) (p_3 := p_3) (p_4 := p_4) L1084 Gx Ax (one) (s) (ix) (at1) (tk1) (fk1) (nd1) (op1) (ks) (ec1) gL1084_0 gL1084_6 gL1084_7 gL1084_1 gL1084_4 gL1084_5 hWx hFx hPx ((ex_at1)) ((ex_tk1)) ((ex_fk1)) ((ex_nd1)) ((ex_op1)) ((ex_ks)) (ex_ec1) ((fx_9)) (by omega) (by omega) (by omega) (by omega) (by omega) (by omega) (by omega) (by omega) (by omega) (by omega) (by omega) (by omega) (iv_10) (iv_11) (a1083) (iv_12) (by omega) (by omega)
        · have _q := h1085
          exact absurd h1085 (by omega)
      · have _q : True := trivial
        refine jx_go (tg := 207) rfl rfl ?_
        refine jx_ld (pc' := 209) (l' := jSto1 L 9 (.int (i32 (0)))) (st' := []) rfl rfl ?_
        obtain ⟨L1087, eL1087⟩ : ∃ q, q = jSto1 L 9 (.int (i32 (0))) := ⟨_, rfl⟩
        rw [← eL1087]
        have gL1087_0 : jGet L1087 0 = some (.ref 66) := eL1087 ▸ jg_ne (by decide) gL_0 rfl
        have gL1087_6 : jGet L1087 6 = some (.int (i32 (1))) := eL1087 ▸ jg_ne (by decide) gL_6 rfl
        have gL1087_7 : jGet L1087 7 = some (.int (i32 (0))) := eL1087 ▸ jg_ne (by decide) gL_7 rfl
        have gL1087_8 : jGet L1087 8 = some (.int (i32 (ks))) := eL1087 ▸ jg_ne (by decide) gL_8 rfl
        have gL1087_1 : jGet L1087 1 = some (.int (i32 (one))) := eL1087 ▸ jg_ne (by decide) gL_1 rfl
        have gL1087_3 : jGet L1087 3 = some (.int (i32 (pl))) := eL1087 ▸ jg_ne (by decide) gL_3 rfl
        have gL1087_4 : jGet L1087 4 = some (.int (i32 (s))) := eL1087 ▸ jg_ne (by decide) gL_4 rfl
        have gL1087_5 : jGet L1087 5 = some (.int (i32 (ix))) := eL1087 ▸ jg_ne (by decide) gL_5 rfl
        have gL1087_9 : jGet L1087 9 = some (.int (i32 (0))) := eL1087 ▸ jg_eq
        refine jx_ld (pc' := 211) (l' := L1087) (st' := [.int (i32 (0))]) rfl (jl_iload gL1087_9) ?_
        refine jx_if_ne (pc' := 214) (tg := 222) rfl rfl rfl (by decide) (by decide) (fun h1088 => ?_) (fun h1088 => ?_)
        · have _q := h1088
          exact absurd h1088 (by omega)
        · have _q := h1088
          refine jx_ld (pc' := 215) (l' := L1087) (st' := [.ref 66]) rfl (jl_aloadn gL1087_0) ?_
          refine jx_ar (pc' := 216) (st' := [.int (i32 (4)), .ref 66]) rfl rfl rfl rfl ?_
          refine jx_ld (pc' := 217) (l' := L1087) (st' := [.int (i32 (pl)), .int (i32 (4)), .ref 66]) rfl (jl_iloadn gL1087_3) ?_
          refine jx_vr (pc' := 220) (as := [.int (i32 (4)), .int (i32 (pl))]) (st := []) rfl rfl rfl rfl ⟨rfl, rfl, Nat.le_of_ble_eq_true rfl⟩ rfl rfl (c_fail (dd := d) (hd := by omega) (hW := hWx) (kind := 4) (place := pl) (fk := fk1) (e_fk := show Gx 16 = fk1 from (ex_fk1))  (h_kind := ⟨(by decide), (by decide)⟩) (h_place := ⟨(Int.le_trans (by decide : (-2147483648 : Int) ≤ -2147483648) rx_pl.1), (Int.le_trans rx_pl.2 (by decide : (2147483647 : Int) ≤ 2147483647))⟩)  (p_0 := by omega) (p_1 := by omega)) (fun o V' hq => ?_)
          obtain ⟨G1089, A1090, fk2_1091, rfl, rfl, hW1092, hF1093, e1094, p1095, -⟩ := hq
          have hF1097 := Fr_tr hFx hF1093 (Fr_sub (by decide)) (Fr_sub (by decide))
          have hP1098 := Pf_f hPx hF1093 (by decide)
          have sf1099 : ND A1090 (one) (33) (0) (0) (0) (0) (0) (0) := ND_ag (by omega) (Ag_fr hF1093 (by decide)) iv_11
          have sf1100 : wE A1090 Vs sb (20) (ix) (one + 1) (nd1) := wE_ag (by omega) (Sg_fr hF1093 (by decide)) (Ag_fr hF1093 (by decide)) iv_12
          have ec1101 : ecn A1090 (G1089 31) = ec1 := (ecn_f (hF1093.2 15 rfl) (hF1093.1 31 rfl)).trans ex_ec1
          have bfk2_1091 : (0 : Int) ≤ fk2_1091 ∧ fk2_1091 ≤ 6 := e1094 ▸ hW1092.1 16
          refine .inl ⟨rfl, ?_⟩
          refine jx_ar (pc' := 221) (st' := [.int (i32 (0))]) rfl rfl rfl rfl ?_
          refine jx_rt (v := some (.int (i32 (0)))) rfl rfl rfl rfl rfl rfl ?_
          exact ⟨_, _, _, at1, fk2_1091, nd1, ln, ec1, rfl, rfl, hW1092, hF1097, hP1098, by omega, ((hF1093.1 10 rfl).trans (ex_at1)), (e1094), ((hF1093.1 31 rfl).trans (ex_nd1)), ((hF1093.1 9 rfl).trans (fx_9)), ec1101, by omega, by omega, by omega, by omega, by omega, by first | exact Or.inl (⟨by omega, by omega, by omega⟩)⟩
  · have _q := h1078
    exact absurd h1078 (by omega)
set_option maxRecDepth 20000 in
set_option maxHeartbeats 4000000 in
theorem c_readGuard_w_at_157_0_1 {X : jX} {d : Nat} {Vs : Nat → Prop} {sb : Int} {c0 c1 : jC} {G : Nat → Int} {A : Nat → Nat → Int} {T : jH} {ln le at0 fk op0 nd tk0 li ec : Int} (hd : 71 ≤ d + 1) (hW : Wk G A) (e_ln : G 9 = ln) (e_le : A 4 (ln).toNat = le) (e_at0 : G 10 = at0) (e_fk : G 16 = fk) (e_op0 : G 15 = op0) (e_nd : G 31 = nd) (e_tk0 : G 11 = tk0) (e_li : G 3 = li) (e_ec : ecn A (G 31) = ec) (i_SV : SV Vs sb G A) (p_0 : 0 ≤ op0 ∧ op0 ≤ 8) (p_1 : fk = 0) (p_2 : nd ≤ 2 * at0 - tz tk0 + 42) (p_3 : at0 ≤ le) (p_4 : ln < li) : ∀ (L : jL) (Gx : Nat → Int) (Ax : Nat → Nat → Int) (one pl s at1 tk1 fk1 nd1 op1 ks ec1 : Int), jGet L 0 = some (.ref 66) → jGet L 6 = some (.int (i32 (0))) → jGet L 7 = some (.int (i32 (1))) → jGet L 8 = some (.int (i32 (ks))) → jGet L 5 = some (.int (i32 (0))) → jGet L 1 = some (.int (i32 one)) → jGet L 3 = some (.int (i32 pl)) → jGet L 4 = some (.int (i32 s)) → Wk Gx Ax → Fr [9, 10, 11, 12, 13, 14, 15, 16, 17, 18, 31] [15, 16, 17, 18, 19, 20, 21, 22, 24, 28] G A Gx Ax → Pf nd A Ax → Gx 10 = at1 → Gx 11 = tk1 → Gx 16 = fk1 → Gx 31 = nd1 → Gx 15 = op1 → Ax 7 (s).toNat = ks → ecn Ax (Gx 31) = ec1 → Gx 9 = ln → ((-2147483648 : Int) ≤ one ∧ one ≤ 2147483647) → ((-2147483648 : Int) ≤ pl ∧ pl ≤ 2147483647) → ((-2147483648 : Int) ≤ s ∧ s ≤ 2147483647) → (at0 ≤ at1) → (at1 ≤ le) → (nd ≤ nd1) → (op1 = op0) → (one = nd) → (one ≤ 6998 ∧ one < nd1) → (fk1 = 0) → (nd1 - nd ≤ (2 * at1 - tz tk1) - (2 * at0 - tz tk0)) → (0 ≤ s ∧ s ≤ 201) → (-3000 ≤ pl ∧ pl ≤ 3002) → (SY Vs sb (s)) → (ND Ax (one) (33) (0) (0) (0) (0) (0) (0)) → (tz tk1 = 1) → (nd + 5 * ec ≤ nd1 - tz tk1) → (nd1 - nd + 5 * (ec1 - ec) ≤ (2 * at1 - tz tk1) - (2 * at0 - tz tk0) - tz tk1) → wj X d jm303 (157, L, [], rV c0 c1 Gx Ax T) (fun o V' => ∃ (G' : Nat → Int) (A' : Nat → Nat → Int) (r : Int) (at2 : Int) (fk2 : Int) (nd2 : Int) (ln2 : Int) (ec2 : Int), V' = rV c0 c1 G' A' T ∧ o = .inl (some (.int (i32 r))) ∧ Wk G' A' ∧ Fr [9, 10, 11, 12, 13, 14, 15, 16, 17, 18, 31] [15, 16, 17, 18, 19, 20, 21, 22, 24, 28] G A G' A' ∧ Pf nd A A' ∧ ((-2147483648 : Int) ≤ r ∧ r ≤ 2147483647) ∧ G' 10 = at2 ∧ G' 16 = fk2 ∧ G' 31 = nd2 ∧ G' 9 = ln2 ∧ ecn A' (G' 31) = ec2 ∧ (at0 ≤ at2) ∧ (at2 ≤ le) ∧ (nd ≤ nd2) ∧ (0 ≤ r) ∧ (r ≤ nd2) ∧ (((1 ≤ fk2) ∧ (ln2 = ln) ∧ (nd2 - nd ≤ 2 * at2 - 2 * at0 + 12)) ∨ ((fk2 = 0) ∧ (ln2 = ln + 1) ∧ (nd2 - nd ≤ 2 * at2 - (2 * at0 - tz tk0) + 0) ∧ (nd ≤ r) ∧ (r < nd2) ∧ (wU A' Vs sb (r) (nd) (nd2)) ∧ (NX A' (r)) ∧ (nd2 - nd + 5 * (ec2 - ec) ≤ 2 * at2 - (2 * at0 - tz tk0) + 0) ∧ (nd + 5 * ec ≤ r)))) := by
  have hF0 : Fr [9, 10, 11, 12, 13, 14, 15, 16, 17, 18, 31] [15, 16, 17, 18, 19, 20, 21, 22, 24, 28] G A G A := Fr_rf
  have hP0 : Pf nd A A := Pf_rf
  have b_ln : (0 : Int) ≤ ln ∧ ln ≤ 3000 := e_ln ▸ hW.1 9
  have b_le : (0 : Int) ≤ le ∧ le ≤ 3000 := e_le ▸ hW.2 4 _
  have b_at0 : (0 : Int) ≤ at0 ∧ at0 ≤ 3002 := e_at0 ▸ hW.1 10
  have b_fk : (0 : Int) ≤ fk ∧ fk ≤ 6 := e_fk ▸ hW.1 16
  have b_op0 : (-2147483648 : Int) ≤ op0 ∧ op0 ≤ 2147483647 := e_op0 ▸ hW.1 15
  have b_nd : (0 : Int) ≤ nd ∧ nd ≤ 6999 := e_nd ▸ hW.1 31
  have z_tk0 := tz_f tk0
  have b_tk0 : (0 : Int) ≤ tk0 ∧ tk0 ≤ 5 := e_tk0 ▸ hW.1 11
  have b_li : (0 : Int) ≤ li ∧ li ≤ 3000 := e_li ▸ hW.1 3
  intro L Gx Ax one pl s at1 tk1 fk1 nd1 op1 ks ec1 gL_0 gL_6 gL_7 gL_8 gL_5 gL_1 gL_3 gL_4 hWx hFx hPx ex_at1 ex_tk1 ex_fk1 ex_nd1 ex_op1 ex_ks ex_ec1 fx_9 rx_one rx_pl rx_s iv_0 iv_1 iv_2 iv_3 iv_4 iv_5 iv_6 iv_7 iv_8 iv_9 iv_10 iv_11 iv_12 iv_13 iv_14
  have b_at1 : (0 : Int) ≤ at1 ∧ at1 ≤ 3002 := ex_at1 ▸ hWx.1 10
  have z_tk1 := tz_f tk1
  have b_tk1 : (0 : Int) ≤ tk1 ∧ tk1 ≤ 5 := ex_tk1 ▸ hWx.1 11
  have b_fk1 : (0 : Int) ≤ fk1 ∧ fk1 ≤ 6 := ex_fk1 ▸ hWx.1 16
  have b_nd1 : (0 : Int) ≤ nd1 ∧ nd1 ≤ 6999 := ex_nd1 ▸ hWx.1 31
  have b_op1 : (-2147483648 : Int) ≤ op1 ∧ op1 ≤ 2147483647 := ex_op1 ▸ hWx.1 15
  have b_ks : (0 : Int) ≤ ks ∧ ks ≤ 14 := ex_ks ▸ hWx.2 7 _
  refine jx_ld (pc' := 159) (l' := L) (st' := [.int (i32 (1))]) rfl (jl_iload gL_7) ?_
  refine jx_if_eq (pc' := 162) (tg := 189) rfl rfl rfl (by decide) (by decide) (fun h1102 => ?_) (fun h1102 => ?_)
  · have _q := h1102
    exact absurd h1102 (by omega)
  · have _q := h1102
    refine jx_ld (pc' := 164) (l' := L) (st' := [.int (i32 (0))]) rfl (jl_iload gL_6) ?_
    refine jx_if_eq (pc' := 167) (tg := 181) rfl rfl rfl (by decide) (by decide) (fun h1103 => ?_) (fun h1103 => ?_)
    · have _q := h1103
      refine jx_ld (pc' := 183) (l' := L) (st' := [.int (i32 (ks))]) rfl (jl_iload gL_8) ?_
      refine jx_st (pc' := 186) (as := [.int (i32 (ks))]) (st := []) rfl rfl ⟨rfl, Nat.le_of_ble_eq_true rfl⟩ rfl rfl rfl (c_isChannel (dd := d) (hd := by omega) (k := ks)   (h_k := ⟨(Int.le_trans (by decide : (-2147483648 : Int) ≤ 0) b_ks.1), (Int.le_trans b_ks.2 (by decide : (14 : Int) ≤ 2147483647))⟩)  ) (fun o V' hq => ?_)
      obtain ⟨r1104, rfl, rfl, b1105, q1106⟩ := hq
      refine .inr ⟨_, rfl, ?_⟩
      rcases q1106 with ⟨rfl, a1107⟩ | rfl
      · have _q : True := trivial
        refine jx_go (tg := 207) rfl rfl ?_
        refine jx_ld (pc' := 209) (l' := jSto1 L 9 (.int (i32 (1)))) (st' := []) rfl rfl ?_
        obtain ⟨L1108, eL1108⟩ : ∃ q, q = jSto1 L 9 (.int (i32 (1))) := ⟨_, rfl⟩
        rw [← eL1108]
        have gL1108_0 : jGet L1108 0 = some (.ref 66) := eL1108 ▸ jg_ne (by decide) gL_0 rfl
        have gL1108_6 : jGet L1108 6 = some (.int (i32 (0))) := eL1108 ▸ jg_ne (by decide) gL_6 rfl
        have gL1108_7 : jGet L1108 7 = some (.int (i32 (1))) := eL1108 ▸ jg_ne (by decide) gL_7 rfl
        have gL1108_8 : jGet L1108 8 = some (.int (i32 (ks))) := eL1108 ▸ jg_ne (by decide) gL_8 rfl
        have gL1108_5 : jGet L1108 5 = some (.int (i32 (0))) := eL1108 ▸ jg_ne (by decide) gL_5 rfl
        have gL1108_1 : jGet L1108 1 = some (.int (i32 (one))) := eL1108 ▸ jg_ne (by decide) gL_1 rfl
        have gL1108_3 : jGet L1108 3 = some (.int (i32 (pl))) := eL1108 ▸ jg_ne (by decide) gL_3 rfl
        have gL1108_4 : jGet L1108 4 = some (.int (i32 (s))) := eL1108 ▸ jg_ne (by decide) gL_4 rfl
        have gL1108_9 : jGet L1108 9 = some (.int (i32 (1))) := eL1108 ▸ jg_eq
        refine jx_ld (pc' := 211) (l' := L1108) (st' := [.int (i32 (1))]) rfl (jl_iload gL1108_9) ?_
        refine jx_if_ne (pc' := 214) (tg := 222) rfl rfl rfl (by decide) (by decide) (fun h1109 => ?_) (fun h1109 => ?_)
        · have _q := h1109
          have z1110 := tz_f (tk1)
          exact c_readGuard_w_at_222_0_1 (X := X) (d := d) (Vs := Vs) (sb := sb) (c0 := c0) (c1 := c1) (G := G) (A := A) (T := T) (ln := ln) (le := le) (at0 := at0) (fk := fk) (op0 := op0) (nd := nd) (tk0 := tk0) (li := li) (ec := ec) (hd := hd) (hW := hW) (e_ln := e_ln) (e_le := e_le) (e_at0 := e_at0) (e_fk := e_fk) (e_op0 := e_op0) (e_nd := e_nd) (e_tk0 := e_tk0) (e_li := e_li) (e_ec := e_ec) (i_SV := i_SV) (p_0 := p_0) (p_1 := p_1) (p_2 := p_2) (p_3 := p_3) (p_4 := p_4) L1108 Gx Ax (one) (s) (at1) (tk1) (fk1) (nd1) (op1) (ks) (ec1) gL1108_0 gL1108_6 gL1108_7 gL1108_5 gL1108_1 gL1108_4 hWx hFx hPx ((ex_at1)) ((ex_tk1)) ((ex_fk1)) ((ex_nd1)) ((ex_op1)) ((ex_ks)) (ex_ec1) ((fx_9)) (by omega) (by omega) (by omega) (by omega) (by omega) (by omega) (by omega) (by omega) (by omega) (by omega) (by omega) (iv_10) (iv_11) (by omega) (a1107) (by omega) (by omega)
        · have _q := h1109
          exact absurd h1109 (by omega)
      · have _q : True := trivial
        refine jx_go (tg := 207) rfl rfl ?_
        refine jx_ld (pc' := 209) (l' := jSto1 L 9 (.int (i32 (0)))) (st' := []) rfl rfl ?_
        obtain ⟨L1111, eL1111⟩ : ∃ q, q = jSto1 L 9 (.int (i32 (0))) := ⟨_, rfl⟩
        rw [← eL1111]
        have gL1111_0 : jGet L1111 0 = some (.ref 66) := eL1111 ▸ jg_ne (by decide) gL_0 rfl
        have gL1111_6 : jGet L1111 6 = some (.int (i32 (0))) := eL1111 ▸ jg_ne (by decide) gL_6 rfl
        have gL1111_7 : jGet L1111 7 = some (.int (i32 (1))) := eL1111 ▸ jg_ne (by decide) gL_7 rfl
        have gL1111_8 : jGet L1111 8 = some (.int (i32 (ks))) := eL1111 ▸ jg_ne (by decide) gL_8 rfl
        have gL1111_5 : jGet L1111 5 = some (.int (i32 (0))) := eL1111 ▸ jg_ne (by decide) gL_5 rfl
        have gL1111_1 : jGet L1111 1 = some (.int (i32 (one))) := eL1111 ▸ jg_ne (by decide) gL_1 rfl
        have gL1111_3 : jGet L1111 3 = some (.int (i32 (pl))) := eL1111 ▸ jg_ne (by decide) gL_3 rfl
        have gL1111_4 : jGet L1111 4 = some (.int (i32 (s))) := eL1111 ▸ jg_ne (by decide) gL_4 rfl
        have gL1111_9 : jGet L1111 9 = some (.int (i32 (0))) := eL1111 ▸ jg_eq
        refine jx_ld (pc' := 211) (l' := L1111) (st' := [.int (i32 (0))]) rfl (jl_iload gL1111_9) ?_
        refine jx_if_ne (pc' := 214) (tg := 222) rfl rfl rfl (by decide) (by decide) (fun h1112 => ?_) (fun h1112 => ?_)
        · have _q := h1112
          exact absurd h1112 (by omega)
        · have _q := h1112
          refine jx_ld (pc' := 215) (l' := L1111) (st' := [.ref 66]) rfl (jl_aloadn gL1111_0) ?_
          refine jx_ar (pc' := 216) (st' := [.int (i32 (4)), .ref 66]) rfl rfl rfl rfl ?_
          refine jx_ld (pc' := 217) (l' := L1111) (st' := [.int (i32 (pl)), .int (i32 (4)), .ref 66]) rfl (jl_iloadn gL1111_3) ?_
          refine jx_vr (pc' := 220) (as := [.int (i32 (4)), .int (i32 (pl))]) (st := []) rfl rfl rfl rfl ⟨rfl, rfl, Nat.le_of_ble_eq_true rfl⟩ rfl rfl (c_fail (dd := d) (hd := by omega) (hW := hWx) (kind := 4) (place := pl) (fk := fk1) (e_fk := show Gx 16 = fk1 from (ex_fk1))  (h_kind := ⟨(by decide), (by decide)⟩) (h_place := ⟨(Int.le_trans (by decide : (-2147483648 : Int) ≤ -2147483648) rx_pl.1), (Int.le_trans rx_pl.2 (by decide : (2147483647 : Int) ≤ 2147483647))⟩)  (p_0 := by omega) (p_1 := by omega)) (fun o V' hq => ?_)
          obtain ⟨G1113, A1114, fk2_1115, rfl, rfl, hW1116, hF1117, e1118, p1119, -⟩ := hq
          have hF1121 := Fr_tr hFx hF1117 (Fr_sub (by decide)) (Fr_sub (by decide))
          have hP1122 := Pf_f hPx hF1117 (by decide)
          have sf1123 : ND A1114 (one) (33) (0) (0) (0) (0) (0) (0) := ND_ag (by omega) (Ag_fr hF1117 (by decide)) iv_11
          have ec1124 : ecn A1114 (G1113 31) = ec1 := (ecn_f (hF1117.2 15 rfl) (hF1117.1 31 rfl)).trans ex_ec1
          have bfk2_1115 : (0 : Int) ≤ fk2_1115 ∧ fk2_1115 ≤ 6 := e1118 ▸ hW1116.1 16
          refine .inl ⟨rfl, ?_⟩
          refine jx_ar (pc' := 221) (st' := [.int (i32 (0))]) rfl rfl rfl rfl ?_
          refine jx_rt (v := some (.int (i32 (0)))) rfl rfl rfl rfl rfl rfl ?_
          exact ⟨_, _, _, at1, fk2_1115, nd1, ln, ec1, rfl, rfl, hW1116, hF1121, hP1122, by omega, ((hF1117.1 10 rfl).trans (ex_at1)), (e1118), ((hF1117.1 31 rfl).trans (ex_nd1)), ((hF1117.1 9 rfl).trans (fx_9)), ec1124, by omega, by omega, by omega, by omega, by omega, by first | exact Or.inl (⟨by omega, by omega, by omega⟩)⟩
    · have _q := h1103
      exact absurd h1103 (by omega)
set_option maxRecDepth 20000 in
set_option maxHeartbeats 4000000 in
theorem c_readGuard_w_at_157_0_0 {X : jX} {d : Nat} {Vs : Nat → Prop} {sb : Int} {c0 c1 : jC} {G : Nat → Int} {A : Nat → Nat → Int} {T : jH} {ln le at0 fk op0 nd tk0 li ec : Int} (hd : 71 ≤ d + 1) (hW : Wk G A) (e_ln : G 9 = ln) (e_le : A 4 (ln).toNat = le) (e_at0 : G 10 = at0) (e_fk : G 16 = fk) (e_op0 : G 15 = op0) (e_nd : G 31 = nd) (e_tk0 : G 11 = tk0) (e_li : G 3 = li) (e_ec : ecn A (G 31) = ec) (i_SV : SV Vs sb G A) (p_0 : 0 ≤ op0 ∧ op0 ≤ 8) (p_1 : fk = 0) (p_2 : nd ≤ 2 * at0 - tz tk0 + 42) (p_3 : at0 ≤ le) (p_4 : ln < li) : ∀ (L : jL) (Gx : Nat → Int) (Ax : Nat → Nat → Int) (one pl s at1 tk1 fk1 nd1 op1 ks ec1 : Int), jGet L 0 = some (.ref 66) → jGet L 6 = some (.int (i32 (0))) → jGet L 7 = some (.int (i32 (0))) → jGet L 8 = some (.int (i32 (ks))) → jGet L 5 = some (.int (i32 (0))) → jGet L 1 = some (.int (i32 one)) → jGet L 3 = some (.int (i32 pl)) → jGet L 4 = some (.int (i32 s)) → Wk Gx Ax → Fr [9, 10, 11, 12, 13, 14, 15, 16, 17, 18, 31] [15, 16, 17, 18, 19, 20, 21, 22, 24, 28] G A Gx Ax → Pf nd A Ax → Gx 10 = at1 → Gx 11 = tk1 → Gx 16 = fk1 → Gx 31 = nd1 → Gx 15 = op1 → Ax 7 (s).toNat = ks → ecn Ax (Gx 31) = ec1 → Gx 9 = ln → ((-2147483648 : Int) ≤ one ∧ one ≤ 2147483647) → ((-2147483648 : Int) ≤ pl ∧ pl ≤ 2147483647) → ((-2147483648 : Int) ≤ s ∧ s ≤ 2147483647) → (at0 ≤ at1) → (at1 ≤ le) → (nd ≤ nd1) → (op1 = op0) → (one = nd) → (one ≤ 6998 ∧ one < nd1) → (fk1 = 0) → (nd1 - nd ≤ (2 * at1 - tz tk1) - (2 * at0 - tz tk0)) → (0 ≤ s ∧ s ≤ 201) → (-3000 ≤ pl ∧ pl ≤ 3002) → (SY Vs sb (s)) → (ND Ax (one) (33) (0) (0) (0) (0) (0) (0)) → (nd + 5 * ec ≤ nd1 - tz tk1) → (nd1 - nd + 5 * (ec1 - ec) ≤ (2 * at1 - tz tk1) - (2 * at0 - tz tk0) - tz tk1) → wj X d jm303 (157, L, [], rV c0 c1 Gx Ax T) (fun o V' => ∃ (G' : Nat → Int) (A' : Nat → Nat → Int) (r : Int) (at2 : Int) (fk2 : Int) (nd2 : Int) (ln2 : Int) (ec2 : Int), V' = rV c0 c1 G' A' T ∧ o = .inl (some (.int (i32 r))) ∧ Wk G' A' ∧ Fr [9, 10, 11, 12, 13, 14, 15, 16, 17, 18, 31] [15, 16, 17, 18, 19, 20, 21, 22, 24, 28] G A G' A' ∧ Pf nd A A' ∧ ((-2147483648 : Int) ≤ r ∧ r ≤ 2147483647) ∧ G' 10 = at2 ∧ G' 16 = fk2 ∧ G' 31 = nd2 ∧ G' 9 = ln2 ∧ ecn A' (G' 31) = ec2 ∧ (at0 ≤ at2) ∧ (at2 ≤ le) ∧ (nd ≤ nd2) ∧ (0 ≤ r) ∧ (r ≤ nd2) ∧ (((1 ≤ fk2) ∧ (ln2 = ln) ∧ (nd2 - nd ≤ 2 * at2 - 2 * at0 + 12)) ∨ ((fk2 = 0) ∧ (ln2 = ln + 1) ∧ (nd2 - nd ≤ 2 * at2 - (2 * at0 - tz tk0) + 0) ∧ (nd ≤ r) ∧ (r < nd2) ∧ (wU A' Vs sb (r) (nd) (nd2)) ∧ (NX A' (r)) ∧ (nd2 - nd + 5 * (ec2 - ec) ≤ 2 * at2 - (2 * at0 - tz tk0) + 0) ∧ (nd + 5 * ec ≤ r)))) := by
  have hF0 : Fr [9, 10, 11, 12, 13, 14, 15, 16, 17, 18, 31] [15, 16, 17, 18, 19, 20, 21, 22, 24, 28] G A G A := Fr_rf
  have hP0 : Pf nd A A := Pf_rf
  have b_ln : (0 : Int) ≤ ln ∧ ln ≤ 3000 := e_ln ▸ hW.1 9
  have b_le : (0 : Int) ≤ le ∧ le ≤ 3000 := e_le ▸ hW.2 4 _
  have b_at0 : (0 : Int) ≤ at0 ∧ at0 ≤ 3002 := e_at0 ▸ hW.1 10
  have b_fk : (0 : Int) ≤ fk ∧ fk ≤ 6 := e_fk ▸ hW.1 16
  have b_op0 : (-2147483648 : Int) ≤ op0 ∧ op0 ≤ 2147483647 := e_op0 ▸ hW.1 15
  have b_nd : (0 : Int) ≤ nd ∧ nd ≤ 6999 := e_nd ▸ hW.1 31
  have z_tk0 := tz_f tk0
  have b_tk0 : (0 : Int) ≤ tk0 ∧ tk0 ≤ 5 := e_tk0 ▸ hW.1 11
  have b_li : (0 : Int) ≤ li ∧ li ≤ 3000 := e_li ▸ hW.1 3
  intro L Gx Ax one pl s at1 tk1 fk1 nd1 op1 ks ec1 gL_0 gL_6 gL_7 gL_8 gL_5 gL_1 gL_3 gL_4 hWx hFx hPx ex_at1 ex_tk1 ex_fk1 ex_nd1 ex_op1 ex_ks ex_ec1 fx_9 rx_one rx_pl rx_s iv_0 iv_1 iv_2 iv_3 iv_4 iv_5 iv_6 iv_7 iv_8 iv_9 iv_10 iv_11 iv_12 iv_13
  have b_at1 : (0 : Int) ≤ at1 ∧ at1 ≤ 3002 := ex_at1 ▸ hWx.1 10
  have z_tk1 := tz_f tk1
  have b_tk1 : (0 : Int) ≤ tk1 ∧ tk1 ≤ 5 := ex_tk1 ▸ hWx.1 11
  have b_fk1 : (0 : Int) ≤ fk1 ∧ fk1 ≤ 6 := ex_fk1 ▸ hWx.1 16
  have b_nd1 : (0 : Int) ≤ nd1 ∧ nd1 ≤ 6999 := ex_nd1 ▸ hWx.1 31
  have b_op1 : (-2147483648 : Int) ≤ op1 ∧ op1 ≤ 2147483647 := ex_op1 ▸ hWx.1 15
  have b_ks : (0 : Int) ≤ ks ∧ ks ≤ 14 := ex_ks ▸ hWx.2 7 _
  refine jx_ld (pc' := 159) (l' := L) (st' := [.int (i32 (0))]) rfl (jl_iload gL_7) ?_
  refine jx_if_eq (pc' := 162) (tg := 189) rfl rfl rfl (by decide) (by decide) (fun h1125 => ?_) (fun h1125 => ?_)
  · have _q := h1125
    refine jx_ld (pc' := 191) (l' := L) (st' := [.int (i32 (0))]) rfl (jl_iload gL_6) ?_
    refine jx_if_eq (pc' := 194) (tg := 202) rfl rfl rfl (by decide) (by decide) (fun h1126 => ?_) (fun h1126 => ?_)
    · have _q := h1126
      refine jx_ld (pc' := 204) (l' := L) (st' := [.int (i32 (ks))]) rfl (jl_iload gL_8) ?_
      refine jx_st (pc' := 207) (as := [.int (i32 (ks))]) (st := []) rfl rfl ⟨rfl, Nat.le_of_ble_eq_true rfl⟩ rfl rfl rfl (c_isValue (dd := d) (hd := by omega) (k := ks)   (h_k := ⟨(Int.le_trans (by decide : (-2147483648 : Int) ≤ 0) b_ks.1), (Int.le_trans b_ks.2 (by decide : (14 : Int) ≤ 2147483647))⟩)  ) (fun o V' hq => ?_)
      obtain ⟨r1127, rfl, rfl, b1128, q1129⟩ := hq
      refine .inr ⟨_, rfl, ?_⟩
      rcases q1129 with ⟨rfl, a1130⟩ | rfl
      · have _q : True := trivial
        refine jx_ld (pc' := 209) (l' := jSto1 L 9 (.int (i32 (1)))) (st' := []) rfl rfl ?_
        obtain ⟨L1131, eL1131⟩ : ∃ q, q = jSto1 L 9 (.int (i32 (1))) := ⟨_, rfl⟩
        rw [← eL1131]
        have gL1131_0 : jGet L1131 0 = some (.ref 66) := eL1131 ▸ jg_ne (by decide) gL_0 rfl
        have gL1131_6 : jGet L1131 6 = some (.int (i32 (0))) := eL1131 ▸ jg_ne (by decide) gL_6 rfl
        have gL1131_7 : jGet L1131 7 = some (.int (i32 (0))) := eL1131 ▸ jg_ne (by decide) gL_7 rfl
        have gL1131_8 : jGet L1131 8 = some (.int (i32 (ks))) := eL1131 ▸ jg_ne (by decide) gL_8 rfl
        have gL1131_5 : jGet L1131 5 = some (.int (i32 (0))) := eL1131 ▸ jg_ne (by decide) gL_5 rfl
        have gL1131_1 : jGet L1131 1 = some (.int (i32 (one))) := eL1131 ▸ jg_ne (by decide) gL_1 rfl
        have gL1131_3 : jGet L1131 3 = some (.int (i32 (pl))) := eL1131 ▸ jg_ne (by decide) gL_3 rfl
        have gL1131_4 : jGet L1131 4 = some (.int (i32 (s))) := eL1131 ▸ jg_ne (by decide) gL_4 rfl
        have gL1131_9 : jGet L1131 9 = some (.int (i32 (1))) := eL1131 ▸ jg_eq
        refine jx_ld (pc' := 211) (l' := L1131) (st' := [.int (i32 (1))]) rfl (jl_iload gL1131_9) ?_
        refine jx_if_ne (pc' := 214) (tg := 222) rfl rfl rfl (by decide) (by decide) (fun h1132 => ?_) (fun h1132 => ?_)
        · have _q := h1132
          have z1133 := tz_f (tk1)
          exact c_readGuard_w_at_222_0_0 (X := X) (d := d) (Vs := Vs) (sb := sb) (c0 := c0) (c1 := c1) (G := G) (A := A) (T := T) (ln := ln) (le := le) (at0 := at0) (fk := fk) (op0 := op0) (nd := nd) (tk0 := tk0) (li := li) (ec := ec) (hd := hd) (hW := hW) (e_ln := e_ln) (e_le := e_le) (e_at0 := e_at0) (e_fk := e_fk) (e_op0 := e_op0) (e_nd := e_nd) (e_tk0 := e_tk0) (e_li := e_li) (e_ec := e_ec) (i_SV := i_SV) (p_0 := p_0) (p_1 := p_1) (p_2 := p_2) (p_3 := p_3) (p_4 := p_4) L1131 Gx Ax (one) (s) (at1) (tk1) (fk1) (nd1) (op1) (ks) (ec1) gL1131_0 gL1131_6 gL1131_7 gL1131_5 gL1131_1 gL1131_4 hWx hFx hPx ((ex_at1)) ((ex_tk1)) ((ex_fk1)) ((ex_nd1)) ((ex_op1)) ((ex_ks)) (ex_ec1) ((fx_9)) (by omega) (by omega) (by omega) (by omega) (by omega) (by omega) (by omega) (by omega) (by omega) (by omega) (by omega) (iv_10) (iv_11) (a1130) (by omega) (by omega)
        · have _q := h1132
          exact absurd h1132 (by omega)
      · have _q : True := trivial
        refine jx_ld (pc' := 209) (l' := jSto1 L 9 (.int (i32 (0)))) (st' := []) rfl rfl ?_
        obtain ⟨L1134, eL1134⟩ : ∃ q, q = jSto1 L 9 (.int (i32 (0))) := ⟨_, rfl⟩
        rw [← eL1134]
        have gL1134_0 : jGet L1134 0 = some (.ref 66) := eL1134 ▸ jg_ne (by decide) gL_0 rfl
        have gL1134_6 : jGet L1134 6 = some (.int (i32 (0))) := eL1134 ▸ jg_ne (by decide) gL_6 rfl
        have gL1134_7 : jGet L1134 7 = some (.int (i32 (0))) := eL1134 ▸ jg_ne (by decide) gL_7 rfl
        have gL1134_8 : jGet L1134 8 = some (.int (i32 (ks))) := eL1134 ▸ jg_ne (by decide) gL_8 rfl
        have gL1134_5 : jGet L1134 5 = some (.int (i32 (0))) := eL1134 ▸ jg_ne (by decide) gL_5 rfl
        have gL1134_1 : jGet L1134 1 = some (.int (i32 (one))) := eL1134 ▸ jg_ne (by decide) gL_1 rfl
        have gL1134_3 : jGet L1134 3 = some (.int (i32 (pl))) := eL1134 ▸ jg_ne (by decide) gL_3 rfl
        have gL1134_4 : jGet L1134 4 = some (.int (i32 (s))) := eL1134 ▸ jg_ne (by decide) gL_4 rfl
        have gL1134_9 : jGet L1134 9 = some (.int (i32 (0))) := eL1134 ▸ jg_eq
        refine jx_ld (pc' := 211) (l' := L1134) (st' := [.int (i32 (0))]) rfl (jl_iload gL1134_9) ?_
        refine jx_if_ne (pc' := 214) (tg := 222) rfl rfl rfl (by decide) (by decide) (fun h1135 => ?_) (fun h1135 => ?_)
        · have _q := h1135
          exact absurd h1135 (by omega)
        · have _q := h1135
          refine jx_ld (pc' := 215) (l' := L1134) (st' := [.ref 66]) rfl (jl_aloadn gL1134_0) ?_
          refine jx_ar (pc' := 216) (st' := [.int (i32 (4)), .ref 66]) rfl rfl rfl rfl ?_
          refine jx_ld (pc' := 217) (l' := L1134) (st' := [.int (i32 (pl)), .int (i32 (4)), .ref 66]) rfl (jl_iloadn gL1134_3) ?_
          refine jx_vr (pc' := 220) (as := [.int (i32 (4)), .int (i32 (pl))]) (st := []) rfl rfl rfl rfl ⟨rfl, rfl, Nat.le_of_ble_eq_true rfl⟩ rfl rfl (c_fail (dd := d) (hd := by omega) (hW := hWx) (kind := 4) (place := pl) (fk := fk1) (e_fk := show Gx 16 = fk1 from (ex_fk1))  (h_kind := ⟨(by decide), (by decide)⟩) (h_place := ⟨(Int.le_trans (by decide : (-2147483648 : Int) ≤ -2147483648) rx_pl.1), (Int.le_trans rx_pl.2 (by decide : (2147483647 : Int) ≤ 2147483647))⟩)  (p_0 := by omega) (p_1 := by omega)) (fun o V' hq => ?_)
          obtain ⟨G1136, A1137, fk2_1138, rfl, rfl, hW1139, hF1140, e1141, p1142, -⟩ := hq
          have hF1144 := Fr_tr hFx hF1140 (Fr_sub (by decide)) (Fr_sub (by decide))
          have hP1145 := Pf_f hPx hF1140 (by decide)
          have sf1146 : ND A1137 (one) (33) (0) (0) (0) (0) (0) (0) := ND_ag (by omega) (Ag_fr hF1140 (by decide)) iv_11
          have ec1147 : ecn A1137 (G1136 31) = ec1 := (ecn_f (hF1140.2 15 rfl) (hF1140.1 31 rfl)).trans ex_ec1
          have bfk2_1138 : (0 : Int) ≤ fk2_1138 ∧ fk2_1138 ≤ 6 := e1141 ▸ hW1139.1 16
          refine .inl ⟨rfl, ?_⟩
          refine jx_ar (pc' := 221) (st' := [.int (i32 (0))]) rfl rfl rfl rfl ?_
          refine jx_rt (v := some (.int (i32 (0)))) rfl rfl rfl rfl rfl rfl ?_
          exact ⟨_, _, _, at1, fk2_1138, nd1, ln, ec1, rfl, rfl, hW1139, hF1144, hP1145, by omega, ((hF1140.1 10 rfl).trans (ex_at1)), (e1141), ((hF1140.1 31 rfl).trans (ex_nd1)), ((hF1140.1 9 rfl).trans (fx_9)), ec1147, by omega, by omega, by omega, by omega, by omega, by first | exact Or.inl (⟨by omega, by omega, by omega⟩)⟩
    · have _q := h1126
      exact absurd h1126 (by omega)
  · have _q := h1125
    exact absurd h1125 (by omega)
set_option maxRecDepth 20000 in
set_option maxHeartbeats 4000000 in
theorem c_readGuard_w_at_108_1 {X : jX} {d : Nat} {Vs : Nat → Prop} {sb : Int} {c0 c1 : jC} {G : Nat → Int} {A : Nat → Nat → Int} {T : jH} {ln le at0 fk op0 nd tk0 li ec : Int} (hd : 71 ≤ d + 1) (hW : Wk G A) (e_ln : G 9 = ln) (e_le : A 4 (ln).toNat = le) (e_at0 : G 10 = at0) (e_fk : G 16 = fk) (e_op0 : G 15 = op0) (e_nd : G 31 = nd) (e_tk0 : G 11 = tk0) (e_li : G 3 = li) (e_ec : ecn A (G 31) = ec) (i_SV : SV Vs sb G A) (p_0 : 0 ≤ op0 ∧ op0 ≤ 8) (p_1 : fk = 0) (p_2 : nd ≤ 2 * at0 - tz tk0 + 42) (p_3 : at0 ≤ le) (p_4 : ln < li) : ∀ (L : jL) (Gx : Nat → Int) (Ax : Nat → Nat → Int) (one pl s ix at1 tk1 fk1 nd1 op1 ks ec1 : Int), jGet L 0 = some (.ref 66) → jGet L 6 = some (.int (i32 (1))) → jGet L 1 = some (.int (i32 one)) → jGet L 3 = some (.int (i32 pl)) → jGet L 4 = some (.int (i32 s)) → jGet L 5 = some (.int (i32 ix)) → Wk Gx Ax → Fr [9, 10, 11, 12, 13, 14, 15, 16, 17, 18, 31] [15, 16, 17, 18, 19, 20, 21, 22, 24, 28] G A Gx Ax → Pf nd A Ax → Gx 10 = at1 → Gx 11 = tk1 → Gx 16 = fk1 → Gx 31 = nd1 → Gx 15 = op1 → Ax 7 (s).toNat = ks → ecn Ax (Gx 31) = ec1 → Gx 9 = ln → ((-2147483648 : Int) ≤ one ∧ one ≤ 2147483647) → ((-2147483648 : Int) ≤ pl ∧ pl ≤ 2147483647) → ((-2147483648 : Int) ≤ s ∧ s ≤ 2147483647) → ((-2147483648 : Int) ≤ ix ∧ ix ≤ 2147483647) → (at0 ≤ at1) → (at1 ≤ le) → (nd ≤ nd1) → (op1 = op0) → (one = nd) → (one ≤ 6998 ∧ one < nd1) → (fk1 = 0) → (nd1 - nd ≤ (2 * at1 - tz tk1) - (2 * at0 - tz tk0)) → (0 ≤ s ∧ s ≤ 201) → (-3000 ≤ pl ∧ pl ≤ 3002) → (SY Vs sb (s)) → (ND Ax (one) (33) (0) (0) (0) (0) (0) (0)) → (wE Ax Vs sb (20) (ix) (one + 1) (nd1)) → (nd + 5 * ec ≤ nd1 - 5 - tz tk1) → (nd1 - nd + 5 * (ec1 - ec) ≤ (2 * at1 - tz tk1) - (2 * at0 - tz tk0) - 5 - tz tk1) → wj X d jm303 (108, L, [], rV c0 c1 Gx Ax T) (fun o V' => ∃ (G' : Nat → Int) (A' : Nat → Nat → Int) (r : Int) (at2 : Int) (fk2 : Int) (nd2 : Int) (ln2 : Int) (ec2 : Int), V' = rV c0 c1 G' A' T ∧ o = .inl (some (.int (i32 r))) ∧ Wk G' A' ∧ Fr [9, 10, 11, 12, 13, 14, 15, 16, 17, 18, 31] [15, 16, 17, 18, 19, 20, 21, 22, 24, 28] G A G' A' ∧ Pf nd A A' ∧ ((-2147483648 : Int) ≤ r ∧ r ≤ 2147483647) ∧ G' 10 = at2 ∧ G' 16 = fk2 ∧ G' 31 = nd2 ∧ G' 9 = ln2 ∧ ecn A' (G' 31) = ec2 ∧ (at0 ≤ at2) ∧ (at2 ≤ le) ∧ (nd ≤ nd2) ∧ (0 ≤ r) ∧ (r ≤ nd2) ∧ (((1 ≤ fk2) ∧ (ln2 = ln) ∧ (nd2 - nd ≤ 2 * at2 - 2 * at0 + 12)) ∨ ((fk2 = 0) ∧ (ln2 = ln + 1) ∧ (nd2 - nd ≤ 2 * at2 - (2 * at0 - tz tk0) + 0) ∧ (nd ≤ r) ∧ (r < nd2) ∧ (wU A' Vs sb (r) (nd) (nd2)) ∧ (NX A' (r)) ∧ (nd2 - nd + 5 * (ec2 - ec) ≤ 2 * at2 - (2 * at0 - tz tk0) + 0) ∧ (nd + 5 * ec ≤ r)))) := by
  have hF0 : Fr [9, 10, 11, 12, 13, 14, 15, 16, 17, 18, 31] [15, 16, 17, 18, 19, 20, 21, 22, 24, 28] G A G A := Fr_rf
  have hP0 : Pf nd A A := Pf_rf
  have b_ln : (0 : Int) ≤ ln ∧ ln ≤ 3000 := e_ln ▸ hW.1 9
  have b_le : (0 : Int) ≤ le ∧ le ≤ 3000 := e_le ▸ hW.2 4 _
  have b_at0 : (0 : Int) ≤ at0 ∧ at0 ≤ 3002 := e_at0 ▸ hW.1 10
  have b_fk : (0 : Int) ≤ fk ∧ fk ≤ 6 := e_fk ▸ hW.1 16
  have b_op0 : (-2147483648 : Int) ≤ op0 ∧ op0 ≤ 2147483647 := e_op0 ▸ hW.1 15
  have b_nd : (0 : Int) ≤ nd ∧ nd ≤ 6999 := e_nd ▸ hW.1 31
  have z_tk0 := tz_f tk0
  have b_tk0 : (0 : Int) ≤ tk0 ∧ tk0 ≤ 5 := e_tk0 ▸ hW.1 11
  have b_li : (0 : Int) ≤ li ∧ li ≤ 3000 := e_li ▸ hW.1 3
  intro L Gx Ax one pl s ix at1 tk1 fk1 nd1 op1 ks ec1 gL_0 gL_6 gL_1 gL_3 gL_4 gL_5 hWx hFx hPx ex_at1 ex_tk1 ex_fk1 ex_nd1 ex_op1 ex_ks ex_ec1 fx_9 rx_one rx_pl rx_s rx_ix iv_0 iv_1 iv_2 iv_3 iv_4 iv_5 iv_6 iv_7 iv_8 iv_9 iv_10 iv_11 iv_12 iv_13 iv_14
  have b_at1 : (0 : Int) ≤ at1 ∧ at1 ≤ 3002 := ex_at1 ▸ hWx.1 10
  have z_tk1 := tz_f tk1
  have b_tk1 : (0 : Int) ≤ tk1 ∧ tk1 ≤ 5 := ex_tk1 ▸ hWx.1 11
  have b_fk1 : (0 : Int) ≤ fk1 ∧ fk1 ≤ 6 := ex_fk1 ▸ hWx.1 16
  have b_nd1 : (0 : Int) ≤ nd1 ∧ nd1 ≤ 6999 := ex_nd1 ▸ hWx.1 31
  have b_op1 : (-2147483648 : Int) ≤ op1 ∧ op1 ≤ 2147483647 := ex_op1 ▸ hWx.1 15
  have b_ks : (0 : Int) ≤ ks ∧ ks ≤ 14 := ex_ks ▸ hWx.2 7 _
  refine jx_ld (pc' := 109) (l' := L) (st' := [.ref 66]) rfl (jl_aloadn gL_0) ?_
  refine jx_ar (pc' := 111) (st' := [.int (i32 (63)), .ref 66]) rfl rfl rfl rfl ?_
  have b1148 : (-2147483648 : Int) ≤ Gx 13 ∧ Gx 13 ≤ 2147483647 := hWx.1 13
  refine jx_vr (pc' := 114) (as := [.int (i32 (63))]) (st := []) rfl rfl rfl rfl ⟨rfl, rfl, Nat.le_of_ble_eq_true rfl⟩ rfl rfl (c_is (dd := d) (hd := by omega) (hW := hWx) (k := 63) (tk := tk1) (e_tk := show Gx 11 = tk1 from (ex_tk1)) (tn := Gx 13) (e_tn := show Gx 13 = Gx 13 from rfl)  (h_k := ⟨(by decide), (by decide)⟩)  ) (fun o V' hq => ?_)
  obtain ⟨r1149, rfl, rfl, b1150, q1151⟩ := hq
  refine .inr ⟨_, rfl, ?_⟩
  rcases q1151 with ⟨rfl, a1152, a1153, a1154⟩ | rfl
  · have _q : True := trivial
    refine jx_ld (pc' := 116) (l' := jSto1 L 7 (.int (i32 (1)))) (st' := []) rfl rfl ?_
    obtain ⟨L1155, eL1155⟩ : ∃ q, q = jSto1 L 7 (.int (i32 (1))) := ⟨_, rfl⟩
    rw [← eL1155]
    have gL1155_0 : jGet L1155 0 = some (.ref 66) := eL1155 ▸ jg_ne (by decide) gL_0 rfl
    have gL1155_6 : jGet L1155 6 = some (.int (i32 (1))) := eL1155 ▸ jg_ne (by decide) gL_6 rfl
    have gL1155_1 : jGet L1155 1 = some (.int (i32 (one))) := eL1155 ▸ jg_ne (by decide) gL_1 rfl
    have gL1155_3 : jGet L1155 3 = some (.int (i32 (pl))) := eL1155 ▸ jg_ne (by decide) gL_3 rfl
    have gL1155_4 : jGet L1155 4 = some (.int (i32 (s))) := eL1155 ▸ jg_ne (by decide) gL_4 rfl
    have gL1155_5 : jGet L1155 5 = some (.int (i32 (ix))) := eL1155 ▸ jg_ne (by decide) gL_5 rfl
    have gL1155_7 : jGet L1155 7 = some (.int (i32 (1))) := eL1155 ▸ jg_eq
    refine jx_ld (pc' := 117) (l' := L1155) (st' := [.ref 66]) rfl (jl_aloadn gL1155_0) ?_
    refine jr_get (pc' := 120) (i := 21) (v := .ref 74) rfl rfl (by decide) rfl rfl ?_
    refine jx_ld (pc' := 122) (l' := L1155) (st' := [.int (i32 (s)), .ref 74]) rfl (jl_iload gL1155_4) ?_
    refine jr_ldv (pc' := 123) (i := 7) (m := 260) (z := s) (y := ks) rfl (by decide) rfl (by decide) (by omega) (by omega) rfl (show Ax 7 (s).toNat = ks from (ex_ks)) ?_
    refine jx_ld (pc' := 125) (l' := jSto1 L1155 8 (.int (i32 (ks)))) (st' := []) rfl rfl ?_
    obtain ⟨L1156, eL1156⟩ : ∃ q, q = jSto1 L1155 8 (.int (i32 (ks))) := ⟨_, rfl⟩
    rw [← eL1156]
    have gL1156_0 : jGet L1156 0 = some (.ref 66) := eL1156 ▸ jg_ne (by decide) gL1155_0 rfl
    have gL1156_6 : jGet L1156 6 = some (.int (i32 (1))) := eL1156 ▸ jg_ne (by decide) gL1155_6 rfl
    have gL1156_1 : jGet L1156 1 = some (.int (i32 (one))) := eL1156 ▸ jg_ne (by decide) gL1155_1 rfl
    have gL1156_3 : jGet L1156 3 = some (.int (i32 (pl))) := eL1156 ▸ jg_ne (by decide) gL1155_3 rfl
    have gL1156_4 : jGet L1156 4 = some (.int (i32 (s))) := eL1156 ▸ jg_ne (by decide) gL1155_4 rfl
    have gL1156_5 : jGet L1156 5 = some (.int (i32 (ix))) := eL1156 ▸ jg_ne (by decide) gL1155_5 rfl
    have gL1156_7 : jGet L1156 7 = some (.int (i32 (1))) := eL1156 ▸ jg_ne (by decide) gL1155_7 rfl
    have gL1156_8 : jGet L1156 8 = some (.int (i32 (ks))) := eL1156 ▸ jg_eq
    refine jx_ld (pc' := 127) (l' := L1156) (st' := [.int (i32 (1))]) rfl (jl_iload gL1156_7) ?_
    refine jx_if_ne (pc' := 130) (tg := 157) rfl rfl rfl (by decide) (by decide) (fun h1157 => ?_) (fun h1157 => ?_)
    · have _q := h1157
      have z1158 := tz_f (tk1)
      exact c_readGuard_w_at_157_1_1 (X := X) (d := d) (Vs := Vs) (sb := sb) (c0 := c0) (c1 := c1) (G := G) (A := A) (T := T) (ln := ln) (le := le) (at0 := at0) (fk := fk) (op0 := op0) (nd := nd) (tk0 := tk0) (li := li) (ec := ec) (hd := hd) (hW := hW) (e_ln := e_ln) (e_le := e_le) (e_at0 := e_at0) (e_fk := e_fk) (e_op0 := e_op0) (e_nd := e_nd) (e_tk0 := e_tk0) (e_li := e_li) (e_ec := e_ec) (i_SV := i_SV) (p_0 := p_0) (p_1 := p_1) (p_2 := p_2) (p_3 := p_3) (p_4 := p_4) L1156 Gx Ax (one) (pl) (s) (ix) (at1) (tk1) (fk1) (nd1) (op1) (ks) (ec1) gL1156_0 gL1156_6 gL1156_7 gL1156_8 gL1156_1 gL1156_3 gL1156_4 gL1156_5 hWx hFx hPx ((ex_at1)) ((ex_tk1)) ((ex_fk1)) ((ex_nd1)) ((ex_op1)) ((ex_ks)) (ex_ec1) ((fx_9)) (by omega) (by omega) (by omega) (by omega) (by omega) (by omega) (by omega) (by omega) (by omega) (by omega) (by omega) (by omega) (by omega) (by omega) (iv_10) (iv_11) (by omega) (iv_12) (by omega) (by omega)
    · have _q := h1157
      exact absurd h1157 (by omega)
  · have _q : True := trivial
    refine jx_ld (pc' := 116) (l' := jSto1 L 7 (.int (i32 (0)))) (st' := []) rfl rfl ?_
    obtain ⟨L1159, eL1159⟩ : ∃ q, q = jSto1 L 7 (.int (i32 (0))) := ⟨_, rfl⟩
    rw [← eL1159]
    have gL1159_0 : jGet L1159 0 = some (.ref 66) := eL1159 ▸ jg_ne (by decide) gL_0 rfl
    have gL1159_6 : jGet L1159 6 = some (.int (i32 (1))) := eL1159 ▸ jg_ne (by decide) gL_6 rfl
    have gL1159_1 : jGet L1159 1 = some (.int (i32 (one))) := eL1159 ▸ jg_ne (by decide) gL_1 rfl
    have gL1159_3 : jGet L1159 3 = some (.int (i32 (pl))) := eL1159 ▸ jg_ne (by decide) gL_3 rfl
    have gL1159_4 : jGet L1159 4 = some (.int (i32 (s))) := eL1159 ▸ jg_ne (by decide) gL_4 rfl
    have gL1159_5 : jGet L1159 5 = some (.int (i32 (ix))) := eL1159 ▸ jg_ne (by decide) gL_5 rfl
    have gL1159_7 : jGet L1159 7 = some (.int (i32 (0))) := eL1159 ▸ jg_eq
    refine jx_ld (pc' := 117) (l' := L1159) (st' := [.ref 66]) rfl (jl_aloadn gL1159_0) ?_
    refine jr_get (pc' := 120) (i := 21) (v := .ref 74) rfl rfl (by decide) rfl rfl ?_
    refine jx_ld (pc' := 122) (l' := L1159) (st' := [.int (i32 (s)), .ref 74]) rfl (jl_iload gL1159_4) ?_
    refine jr_ldv (pc' := 123) (i := 7) (m := 260) (z := s) (y := ks) rfl (by decide) rfl (by decide) (by omega) (by omega) rfl (show Ax 7 (s).toNat = ks from (ex_ks)) ?_
    refine jx_ld (pc' := 125) (l' := jSto1 L1159 8 (.int (i32 (ks)))) (st' := []) rfl rfl ?_
    obtain ⟨L1160, eL1160⟩ : ∃ q, q = jSto1 L1159 8 (.int (i32 (ks))) := ⟨_, rfl⟩
    rw [← eL1160]
    have gL1160_0 : jGet L1160 0 = some (.ref 66) := eL1160 ▸ jg_ne (by decide) gL1159_0 rfl
    have gL1160_6 : jGet L1160 6 = some (.int (i32 (1))) := eL1160 ▸ jg_ne (by decide) gL1159_6 rfl
    have gL1160_1 : jGet L1160 1 = some (.int (i32 (one))) := eL1160 ▸ jg_ne (by decide) gL1159_1 rfl
    have gL1160_3 : jGet L1160 3 = some (.int (i32 (pl))) := eL1160 ▸ jg_ne (by decide) gL1159_3 rfl
    have gL1160_4 : jGet L1160 4 = some (.int (i32 (s))) := eL1160 ▸ jg_ne (by decide) gL1159_4 rfl
    have gL1160_5 : jGet L1160 5 = some (.int (i32 (ix))) := eL1160 ▸ jg_ne (by decide) gL1159_5 rfl
    have gL1160_7 : jGet L1160 7 = some (.int (i32 (0))) := eL1160 ▸ jg_ne (by decide) gL1159_7 rfl
    have gL1160_8 : jGet L1160 8 = some (.int (i32 (ks))) := eL1160 ▸ jg_eq
    refine jx_ld (pc' := 127) (l' := L1160) (st' := [.int (i32 (0))]) rfl (jl_iload gL1160_7) ?_
    refine jx_if_ne (pc' := 130) (tg := 157) rfl rfl rfl (by decide) (by decide) (fun h1161 => ?_) (fun h1161 => ?_)
    · have _q := h1161
      exact absurd h1161 (by omega)
    · have _q := h1161
      refine jx_ld (pc' := 131) (l' := L1160) (st' := [.ref 66]) rfl (jl_aloadn gL1160_0) ?_
      refine jx_ar (pc' := 133) (st' := [.int (i32 (38)), .ref 66]) rfl rfl rfl rfl ?_
      refine jx_vr (pc' := 136) (as := [.int (i32 (38))]) (st := []) rfl rfl rfl rfl ⟨rfl, rfl, Nat.le_of_ble_eq_true rfl⟩ rfl rfl (c_is (dd := d) (hd := by omega) (hW := hWx) (k := 38) (tk := tk1) (e_tk := show Gx 11 = tk1 from (ex_tk1)) (tn := Gx 13) (e_tn := show Gx 13 = Gx 13 from rfl)  (h_k := ⟨(by decide), (by decide)⟩)  ) (fun o V' hq => ?_)
      obtain ⟨r1162, rfl, rfl, b1163, q1164⟩ := hq
      refine .inr ⟨_, rfl, ?_⟩
      rcases q1164 with ⟨rfl, a1165, a1166, a1167⟩ | rfl
      · have _q : True := trivial
        refine jx_if_ne (pc' := 139) (tg := 157) rfl rfl rfl (by decide) (by decide) (fun h1168 => ?_) (fun h1168 => ?_)
        · have _q := h1168
          have z1169 := tz_f (tk1)
          exact c_readGuard_w_at_157_1_0 (X := X) (d := d) (Vs := Vs) (sb := sb) (c0 := c0) (c1 := c1) (G := G) (A := A) (T := T) (ln := ln) (le := le) (at0 := at0) (fk := fk) (op0 := op0) (nd := nd) (tk0 := tk0) (li := li) (ec := ec) (hd := hd) (hW := hW) (e_ln := e_ln) (e_le := e_le) (e_at0 := e_at0) (e_fk := e_fk) (e_op0 := e_op0) (e_nd := e_nd) (e_tk0 := e_tk0) (e_li := e_li) (e_ec := e_ec) (i_SV := i_SV) (p_0 := p_0) (p_1 := p_1) (p_2 := p_2) (p_3 := p_3) (p_4 := p_4) L1160 Gx Ax (one) (pl) (s) (ix) (at1) (tk1) (fk1) (nd1) (op1) (ks) (ec1) gL1160_0 gL1160_6 gL1160_7 gL1160_8 gL1160_1 gL1160_3 gL1160_4 gL1160_5 hWx hFx hPx ((ex_at1)) ((ex_tk1)) ((ex_fk1)) ((ex_nd1)) ((ex_op1)) ((ex_ks)) (ex_ec1) ((fx_9)) (by omega) (by omega) (by omega) (by omega) (by omega) (by omega) (by omega) (by omega) (by omega) (by omega) (by omega) (by omega) (by omega) (by omega) (iv_10) (iv_11) (iv_12) (by omega) (by omega)
        · have _q := h1168
          exact absurd h1168 (by omega)
      · have _q : True := trivial
        refine jx_if_ne (pc' := 139) (tg := 157) rfl rfl rfl (by decide) (by decide) (fun h1170 => ?_) (fun h1170 => ?_)
        · have _q := h1170
          exact absurd h1170 (by omega)
        · have _q := h1170
          refine jx_ld (pc' := 140) (l' := L1160) (st' := [.ref 66]) rfl (jl_aloadn gL1160_0) ?_
          refine jx_vr (pc' := 143) (as := []) (st := []) rfl rfl rfl rfl ⟨rfl, rfl, Nat.le_of_ble_eq_true rfl⟩ rfl rfl (c_operationAt (dd := d) (hd := by omega) (hW := hWx)  (tk := tk1) (e_tk := show Gx 11 = tk1 from (ex_tk1)) (tn := Gx 13) (e_tn := show Gx 13 = Gx 13 from rfl)    ) (fun o V' hq => ?_)
          obtain ⟨r1171, rfl, rfl, b1172, q1173⟩ := hq
          refine .inr ⟨_, rfl, ?_⟩
          rcases q1173 with rfl | a1174
          · have _q : True := trivial
            refine jx_if_ne (pc' := 146) (tg := 157) rfl rfl rfl (by decide) (by decide) (fun h1175 => ?_) (fun h1175 => ?_)
            · have _q := h1175
              exact absurd h1175 (by omega)
            · have _q := h1175
              refine jx_ld (pc' := 147) (l' := L1160) (st' := [.ref 66]) rfl (jl_aloadn gL1160_0) ?_
              refine jx_ar (pc' := 148) (st' := [.int (i32 (1)), .ref 66]) rfl rfl rfl rfl ?_
              refine jx_ld (pc' := 149) (l' := L1160) (st' := [.ref 66, .int (i32 (1)), .ref 66]) rfl (jl_aloadn gL1160_0) ?_
              have b1176 : (-3000 : Int) ≤ Gx 12 ∧ Gx 12 ≤ 3002 := hWx.1 12
              refine jr_get (pc' := 152) (i := 12) (v := .int (i32 (Gx 12))) rfl rfl (by decide) rfl rfl ?_
              refine jx_vr (pc' := 155) (as := [.int (i32 (1)), .int (i32 (Gx 12))]) (st := []) rfl rfl rfl rfl ⟨rfl, rfl, Nat.le_of_ble_eq_true rfl⟩ rfl rfl (c_fail (dd := d) (hd := by omega) (hW := hWx) (kind := 1) (place := Gx 12) (fk := fk1) (e_fk := show Gx 16 = fk1 from (ex_fk1))  (h_kind := ⟨(by decide), (by decide)⟩) (h_place := ⟨(Int.le_trans (by decide : (-2147483648 : Int) ≤ -3000) b1176.1), (Int.le_trans b1176.2 (by decide : (3002 : Int) ≤ 2147483647))⟩)  (p_0 := by omega) (p_1 := by omega)) (fun o V' hq => ?_)
              obtain ⟨G1177, A1178, fk2_1179, rfl, rfl, hW1180, hF1181, e1182, p1183, -⟩ := hq
              have hF1185 := Fr_tr hFx hF1181 (Fr_sub (by decide)) (Fr_sub (by decide))
              have hP1186 := Pf_f hPx hF1181 (by decide)
              have sf1187 : ND A1178 (one) (33) (0) (0) (0) (0) (0) (0) := ND_ag (by omega) (Ag_fr hF1181 (by decide)) iv_11
              have sf1188 : wE A1178 Vs sb (20) (ix) (one + 1) (nd1) := wE_ag (by omega) (Sg_fr hF1181 (by decide)) (Ag_fr hF1181 (by decide)) iv_12
              have ec1189 : ecn A1178 (G1177 31) = ec1 := (ecn_f (hF1181.2 15 rfl) (hF1181.1 31 rfl)).trans ex_ec1
              have bfk2_1179 : (0 : Int) ≤ fk2_1179 ∧ fk2_1179 ≤ 6 := e1182 ▸ hW1180.1 16
              refine .inl ⟨rfl, ?_⟩
              refine jx_ar (pc' := 156) (st' := [.int (i32 (0))]) rfl rfl rfl rfl ?_
              refine jx_rt (v := some (.int (i32 (0)))) rfl rfl rfl rfl rfl rfl ?_
              exact ⟨_, _, _, at1, fk2_1179, nd1, ln, ec1, rfl, rfl, hW1180, hF1185, hP1186, by omega, ((hF1181.1 10 rfl).trans (ex_at1)), (e1182), ((hF1181.1 31 rfl).trans (ex_nd1)), ((hF1181.1 9 rfl).trans (fx_9)), ec1189, by omega, by omega, by omega, by omega, by omega, by first | exact Or.inl (⟨by omega, by omega, by omega⟩)⟩
          · have _q : True := trivial
            refine jx_if_ne (pc' := 146) (tg := 157) rfl rfl rfl (Int.le_trans (by decide : (-2147483648 : Int) ≤ -2147483648) b1172.1) (Int.le_trans b1172.2 (by decide : (2147483647 : Int) ≤ 2147483647)) (fun h1190 => ?_) (fun h1190 => ?_)
            · have _q := h1190
              have z1191 := tz_f (tk1)
              exact c_readGuard_w_at_157_1_0 (X := X) (d := d) (Vs := Vs) (sb := sb) (c0 := c0) (c1 := c1) (G := G) (A := A) (T := T) (ln := ln) (le := le) (at0 := at0) (fk := fk) (op0 := op0) (nd := nd) (tk0 := tk0) (li := li) (ec := ec) (hd := hd) (hW := hW) (e_ln := e_ln) (e_le := e_le) (e_at0 := e_at0) (e_fk := e_fk) (e_op0 := e_op0) (e_nd := e_nd) (e_tk0 := e_tk0) (e_li := e_li) (e_ec := e_ec) (i_SV := i_SV) (p_0 := p_0) (p_1 := p_1) (p_2 := p_2) (p_3 := p_3) (p_4 := p_4) L1160 Gx Ax (one) (pl) (s) (ix) (at1) (tk1) (fk1) (nd1) (op1) (ks) (ec1) gL1160_0 gL1160_6 gL1160_7 gL1160_8 gL1160_1 gL1160_3 gL1160_4 gL1160_5 hWx hFx hPx ((ex_at1)) ((ex_tk1)) ((ex_fk1)) ((ex_nd1)) ((ex_op1)) ((ex_ks)) (ex_ec1) ((fx_9)) (by omega) (by omega) (by omega) (by omega) (by omega) (by omega) (by omega) (by omega) (by omega) (by omega) (by omega) (by omega) (by omega) (by omega) (iv_10) (iv_11) (iv_12) (by omega) (by omega)
            · have _q := h1190
              refine jx_ld (pc' := 147) (l' := L1160) (st' := [.ref 66]) rfl (jl_aloadn gL1160_0) ?_
              refine jx_ar (pc' := 148) (st' := [.int (i32 (1)), .ref 66]) rfl rfl rfl rfl ?_
              refine jx_ld (pc' := 149) (l' := L1160) (st' := [.ref 66, .int (i32 (1)), .ref 66]) rfl (jl_aloadn gL1160_0) ?_
              have b1192 : (-3000 : Int) ≤ Gx 12 ∧ Gx 12 ≤ 3002 := hWx.1 12
              refine jr_get (pc' := 152) (i := 12) (v := .int (i32 (Gx 12))) rfl rfl (by decide) rfl rfl ?_
              refine jx_vr (pc' := 155) (as := [.int (i32 (1)), .int (i32 (Gx 12))]) (st := []) rfl rfl rfl rfl ⟨rfl, rfl, Nat.le_of_ble_eq_true rfl⟩ rfl rfl (c_fail (dd := d) (hd := by omega) (hW := hWx) (kind := 1) (place := Gx 12) (fk := fk1) (e_fk := show Gx 16 = fk1 from (ex_fk1))  (h_kind := ⟨(by decide), (by decide)⟩) (h_place := ⟨(Int.le_trans (by decide : (-2147483648 : Int) ≤ -3000) b1192.1), (Int.le_trans b1192.2 (by decide : (3002 : Int) ≤ 2147483647))⟩)  (p_0 := by omega) (p_1 := by omega)) (fun o V' hq => ?_)
              obtain ⟨G1193, A1194, fk2_1195, rfl, rfl, hW1196, hF1197, e1198, p1199, -⟩ := hq
              have hF1201 := Fr_tr hFx hF1197 (Fr_sub (by decide)) (Fr_sub (by decide))
              have hP1202 := Pf_f hPx hF1197 (by decide)
              have sf1203 : ND A1194 (one) (33) (0) (0) (0) (0) (0) (0) := ND_ag (by omega) (Ag_fr hF1197 (by decide)) iv_11
              have sf1204 : wE A1194 Vs sb (20) (ix) (one + 1) (nd1) := wE_ag (by omega) (Sg_fr hF1197 (by decide)) (Ag_fr hF1197 (by decide)) iv_12
              have ec1205 : ecn A1194 (G1193 31) = ec1 := (ecn_f (hF1197.2 15 rfl) (hF1197.1 31 rfl)).trans ex_ec1
              have bfk2_1195 : (0 : Int) ≤ fk2_1195 ∧ fk2_1195 ≤ 6 := e1198 ▸ hW1196.1 16
              refine .inl ⟨rfl, ?_⟩
              refine jx_ar (pc' := 156) (st' := [.int (i32 (0))]) rfl rfl rfl rfl ?_
              refine jx_rt (v := some (.int (i32 (0)))) rfl rfl rfl rfl rfl rfl ?_
              exact ⟨_, _, _, at1, fk2_1195, nd1, ln, ec1, rfl, rfl, hW1196, hF1201, hP1202, by omega, ((hF1197.1 10 rfl).trans (ex_at1)), (e1198), ((hF1197.1 31 rfl).trans (ex_nd1)), ((hF1197.1 9 rfl).trans (fx_9)), ec1205, by omega, by omega, by omega, by omega, by omega, by first | exact Or.inl (⟨by omega, by omega, by omega⟩)⟩
set_option maxRecDepth 20000 in
set_option maxHeartbeats 4000000 in
theorem c_readGuard_w_at_108_0 {X : jX} {d : Nat} {Vs : Nat → Prop} {sb : Int} {c0 c1 : jC} {G : Nat → Int} {A : Nat → Nat → Int} {T : jH} {ln le at0 fk op0 nd tk0 li ec : Int} (hd : 71 ≤ d + 1) (hW : Wk G A) (e_ln : G 9 = ln) (e_le : A 4 (ln).toNat = le) (e_at0 : G 10 = at0) (e_fk : G 16 = fk) (e_op0 : G 15 = op0) (e_nd : G 31 = nd) (e_tk0 : G 11 = tk0) (e_li : G 3 = li) (e_ec : ecn A (G 31) = ec) (i_SV : SV Vs sb G A) (p_0 : 0 ≤ op0 ∧ op0 ≤ 8) (p_1 : fk = 0) (p_2 : nd ≤ 2 * at0 - tz tk0 + 42) (p_3 : at0 ≤ le) (p_4 : ln < li) : ∀ (L : jL) (Gx : Nat → Int) (Ax : Nat → Nat → Int) (one pl s at1 tk1 fk1 nd1 op1 ks ec1 : Int), jGet L 0 = some (.ref 66) → jGet L 6 = some (.int (i32 (0))) → jGet L 5 = some (.int (i32 (0))) → jGet L 1 = some (.int (i32 one)) → jGet L 3 = some (.int (i32 pl)) → jGet L 4 = some (.int (i32 s)) → Wk Gx Ax → Fr [9, 10, 11, 12, 13, 14, 15, 16, 17, 18, 31] [15, 16, 17, 18, 19, 20, 21, 22, 24, 28] G A Gx Ax → Pf nd A Ax → Gx 10 = at1 → Gx 11 = tk1 → Gx 16 = fk1 → Gx 31 = nd1 → Gx 15 = op1 → Ax 7 (s).toNat = ks → ecn Ax (Gx 31) = ec1 → Gx 9 = ln → ((-2147483648 : Int) ≤ one ∧ one ≤ 2147483647) → ((-2147483648 : Int) ≤ pl ∧ pl ≤ 2147483647) → ((-2147483648 : Int) ≤ s ∧ s ≤ 2147483647) → (at0 ≤ at1) → (at1 ≤ le) → (nd ≤ nd1) → (op1 = op0) → (one = nd) → (one ≤ 6998 ∧ one < nd1) → (fk1 = 0) → (nd1 - nd ≤ (2 * at1 - tz tk1) - (2 * at0 - tz tk0)) → (0 ≤ s ∧ s ≤ 201) → (-3000 ≤ pl ∧ pl ≤ 3002) → (SY Vs sb (s)) → (ND Ax (one) (33) (0) (0) (0) (0) (0) (0)) → (nd + 5 * ec ≤ nd1 - tz tk1) → (nd1 - nd + 5 * (ec1 - ec) ≤ (2 * at1 - tz tk1) - (2 * at0 - tz tk0) - tz tk1) → wj X d jm303 (108, L, [], rV c0 c1 Gx Ax T) (fun o V' => ∃ (G' : Nat → Int) (A' : Nat → Nat → Int) (r : Int) (at2 : Int) (fk2 : Int) (nd2 : Int) (ln2 : Int) (ec2 : Int), V' = rV c0 c1 G' A' T ∧ o = .inl (some (.int (i32 r))) ∧ Wk G' A' ∧ Fr [9, 10, 11, 12, 13, 14, 15, 16, 17, 18, 31] [15, 16, 17, 18, 19, 20, 21, 22, 24, 28] G A G' A' ∧ Pf nd A A' ∧ ((-2147483648 : Int) ≤ r ∧ r ≤ 2147483647) ∧ G' 10 = at2 ∧ G' 16 = fk2 ∧ G' 31 = nd2 ∧ G' 9 = ln2 ∧ ecn A' (G' 31) = ec2 ∧ (at0 ≤ at2) ∧ (at2 ≤ le) ∧ (nd ≤ nd2) ∧ (0 ≤ r) ∧ (r ≤ nd2) ∧ (((1 ≤ fk2) ∧ (ln2 = ln) ∧ (nd2 - nd ≤ 2 * at2 - 2 * at0 + 12)) ∨ ((fk2 = 0) ∧ (ln2 = ln + 1) ∧ (nd2 - nd ≤ 2 * at2 - (2 * at0 - tz tk0) + 0) ∧ (nd ≤ r) ∧ (r < nd2) ∧ (wU A' Vs sb (r) (nd) (nd2)) ∧ (NX A' (r)) ∧ (nd2 - nd + 5 * (ec2 - ec) ≤ 2 * at2 - (2 * at0 - tz tk0) + 0) ∧ (nd + 5 * ec ≤ r)))) := by
  have hF0 : Fr [9, 10, 11, 12, 13, 14, 15, 16, 17, 18, 31] [15, 16, 17, 18, 19, 20, 21, 22, 24, 28] G A G A := Fr_rf
  have hP0 : Pf nd A A := Pf_rf
  have b_ln : (0 : Int) ≤ ln ∧ ln ≤ 3000 := e_ln ▸ hW.1 9
  have b_le : (0 : Int) ≤ le ∧ le ≤ 3000 := e_le ▸ hW.2 4 _
  have b_at0 : (0 : Int) ≤ at0 ∧ at0 ≤ 3002 := e_at0 ▸ hW.1 10
  have b_fk : (0 : Int) ≤ fk ∧ fk ≤ 6 := e_fk ▸ hW.1 16
  have b_op0 : (-2147483648 : Int) ≤ op0 ∧ op0 ≤ 2147483647 := e_op0 ▸ hW.1 15
  have b_nd : (0 : Int) ≤ nd ∧ nd ≤ 6999 := e_nd ▸ hW.1 31
  have z_tk0 := tz_f tk0
  have b_tk0 : (0 : Int) ≤ tk0 ∧ tk0 ≤ 5 := e_tk0 ▸ hW.1 11
  have b_li : (0 : Int) ≤ li ∧ li ≤ 3000 := e_li ▸ hW.1 3
  intro L Gx Ax one pl s at1 tk1 fk1 nd1 op1 ks ec1 gL_0 gL_6 gL_5 gL_1 gL_3 gL_4 hWx hFx hPx ex_at1 ex_tk1 ex_fk1 ex_nd1 ex_op1 ex_ks ex_ec1 fx_9 rx_one rx_pl rx_s iv_0 iv_1 iv_2 iv_3 iv_4 iv_5 iv_6 iv_7 iv_8 iv_9 iv_10 iv_11 iv_12 iv_13
  have b_at1 : (0 : Int) ≤ at1 ∧ at1 ≤ 3002 := ex_at1 ▸ hWx.1 10
  have z_tk1 := tz_f tk1
  have b_tk1 : (0 : Int) ≤ tk1 ∧ tk1 ≤ 5 := ex_tk1 ▸ hWx.1 11
  have b_fk1 : (0 : Int) ≤ fk1 ∧ fk1 ≤ 6 := ex_fk1 ▸ hWx.1 16
  have b_nd1 : (0 : Int) ≤ nd1 ∧ nd1 ≤ 6999 := ex_nd1 ▸ hWx.1 31
  have b_op1 : (-2147483648 : Int) ≤ op1 ∧ op1 ≤ 2147483647 := ex_op1 ▸ hWx.1 15
  have b_ks : (0 : Int) ≤ ks ∧ ks ≤ 14 := ex_ks ▸ hWx.2 7 _
  refine jx_ld (pc' := 109) (l' := L) (st' := [.ref 66]) rfl (jl_aloadn gL_0) ?_
  refine jx_ar (pc' := 111) (st' := [.int (i32 (63)), .ref 66]) rfl rfl rfl rfl ?_
  have b1206 : (-2147483648 : Int) ≤ Gx 13 ∧ Gx 13 ≤ 2147483647 := hWx.1 13
  refine jx_vr (pc' := 114) (as := [.int (i32 (63))]) (st := []) rfl rfl rfl rfl ⟨rfl, rfl, Nat.le_of_ble_eq_true rfl⟩ rfl rfl (c_is (dd := d) (hd := by omega) (hW := hWx) (k := 63) (tk := tk1) (e_tk := show Gx 11 = tk1 from (ex_tk1)) (tn := Gx 13) (e_tn := show Gx 13 = Gx 13 from rfl)  (h_k := ⟨(by decide), (by decide)⟩)  ) (fun o V' hq => ?_)
  obtain ⟨r1207, rfl, rfl, b1208, q1209⟩ := hq
  refine .inr ⟨_, rfl, ?_⟩
  rcases q1209 with ⟨rfl, a1210, a1211, a1212⟩ | rfl
  · have _q : True := trivial
    refine jx_ld (pc' := 116) (l' := jSto1 L 7 (.int (i32 (1)))) (st' := []) rfl rfl ?_
    obtain ⟨L1213, eL1213⟩ : ∃ q, q = jSto1 L 7 (.int (i32 (1))) := ⟨_, rfl⟩
    rw [← eL1213]
    have gL1213_0 : jGet L1213 0 = some (.ref 66) := eL1213 ▸ jg_ne (by decide) gL_0 rfl
    have gL1213_6 : jGet L1213 6 = some (.int (i32 (0))) := eL1213 ▸ jg_ne (by decide) gL_6 rfl
    have gL1213_5 : jGet L1213 5 = some (.int (i32 (0))) := eL1213 ▸ jg_ne (by decide) gL_5 rfl
    have gL1213_1 : jGet L1213 1 = some (.int (i32 (one))) := eL1213 ▸ jg_ne (by decide) gL_1 rfl
    have gL1213_3 : jGet L1213 3 = some (.int (i32 (pl))) := eL1213 ▸ jg_ne (by decide) gL_3 rfl
    have gL1213_4 : jGet L1213 4 = some (.int (i32 (s))) := eL1213 ▸ jg_ne (by decide) gL_4 rfl
    have gL1213_7 : jGet L1213 7 = some (.int (i32 (1))) := eL1213 ▸ jg_eq
    refine jx_ld (pc' := 117) (l' := L1213) (st' := [.ref 66]) rfl (jl_aloadn gL1213_0) ?_
    refine jr_get (pc' := 120) (i := 21) (v := .ref 74) rfl rfl (by decide) rfl rfl ?_
    refine jx_ld (pc' := 122) (l' := L1213) (st' := [.int (i32 (s)), .ref 74]) rfl (jl_iload gL1213_4) ?_
    refine jr_ldv (pc' := 123) (i := 7) (m := 260) (z := s) (y := ks) rfl (by decide) rfl (by decide) (by omega) (by omega) rfl (show Ax 7 (s).toNat = ks from (ex_ks)) ?_
    refine jx_ld (pc' := 125) (l' := jSto1 L1213 8 (.int (i32 (ks)))) (st' := []) rfl rfl ?_
    obtain ⟨L1214, eL1214⟩ : ∃ q, q = jSto1 L1213 8 (.int (i32 (ks))) := ⟨_, rfl⟩
    rw [← eL1214]
    have gL1214_0 : jGet L1214 0 = some (.ref 66) := eL1214 ▸ jg_ne (by decide) gL1213_0 rfl
    have gL1214_6 : jGet L1214 6 = some (.int (i32 (0))) := eL1214 ▸ jg_ne (by decide) gL1213_6 rfl
    have gL1214_5 : jGet L1214 5 = some (.int (i32 (0))) := eL1214 ▸ jg_ne (by decide) gL1213_5 rfl
    have gL1214_1 : jGet L1214 1 = some (.int (i32 (one))) := eL1214 ▸ jg_ne (by decide) gL1213_1 rfl
    have gL1214_3 : jGet L1214 3 = some (.int (i32 (pl))) := eL1214 ▸ jg_ne (by decide) gL1213_3 rfl
    have gL1214_4 : jGet L1214 4 = some (.int (i32 (s))) := eL1214 ▸ jg_ne (by decide) gL1213_4 rfl
    have gL1214_7 : jGet L1214 7 = some (.int (i32 (1))) := eL1214 ▸ jg_ne (by decide) gL1213_7 rfl
    have gL1214_8 : jGet L1214 8 = some (.int (i32 (ks))) := eL1214 ▸ jg_eq
    refine jx_ld (pc' := 127) (l' := L1214) (st' := [.int (i32 (1))]) rfl (jl_iload gL1214_7) ?_
    refine jx_if_ne (pc' := 130) (tg := 157) rfl rfl rfl (by decide) (by decide) (fun h1215 => ?_) (fun h1215 => ?_)
    · have _q := h1215
      have z1216 := tz_f (tk1)
      exact c_readGuard_w_at_157_0_1 (X := X) (d := d) (Vs := Vs) (sb := sb) (c0 := c0) (c1 := c1) (G := G) (A := A) (T := T) (ln := ln) (le := le) (at0 := at0) (fk := fk) (op0 := op0) (nd := nd) (tk0 := tk0) (li := li) (ec := ec) (hd := hd) (hW := hW) (e_ln := e_ln) (e_le := e_le) (e_at0 := e_at0) (e_fk := e_fk) (e_op0 := e_op0) (e_nd := e_nd) (e_tk0 := e_tk0) (e_li := e_li) (e_ec := e_ec) (i_SV := i_SV) (p_0 := p_0) (p_1 := p_1) (p_2 := p_2) (p_3 := p_3) (p_4 := p_4) L1214 Gx Ax (one) (pl) (s) (at1) (tk1) (fk1) (nd1) (op1) (ks) (ec1) gL1214_0 gL1214_6 gL1214_7 gL1214_8 gL1214_5 gL1214_1 gL1214_3 gL1214_4 hWx hFx hPx ((ex_at1)) ((ex_tk1)) ((ex_fk1)) ((ex_nd1)) ((ex_op1)) ((ex_ks)) (ex_ec1) ((fx_9)) (by omega) (by omega) (by omega) (by omega) (by omega) (by omega) (by omega) (by omega) (by omega) (by omega) (by omega) (by omega) (by omega) (iv_10) (iv_11) (by omega) (by omega) (by omega)
    · have _q := h1215
      exact absurd h1215 (by omega)
  · have _q : True := trivial
    refine jx_ld (pc' := 116) (l' := jSto1 L 7 (.int (i32 (0)))) (st' := []) rfl rfl ?_
    obtain ⟨L1217, eL1217⟩ : ∃ q, q = jSto1 L 7 (.int (i32 (0))) := ⟨_, rfl⟩
    rw [← eL1217]
    have gL1217_0 : jGet L1217 0 = some (.ref 66) := eL1217 ▸ jg_ne (by decide) gL_0 rfl
    have gL1217_6 : jGet L1217 6 = some (.int (i32 (0))) := eL1217 ▸ jg_ne (by decide) gL_6 rfl
    have gL1217_5 : jGet L1217 5 = some (.int (i32 (0))) := eL1217 ▸ jg_ne (by decide) gL_5 rfl
    have gL1217_1 : jGet L1217 1 = some (.int (i32 (one))) := eL1217 ▸ jg_ne (by decide) gL_1 rfl
    have gL1217_3 : jGet L1217 3 = some (.int (i32 (pl))) := eL1217 ▸ jg_ne (by decide) gL_3 rfl
    have gL1217_4 : jGet L1217 4 = some (.int (i32 (s))) := eL1217 ▸ jg_ne (by decide) gL_4 rfl
    have gL1217_7 : jGet L1217 7 = some (.int (i32 (0))) := eL1217 ▸ jg_eq
    refine jx_ld (pc' := 117) (l' := L1217) (st' := [.ref 66]) rfl (jl_aloadn gL1217_0) ?_
    refine jr_get (pc' := 120) (i := 21) (v := .ref 74) rfl rfl (by decide) rfl rfl ?_
    refine jx_ld (pc' := 122) (l' := L1217) (st' := [.int (i32 (s)), .ref 74]) rfl (jl_iload gL1217_4) ?_
    refine jr_ldv (pc' := 123) (i := 7) (m := 260) (z := s) (y := ks) rfl (by decide) rfl (by decide) (by omega) (by omega) rfl (show Ax 7 (s).toNat = ks from (ex_ks)) ?_
    refine jx_ld (pc' := 125) (l' := jSto1 L1217 8 (.int (i32 (ks)))) (st' := []) rfl rfl ?_
    obtain ⟨L1218, eL1218⟩ : ∃ q, q = jSto1 L1217 8 (.int (i32 (ks))) := ⟨_, rfl⟩
    rw [← eL1218]
    have gL1218_0 : jGet L1218 0 = some (.ref 66) := eL1218 ▸ jg_ne (by decide) gL1217_0 rfl
    have gL1218_6 : jGet L1218 6 = some (.int (i32 (0))) := eL1218 ▸ jg_ne (by decide) gL1217_6 rfl
    have gL1218_5 : jGet L1218 5 = some (.int (i32 (0))) := eL1218 ▸ jg_ne (by decide) gL1217_5 rfl
    have gL1218_1 : jGet L1218 1 = some (.int (i32 (one))) := eL1218 ▸ jg_ne (by decide) gL1217_1 rfl
    have gL1218_3 : jGet L1218 3 = some (.int (i32 (pl))) := eL1218 ▸ jg_ne (by decide) gL1217_3 rfl
    have gL1218_4 : jGet L1218 4 = some (.int (i32 (s))) := eL1218 ▸ jg_ne (by decide) gL1217_4 rfl
    have gL1218_7 : jGet L1218 7 = some (.int (i32 (0))) := eL1218 ▸ jg_ne (by decide) gL1217_7 rfl
    have gL1218_8 : jGet L1218 8 = some (.int (i32 (ks))) := eL1218 ▸ jg_eq
    refine jx_ld (pc' := 127) (l' := L1218) (st' := [.int (i32 (0))]) rfl (jl_iload gL1218_7) ?_
    refine jx_if_ne (pc' := 130) (tg := 157) rfl rfl rfl (by decide) (by decide) (fun h1219 => ?_) (fun h1219 => ?_)
    · have _q := h1219
      exact absurd h1219 (by omega)
    · have _q := h1219
      refine jx_ld (pc' := 131) (l' := L1218) (st' := [.ref 66]) rfl (jl_aloadn gL1218_0) ?_
      refine jx_ar (pc' := 133) (st' := [.int (i32 (38)), .ref 66]) rfl rfl rfl rfl ?_
      refine jx_vr (pc' := 136) (as := [.int (i32 (38))]) (st := []) rfl rfl rfl rfl ⟨rfl, rfl, Nat.le_of_ble_eq_true rfl⟩ rfl rfl (c_is (dd := d) (hd := by omega) (hW := hWx) (k := 38) (tk := tk1) (e_tk := show Gx 11 = tk1 from (ex_tk1)) (tn := Gx 13) (e_tn := show Gx 13 = Gx 13 from rfl)  (h_k := ⟨(by decide), (by decide)⟩)  ) (fun o V' hq => ?_)
      obtain ⟨r1220, rfl, rfl, b1221, q1222⟩ := hq
      refine .inr ⟨_, rfl, ?_⟩
      rcases q1222 with ⟨rfl, a1223, a1224, a1225⟩ | rfl
      · have _q : True := trivial
        refine jx_if_ne (pc' := 139) (tg := 157) rfl rfl rfl (by decide) (by decide) (fun h1226 => ?_) (fun h1226 => ?_)
        · have _q := h1226
          have z1227 := tz_f (tk1)
          exact c_readGuard_w_at_157_0_0 (X := X) (d := d) (Vs := Vs) (sb := sb) (c0 := c0) (c1 := c1) (G := G) (A := A) (T := T) (ln := ln) (le := le) (at0 := at0) (fk := fk) (op0 := op0) (nd := nd) (tk0 := tk0) (li := li) (ec := ec) (hd := hd) (hW := hW) (e_ln := e_ln) (e_le := e_le) (e_at0 := e_at0) (e_fk := e_fk) (e_op0 := e_op0) (e_nd := e_nd) (e_tk0 := e_tk0) (e_li := e_li) (e_ec := e_ec) (i_SV := i_SV) (p_0 := p_0) (p_1 := p_1) (p_2 := p_2) (p_3 := p_3) (p_4 := p_4) L1218 Gx Ax (one) (pl) (s) (at1) (tk1) (fk1) (nd1) (op1) (ks) (ec1) gL1218_0 gL1218_6 gL1218_7 gL1218_8 gL1218_5 gL1218_1 gL1218_3 gL1218_4 hWx hFx hPx ((ex_at1)) ((ex_tk1)) ((ex_fk1)) ((ex_nd1)) ((ex_op1)) ((ex_ks)) (ex_ec1) ((fx_9)) (by omega) (by omega) (by omega) (by omega) (by omega) (by omega) (by omega) (by omega) (by omega) (by omega) (by omega) (by omega) (by omega) (iv_10) (iv_11) (by omega) (by omega)
        · have _q := h1226
          exact absurd h1226 (by omega)
      · have _q : True := trivial
        refine jx_if_ne (pc' := 139) (tg := 157) rfl rfl rfl (by decide) (by decide) (fun h1228 => ?_) (fun h1228 => ?_)
        · have _q := h1228
          exact absurd h1228 (by omega)
        · have _q := h1228
          refine jx_ld (pc' := 140) (l' := L1218) (st' := [.ref 66]) rfl (jl_aloadn gL1218_0) ?_
          refine jx_vr (pc' := 143) (as := []) (st := []) rfl rfl rfl rfl ⟨rfl, rfl, Nat.le_of_ble_eq_true rfl⟩ rfl rfl (c_operationAt (dd := d) (hd := by omega) (hW := hWx)  (tk := tk1) (e_tk := show Gx 11 = tk1 from (ex_tk1)) (tn := Gx 13) (e_tn := show Gx 13 = Gx 13 from rfl)    ) (fun o V' hq => ?_)
          obtain ⟨r1229, rfl, rfl, b1230, q1231⟩ := hq
          refine .inr ⟨_, rfl, ?_⟩
          rcases q1231 with rfl | a1232
          · have _q : True := trivial
            refine jx_if_ne (pc' := 146) (tg := 157) rfl rfl rfl (by decide) (by decide) (fun h1233 => ?_) (fun h1233 => ?_)
            · have _q := h1233
              exact absurd h1233 (by omega)
            · have _q := h1233
              refine jx_ld (pc' := 147) (l' := L1218) (st' := [.ref 66]) rfl (jl_aloadn gL1218_0) ?_
              refine jx_ar (pc' := 148) (st' := [.int (i32 (1)), .ref 66]) rfl rfl rfl rfl ?_
              refine jx_ld (pc' := 149) (l' := L1218) (st' := [.ref 66, .int (i32 (1)), .ref 66]) rfl (jl_aloadn gL1218_0) ?_
              have b1234 : (-3000 : Int) ≤ Gx 12 ∧ Gx 12 ≤ 3002 := hWx.1 12
              refine jr_get (pc' := 152) (i := 12) (v := .int (i32 (Gx 12))) rfl rfl (by decide) rfl rfl ?_
              refine jx_vr (pc' := 155) (as := [.int (i32 (1)), .int (i32 (Gx 12))]) (st := []) rfl rfl rfl rfl ⟨rfl, rfl, Nat.le_of_ble_eq_true rfl⟩ rfl rfl (c_fail (dd := d) (hd := by omega) (hW := hWx) (kind := 1) (place := Gx 12) (fk := fk1) (e_fk := show Gx 16 = fk1 from (ex_fk1))  (h_kind := ⟨(by decide), (by decide)⟩) (h_place := ⟨(Int.le_trans (by decide : (-2147483648 : Int) ≤ -3000) b1234.1), (Int.le_trans b1234.2 (by decide : (3002 : Int) ≤ 2147483647))⟩)  (p_0 := by omega) (p_1 := by omega)) (fun o V' hq => ?_)
              obtain ⟨G1235, A1236, fk2_1237, rfl, rfl, hW1238, hF1239, e1240, p1241, -⟩ := hq
              have hF1243 := Fr_tr hFx hF1239 (Fr_sub (by decide)) (Fr_sub (by decide))
              have hP1244 := Pf_f hPx hF1239 (by decide)
              have sf1245 : ND A1236 (one) (33) (0) (0) (0) (0) (0) (0) := ND_ag (by omega) (Ag_fr hF1239 (by decide)) iv_11
              have ec1246 : ecn A1236 (G1235 31) = ec1 := (ecn_f (hF1239.2 15 rfl) (hF1239.1 31 rfl)).trans ex_ec1
              have bfk2_1237 : (0 : Int) ≤ fk2_1237 ∧ fk2_1237 ≤ 6 := e1240 ▸ hW1238.1 16
              refine .inl ⟨rfl, ?_⟩
              refine jx_ar (pc' := 156) (st' := [.int (i32 (0))]) rfl rfl rfl rfl ?_
              refine jx_rt (v := some (.int (i32 (0)))) rfl rfl rfl rfl rfl rfl ?_
              exact ⟨_, _, _, at1, fk2_1237, nd1, ln, ec1, rfl, rfl, hW1238, hF1243, hP1244, by omega, ((hF1239.1 10 rfl).trans (ex_at1)), (e1240), ((hF1239.1 31 rfl).trans (ex_nd1)), ((hF1239.1 9 rfl).trans (fx_9)), ec1246, by omega, by omega, by omega, by omega, by omega, by first | exact Or.inl (⟨by omega, by omega, by omega⟩)⟩
          · have _q : True := trivial
            refine jx_if_ne (pc' := 146) (tg := 157) rfl rfl rfl (Int.le_trans (by decide : (-2147483648 : Int) ≤ -2147483648) b1230.1) (Int.le_trans b1230.2 (by decide : (2147483647 : Int) ≤ 2147483647)) (fun h1247 => ?_) (fun h1247 => ?_)
            · have _q := h1247
              have z1248 := tz_f (tk1)
              exact c_readGuard_w_at_157_0_0 (X := X) (d := d) (Vs := Vs) (sb := sb) (c0 := c0) (c1 := c1) (G := G) (A := A) (T := T) (ln := ln) (le := le) (at0 := at0) (fk := fk) (op0 := op0) (nd := nd) (tk0 := tk0) (li := li) (ec := ec) (hd := hd) (hW := hW) (e_ln := e_ln) (e_le := e_le) (e_at0 := e_at0) (e_fk := e_fk) (e_op0 := e_op0) (e_nd := e_nd) (e_tk0 := e_tk0) (e_li := e_li) (e_ec := e_ec) (i_SV := i_SV) (p_0 := p_0) (p_1 := p_1) (p_2 := p_2) (p_3 := p_3) (p_4 := p_4) L1218 Gx Ax (one) (pl) (s) (at1) (tk1) (fk1) (nd1) (op1) (ks) (ec1) gL1218_0 gL1218_6 gL1218_7 gL1218_8 gL1218_5 gL1218_1 gL1218_3 gL1218_4 hWx hFx hPx ((ex_at1)) ((ex_tk1)) ((ex_fk1)) ((ex_nd1)) ((ex_op1)) ((ex_ks)) (ex_ec1) ((fx_9)) (by omega) (by omega) (by omega) (by omega) (by omega) (by omega) (by omega) (by omega) (by omega) (by omega) (by omega) (by omega) (by omega) (iv_10) (iv_11) (by omega) (by omega)
            · have _q := h1247
              refine jx_ld (pc' := 147) (l' := L1218) (st' := [.ref 66]) rfl (jl_aloadn gL1218_0) ?_
              refine jx_ar (pc' := 148) (st' := [.int (i32 (1)), .ref 66]) rfl rfl rfl rfl ?_
              refine jx_ld (pc' := 149) (l' := L1218) (st' := [.ref 66, .int (i32 (1)), .ref 66]) rfl (jl_aloadn gL1218_0) ?_
              have b1249 : (-3000 : Int) ≤ Gx 12 ∧ Gx 12 ≤ 3002 := hWx.1 12
              refine jr_get (pc' := 152) (i := 12) (v := .int (i32 (Gx 12))) rfl rfl (by decide) rfl rfl ?_
              refine jx_vr (pc' := 155) (as := [.int (i32 (1)), .int (i32 (Gx 12))]) (st := []) rfl rfl rfl rfl ⟨rfl, rfl, Nat.le_of_ble_eq_true rfl⟩ rfl rfl (c_fail (dd := d) (hd := by omega) (hW := hWx) (kind := 1) (place := Gx 12) (fk := fk1) (e_fk := show Gx 16 = fk1 from (ex_fk1))  (h_kind := ⟨(by decide), (by decide)⟩) (h_place := ⟨(Int.le_trans (by decide : (-2147483648 : Int) ≤ -3000) b1249.1), (Int.le_trans b1249.2 (by decide : (3002 : Int) ≤ 2147483647))⟩)  (p_0 := by omega) (p_1 := by omega)) (fun o V' hq => ?_)
              obtain ⟨G1250, A1251, fk2_1252, rfl, rfl, hW1253, hF1254, e1255, p1256, -⟩ := hq
              have hF1258 := Fr_tr hFx hF1254 (Fr_sub (by decide)) (Fr_sub (by decide))
              have hP1259 := Pf_f hPx hF1254 (by decide)
              have sf1260 : ND A1251 (one) (33) (0) (0) (0) (0) (0) (0) := ND_ag (by omega) (Ag_fr hF1254 (by decide)) iv_11
              have ec1261 : ecn A1251 (G1250 31) = ec1 := (ecn_f (hF1254.2 15 rfl) (hF1254.1 31 rfl)).trans ex_ec1
              have bfk2_1252 : (0 : Int) ≤ fk2_1252 ∧ fk2_1252 ≤ 6 := e1255 ▸ hW1253.1 16
              refine .inl ⟨rfl, ?_⟩
              refine jx_ar (pc' := 156) (st' := [.int (i32 (0))]) rfl rfl rfl rfl ?_
              refine jx_rt (v := some (.int (i32 (0)))) rfl rfl rfl rfl rfl rfl ?_
              exact ⟨_, _, _, at1, fk2_1252, nd1, ln, ec1, rfl, rfl, hW1253, hF1258, hP1259, by omega, ((hF1254.1 10 rfl).trans (ex_at1)), (e1255), ((hF1254.1 31 rfl).trans (ex_nd1)), ((hF1254.1 9 rfl).trans (fx_9)), ec1261, by omega, by omega, by omega, by omega, by omega, by first | exact Or.inl (⟨by omega, by omega, by omega⟩)⟩
set_option maxRecDepth 20000 in
set_option maxHeartbeats 4000000 in
theorem c_readGuard_w {X : jX} {dd : Nat} {Vs : Nat → Prop} {sb : Int} {c0 c1 : jC} {G : Nat → Int} {A : Nat → Nat → Int} {T : jH} {ln le at0 fk op0 nd tk0 li ec : Int} (hd : 71 ≤ dd) (hW : Wk G A) (e_ln : G 9 = ln) (e_le : A 4 (ln).toNat = le) (e_at0 : G 10 = at0) (e_fk : G 16 = fk) (e_op0 : G 15 = op0) (e_nd : G 31 = nd) (e_tk0 : G 11 = tk0) (e_li : G 3 = li) (e_ec : ecn A (G 31) = ec) (i_SV : SV Vs sb G A) (p_0 : 0 ≤ op0 ∧ op0 ≤ 8) (p_1 : fk = 0) (p_2 : nd ≤ 2 * at0 - tz tk0 + 42) (p_3 : at0 ≤ le) (p_4 : ln < li) : wk X dd 303 [.ref 66] (rV c0 c1 G A T) (fun o V' => ∃ (G' : Nat → Int) (A' : Nat → Nat → Int) (r : Int) (at2 : Int) (fk2 : Int) (nd2 : Int) (ln2 : Int) (ec2 : Int), V' = rV c0 c1 G' A' T ∧ o = .inl (some (.int (i32 r))) ∧ Wk G' A' ∧ Fr [9, 10, 11, 12, 13, 14, 15, 16, 17, 18, 31] [15, 16, 17, 18, 19, 20, 21, 22, 24, 28] G A G' A' ∧ Pf nd A A' ∧ ((-2147483648 : Int) ≤ r ∧ r ≤ 2147483647) ∧ G' 10 = at2 ∧ G' 16 = fk2 ∧ G' 31 = nd2 ∧ G' 9 = ln2 ∧ ecn A' (G' 31) = ec2 ∧ (at0 ≤ at2) ∧ (at2 ≤ le) ∧ (nd ≤ nd2) ∧ (0 ≤ r) ∧ (r ≤ nd2) ∧ (((1 ≤ fk2) ∧ (ln2 = ln) ∧ (nd2 - nd ≤ 2 * at2 - 2 * at0 + 12)) ∨ ((fk2 = 0) ∧ (ln2 = ln + 1) ∧ (nd2 - nd ≤ 2 * at2 - (2 * at0 - tz tk0) + 0) ∧ (nd ≤ r) ∧ (r < nd2) ∧ (wU A' Vs sb (r) (nd) (nd2)) ∧ (NX A' (r)) ∧ (nd2 - nd + 5 * (ec2 - ec) ≤ 2 * at2 - (2 * at0 - tz tk0) + 0) ∧ (nd + 5 * ec ≤ r)))) := by
  obtain ⟨d, rfl⟩ : ∃ d, dd = d + 1 := ⟨dd - 1, by omega⟩
  refine wk_of (e := jm303) rfl (Nat.le_of_ble_eq_true rfl) ?_
  show wj X d jm303 (0, [(0, .ref 66)], [], rV c0 c1 G A T) _
  have hF0 : Fr [9, 10, 11, 12, 13, 14, 15, 16, 17, 18, 31] [15, 16, 17, 18, 19, 20, 21, 22, 24, 28] G A G A := Fr_rf
  have hP0 : Pf nd A A := Pf_rf
  have b_ln : (0 : Int) ≤ ln ∧ ln ≤ 3000 := e_ln ▸ hW.1 9
  have b_le : (0 : Int) ≤ le ∧ le ≤ 3000 := e_le ▸ hW.2 4 _
  have b_at0 : (0 : Int) ≤ at0 ∧ at0 ≤ 3002 := e_at0 ▸ hW.1 10
  have b_fk : (0 : Int) ≤ fk ∧ fk ≤ 6 := e_fk ▸ hW.1 16
  have b_op0 : (-2147483648 : Int) ≤ op0 ∧ op0 ≤ 2147483647 := e_op0 ▸ hW.1 15
  have b_nd : (0 : Int) ≤ nd ∧ nd ≤ 6999 := e_nd ▸ hW.1 31
  have z_tk0 := tz_f tk0
  have b_tk0 : (0 : Int) ≤ tk0 ∧ tk0 ≤ 5 := e_tk0 ▸ hW.1 11
  have b_li : (0 : Int) ≤ li ∧ li ≤ 3000 := e_li ▸ hW.1 3
  refine jx_ld (pc' := 1) (l' := [(0, .ref 66)]) (st' := [.ref 66]) rfl (jl_aloadn rfl) ?_
  refine jx_ar (pc' := 3) (st' := [.int (i32 (33)), .ref 66]) rfl rfl rfl rfl ?_
  refine jx_ar (pc' := 4) (st' := [.int (i32 (0)), .int (i32 (33)), .ref 66]) rfl rfl rfl rfl ?_
  refine jx_ar (pc' := 5) (st' := [.int (i32 (0)), .int (i32 (0)), .int (i32 (33)), .ref 66]) rfl rfl rfl rfl ?_
  refine jx_ar (pc' := 6) (st' := [.int (i32 (0)), .int (i32 (0)), .int (i32 (0)), .int (i32 (33)), .ref 66]) rfl rfl rfl rfl ?_
  refine jx_ar (pc' := 7) (st' := [.int (i32 (0)), .int (i32 (0)), .int (i32 (0)), .int (i32 (0)), .int (i32 (33)), .ref 66]) rfl rfl rfl rfl ?_
  refine jx_vr (pc' := 10) (as := [.int (i32 (33)), .int (i32 (0)), .int (i32 (0)), .int (i32 (0)), .int (i32 (0))]) (st := []) rfl rfl rfl rfl ⟨rfl, rfl, Nat.le_of_ble_eq_true rfl⟩ rfl rfl (c_node_o (dd := d) (hd := by omega) (hW := hW) (kind := 33) (a := 0) (b := 0) (c := 0) (e := 0) (nd := nd) (e_nd := show G 31 = nd from (e_nd)) (ec := ec) (e_ec := show ecn A (G 31) = ec from e_ec)  (h_kind := ⟨(by decide), (by decide)⟩) (h_a := ⟨(by decide), (by decide)⟩) (h_b := ⟨(by decide), (by decide)⟩) (h_c := ⟨(by decide), (by decide)⟩) (h_e := ⟨(by decide), (by decide)⟩)  (p_0 := by omega) (p_1 := by omega) (p_2 := by omega)) (fun o V' hq => ?_)
  obtain ⟨G1262, A1263, nd2_1264, ec2_1265, rfl, rfl, hW1266, hF1267, hQ1268, e1269, e1270, p1271, p1272, p1273, -⟩ := hq
  have hF1275 := Fr_tr hF0 hF1267 (Fr_sub (by decide)) (Fr_sub (by decide))
  have hP1276 := Pf_tr hP0 hQ1268 (by omega)
  have bnd2_1264 : (0 : Int) ≤ nd2_1264 ∧ nd2_1264 ≤ 6999 := e1269 ▸ hW1266.1 31
  refine .inr ⟨_, rfl, ?_⟩
  refine jx_ld (pc' := 11) (l' := jSto1 [(0, .ref 66)] 1 (.int (i32 (nd)))) (st' := []) rfl rfl ?_
  obtain ⟨L1277, eL1277⟩ : ∃ q, q = jSto1 [(0, .ref 66)] 1 (.int (i32 (nd))) := ⟨_, rfl⟩
  rw [← eL1277]
  have gL1277_0 : jGet L1277 0 = some (.ref 66) := eL1277 ▸ jg_ne (by decide) (rfl : jGet [(0, .ref 66)] 0 = some (.ref 66)) rfl
  have gL1277_1 : jGet L1277 1 = some (.int (i32 (nd))) := eL1277 ▸ jg_eq
  refine jx_ar (pc' := 12) (st' := [.int (i32 (0))]) rfl rfl rfl rfl ?_
  refine jx_ld (pc' := 13) (l' := jSto1 L1277 2 (.int (i32 (0)))) (st' := []) rfl rfl ?_
  obtain ⟨L1278, eL1278⟩ : ∃ q, q = jSto1 L1277 2 (.int (i32 (0))) := ⟨_, rfl⟩
  rw [← eL1278]
  have gL1278_0 : jGet L1278 0 = some (.ref 66) := eL1278 ▸ jg_ne (by decide) gL1277_0 rfl
  have gL1278_1 : jGet L1278 1 = some (.int (i32 (nd))) := eL1278 ▸ jg_ne (by decide) gL1277_1 rfl
  have gL1278_2 : jGet L1278 2 = some (.int (i32 (0))) := eL1278 ▸ jg_eq
  refine jx_ld (pc' := 14) (l' := L1278) (st' := [.ref 66]) rfl (jl_aloadn gL1278_0) ?_
  have z1279 := tz_f (tk0)
  refine jr_get (pc' := 17) (i := 11) (v := .int (i32 (tk0))) rfl rfl (by decide) (rFv_eq (by decide) (show G1262 11 = tk0 from ((hF1267.1 11 rfl).trans (e_tk0)))) rfl ?_
  refine jx_ar (pc' := 18) (st' := [.int (i32 (1)), .int (i32 (tk0))]) rfl rfl rfl rfl ?_
  refine jx_icmp_ne (pc' := 21) (tg := 288) rfl rfl rfl (Int.le_trans (by decide : (-2147483648 : Int) ≤ 0) b_tk0.1) (Int.le_trans b_tk0.2 (by decide : (5 : Int) ≤ 2147483647)) (by decide) (by decide) (fun h1280 => ?_) (fun h1280 => ?_)
  · have _q := h1280
    refine jx_ld (pc' := 289) (l' := L1278) (st' := [.ref 66]) rfl (jl_aloadn gL1278_0) ?_
    refine jx_vr (pc' := 292) (as := []) (st := []) rfl rfl rfl rfl ⟨rfl, rfl, Nat.le_of_ble_eq_true rfl⟩ rfl rfl (RE_all X 9 (dd := d) (hd := by omega) (hW := hW1266)  (ln := ln) (e_ln := show G1262 9 = ln from ((hF1267.1 9 rfl).trans (e_ln))) (le := le) (e_le := show A1263 4 (ln).toNat = le from (congrFun (hF1267.2 4 rfl) _).trans (e_le)) (at0 := at0) (e_at0 := show G1262 10 = at0 from ((hF1267.1 10 rfl).trans (e_at0))) (fk := fk) (e_fk := show G1262 16 = fk from ((hF1267.1 16 rfl).trans (e_fk))) (op0 := op0) (e_op0 := show G1262 15 = op0 from ((hF1267.1 15 rfl).trans (e_op0))) (nd := nd2_1264) (e_nd := show G1262 31 = nd2_1264 from (e1269)) (tk0 := tk0) (e_tk0 := show G1262 11 = tk0 from ((hF1267.1 11 rfl).trans (e_tk0))) (ec := ec2_1265) (e_ec := show ecn A1263 (G1262 31) = ec2_1265 from e1270) (i_SV := (SV_ext ((hF1267.1 29 rfl)) ((hF1267.2 14 rfl)) i_SV))   (p_0 := by omega) (p_1 := by omega) (p_2 := by omega) (p_3 := by omega) (p_4 := by omega) (p_5 := by omega)) (fun o V' hq => ?_)
    obtain ⟨G1281, A1282, r1283, at2_1284, fk2_1285, op2_1286, nd2_1287, tk2_1288, ec2_1289, rfl, rfl, hW1290, hF1291, hQ1292, b1293, e1294, e1295, e1296, e1297, e1298, e1299, p1300, p1301, p1302, p1303, p1304, p1305, q1306⟩ := hq
    have hF1307 := Fr_tr hF1275 hF1291 (Fr_sub (by decide)) (Fr_sub (by decide))
    have hP1308 := Pf_tr hP1276 hQ1292 (by omega)
    have sf1309 : ND A1282 (nd) (33) (0) (0) (0) (0) (0) (0) := ND_ag (by omega) (Ag_pf hQ1292 (by omega)) p1273
    have bat2_1284 : (0 : Int) ≤ at2_1284 ∧ at2_1284 ≤ 3002 := e1294 ▸ hW1290.1 10
    have bfk2_1285 : (0 : Int) ≤ fk2_1285 ∧ fk2_1285 ≤ 6 := e1295 ▸ hW1290.1 16
    have bop2_1286 : (-2147483648 : Int) ≤ op2_1286 ∧ op2_1286 ≤ 2147483647 := e1296 ▸ hW1290.1 15
    have bnd2_1287 : (0 : Int) ≤ nd2_1287 ∧ nd2_1287 ≤ 6999 := e1297 ▸ hW1290.1 31
    have ztk2_1288 := tz_b tk2_1288
    have btk2_1288 : (0 : Int) ≤ tk2_1288 ∧ tk2_1288 ≤ 5 := e1298 ▸ hW1290.1 11
    refine .inr ⟨_, rfl, ?_⟩
    rcases q1306 with ⟨a1310, a1311, a1312, a1313, a1314, a1315⟩ | ⟨a1316, a1317, a1318⟩ | ⟨a1319, a1320, a1321, a1322, a1323⟩
    · have _q : True := trivial
      exfalso
      omega
    · have _q : True := trivial
      refine jx_ld (pc' := 293) (l' := jSto1 L1278 2 (.int (i32 (r1283)))) (st' := []) rfl rfl ?_
      obtain ⟨L1324, eL1324⟩ : ∃ q, q = jSto1 L1278 2 (.int (i32 (r1283))) := ⟨_, rfl⟩
      rw [← eL1324]
      have gL1324_0 : jGet L1324 0 = some (.ref 66) := eL1324 ▸ jg_ne (by decide) gL1278_0 rfl
      have gL1324_1 : jGet L1324 1 = some (.int (i32 (nd))) := eL1324 ▸ jg_ne (by decide) gL1278_1 rfl
      have gL1324_2 : jGet L1324 2 = some (.int (i32 (r1283))) := eL1324 ▸ jg_eq
      have z1325 := tz_f (tk2_1288)
      exact c_readGuard_w_at_293p (X := X) (d := d) (Vs := Vs) (sb := sb) (c0 := c0) (c1 := c1) (G := G) (A := A) (T := T) (ln := ln) (le := le) (at0 := at0) (fk := fk) (op0 := op0) (nd := nd) (tk0 := tk0) (li := li) (ec := ec) (hd := hd) (hW := hW) (e_ln := e_ln) (e_le := e_le) (e_at0 := e_at0) (e_fk := e_fk) (e_op0 := e_op0) (e_nd := e_nd) (e_tk0 := e_tk0) (e_li := e_li) (e_ec := e_ec) (i_SV := i_SV) (p_0 := p_0) (p_1 := p_1) (p_2 := p_2) (p_3 := p_3) (p_4 := p_4) L1324 G1281 A1282 (nd) (r1283) (at2_1284) (tk2_1288) (fk2_1285) (nd2_1287) (op2_1286) (ec2_1289) gL1324_0 gL1324_1 gL1324_2 hW1290 hF1307 hP1308 ((e1294)) ((e1298)) ((e1295)) ((e1297)) ((e1296)) (e1299) (((hF1291.1 9 rfl).trans ((hF1267.1 9 rfl).trans (e_ln)))) (by omega) (by omega) (by omega) (by omega) (by omega) (by omega) (by omega) (by omega) (by omega) (by omega)
    · have _q : True := trivial
      refine jx_ld (pc' := 293) (l' := jSto1 L1278 2 (.int (i32 (r1283)))) (st' := []) rfl rfl ?_
      obtain ⟨L1326, eL1326⟩ : ∃ q, q = jSto1 L1278 2 (.int (i32 (r1283))) := ⟨_, rfl⟩
      rw [← eL1326]
      have gL1326_0 : jGet L1326 0 = some (.ref 66) := eL1326 ▸ jg_ne (by decide) gL1278_0 rfl
      have gL1326_1 : jGet L1326 1 = some (.int (i32 (nd))) := eL1326 ▸ jg_ne (by decide) gL1278_1 rfl
      have gL1326_2 : jGet L1326 2 = some (.int (i32 (r1283))) := eL1326 ▸ jg_eq
      have z1327 := tz_f (tk2_1288)
      exact c_readGuard_w_at_293 (X := X) (d := d) (Vs := Vs) (sb := sb) (c0 := c0) (c1 := c1) (G := G) (A := A) (T := T) (ln := ln) (le := le) (at0 := at0) (fk := fk) (op0 := op0) (nd := nd) (tk0 := tk0) (li := li) (ec := ec) (hd := hd) (hW := hW) (e_ln := e_ln) (e_le := e_le) (e_at0 := e_at0) (e_fk := e_fk) (e_op0 := e_op0) (e_nd := e_nd) (e_tk0 := e_tk0) (e_li := e_li) (e_ec := e_ec) (i_SV := i_SV) (p_0 := p_0) (p_1 := p_1) (p_2 := p_2) (p_3 := p_3) (p_4 := p_4) L1326 G1281 A1282 (nd) (r1283) (at2_1284) (tk2_1288) (fk2_1285) (nd2_1287) (op2_1286) (ec2_1289) gL1326_0 gL1326_1 gL1326_2 hW1290 hF1307 hP1308 ((e1294)) ((e1298)) ((e1295)) ((e1297)) ((e1296)) (e1299) (((hF1291.1 9 rfl).trans ((hF1267.1 9 rfl).trans (e_ln)))) (by omega) (by omega) (by omega) (by omega) (by omega) (by omega) (by omega) (by omega) (by omega) (by omega) (by omega) (sf1309) ((wE_mono (by omega) (by omega) (by omega) a1322)) (by omega) (by omega)
  · have _q := h1280
    refine jx_ld (pc' := 22) (l' := L1278) (st' := [.ref 66]) rfl (jl_aloadn gL1278_0) ?_
    have b1328 : (-3000 : Int) ≤ G 12 ∧ G 12 ≤ 3002 := hW.1 12
    refine jr_get (pc' := 25) (i := 12) (v := .int (i32 (G 12))) rfl rfl (by decide) (rFv_eq (by decide) (show G1262 12 = G 12 from (hF1267.1 12 rfl))) rfl ?_
    refine jx_ld (pc' := 26) (l' := jSto1 L1278 3 (.int (i32 (G 12)))) (st' := []) rfl rfl ?_
    obtain ⟨L1329, eL1329⟩ : ∃ q, q = jSto1 L1278 3 (.int (i32 (G 12))) := ⟨_, rfl⟩
    rw [← eL1329]
    have gL1329_0 : jGet L1329 0 = some (.ref 66) := eL1329 ▸ jg_ne (by decide) gL1278_0 rfl
    have gL1329_1 : jGet L1329 1 = some (.int (i32 (nd))) := eL1329 ▸ jg_ne (by decide) gL1278_1 rfl
    have gL1329_2 : jGet L1329 2 = some (.int (i32 (0))) := eL1329 ▸ jg_ne (by decide) gL1278_2 rfl
    have gL1329_3 : jGet L1329 3 = some (.int (i32 (G 12))) := eL1329 ▸ jg_eq
    refine jx_ld (pc' := 27) (l' := L1329) (st' := [.ref 66]) rfl (jl_aloadn gL1329_0) ?_
    refine jx_vr (pc' := 30) (as := []) (st := []) rfl rfl rfl rfl ⟨rfl, rfl, Nat.le_of_ble_eq_true rfl⟩ rfl rfl (c_lookUp (dd := d) (hd := by omega) (hW := hW1266)  (fk := fk) (e_fk := show G1262 16 = fk from ((hF1267.1 16 rfl).trans (e_fk))) (i_SV := (SV_ext ((hF1267.1 29 rfl)) ((hF1267.2 14 rfl)) i_SV))   ) (fun o V' hq => ?_)
    obtain ⟨G1330, A1331, r1332, fk2_1333, rfl, rfl, hW1334, hF1335, b1336, e1337, q1338⟩ := hq
    have hF1339 := Fr_tr hF1275 hF1335 (Fr_sub (by decide)) (Fr_sub (by decide))
    have hP1340 := Pf_f hP1276 hF1335 (by decide)
    have sf1341 : ND A1331 (nd) (33) (0) (0) (0) (0) (0) (0) := ND_ag (by omega) (Ag_fr hF1335 (by decide)) p1273
    have ec1342 : ecn A1331 (G1330 31) = ec2_1265 := (ecn_f (hF1335.2 15 rfl) (hF1335.1 31 rfl)).trans e1270
    have bfk2_1333 : (0 : Int) ≤ fk2_1333 ∧ fk2_1333 ≤ 6 := e1337 ▸ hW1334.1 16
    refine .inr ⟨_, rfl, ?_⟩
    rcases q1338 with ⟨a1343, a1344⟩ | ⟨a1345, a1346, a1347, a1348⟩
    · have _q : True := trivial
      refine jx_ld (pc' := 32) (l' := jSto1 L1329 4 (.int (i32 (r1332)))) (st' := []) rfl rfl ?_
      obtain ⟨L1349, eL1349⟩ : ∃ q, q = jSto1 L1329 4 (.int (i32 (r1332))) := ⟨_, rfl⟩
      rw [← eL1349]
      have gL1349_0 : jGet L1349 0 = some (.ref 66) := eL1349 ▸ jg_ne (by decide) gL1329_0 rfl
      have gL1349_1 : jGet L1349 1 = some (.int (i32 (nd))) := eL1349 ▸ jg_ne (by decide) gL1329_1 rfl
      have gL1349_2 : jGet L1349 2 = some (.int (i32 (0))) := eL1349 ▸ jg_ne (by decide) gL1329_2 rfl
      have gL1349_3 : jGet L1349 3 = some (.int (i32 (G 12))) := eL1349 ▸ jg_ne (by decide) gL1329_3 rfl
      have gL1349_4 : jGet L1349 4 = some (.int (i32 (r1332))) := eL1349 ▸ jg_eq
      refine jx_ld (pc' := 33) (l' := L1349) (st' := [.ref 66]) rfl (jl_aloadn gL1349_0) ?_
      refine jx_vr (pc' := 36) (as := []) (st := []) rfl rfl rfl rfl ⟨rfl, rfl, Nat.le_of_ble_eq_true rfl⟩ rfl rfl (c_bad (dd := d) (hd := by omega) (hW := hW1334)  (fk := fk2_1333) (e_fk := show G1330 16 = fk2_1333 from (e1337))    ) (fun o V' hq => ?_)
      obtain ⟨r1350, rfl, rfl, b1351, q1352⟩ := hq
      refine .inr ⟨_, rfl, ?_⟩
      rcases q1352 with ⟨rfl, a1353⟩ | ⟨rfl, a1354⟩
      · have _q : True := trivial
        refine jx_if_eq (pc' := 39) (tg := 41) rfl rfl rfl (by decide) (by decide) (fun h1355 => ?_) (fun h1355 => ?_)
        · have _q := h1355
          exact absurd h1355 (by omega)
        · have _q := h1355
          refine jx_ar (pc' := 40) (st' := [.int (i32 (0))]) rfl rfl rfl rfl ?_
          refine jx_rt (v := some (.int (i32 (0)))) rfl rfl rfl rfl rfl rfl ?_
          exact ⟨_, _, _, at0, fk2_1333, nd2_1264, ln, ec2_1265, rfl, rfl, hW1334, hF1339, hP1340, by omega, ((hF1335.1 10 rfl).trans ((hF1267.1 10 rfl).trans (e_at0))), (e1337), ((hF1335.1 31 rfl).trans (e1269)), ((hF1335.1 9 rfl).trans ((hF1267.1 9 rfl).trans (e_ln))), ec1342, by omega, by omega, by omega, by omega, by omega, by first | exact Or.inl (⟨by omega, by omega, by omega⟩)⟩
      · have _q : True := trivial
        exfalso
        omega
    · have _q : True := trivial
      refine jx_ld (pc' := 32) (l' := jSto1 L1329 4 (.int (i32 (r1332)))) (st' := []) rfl rfl ?_
      obtain ⟨L1356, eL1356⟩ : ∃ q, q = jSto1 L1329 4 (.int (i32 (r1332))) := ⟨_, rfl⟩
      rw [← eL1356]
      have gL1356_0 : jGet L1356 0 = some (.ref 66) := eL1356 ▸ jg_ne (by decide) gL1329_0 rfl
      have gL1356_1 : jGet L1356 1 = some (.int (i32 (nd))) := eL1356 ▸ jg_ne (by decide) gL1329_1 rfl
      have gL1356_2 : jGet L1356 2 = some (.int (i32 (0))) := eL1356 ▸ jg_ne (by decide) gL1329_2 rfl
      have gL1356_3 : jGet L1356 3 = some (.int (i32 (G 12))) := eL1356 ▸ jg_ne (by decide) gL1329_3 rfl
      have gL1356_4 : jGet L1356 4 = some (.int (i32 (r1332))) := eL1356 ▸ jg_eq
      refine jx_ld (pc' := 33) (l' := L1356) (st' := [.ref 66]) rfl (jl_aloadn gL1356_0) ?_
      refine jx_vr (pc' := 36) (as := []) (st := []) rfl rfl rfl rfl ⟨rfl, rfl, Nat.le_of_ble_eq_true rfl⟩ rfl rfl (c_bad (dd := d) (hd := by omega) (hW := hW1334)  (fk := fk2_1333) (e_fk := show G1330 16 = fk2_1333 from (e1337))    ) (fun o V' hq => ?_)
      obtain ⟨r1357, rfl, rfl, b1358, q1359⟩ := hq
      refine .inr ⟨_, rfl, ?_⟩
      rcases q1359 with ⟨rfl, a1360⟩ | ⟨rfl, a1361⟩
      · have _q : True := trivial
        exfalso
        omega
      · have _q : True := trivial
        refine jx_if_eq (pc' := 39) (tg := 41) rfl rfl rfl (by decide) (by decide) (fun h1362 => ?_) (fun h1362 => ?_)
        · have _q := h1362
          refine jx_ld (pc' := 42) (l' := L1356) (st' := [.ref 66]) rfl (jl_aloadn gL1356_0) ?_
          refine jx_vr (pc' := 45) (as := []) (st := []) rfl rfl rfl rfl ⟨rfl, rfl, Nat.le_of_ble_eq_true rfl⟩ rfl rfl (c_next (dd := d) (hd := by omega) (hW := hW1334)  (ln := ln) (e_ln := show G1330 9 = ln from ((hF1335.1 9 rfl).trans ((hF1267.1 9 rfl).trans (e_ln)))) (le := le) (e_le := show A1331 4 (ln).toNat = le from (congrFun ((hF1335.2 4 rfl).trans (hF1267.2 4 rfl)) _).trans (e_le)) (at0 := at0) (e_at0 := show G1330 10 = at0 from ((hF1335.1 10 rfl).trans ((hF1267.1 10 rfl).trans (e_at0))))    (p_0 := by omega)) (fun o V' hq => ?_)
          obtain ⟨G1363, A1364, at2_1365, tk2_1366, rfl, rfl, hW1367, hF1368, e1369, e1370, p1371, p1372, p1373, -⟩ := hq
          have hF1375 := Fr_tr hF1339 hF1368 (Fr_sub (by decide)) (Fr_sub (by decide))
          have hP1376 := Pf_f hP1340 hF1368 (by decide)
          have sf1377 : ND A1364 (nd) (33) (0) (0) (0) (0) (0) (0) := ND_ag (by omega) (Ag_fr hF1368 (by decide)) sf1341
          have ec1378 : ecn A1364 (G1363 31) = ec2_1265 := (ecn_f (hF1368.2 15 rfl) (hF1368.1 31 rfl)).trans ec1342
          have bat2_1365 : (0 : Int) ≤ at2_1365 ∧ at2_1365 ≤ 3002 := e1369 ▸ hW1367.1 10
          have ztk2_1366 := tz_b tk2_1366
          have btk2_1366 : (0 : Int) ≤ tk2_1366 ∧ tk2_1366 ≤ 5 := e1370 ▸ hW1367.1 11
          refine .inl ⟨rfl, ?_⟩
          refine jx_ar (pc' := 46) (st' := [.int (i32 (0))]) rfl rfl rfl rfl ?_
          refine jx_ld (pc' := 48) (l' := jSto1 L1356 5 (.int (i32 (0)))) (st' := []) rfl rfl ?_
          obtain ⟨L1379, eL1379⟩ : ∃ q, q = jSto1 L1356 5 (.int (i32 (0))) := ⟨_, rfl⟩
          rw [← eL1379]
          have gL1379_0 : jGet L1379 0 = some (.ref 66) := eL1379 ▸ jg_ne (by decide) gL1356_0 rfl
          have gL1379_1 : jGet L1379 1 = some (.int (i32 (nd))) := eL1379 ▸ jg_ne (by decide) gL1356_1 rfl
          have gL1379_2 : jGet L1379 2 = some (.int (i32 (0))) := eL1379 ▸ jg_ne (by decide) gL1356_2 rfl
          have gL1379_3 : jGet L1379 3 = some (.int (i32 (G 12))) := eL1379 ▸ jg_ne (by decide) gL1356_3 rfl
          have gL1379_4 : jGet L1379 4 = some (.int (i32 (r1332))) := eL1379 ▸ jg_ne (by decide) gL1356_4 rfl
          have gL1379_5 : jGet L1379 5 = some (.int (i32 (0))) := eL1379 ▸ jg_eq
          refine jx_ld (pc' := 49) (l' := L1379) (st' := [.ref 66]) rfl (jl_aloadn gL1379_0) ?_
          refine jx_ar (pc' := 51) (st' := [.int (i32 (91)), .ref 66]) rfl rfl rfl rfl ?_
          have b1380 : (-2147483648 : Int) ≤ G1363 13 ∧ G1363 13 ≤ 2147483647 := hW1367.1 13
          refine jx_vr (pc' := 54) (as := [.int (i32 (91))]) (st := []) rfl rfl rfl rfl ⟨rfl, rfl, Nat.le_of_ble_eq_true rfl⟩ rfl rfl (c_is (dd := d) (hd := by omega) (hW := hW1367) (k := 91) (tk := tk2_1366) (e_tk := show G1363 11 = tk2_1366 from (e1370)) (tn := G1363 13) (e_tn := show G1363 13 = G1363 13 from rfl)  (h_k := ⟨(by decide), (by decide)⟩)  ) (fun o V' hq => ?_)
          obtain ⟨r1381, rfl, rfl, b1382, q1383⟩ := hq
          refine .inr ⟨_, rfl, ?_⟩
          rcases q1383 with ⟨rfl, a1384, a1385, a1386⟩ | rfl
          · have _q : True := trivial
            refine jx_ld (pc' := 56) (l' := jSto1 L1379 6 (.int (i32 (1)))) (st' := []) rfl rfl ?_
            obtain ⟨L1387, eL1387⟩ : ∃ q, q = jSto1 L1379 6 (.int (i32 (1))) := ⟨_, rfl⟩
            rw [← eL1387]
            have gL1387_0 : jGet L1387 0 = some (.ref 66) := eL1387 ▸ jg_ne (by decide) gL1379_0 rfl
            have gL1387_1 : jGet L1387 1 = some (.int (i32 (nd))) := eL1387 ▸ jg_ne (by decide) gL1379_1 rfl
            have gL1387_2 : jGet L1387 2 = some (.int (i32 (0))) := eL1387 ▸ jg_ne (by decide) gL1379_2 rfl
            have gL1387_3 : jGet L1387 3 = some (.int (i32 (G 12))) := eL1387 ▸ jg_ne (by decide) gL1379_3 rfl
            have gL1387_4 : jGet L1387 4 = some (.int (i32 (r1332))) := eL1387 ▸ jg_ne (by decide) gL1379_4 rfl
            have gL1387_5 : jGet L1387 5 = some (.int (i32 (0))) := eL1387 ▸ jg_ne (by decide) gL1379_5 rfl
            have gL1387_6 : jGet L1387 6 = some (.int (i32 (1))) := eL1387 ▸ jg_eq
            refine jx_ld (pc' := 58) (l' := L1387) (st' := [.int (i32 (1))]) rfl (jl_iload gL1387_6) ?_
            refine jx_if_eq (pc' := 61) (tg := 99) rfl rfl rfl (by decide) (by decide) (fun h1388 => ?_) (fun h1388 => ?_)
            · have _q := h1388
              exact absurd h1388 (by omega)
            · have _q := h1388
              refine jx_ld (pc' := 62) (l' := L1387) (st' := [.ref 66]) rfl (jl_aloadn gL1387_0) ?_
              refine jr_get (pc' := 65) (i := 21) (v := .ref 74) rfl rfl (by decide) rfl rfl ?_
              refine jx_ld (pc' := 67) (l' := L1387) (st' := [.int (i32 (r1332)), .ref 74]) rfl (jl_iload gL1387_4) ?_
              have b1389 : (0 : Int) ≤ A 7 (r1332).toNat ∧ A 7 (r1332).toNat ≤ 14 := hW.2 7 _
              refine jr_ldv (pc' := 68) (i := 7) (m := 260) (z := r1332) (y := A 7 (r1332).toNat) rfl (by decide) rfl (by decide) (by omega) (by omega) rfl (show A1364 7 (r1332).toNat = A 7 (r1332).toNat from (congrFun ((hF1368.2 7 rfl).trans ((hF1335.2 7 rfl).trans (hF1267.2 7 rfl))) _)) ?_
              refine jx_st (pc' := 71) (as := [.int (i32 (A 7 (r1332).toNat))]) (st := []) rfl rfl ⟨rfl, Nat.le_of_ble_eq_true rfl⟩ rfl rfl rfl (c_isArray (dd := d) (hd := by omega) (k := A 7 (r1332).toNat)   (h_k := ⟨(Int.le_trans (by decide : (-2147483648 : Int) ≤ 0) b1389.1), (Int.le_trans b1389.2 (by decide : (14 : Int) ≤ 2147483647))⟩)  ) (fun o V' hq => ?_)
              obtain ⟨r1390, rfl, rfl, b1391, q1392⟩ := hq
              refine .inr ⟨_, rfl, ?_⟩
              rcases q1392 with ⟨rfl, a1393⟩ | rfl
              · have _q : True := trivial
                refine jx_if_ne (pc' := 74) (tg := 93) rfl rfl rfl (by decide) (by decide) (fun h1394 => ?_) (fun h1394 => ?_)
                · have _q := h1394
                  refine jx_ld (pc' := 94) (l' := L1387) (st' := [.ref 66]) rfl (jl_aloadn gL1387_0) ?_
                  refine jx_vr (pc' := 97) (as := []) (st := []) rfl rfl rfl rfl ⟨rfl, rfl, Nat.le_of_ble_eq_true rfl⟩ rfl rfl (c_readIndex_w (dd := d) (k := 9) (hE := RE_all X 9) (hd := by omega) (hW := hW1367)  (ln := ln) (e_ln := show G1363 9 = ln from ((hF1368.1 9 rfl).trans ((hF1335.1 9 rfl).trans ((hF1267.1 9 rfl).trans (e_ln))))) (le := le) (e_le := show A1364 4 (ln).toNat = le from (congrFun ((hF1368.2 4 rfl).trans ((hF1335.2 4 rfl).trans (hF1267.2 4 rfl))) _).trans (e_le)) (at0 := at2_1365) (e_at0 := show G1363 10 = at2_1365 from (e1369)) (fk := fk2_1333) (e_fk := show G1363 16 = fk2_1333 from ((hF1368.1 16 rfl).trans (e1337))) (op0 := op0) (e_op0 := show G1363 15 = op0 from ((hF1368.1 15 rfl).trans ((hF1335.1 15 rfl).trans ((hF1267.1 15 rfl).trans (e_op0))))) (nd := nd2_1264) (e_nd := show G1363 31 = nd2_1264 from ((hF1368.1 31 rfl).trans ((hF1335.1 31 rfl).trans (e1269)))) (tk0 := tk2_1366) (e_tk0 := show G1363 11 = tk2_1366 from (e1370)) (ec := ec2_1265) (e_ec := show ecn A1364 (G1363 31) = ec2_1265 from ec1378) (i_SV := (SV_ext (((hF1368.1 29 rfl).trans ((hF1335.1 29 rfl).trans (hF1267.1 29 rfl)))) (((hF1368.2 14 rfl).trans ((hF1335.2 14 rfl).trans (hF1267.2 14 rfl)))) i_SV))   (p_0 := by omega) (p_1 := by omega) (p_2 := by omega) (p_3 := by omega) (p_4 := by omega) (p_5 := by omega) (p_6 := by omega) (p_7 := by omega) (p_8 := by omega)) (fun o V' hq => ?_)
                  obtain ⟨G1395, A1396, r1397, at2_1398, fk2_1399, op2_1400, nd2_1401, tk2_1402, ec2_1403, rfl, rfl, hW1404, hF1405, hQ1406, b1407, e1408, e1409, e1410, e1411, e1412, e1413, p1414, p1415, p1416, p1417, p1418, p1419, q1420⟩ := hq
                  have hF1421 := Fr_tr hF1375 hF1405 (Fr_sub (by decide)) (Fr_sub (by decide))
                  have hP1422 := Pf_tr hP1376 hQ1406 (by omega)
                  have sf1423 : ND A1396 (nd) (33) (0) (0) (0) (0) (0) (0) := ND_ag (by omega) (Ag_pf hQ1406 (by omega)) sf1377
                  have bat2_1398 : (0 : Int) ≤ at2_1398 ∧ at2_1398 ≤ 3002 := e1408 ▸ hW1404.1 10
                  have bfk2_1399 : (0 : Int) ≤ fk2_1399 ∧ fk2_1399 ≤ 6 := e1409 ▸ hW1404.1 16
                  have bop2_1400 : (-2147483648 : Int) ≤ op2_1400 ∧ op2_1400 ≤ 2147483647 := e1410 ▸ hW1404.1 15
                  have bnd2_1401 : (0 : Int) ≤ nd2_1401 ∧ nd2_1401 ≤ 6999 := e1411 ▸ hW1404.1 31
                  have ztk2_1402 := tz_b tk2_1402
                  have btk2_1402 : (0 : Int) ≤ tk2_1402 ∧ tk2_1402 ≤ 5 := e1412 ▸ hW1404.1 11
                  refine .inr ⟨_, rfl, ?_⟩
                  rcases q1420 with ⟨a1424, a1425, a1426⟩ | ⟨a1427, a1428, a1429, a1430, a1431⟩
                  · have _q : True := trivial
                    refine jx_ld (pc' := 99) (l' := jSto1 L1387 5 (.int (i32 (r1397)))) (st' := []) rfl rfl ?_
                    obtain ⟨L1432, eL1432⟩ : ∃ q, q = jSto1 L1387 5 (.int (i32 (r1397))) := ⟨_, rfl⟩
                    rw [← eL1432]
                    have gL1432_0 : jGet L1432 0 = some (.ref 66) := eL1432 ▸ jg_ne (by decide) gL1387_0 rfl
                    have gL1432_1 : jGet L1432 1 = some (.int (i32 (nd))) := eL1432 ▸ jg_ne (by decide) gL1387_1 rfl
                    have gL1432_2 : jGet L1432 2 = some (.int (i32 (0))) := eL1432 ▸ jg_ne (by decide) gL1387_2 rfl
                    have gL1432_3 : jGet L1432 3 = some (.int (i32 (G 12))) := eL1432 ▸ jg_ne (by decide) gL1387_3 rfl
                    have gL1432_4 : jGet L1432 4 = some (.int (i32 (r1332))) := eL1432 ▸ jg_ne (by decide) gL1387_4 rfl
                    have gL1432_6 : jGet L1432 6 = some (.int (i32 (1))) := eL1432 ▸ jg_ne (by decide) gL1387_6 rfl
                    have gL1432_5 : jGet L1432 5 = some (.int (i32 (r1397))) := eL1432 ▸ jg_eq
                    refine jx_ld (pc' := 100) (l' := L1432) (st' := [.ref 66]) rfl (jl_aloadn gL1432_0) ?_
                    refine jx_vr (pc' := 103) (as := []) (st := []) rfl rfl rfl rfl ⟨rfl, rfl, Nat.le_of_ble_eq_true rfl⟩ rfl rfl (c_bad (dd := d) (hd := by omega) (hW := hW1404)  (fk := fk2_1399) (e_fk := show G1395 16 = fk2_1399 from (e1409))    ) (fun o V' hq => ?_)
                    obtain ⟨r1433, rfl, rfl, b1434, q1435⟩ := hq
                    refine .inr ⟨_, rfl, ?_⟩
                    rcases q1435 with ⟨rfl, a1436⟩ | ⟨rfl, a1437⟩
                    · have _q : True := trivial
                      refine jx_if_eq (pc' := 106) (tg := 108) rfl rfl rfl (by decide) (by decide) (fun h1438 => ?_) (fun h1438 => ?_)
                      · have _q := h1438
                        exact absurd h1438 (by omega)
                      · have _q := h1438
                        refine jx_ar (pc' := 107) (st' := [.int (i32 (0))]) rfl rfl rfl rfl ?_
                        refine jx_rt (v := some (.int (i32 (0)))) rfl rfl rfl rfl rfl rfl ?_
                        exact ⟨_, _, _, at2_1398, fk2_1399, nd2_1401, ln, ec2_1403, rfl, rfl, hW1404, hF1421, hP1422, by omega, (e1408), (e1409), (e1411), ((hF1405.1 9 rfl).trans ((hF1368.1 9 rfl).trans ((hF1335.1 9 rfl).trans ((hF1267.1 9 rfl).trans (e_ln))))), e1413, by omega, by omega, by omega, by omega, by omega, by first | exact Or.inl (⟨by omega, by omega, by omega⟩)⟩
                    · have _q : True := trivial
                      exfalso
                      omega
                  · have _q : True := trivial
                    refine jx_ld (pc' := 99) (l' := jSto1 L1387 5 (.int (i32 (r1397)))) (st' := []) rfl rfl ?_
                    obtain ⟨L1439, eL1439⟩ : ∃ q, q = jSto1 L1387 5 (.int (i32 (r1397))) := ⟨_, rfl⟩
                    rw [← eL1439]
                    have gL1439_0 : jGet L1439 0 = some (.ref 66) := eL1439 ▸ jg_ne (by decide) gL1387_0 rfl
                    have gL1439_1 : jGet L1439 1 = some (.int (i32 (nd))) := eL1439 ▸ jg_ne (by decide) gL1387_1 rfl
                    have gL1439_2 : jGet L1439 2 = some (.int (i32 (0))) := eL1439 ▸ jg_ne (by decide) gL1387_2 rfl
                    have gL1439_3 : jGet L1439 3 = some (.int (i32 (G 12))) := eL1439 ▸ jg_ne (by decide) gL1387_3 rfl
                    have gL1439_4 : jGet L1439 4 = some (.int (i32 (r1332))) := eL1439 ▸ jg_ne (by decide) gL1387_4 rfl
                    have gL1439_6 : jGet L1439 6 = some (.int (i32 (1))) := eL1439 ▸ jg_ne (by decide) gL1387_6 rfl
                    have gL1439_5 : jGet L1439 5 = some (.int (i32 (r1397))) := eL1439 ▸ jg_eq
                    refine jx_ld (pc' := 100) (l' := L1439) (st' := [.ref 66]) rfl (jl_aloadn gL1439_0) ?_
                    refine jx_vr (pc' := 103) (as := []) (st := []) rfl rfl rfl rfl ⟨rfl, rfl, Nat.le_of_ble_eq_true rfl⟩ rfl rfl (c_bad (dd := d) (hd := by omega) (hW := hW1404)  (fk := fk2_1399) (e_fk := show G1395 16 = fk2_1399 from (e1409))    ) (fun o V' hq => ?_)
                    obtain ⟨r1440, rfl, rfl, b1441, q1442⟩ := hq
                    refine .inr ⟨_, rfl, ?_⟩
                    rcases q1442 with ⟨rfl, a1443⟩ | ⟨rfl, a1444⟩
                    · have _q : True := trivial
                      exfalso
                      omega
                    · have _q : True := trivial
                      refine jx_if_eq (pc' := 106) (tg := 108) rfl rfl rfl (by decide) (by decide) (fun h1445 => ?_) (fun h1445 => ?_)
                      · have _q := h1445
                        have z1446 := tz_f (tk2_1402)
                        exact c_readGuard_w_at_108_1 (X := X) (d := d) (Vs := Vs) (sb := sb) (c0 := c0) (c1 := c1) (G := G) (A := A) (T := T) (ln := ln) (le := le) (at0 := at0) (fk := fk) (op0 := op0) (nd := nd) (tk0 := tk0) (li := li) (ec := ec) (hd := hd) (hW := hW) (e_ln := e_ln) (e_le := e_le) (e_at0 := e_at0) (e_fk := e_fk) (e_op0 := e_op0) (e_nd := e_nd) (e_tk0 := e_tk0) (e_li := e_li) (e_ec := e_ec) (i_SV := i_SV) (p_0 := p_0) (p_1 := p_1) (p_2 := p_2) (p_3 := p_3) (p_4 := p_4) L1439 G1395 A1396 (nd) (G 12) (r1332) (r1397) (at2_1398) (tk2_1402) (fk2_1399) (nd2_1401) (op2_1400) (A 7 (r1332).toNat) (ec2_1403) gL1439_0 gL1439_6 gL1439_1 gL1439_3 gL1439_4 gL1439_5 hW1404 hF1421 hP1422 ((e1408)) ((e1412)) ((e1409)) ((e1411)) ((e1410)) ((congrFun ((hF1405.2 7 rfl).trans ((hF1368.2 7 rfl).trans ((hF1335.2 7 rfl).trans (hF1267.2 7 rfl)))) _)) (e1413) (((hF1405.1 9 rfl).trans ((hF1368.1 9 rfl).trans ((hF1335.1 9 rfl).trans ((hF1267.1 9 rfl).trans (e_ln)))))) (by omega) (by omega) (by omega) (by omega) (by omega) (by omega) (by omega) (by omega) (by omega) (by omega) (by omega) (by omega) (by omega) (by omega) (a1348) (sf1423) ((wE_mono (by omega) (by omega) (by omega) a1430)) (by omega) (by omega)
                      · have _q := h1445
                        exact absurd h1445 (by omega)
                · have _q := h1394
                  exact absurd h1394 (by omega)
              · have _q : True := trivial
                refine jx_if_ne (pc' := 74) (tg := 93) rfl rfl rfl (by decide) (by decide) (fun h1447 => ?_) (fun h1447 => ?_)
                · have _q := h1447
                  exact absurd h1447 (by omega)
                · have _q := h1447
                  refine jx_ld (pc' := 75) (l' := L1387) (st' := [.ref 66]) rfl (jl_aloadn gL1387_0) ?_
                  refine jr_get (pc' := 78) (i := 21) (v := .ref 74) rfl rfl (by decide) rfl rfl ?_
                  refine jx_ld (pc' := 80) (l' := L1387) (st' := [.int (i32 (r1332)), .ref 74]) rfl (jl_iload gL1387_4) ?_
                  refine jr_ldv (pc' := 81) (i := 7) (m := 260) (z := r1332) (y := A 7 (r1332).toNat) rfl (by decide) rfl (by decide) (by omega) (by omega) rfl (show A1364 7 (r1332).toNat = A 7 (r1332).toNat from (congrFun ((hF1368.2 7 rfl).trans ((hF1335.2 7 rfl).trans (hF1267.2 7 rfl))) _)) ?_
                  refine jx_ar (pc' := 82) (st' := [.int (i32 (4)), .int (i32 (A 7 (r1332).toNat))]) rfl rfl rfl rfl ?_
                  refine jx_icmp_eq (pc' := 85) (tg := 93) rfl rfl rfl (Int.le_trans (by decide : (-2147483648 : Int) ≤ 0) b1389.1) (Int.le_trans b1389.2 (by decide : (14 : Int) ≤ 2147483647)) (by decide) (by decide) (fun h1448 => ?_) (fun h1448 => ?_)
                  · have _q := h1448
                    refine jx_ld (pc' := 94) (l' := L1387) (st' := [.ref 66]) rfl (jl_aloadn gL1387_0) ?_
                    refine jx_vr (pc' := 97) (as := []) (st := []) rfl rfl rfl rfl ⟨rfl, rfl, Nat.le_of_ble_eq_true rfl⟩ rfl rfl (c_readIndex_w (dd := d) (k := 9) (hE := RE_all X 9) (hd := by omega) (hW := hW1367)  (ln := ln) (e_ln := show G1363 9 = ln from ((hF1368.1 9 rfl).trans ((hF1335.1 9 rfl).trans ((hF1267.1 9 rfl).trans (e_ln))))) (le := le) (e_le := show A1364 4 (ln).toNat = le from (congrFun ((hF1368.2 4 rfl).trans ((hF1335.2 4 rfl).trans (hF1267.2 4 rfl))) _).trans (e_le)) (at0 := at2_1365) (e_at0 := show G1363 10 = at2_1365 from (e1369)) (fk := fk2_1333) (e_fk := show G1363 16 = fk2_1333 from ((hF1368.1 16 rfl).trans (e1337))) (op0 := op0) (e_op0 := show G1363 15 = op0 from ((hF1368.1 15 rfl).trans ((hF1335.1 15 rfl).trans ((hF1267.1 15 rfl).trans (e_op0))))) (nd := nd2_1264) (e_nd := show G1363 31 = nd2_1264 from ((hF1368.1 31 rfl).trans ((hF1335.1 31 rfl).trans (e1269)))) (tk0 := tk2_1366) (e_tk0 := show G1363 11 = tk2_1366 from (e1370)) (ec := ec2_1265) (e_ec := show ecn A1364 (G1363 31) = ec2_1265 from ec1378) (i_SV := (SV_ext (((hF1368.1 29 rfl).trans ((hF1335.1 29 rfl).trans (hF1267.1 29 rfl)))) (((hF1368.2 14 rfl).trans ((hF1335.2 14 rfl).trans (hF1267.2 14 rfl)))) i_SV))   (p_0 := by omega) (p_1 := by omega) (p_2 := by omega) (p_3 := by omega) (p_4 := by omega) (p_5 := by omega) (p_6 := by omega) (p_7 := by omega) (p_8 := by omega)) (fun o V' hq => ?_)
                    obtain ⟨G1449, A1450, r1451, at2_1452, fk2_1453, op2_1454, nd2_1455, tk2_1456, ec2_1457, rfl, rfl, hW1458, hF1459, hQ1460, b1461, e1462, e1463, e1464, e1465, e1466, e1467, p1468, p1469, p1470, p1471, p1472, p1473, q1474⟩ := hq
                    have hF1475 := Fr_tr hF1375 hF1459 (Fr_sub (by decide)) (Fr_sub (by decide))
                    have hP1476 := Pf_tr hP1376 hQ1460 (by omega)
                    have sf1477 : ND A1450 (nd) (33) (0) (0) (0) (0) (0) (0) := ND_ag (by omega) (Ag_pf hQ1460 (by omega)) sf1377
                    have bat2_1452 : (0 : Int) ≤ at2_1452 ∧ at2_1452 ≤ 3002 := e1462 ▸ hW1458.1 10
                    have bfk2_1453 : (0 : Int) ≤ fk2_1453 ∧ fk2_1453 ≤ 6 := e1463 ▸ hW1458.1 16
                    have bop2_1454 : (-2147483648 : Int) ≤ op2_1454 ∧ op2_1454 ≤ 2147483647 := e1464 ▸ hW1458.1 15
                    have bnd2_1455 : (0 : Int) ≤ nd2_1455 ∧ nd2_1455 ≤ 6999 := e1465 ▸ hW1458.1 31
                    have ztk2_1456 := tz_b tk2_1456
                    have btk2_1456 : (0 : Int) ≤ tk2_1456 ∧ tk2_1456 ≤ 5 := e1466 ▸ hW1458.1 11
                    refine .inr ⟨_, rfl, ?_⟩
                    rcases q1474 with ⟨a1478, a1479, a1480⟩ | ⟨a1481, a1482, a1483, a1484, a1485⟩
                    · have _q : True := trivial
                      refine jx_ld (pc' := 99) (l' := jSto1 L1387 5 (.int (i32 (r1451)))) (st' := []) rfl rfl ?_
                      obtain ⟨L1486, eL1486⟩ : ∃ q, q = jSto1 L1387 5 (.int (i32 (r1451))) := ⟨_, rfl⟩
                      rw [← eL1486]
                      have gL1486_0 : jGet L1486 0 = some (.ref 66) := eL1486 ▸ jg_ne (by decide) gL1387_0 rfl
                      have gL1486_1 : jGet L1486 1 = some (.int (i32 (nd))) := eL1486 ▸ jg_ne (by decide) gL1387_1 rfl
                      have gL1486_2 : jGet L1486 2 = some (.int (i32 (0))) := eL1486 ▸ jg_ne (by decide) gL1387_2 rfl
                      have gL1486_3 : jGet L1486 3 = some (.int (i32 (G 12))) := eL1486 ▸ jg_ne (by decide) gL1387_3 rfl
                      have gL1486_4 : jGet L1486 4 = some (.int (i32 (r1332))) := eL1486 ▸ jg_ne (by decide) gL1387_4 rfl
                      have gL1486_6 : jGet L1486 6 = some (.int (i32 (1))) := eL1486 ▸ jg_ne (by decide) gL1387_6 rfl
                      have gL1486_5 : jGet L1486 5 = some (.int (i32 (r1451))) := eL1486 ▸ jg_eq
                      refine jx_ld (pc' := 100) (l' := L1486) (st' := [.ref 66]) rfl (jl_aloadn gL1486_0) ?_
                      refine jx_vr (pc' := 103) (as := []) (st := []) rfl rfl rfl rfl ⟨rfl, rfl, Nat.le_of_ble_eq_true rfl⟩ rfl rfl (c_bad (dd := d) (hd := by omega) (hW := hW1458)  (fk := fk2_1453) (e_fk := show G1449 16 = fk2_1453 from (e1463))    ) (fun o V' hq => ?_)
                      obtain ⟨r1487, rfl, rfl, b1488, q1489⟩ := hq
                      refine .inr ⟨_, rfl, ?_⟩
                      rcases q1489 with ⟨rfl, a1490⟩ | ⟨rfl, a1491⟩
                      · have _q : True := trivial
                        refine jx_if_eq (pc' := 106) (tg := 108) rfl rfl rfl (by decide) (by decide) (fun h1492 => ?_) (fun h1492 => ?_)
                        · have _q := h1492
                          exact absurd h1492 (by omega)
                        · have _q := h1492
                          refine jx_ar (pc' := 107) (st' := [.int (i32 (0))]) rfl rfl rfl rfl ?_
                          refine jx_rt (v := some (.int (i32 (0)))) rfl rfl rfl rfl rfl rfl ?_
                          exact ⟨_, _, _, at2_1452, fk2_1453, nd2_1455, ln, ec2_1457, rfl, rfl, hW1458, hF1475, hP1476, by omega, (e1462), (e1463), (e1465), ((hF1459.1 9 rfl).trans ((hF1368.1 9 rfl).trans ((hF1335.1 9 rfl).trans ((hF1267.1 9 rfl).trans (e_ln))))), e1467, by omega, by omega, by omega, by omega, by omega, by first | exact Or.inl (⟨by omega, by omega, by omega⟩)⟩
                      · have _q : True := trivial
                        exfalso
                        omega
                    · have _q : True := trivial
                      refine jx_ld (pc' := 99) (l' := jSto1 L1387 5 (.int (i32 (r1451)))) (st' := []) rfl rfl ?_
                      obtain ⟨L1493, eL1493⟩ : ∃ q, q = jSto1 L1387 5 (.int (i32 (r1451))) := ⟨_, rfl⟩
                      rw [← eL1493]
                      have gL1493_0 : jGet L1493 0 = some (.ref 66) := eL1493 ▸ jg_ne (by decide) gL1387_0 rfl
                      have gL1493_1 : jGet L1493 1 = some (.int (i32 (nd))) := eL1493 ▸ jg_ne (by decide) gL1387_1 rfl
                      have gL1493_2 : jGet L1493 2 = some (.int (i32 (0))) := eL1493 ▸ jg_ne (by decide) gL1387_2 rfl
                      have gL1493_3 : jGet L1493 3 = some (.int (i32 (G 12))) := eL1493 ▸ jg_ne (by decide) gL1387_3 rfl
                      have gL1493_4 : jGet L1493 4 = some (.int (i32 (r1332))) := eL1493 ▸ jg_ne (by decide) gL1387_4 rfl
                      have gL1493_6 : jGet L1493 6 = some (.int (i32 (1))) := eL1493 ▸ jg_ne (by decide) gL1387_6 rfl
                      have gL1493_5 : jGet L1493 5 = some (.int (i32 (r1451))) := eL1493 ▸ jg_eq
                      refine jx_ld (pc' := 100) (l' := L1493) (st' := [.ref 66]) rfl (jl_aloadn gL1493_0) ?_
                      refine jx_vr (pc' := 103) (as := []) (st := []) rfl rfl rfl rfl ⟨rfl, rfl, Nat.le_of_ble_eq_true rfl⟩ rfl rfl (c_bad (dd := d) (hd := by omega) (hW := hW1458)  (fk := fk2_1453) (e_fk := show G1449 16 = fk2_1453 from (e1463))    ) (fun o V' hq => ?_)
                      obtain ⟨r1494, rfl, rfl, b1495, q1496⟩ := hq
                      refine .inr ⟨_, rfl, ?_⟩
                      rcases q1496 with ⟨rfl, a1497⟩ | ⟨rfl, a1498⟩
                      · have _q : True := trivial
                        exfalso
                        omega
                      · have _q : True := trivial
                        refine jx_if_eq (pc' := 106) (tg := 108) rfl rfl rfl (by decide) (by decide) (fun h1499 => ?_) (fun h1499 => ?_)
                        · have _q := h1499
                          have z1500 := tz_f (tk2_1456)
                          exact c_readGuard_w_at_108_1 (X := X) (d := d) (Vs := Vs) (sb := sb) (c0 := c0) (c1 := c1) (G := G) (A := A) (T := T) (ln := ln) (le := le) (at0 := at0) (fk := fk) (op0 := op0) (nd := nd) (tk0 := tk0) (li := li) (ec := ec) (hd := hd) (hW := hW) (e_ln := e_ln) (e_le := e_le) (e_at0 := e_at0) (e_fk := e_fk) (e_op0 := e_op0) (e_nd := e_nd) (e_tk0 := e_tk0) (e_li := e_li) (e_ec := e_ec) (i_SV := i_SV) (p_0 := p_0) (p_1 := p_1) (p_2 := p_2) (p_3 := p_3) (p_4 := p_4) L1493 G1449 A1450 (nd) (G 12) (r1332) (r1451) (at2_1452) (tk2_1456) (fk2_1453) (nd2_1455) (op2_1454) (A 7 (r1332).toNat) (ec2_1457) gL1493_0 gL1493_6 gL1493_1 gL1493_3 gL1493_4 gL1493_5 hW1458 hF1475 hP1476 ((e1462)) ((e1466)) ((e1463)) ((e1465)) ((e1464)) ((congrFun ((hF1459.2 7 rfl).trans ((hF1368.2 7 rfl).trans ((hF1335.2 7 rfl).trans (hF1267.2 7 rfl)))) _)) (e1467) (((hF1459.1 9 rfl).trans ((hF1368.1 9 rfl).trans ((hF1335.1 9 rfl).trans ((hF1267.1 9 rfl).trans (e_ln)))))) (by omega) (by omega) (by omega) (by omega) (by omega) (by omega) (by omega) (by omega) (by omega) (by omega) (by omega) (by omega) (by omega) (by omega) (a1348) (sf1477) ((wE_mono (by omega) (by omega) (by omega) a1484)) (by omega) (by omega)
                        · have _q := h1499
                          exact absurd h1499 (by omega)
                  · have _q := h1448
                    refine jx_ld (pc' := 86) (l' := L1387) (st' := [.ref 66]) rfl (jl_aloadn gL1387_0) ?_
                    refine jx_ar (pc' := 87) (st' := [.int (i32 (4)), .ref 66]) rfl rfl rfl rfl ?_
                    refine jx_ld (pc' := 88) (l' := L1387) (st' := [.int (i32 (G 12)), .int (i32 (4)), .ref 66]) rfl (jl_iloadn gL1387_3) ?_
                    refine jx_vr (pc' := 91) (as := [.int (i32 (4)), .int (i32 (G 12))]) (st := []) rfl rfl rfl rfl ⟨rfl, rfl, Nat.le_of_ble_eq_true rfl⟩ rfl rfl (c_fail (dd := d) (hd := by omega) (hW := hW1367) (kind := 4) (place := G 12) (fk := fk2_1333) (e_fk := show G1363 16 = fk2_1333 from ((hF1368.1 16 rfl).trans (e1337)))  (h_kind := ⟨(by decide), (by decide)⟩) (h_place := ⟨(Int.le_trans (by decide : (-2147483648 : Int) ≤ -3000) b1328.1), (Int.le_trans b1328.2 (by decide : (3002 : Int) ≤ 2147483647))⟩)  (p_0 := by omega) (p_1 := by omega)) (fun o V' hq => ?_)
                    obtain ⟨G1501, A1502, fk2_1503, rfl, rfl, hW1504, hF1505, e1506, p1507, -⟩ := hq
                    have hF1509 := Fr_tr hF1375 hF1505 (Fr_sub (by decide)) (Fr_sub (by decide))
                    have hP1510 := Pf_f hP1376 hF1505 (by decide)
                    have sf1511 : ND A1502 (nd) (33) (0) (0) (0) (0) (0) (0) := ND_ag (by omega) (Ag_fr hF1505 (by decide)) sf1377
                    have ec1512 : ecn A1502 (G1501 31) = ec2_1265 := (ecn_f (hF1505.2 15 rfl) (hF1505.1 31 rfl)).trans ec1378
                    have bfk2_1503 : (0 : Int) ≤ fk2_1503 ∧ fk2_1503 ≤ 6 := e1506 ▸ hW1504.1 16
                    refine .inl ⟨rfl, ?_⟩
                    refine jx_ar (pc' := 92) (st' := [.int (i32 (0))]) rfl rfl rfl rfl ?_
                    refine jx_rt (v := some (.int (i32 (0)))) rfl rfl rfl rfl rfl rfl ?_
                    exact ⟨_, _, _, at2_1365, fk2_1503, nd2_1264, ln, ec2_1265, rfl, rfl, hW1504, hF1509, hP1510, by omega, ((hF1505.1 10 rfl).trans (e1369)), (e1506), ((hF1505.1 31 rfl).trans ((hF1368.1 31 rfl).trans ((hF1335.1 31 rfl).trans (e1269)))), ((hF1505.1 9 rfl).trans ((hF1368.1 9 rfl).trans ((hF1335.1 9 rfl).trans ((hF1267.1 9 rfl).trans (e_ln))))), ec1512, by omega, by omega, by omega, by omega, by omega, by first | exact Or.inl (⟨by omega, by omega, by omega⟩)⟩
          · have _q : True := trivial
            refine jx_ld (pc' := 56) (l' := jSto1 L1379 6 (.int (i32 (0)))) (st' := []) rfl rfl ?_
            obtain ⟨L1513, eL1513⟩ : ∃ q, q = jSto1 L1379 6 (.int (i32 (0))) := ⟨_, rfl⟩
            rw [← eL1513]
            have gL1513_0 : jGet L1513 0 = some (.ref 66) := eL1513 ▸ jg_ne (by decide) gL1379_0 rfl
            have gL1513_1 : jGet L1513 1 = some (.int (i32 (nd))) := eL1513 ▸ jg_ne (by decide) gL1379_1 rfl
            have gL1513_2 : jGet L1513 2 = some (.int (i32 (0))) := eL1513 ▸ jg_ne (by decide) gL1379_2 rfl
            have gL1513_3 : jGet L1513 3 = some (.int (i32 (G 12))) := eL1513 ▸ jg_ne (by decide) gL1379_3 rfl
            have gL1513_4 : jGet L1513 4 = some (.int (i32 (r1332))) := eL1513 ▸ jg_ne (by decide) gL1379_4 rfl
            have gL1513_5 : jGet L1513 5 = some (.int (i32 (0))) := eL1513 ▸ jg_ne (by decide) gL1379_5 rfl
            have gL1513_6 : jGet L1513 6 = some (.int (i32 (0))) := eL1513 ▸ jg_eq
            refine jx_ld (pc' := 58) (l' := L1513) (st' := [.int (i32 (0))]) rfl (jl_iload gL1513_6) ?_
            refine jx_if_eq (pc' := 61) (tg := 99) rfl rfl rfl (by decide) (by decide) (fun h1514 => ?_) (fun h1514 => ?_)
            · have _q := h1514
              refine jx_ld (pc' := 100) (l' := L1513) (st' := [.ref 66]) rfl (jl_aloadn gL1513_0) ?_
              refine jx_vr (pc' := 103) (as := []) (st := []) rfl rfl rfl rfl ⟨rfl, rfl, Nat.le_of_ble_eq_true rfl⟩ rfl rfl (c_bad (dd := d) (hd := by omega) (hW := hW1367)  (fk := fk2_1333) (e_fk := show G1363 16 = fk2_1333 from ((hF1368.1 16 rfl).trans (e1337)))    ) (fun o V' hq => ?_)
              obtain ⟨r1515, rfl, rfl, b1516, q1517⟩ := hq
              refine .inr ⟨_, rfl, ?_⟩
              rcases q1517 with ⟨rfl, a1518⟩ | ⟨rfl, a1519⟩
              · have _q : True := trivial
                exfalso
                omega
              · have _q : True := trivial
                refine jx_if_eq (pc' := 106) (tg := 108) rfl rfl rfl (by decide) (by decide) (fun h1520 => ?_) (fun h1520 => ?_)
                · have _q := h1520
                  have z1521 := tz_f (tk2_1366)
                  exact c_readGuard_w_at_108_0 (X := X) (d := d) (Vs := Vs) (sb := sb) (c0 := c0) (c1 := c1) (G := G) (A := A) (T := T) (ln := ln) (le := le) (at0 := at0) (fk := fk) (op0 := op0) (nd := nd) (tk0 := tk0) (li := li) (ec := ec) (hd := hd) (hW := hW) (e_ln := e_ln) (e_le := e_le) (e_at0 := e_at0) (e_fk := e_fk) (e_op0 := e_op0) (e_nd := e_nd) (e_tk0 := e_tk0) (e_li := e_li) (e_ec := e_ec) (i_SV := i_SV) (p_0 := p_0) (p_1 := p_1) (p_2 := p_2) (p_3 := p_3) (p_4 := p_4) L1513 G1363 A1364 (nd) (G 12) (r1332) (at2_1365) (tk2_1366) (fk2_1333) (nd2_1264) (op0) (A 7 (r1332).toNat) (ec2_1265) gL1513_0 gL1513_6 gL1513_5 gL1513_1 gL1513_3 gL1513_4 hW1367 hF1375 hP1376 ((e1369)) ((e1370)) (((hF1368.1 16 rfl).trans (e1337))) (((hF1368.1 31 rfl).trans ((hF1335.1 31 rfl).trans (e1269)))) (((hF1368.1 15 rfl).trans ((hF1335.1 15 rfl).trans ((hF1267.1 15 rfl).trans (e_op0))))) ((congrFun ((hF1368.2 7 rfl).trans ((hF1335.2 7 rfl).trans (hF1267.2 7 rfl))) _)) (ec1378) (((hF1368.1 9 rfl).trans ((hF1335.1 9 rfl).trans ((hF1267.1 9 rfl).trans (e_ln))))) (by omega) (by omega) (by omega) (by omega) (by omega) (by omega) (by omega) (by omega) (by omega) (by omega) (by omega) (by omega) (by omega) (a1348) (sf1377) (by omega) (by omega)
                · have _q := h1520
                  exact absurd h1520 (by omega)
            · have _q := h1514
              exact absurd h1514 (by omega)
        · have _q := h1362
          exact absurd h1362 (by omega)
