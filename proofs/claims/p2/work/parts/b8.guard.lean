set_option maxRecDepth 20000 in
set_option maxHeartbeats 4000000 in
theorem c_readGuard_w_at_359p {X : jX} {d : Nat} {Vs : Nat → Prop} {sb : Int} {c0 c1 : jC} {G : Nat → Int} {A : Nat → Nat → Int} {T : jH} {ln le at0 fk op0 nd tk0 li ec sy : Int} (hd : 71 ≤ d + 1) (hW : Wk G A) (e_ln : G 9 = ln) (e_le : A 4 (ln).toNat = le) (e_at0 : G 10 = at0) (e_fk : G 16 = fk) (e_op0 : G 15 = op0) (e_nd : G 31 = nd) (e_tk0 : G 11 = tk0) (e_li : G 3 = li) (e_ec : ecn A (G 31) = ec) (e_sy : G 19 = sy) (i_SV : SV Vs sb G A) (p_0 : 0 ≤ op0 ∧ op0 ≤ 8) (p_1 : fk = 0) (p_2 : nd ≤ 2 * at0 - tz tk0 + 42) (p_3 : at0 ≤ le) (p_4 : ln < li) : ∀ (L : jL) (Gx : Nat → Int) (Ax : Nat → Nat → Int) (one at1 tk1 fk1 nd1 op1 ec1 : Int), jGet L 0 = some (.ref 66) → jGet L 1 = some (.int (i32 one)) → Wk Gx Ax → Fr [9, 10, 11, 12, 13, 14, 15, 16, 17, 18, 31] [15, 16, 17, 18, 19, 20, 21, 22, 24, 28] G A Gx Ax → Pf nd A Ax → Gx 10 = at1 → Gx 11 = tk1 → Gx 16 = fk1 → Gx 31 = nd1 → Gx 15 = op1 → ecn Ax (Gx 31) = ec1 → Gx 9 = ln → ((-2147483648 : Int) ≤ one ∧ one ≤ 2147483647) → (at0 ≤ at1) → (at1 ≤ le) → (nd ≤ nd1) → (op1 = op0) → (one = nd) → (one ≤ 6998 ∧ one < nd1) → (1 ≤ fk1) → (nd1 - nd ≤ (2 * at1 - tz tk1) - (2 * at0 - tz tk0) + 6) → wj X d jm303 (359, L, [], rV c0 c1 Gx Ax T) (fun o V' => ∃ (G' : Nat → Int) (A' : Nat → Nat → Int) (r : Int) (at2 : Int) (fk2 : Int) (nd2 : Int) (ln2 : Int) (ec2 : Int), V' = rV c0 c1 G' A' T ∧ o = .inl (some (.int (i32 r))) ∧ Wk G' A' ∧ Fr [9, 10, 11, 12, 13, 14, 15, 16, 17, 18, 31] [15, 16, 17, 18, 19, 20, 21, 22, 24, 28] G A G' A' ∧ Pf nd A A' ∧ ((-2147483648 : Int) ≤ r ∧ r ≤ 2147483647) ∧ G' 10 = at2 ∧ G' 16 = fk2 ∧ G' 31 = nd2 ∧ G' 9 = ln2 ∧ ecn A' (G' 31) = ec2 ∧ (at0 ≤ at2) ∧ (at2 ≤ le) ∧ (nd ≤ nd2) ∧ (0 ≤ r) ∧ (r ≤ nd2) ∧ (((1 ≤ fk2) ∧ (ln2 = ln) ∧ (nd2 - nd ≤ 2 * at2 - 2 * at0 + 12)) ∨ ((fk2 = 0) ∧ (ln2 = ln + 1) ∧ (nd2 - nd ≤ 2 * at2 - (2 * at0 - tz tk0) + 0) ∧ (nd ≤ r) ∧ (r < nd2) ∧ (wU A' Vs sb (r) (nd) (nd2)) ∧ (NX A' (r)) ∧ (nd2 - nd + 5 * (ec2 - ec) ≤ 2 * at2 - (2 * at0 - tz tk0) + 0) ∧ (NdM A' (nd) (nd2) (sy))))) := by
  have hF0 : Fr [9, 10, 11, 12, 13, 14, 15, 16, 17, 18, 31] [15, 16, 17, 18, 19, 20, 21, 22, 24, 28] G A G A := Fr_rf
  have hP0 : Pf nd A A := Pf_rf
  have b_ln : (0 : Int) ≤ ln ∧ ln ≤ 3000 := e_ln ▸ hW.1 9
  have b_le : (0 : Int) ≤ le ∧ le ≤ 3000 := e_le ▸ hW.2 4 _
  have b_at0 : (0 : Int) ≤ at0 ∧ at0 ≤ 3002 := e_at0 ▸ hW.1 10
  have b_fk : (0 : Int) ≤ fk ∧ fk ≤ 6 := e_fk ▸ hW.1 16
  have b_op0 : (-2147483648 : Int) ≤ op0 ∧ op0 ≤ 2147483647 := e_op0 ▸ hW.1 15
  have b_nd : (0 : Int) ≤ nd ∧ nd ≤ 6999 := e_nd ▸ hW.1 31
  have z_tk0 := tz_f tk0
  have b_tk0 : (0 : Int) ≤ tk0 ∧ tk0 ≤ 5 := e_tk0 ▸ hW.1 11
  have b_li : (0 : Int) ≤ li ∧ li ≤ 3000 := e_li ▸ hW.1 3
  have b_sy : (0 : Int) ≤ sy ∧ sy ≤ 202 := e_sy ▸ hW.1 19
  intro L Gx Ax one at1 tk1 fk1 nd1 op1 ec1 gL_0 gL_1 hWx hFx hPx ex_at1 ex_tk1 ex_fk1 ex_nd1 ex_op1 ex_ec1 fx_9 rx_one iv_0 iv_1 iv_2 iv_3 iv_4 iv_5 iv_6 iv_7
  have b_at1 : (0 : Int) ≤ at1 ∧ at1 ≤ 3002 := ex_at1 ▸ hWx.1 10
  have z_tk1 := tz_f tk1
  have b_tk1 : (0 : Int) ≤ tk1 ∧ tk1 ≤ 5 := ex_tk1 ▸ hWx.1 11
  have b_fk1 : (0 : Int) ≤ fk1 ∧ fk1 ≤ 6 := ex_fk1 ▸ hWx.1 16
  have b_nd1 : (0 : Int) ≤ nd1 ∧ nd1 ≤ 6999 := ex_nd1 ▸ hWx.1 31
  have b_op1 : (-2147483648 : Int) ≤ op1 ∧ op1 ≤ 2147483647 := ex_op1 ▸ hWx.1 15
  refine jx_ld (pc' := 360) (l' := L) (st' := [.ref 66]) rfl (jl_aloadn gL_0) ?_
  refine jx_vr (pc' := 363) (as := []) (st := []) rfl rfl rfl rfl ⟨rfl, rfl, Nat.le_of_ble_eq_true rfl⟩ rfl rfl (c_endLine (dd := d) (hd := by omega) (hW := hWx)  (ln := ln) (e_ln := show Gx 9 = ln from (fx_9)) (li := li) (e_li := show Gx 3 = li from ((hFx.1 3 rfl).trans (e_li))) (fk := fk1) (e_fk := show Gx 16 = fk1 from (ex_fk1)) (tk0 := tk1) (e_tk0 := show Gx 11 = tk1 from (ex_tk1))    (p_0 := by omega)) (fun o V' hq => ?_)
  obtain ⟨G1, A2, ln2_3, fk2_4, rfl, rfl, hW5, hF6, e7, e8, q9⟩ := hq
  have hF10 := Fr_tr hFx hF6 (Fr_sub (by decide)) (Fr_sub (by decide))
  have hP11 := Pf_f hPx hF6 (by decide)
  have ec12 : ecn A2 (G1 31) = ec1 := (ecn_f (hF6.2 15 rfl) (hF6.1 31 rfl)).trans ex_ec1
  have bln2_3 : (0 : Int) ≤ ln2_3 ∧ ln2_3 ≤ 3000 := e7 ▸ hW5.1 9
  have bfk2_4 : (0 : Int) ≤ fk2_4 ∧ fk2_4 ≤ 6 := e8 ▸ hW5.1 16
  refine .inl ⟨rfl, ?_⟩
  rcases q9 with ⟨a13, a14, a15, a16, a17⟩ | ⟨a18, a19⟩
  · have _q : True := trivial
    exfalso
    omega
  · have _q : True := trivial
    refine jx_ld (pc' := 364) (l' := L) (st' := [.int (i32 (one))]) rfl (jl_iloadn gL_1) ?_
    refine jx_rt (v := some (.int (i32 (one)))) rfl rfl rfl rfl rfl rfl ?_
    exact ⟨_, _, _, at1, fk2_4, nd1, ln2_3, ec1, rfl, rfl, hW5, hF10, hP11, by omega, ((hF6.1 10 rfl).trans (ex_at1)), (e8), ((hF6.1 31 rfl).trans (ex_nd1)), (e7), ec12, by omega, by omega, by omega, by omega, by omega, by first | exact Or.inl (⟨by omega, by omega, by omega⟩)⟩
set_option maxRecDepth 20000 in
set_option maxHeartbeats 4000000 in
theorem c_readGuard_w_at_348p {X : jX} {d : Nat} {Vs : Nat → Prop} {sb : Int} {c0 c1 : jC} {G : Nat → Int} {A : Nat → Nat → Int} {T : jH} {ln le at0 fk op0 nd tk0 li ec sy : Int} (hd : 71 ≤ d + 1) (hW : Wk G A) (e_ln : G 9 = ln) (e_le : A 4 (ln).toNat = le) (e_at0 : G 10 = at0) (e_fk : G 16 = fk) (e_op0 : G 15 = op0) (e_nd : G 31 = nd) (e_tk0 : G 11 = tk0) (e_li : G 3 = li) (e_ec : ecn A (G 31) = ec) (e_sy : G 19 = sy) (i_SV : SV Vs sb G A) (p_0 : 0 ≤ op0 ∧ op0 ≤ 8) (p_1 : fk = 0) (p_2 : nd ≤ 2 * at0 - tz tk0 + 42) (p_3 : at0 ≤ le) (p_4 : ln < li) : ∀ (L : jL) (Gx : Nat → Int) (Ax : Nat → Nat → Int) (one at1 tk1 fk1 nd1 op1 ec1 : Int), jGet L 0 = some (.ref 66) → jGet L 1 = some (.int (i32 one)) → Wk Gx Ax → Fr [9, 10, 11, 12, 13, 14, 15, 16, 17, 18, 31] [15, 16, 17, 18, 19, 20, 21, 22, 24, 28] G A Gx Ax → Pf nd A Ax → Gx 10 = at1 → Gx 11 = tk1 → Gx 16 = fk1 → Gx 31 = nd1 → Gx 15 = op1 → ecn Ax (Gx 31) = ec1 → Gx 9 = ln → ((-2147483648 : Int) ≤ one ∧ one ≤ 2147483647) → (at0 ≤ at1) → (at1 ≤ le) → (nd ≤ nd1) → (op1 = op0) → (one = nd) → (one ≤ 6998 ∧ one < nd1) → (1 ≤ fk1) → (nd1 - nd ≤ (2 * at1 - tz tk1) - (2 * at0 - tz tk0) + 6) → wj X d jm303 (348, L, [], rV c0 c1 Gx Ax T) (fun o V' => ∃ (G' : Nat → Int) (A' : Nat → Nat → Int) (r : Int) (at2 : Int) (fk2 : Int) (nd2 : Int) (ln2 : Int) (ec2 : Int), V' = rV c0 c1 G' A' T ∧ o = .inl (some (.int (i32 r))) ∧ Wk G' A' ∧ Fr [9, 10, 11, 12, 13, 14, 15, 16, 17, 18, 31] [15, 16, 17, 18, 19, 20, 21, 22, 24, 28] G A G' A' ∧ Pf nd A A' ∧ ((-2147483648 : Int) ≤ r ∧ r ≤ 2147483647) ∧ G' 10 = at2 ∧ G' 16 = fk2 ∧ G' 31 = nd2 ∧ G' 9 = ln2 ∧ ecn A' (G' 31) = ec2 ∧ (at0 ≤ at2) ∧ (at2 ≤ le) ∧ (nd ≤ nd2) ∧ (0 ≤ r) ∧ (r ≤ nd2) ∧ (((1 ≤ fk2) ∧ (ln2 = ln) ∧ (nd2 - nd ≤ 2 * at2 - 2 * at0 + 12)) ∨ ((fk2 = 0) ∧ (ln2 = ln + 1) ∧ (nd2 - nd ≤ 2 * at2 - (2 * at0 - tz tk0) + 0) ∧ (nd ≤ r) ∧ (r < nd2) ∧ (wU A' Vs sb (r) (nd) (nd2)) ∧ (NX A' (r)) ∧ (nd2 - nd + 5 * (ec2 - ec) ≤ 2 * at2 - (2 * at0 - tz tk0) + 0) ∧ (NdM A' (nd) (nd2) (sy))))) := by
  have hF0 : Fr [9, 10, 11, 12, 13, 14, 15, 16, 17, 18, 31] [15, 16, 17, 18, 19, 20, 21, 22, 24, 28] G A G A := Fr_rf
  have hP0 : Pf nd A A := Pf_rf
  have b_ln : (0 : Int) ≤ ln ∧ ln ≤ 3000 := e_ln ▸ hW.1 9
  have b_le : (0 : Int) ≤ le ∧ le ≤ 3000 := e_le ▸ hW.2 4 _
  have b_at0 : (0 : Int) ≤ at0 ∧ at0 ≤ 3002 := e_at0 ▸ hW.1 10
  have b_fk : (0 : Int) ≤ fk ∧ fk ≤ 6 := e_fk ▸ hW.1 16
  have b_op0 : (-2147483648 : Int) ≤ op0 ∧ op0 ≤ 2147483647 := e_op0 ▸ hW.1 15
  have b_nd : (0 : Int) ≤ nd ∧ nd ≤ 6999 := e_nd ▸ hW.1 31
  have z_tk0 := tz_f tk0
  have b_tk0 : (0 : Int) ≤ tk0 ∧ tk0 ≤ 5 := e_tk0 ▸ hW.1 11
  have b_li : (0 : Int) ≤ li ∧ li ≤ 3000 := e_li ▸ hW.1 3
  have b_sy : (0 : Int) ≤ sy ∧ sy ≤ 202 := e_sy ▸ hW.1 19
  intro L Gx Ax one at1 tk1 fk1 nd1 op1 ec1 gL_0 gL_1 hWx hFx hPx ex_at1 ex_tk1 ex_fk1 ex_nd1 ex_op1 ex_ec1 fx_9 rx_one iv_0 iv_1 iv_2 iv_3 iv_4 iv_5 iv_6 iv_7
  have b_at1 : (0 : Int) ≤ at1 ∧ at1 ≤ 3002 := ex_at1 ▸ hWx.1 10
  have z_tk1 := tz_f tk1
  have b_tk1 : (0 : Int) ≤ tk1 ∧ tk1 ≤ 5 := ex_tk1 ▸ hWx.1 11
  have b_fk1 : (0 : Int) ≤ fk1 ∧ fk1 ≤ 6 := ex_fk1 ▸ hWx.1 16
  have b_nd1 : (0 : Int) ≤ nd1 ∧ nd1 ≤ 6999 := ex_nd1 ▸ hWx.1 31
  have b_op1 : (-2147483648 : Int) ≤ op1 ∧ op1 ≤ 2147483647 := ex_op1 ▸ hWx.1 15
  refine jx_ld (pc' := 349) (l' := L) (st' := [.ref 66]) rfl (jl_aloadn gL_0) ?_
  refine jr_get (pc' := 352) (i := 36) (v := .ref 86) rfl rfl (by decide) rfl rfl ?_
  refine jx_ld (pc' := 353) (l' := L) (st' := [.int (i32 (one)), .ref 86]) rfl (jl_iloadn gL_1) ?_
  refine jx_ld (pc' := 354) (l' := L) (st' := [.ref 66, .int (i32 (one)), .ref 86]) rfl (jl_aloadn gL_0) ?_
  refine jx_ar (pc' := 355) (st' := [.int (i32 (0)), .ref 66, .int (i32 (one)), .ref 86]) rfl rfl rfl rfl ?_
  refine jx_vr (pc' := 358) (as := [.int (i32 (0))]) (st := [.int (i32 (one)), .ref 86]) rfl rfl rfl rfl ⟨rfl, rfl, Nat.le_of_ble_eq_true rfl⟩ rfl rfl (c_readReference_w (dd := d) (hd := by omega) (hW := hWx) (ch := 0) (ln := ln) (e_ln := show Gx 9 = ln from (fx_9)) (le := le) (e_le := show Ax 4 (ln).toNat = le from (congrFun (hFx.2 4 rfl) _).trans (e_le)) (at0 := at1) (e_at0 := show Gx 10 = at1 from (ex_at1)) (fk := fk1) (e_fk := show Gx 16 = fk1 from (ex_fk1)) (op0 := op1) (e_op0 := show Gx 15 = op1 from (ex_op1)) (nd := nd1) (e_nd := show Gx 31 = nd1 from (ex_nd1)) (tk0 := tk1) (e_tk0 := show Gx 11 = tk1 from (ex_tk1)) (ec := ec1) (e_ec := show ecn Ax (Gx 31) = ec1 from ex_ec1) (sy := sy) (e_sy := show Gx 19 = sy from ((hFx.1 19 rfl).trans (e_sy))) (i_SV := (SV_ext ((hFx.1 29 rfl)) ((hFx.2 14 rfl)) i_SV)) (h_ch := ⟨(by decide), (by decide)⟩)  (p_0 := by omega) (p_1 := by omega) (p_2 := by omega) (p_3 := by omega) (p_4 := by omega)) (fun o V' hq => ?_)
  obtain ⟨G20, A21, r22, at2_23, fk2_24, op2_25, nd2_26, tk2_27, ec2_28, rfl, rfl, hW29, hF30, hQ31, b32, e33, e34, e35, e36, e37, e38, p39, p40, p41, p42, p43, p44, q45⟩ := hq
  have hF46 := Fr_tr hFx hF30 (Fr_sub (by decide)) (Fr_sub (by decide))
  have hP47 := Pf_tr hPx hQ31 (by omega)
  have bat2_23 : (0 : Int) ≤ at2_23 ∧ at2_23 ≤ 3002 := e33 ▸ hW29.1 10
  have bfk2_24 : (0 : Int) ≤ fk2_24 ∧ fk2_24 ≤ 6 := e34 ▸ hW29.1 16
  have bop2_25 : (-2147483648 : Int) ≤ op2_25 ∧ op2_25 ≤ 2147483647 := e35 ▸ hW29.1 15
  have bnd2_26 : (0 : Int) ≤ nd2_26 ∧ nd2_26 ≤ 6999 := e36 ▸ hW29.1 31
  have ztk2_27 := tz_b tk2_27
  have btk2_27 : (0 : Int) ≤ tk2_27 ∧ tk2_27 ≤ 5 := e37 ▸ hW29.1 11
  refine .inr ⟨_, rfl, ?_⟩
  rcases q45 with ⟨a48, a49, a50, a51, a52, a53⟩ | ⟨a54, a55, a56⟩ | ⟨a57, a58, a59, a60, a61, a62, a63⟩
  · have _q : True := trivial
    refine jr_st (pc' := 359) (i := 19) (m := 7000) (z := one) (y := r22) rfl (by decide) rfl (by decide) (by omega) (by omega) rfl ?_
    have hW65 : Wk G20 (uA A21 19 (one).toNat (r22)) := Wk_a hW29 (show (-2147483648 : Int) ≤ r22 by omega) (show r22 ≤ (2147483647 : Int) by omega)
    have hF66 := Fr_a (z := r22) (k := 19) (n := (one).toNat) hF46 (by decide)
    obtain ⟨A64, eA64⟩ : ∃ q, q = uA A21 19 (one).toNat (r22) := ⟨_, rfl⟩
    rw [← eA64]
    rw [← eA64] at hW65 hF66
    have q67 : A64 19 (one).toNat = r22 := by rw [eA64]; exact uA_eq
    have hP68 : Pf nd A A64 := eA64 ▸ Pf_a hP47 (z := one) (by omega) (by omega)
    have ec69 : ecn A64 (G20 31) = ec2_28 := (ecn_e ((congrFun eA64 15).trans (uA_ne (by decide)))).trans e38
    have z70 := tz_f (tk2_27)
    exact c_readGuard_w_at_359p (X := X) (d := d) (Vs := Vs) (sb := sb) (c0 := c0) (c1 := c1) (G := G) (A := A) (T := T) (ln := ln) (le := le) (at0 := at0) (fk := fk) (op0 := op0) (nd := nd) (tk0 := tk0) (li := li) (ec := ec) (sy := sy) (hd := hd) (hW := hW) (e_ln := e_ln) (e_le := e_le) (e_at0 := e_at0) (e_fk := e_fk) (e_op0 := e_op0) (e_nd := e_nd) (e_tk0 := e_tk0) (e_li := e_li) (e_ec := e_ec) (e_sy := e_sy) (i_SV := i_SV) (p_0 := p_0) (p_1 := p_1) (p_2 := p_2) (p_3 := p_3) (p_4 := p_4) L G20 A64 (one) (at2_23) (tk2_27) (fk2_24) (nd2_26) (op2_25) (ec2_28) gL_0 gL_1 hW65 hF66 hP68 ((e33)) ((e37)) ((e34)) ((e36)) ((e35)) (ec69) (((hF30.1 9 rfl).trans (fx_9))) (by omega) (by omega) (by omega) (by omega) (by omega) (by omega) (by omega) (by omega) (by omega)
  · have _q : True := trivial
    exfalso
    omega
  · have _q : True := trivial
    exfalso
    omega
set_option maxRecDepth 20000 in
set_option maxHeartbeats 4000000 in
theorem c_readGuard_w_at_338p {X : jX} {d : Nat} {Vs : Nat → Prop} {sb : Int} {c0 c1 : jC} {G : Nat → Int} {A : Nat → Nat → Int} {T : jH} {ln le at0 fk op0 nd tk0 li ec sy : Int} (hd : 71 ≤ d + 1) (hW : Wk G A) (e_ln : G 9 = ln) (e_le : A 4 (ln).toNat = le) (e_at0 : G 10 = at0) (e_fk : G 16 = fk) (e_op0 : G 15 = op0) (e_nd : G 31 = nd) (e_tk0 : G 11 = tk0) (e_li : G 3 = li) (e_ec : ecn A (G 31) = ec) (e_sy : G 19 = sy) (i_SV : SV Vs sb G A) (p_0 : 0 ≤ op0 ∧ op0 ≤ 8) (p_1 : fk = 0) (p_2 : nd ≤ 2 * at0 - tz tk0 + 42) (p_3 : at0 ≤ le) (p_4 : ln < li) : ∀ (L : jL) (Gx : Nat → Int) (Ax : Nat → Nat → Int) (one at1 tk1 fk1 nd1 op1 ec1 : Int), jGet L 0 = some (.ref 66) → jGet L 1 = some (.int (i32 one)) → Wk Gx Ax → Fr [9, 10, 11, 12, 13, 14, 15, 16, 17, 18, 31] [15, 16, 17, 18, 19, 20, 21, 22, 24, 28] G A Gx Ax → Pf nd A Ax → Gx 10 = at1 → Gx 11 = tk1 → Gx 16 = fk1 → Gx 31 = nd1 → Gx 15 = op1 → ecn Ax (Gx 31) = ec1 → Gx 9 = ln → ((-2147483648 : Int) ≤ one ∧ one ≤ 2147483647) → (at0 ≤ at1) → (at1 ≤ le) → (nd ≤ nd1) → (op1 = op0) → (one = nd) → (one ≤ 6998 ∧ one < nd1) → (1 ≤ fk1) → (nd1 - nd ≤ (2 * at1 - tz tk1) - (2 * at0 - tz tk0) + 6) → wj X d jm303 (338, L, [], rV c0 c1 Gx Ax T) (fun o V' => ∃ (G' : Nat → Int) (A' : Nat → Nat → Int) (r : Int) (at2 : Int) (fk2 : Int) (nd2 : Int) (ln2 : Int) (ec2 : Int), V' = rV c0 c1 G' A' T ∧ o = .inl (some (.int (i32 r))) ∧ Wk G' A' ∧ Fr [9, 10, 11, 12, 13, 14, 15, 16, 17, 18, 31] [15, 16, 17, 18, 19, 20, 21, 22, 24, 28] G A G' A' ∧ Pf nd A A' ∧ ((-2147483648 : Int) ≤ r ∧ r ≤ 2147483647) ∧ G' 10 = at2 ∧ G' 16 = fk2 ∧ G' 31 = nd2 ∧ G' 9 = ln2 ∧ ecn A' (G' 31) = ec2 ∧ (at0 ≤ at2) ∧ (at2 ≤ le) ∧ (nd ≤ nd2) ∧ (0 ≤ r) ∧ (r ≤ nd2) ∧ (((1 ≤ fk2) ∧ (ln2 = ln) ∧ (nd2 - nd ≤ 2 * at2 - 2 * at0 + 12)) ∨ ((fk2 = 0) ∧ (ln2 = ln + 1) ∧ (nd2 - nd ≤ 2 * at2 - (2 * at0 - tz tk0) + 0) ∧ (nd ≤ r) ∧ (r < nd2) ∧ (wU A' Vs sb (r) (nd) (nd2)) ∧ (NX A' (r)) ∧ (nd2 - nd + 5 * (ec2 - ec) ≤ 2 * at2 - (2 * at0 - tz tk0) + 0) ∧ (NdM A' (nd) (nd2) (sy))))) := by
  have hF0 : Fr [9, 10, 11, 12, 13, 14, 15, 16, 17, 18, 31] [15, 16, 17, 18, 19, 20, 21, 22, 24, 28] G A G A := Fr_rf
  have hP0 : Pf nd A A := Pf_rf
  have b_ln : (0 : Int) ≤ ln ∧ ln ≤ 3000 := e_ln ▸ hW.1 9
  have b_le : (0 : Int) ≤ le ∧ le ≤ 3000 := e_le ▸ hW.2 4 _
  have b_at0 : (0 : Int) ≤ at0 ∧ at0 ≤ 3002 := e_at0 ▸ hW.1 10
  have b_fk : (0 : Int) ≤ fk ∧ fk ≤ 6 := e_fk ▸ hW.1 16
  have b_op0 : (-2147483648 : Int) ≤ op0 ∧ op0 ≤ 2147483647 := e_op0 ▸ hW.1 15
  have b_nd : (0 : Int) ≤ nd ∧ nd ≤ 6999 := e_nd ▸ hW.1 31
  have z_tk0 := tz_f tk0
  have b_tk0 : (0 : Int) ≤ tk0 ∧ tk0 ≤ 5 := e_tk0 ▸ hW.1 11
  have b_li : (0 : Int) ≤ li ∧ li ≤ 3000 := e_li ▸ hW.1 3
  have b_sy : (0 : Int) ≤ sy ∧ sy ≤ 202 := e_sy ▸ hW.1 19
  intro L Gx Ax one at1 tk1 fk1 nd1 op1 ec1 gL_0 gL_1 hWx hFx hPx ex_at1 ex_tk1 ex_fk1 ex_nd1 ex_op1 ex_ec1 fx_9 rx_one iv_0 iv_1 iv_2 iv_3 iv_4 iv_5 iv_6 iv_7
  have b_at1 : (0 : Int) ≤ at1 ∧ at1 ≤ 3002 := ex_at1 ▸ hWx.1 10
  have z_tk1 := tz_f tk1
  have b_tk1 : (0 : Int) ≤ tk1 ∧ tk1 ≤ 5 := ex_tk1 ▸ hWx.1 11
  have b_fk1 : (0 : Int) ≤ fk1 ∧ fk1 ≤ 6 := ex_fk1 ▸ hWx.1 16
  have b_nd1 : (0 : Int) ≤ nd1 ∧ nd1 ≤ 6999 := ex_nd1 ▸ hWx.1 31
  have b_op1 : (-2147483648 : Int) ≤ op1 ∧ op1 ≤ 2147483647 := ex_op1 ▸ hWx.1 15
  refine jx_ld (pc' := 339) (l' := L) (st' := [.ref 66]) rfl (jl_aloadn gL_0) ?_
  refine jx_ld (pc' := 340) (l' := L) (st' := [.ref 66, .ref 66]) rfl (jl_aloadn gL_0) ?_
  refine jx_ar (pc' := 342) (st' := [.int (i32 (63)), .ref 66, .ref 66]) rfl rfl rfl rfl ?_
  have b71 : (-2147483648 : Int) ≤ Gx 13 ∧ Gx 13 ≤ 2147483647 := hWx.1 13
  refine jx_vr (pc' := 345) (as := [.int (i32 (63))]) (st := [.ref 66]) rfl rfl rfl rfl ⟨rfl, rfl, Nat.le_of_ble_eq_true rfl⟩ rfl rfl (c_is (dd := d) (hd := by omega) (hW := hWx) (k := 63) (tk := tk1) (e_tk := show Gx 11 = tk1 from (ex_tk1)) (tn := Gx 13) (e_tn := show Gx 13 = Gx 13 from rfl)  (h_k := ⟨(by decide), (by decide)⟩)  ) (fun o V' hq => ?_)
  obtain ⟨r72, rfl, rfl, b73, q74⟩ := hq
  refine .inr ⟨_, rfl, ?_⟩
  rcases q74 with ⟨rfl, a75, a76, a77⟩ | rfl
  · have _q : True := trivial
    refine jx_vr (pc' := 348) (as := [.int (i32 (1))]) (st := []) rfl rfl rfl rfl ⟨rfl, rfl, Nat.le_of_ble_eq_true rfl⟩ rfl rfl (c_need (dd := d) (hd := by omega) (hW := hWx) (g := 1) (ln := ln) (e_ln := show Gx 9 = ln from (fx_9)) (le := le) (e_le := show Ax 4 (ln).toNat = le from (congrFun (hFx.2 4 rfl) _).trans (e_le)) (at0 := at1) (e_at0 := show Gx 10 = at1 from (ex_at1)) (fk := fk1) (e_fk := show Gx 16 = fk1 from (ex_fk1)) (tk0 := tk1) (e_tk0 := show Gx 11 = tk1 from (ex_tk1))  (h_g := ⟨(by decide), (by decide)⟩)  (p_0 := by omega)) (fun o V' hq => ?_)
    obtain ⟨G78, A79, at2_80, tk2_81, fk2_82, rfl, rfl, hW83, hF84, e85, e86, e87, p88, p89, q90⟩ := hq
    have hF91 := Fr_tr hFx hF84 (Fr_sub (by decide)) (Fr_sub (by decide))
    have hP92 := Pf_f hPx hF84 (by decide)
    have ec93 : ecn A79 (G78 31) = ec1 := (ecn_f (hF84.2 15 rfl) (hF84.1 31 rfl)).trans ex_ec1
    have bat2_80 : (0 : Int) ≤ at2_80 ∧ at2_80 ≤ 3002 := e85 ▸ hW83.1 10
    have ztk2_81 := tz_b tk2_81
    have btk2_81 : (0 : Int) ≤ tk2_81 ∧ tk2_81 ≤ 5 := e86 ▸ hW83.1 11
    have bfk2_82 : (0 : Int) ≤ fk2_82 ∧ fk2_82 ≤ 6 := e87 ▸ hW83.1 16
    refine .inl ⟨rfl, ?_⟩
    rcases q90 with ⟨a94, a95, a96, a97⟩ | ⟨a98, a99, a100, a101⟩
    · have _q : True := trivial
      have z102 := tz_f (tk2_81)
      exact c_readGuard_w_at_348p (X := X) (d := d) (Vs := Vs) (sb := sb) (c0 := c0) (c1 := c1) (G := G) (A := A) (T := T) (ln := ln) (le := le) (at0 := at0) (fk := fk) (op0 := op0) (nd := nd) (tk0 := tk0) (li := li) (ec := ec) (sy := sy) (hd := hd) (hW := hW) (e_ln := e_ln) (e_le := e_le) (e_at0 := e_at0) (e_fk := e_fk) (e_op0 := e_op0) (e_nd := e_nd) (e_tk0 := e_tk0) (e_li := e_li) (e_ec := e_ec) (e_sy := e_sy) (i_SV := i_SV) (p_0 := p_0) (p_1 := p_1) (p_2 := p_2) (p_3 := p_3) (p_4 := p_4) L G78 A79 (one) (at2_80) (tk2_81) (fk2_82) (nd1) (op1) (ec1) gL_0 gL_1 hW83 hF91 hP92 ((e85)) ((e86)) ((e87)) (((hF84.1 31 rfl).trans (ex_nd1))) (((hF84.1 15 rfl).trans (ex_op1))) (ec93) (((hF84.1 9 rfl).trans (fx_9))) (by omega) (by omega) (by omega) (by omega) (by omega) (by omega) (by omega) (by omega) (by omega)
    · have _q : True := trivial
      exfalso
      omega
  · have _q : True := trivial
    refine jx_vr (pc' := 348) (as := [.int (i32 (0))]) (st := []) rfl rfl rfl rfl ⟨rfl, rfl, Nat.le_of_ble_eq_true rfl⟩ rfl rfl (c_need (dd := d) (hd := by omega) (hW := hWx) (g := 0) (ln := ln) (e_ln := show Gx 9 = ln from (fx_9)) (le := le) (e_le := show Ax 4 (ln).toNat = le from (congrFun (hFx.2 4 rfl) _).trans (e_le)) (at0 := at1) (e_at0 := show Gx 10 = at1 from (ex_at1)) (fk := fk1) (e_fk := show Gx 16 = fk1 from (ex_fk1)) (tk0 := tk1) (e_tk0 := show Gx 11 = tk1 from (ex_tk1))  (h_g := ⟨(by decide), (by decide)⟩)  (p_0 := by omega)) (fun o V' hq => ?_)
    obtain ⟨G103, A104, at2_105, tk2_106, fk2_107, rfl, rfl, hW108, hF109, e110, e111, e112, p113, p114, q115⟩ := hq
    have hF116 := Fr_tr hFx hF109 (Fr_sub (by decide)) (Fr_sub (by decide))
    have hP117 := Pf_f hPx hF109 (by decide)
    have ec118 : ecn A104 (G103 31) = ec1 := (ecn_f (hF109.2 15 rfl) (hF109.1 31 rfl)).trans ex_ec1
    have bat2_105 : (0 : Int) ≤ at2_105 ∧ at2_105 ≤ 3002 := e110 ▸ hW108.1 10
    have ztk2_106 := tz_b tk2_106
    have btk2_106 : (0 : Int) ≤ tk2_106 ∧ tk2_106 ≤ 5 := e111 ▸ hW108.1 11
    have bfk2_107 : (0 : Int) ≤ fk2_107 ∧ fk2_107 ≤ 6 := e112 ▸ hW108.1 16
    refine .inl ⟨rfl, ?_⟩
    rcases q115 with ⟨a119, a120, a121, a122⟩ | ⟨a123, a124, a125, a126⟩
    · have _q : True := trivial
      have z127 := tz_f (tk2_106)
      exact c_readGuard_w_at_348p (X := X) (d := d) (Vs := Vs) (sb := sb) (c0 := c0) (c1 := c1) (G := G) (A := A) (T := T) (ln := ln) (le := le) (at0 := at0) (fk := fk) (op0 := op0) (nd := nd) (tk0 := tk0) (li := li) (ec := ec) (sy := sy) (hd := hd) (hW := hW) (e_ln := e_ln) (e_le := e_le) (e_at0 := e_at0) (e_fk := e_fk) (e_op0 := e_op0) (e_nd := e_nd) (e_tk0 := e_tk0) (e_li := e_li) (e_ec := e_ec) (e_sy := e_sy) (i_SV := i_SV) (p_0 := p_0) (p_1 := p_1) (p_2 := p_2) (p_3 := p_3) (p_4 := p_4) L G103 A104 (one) (at2_105) (tk2_106) (fk2_107) (nd1) (op1) (ec1) gL_0 gL_1 hW108 hF116 hP117 ((e110)) ((e111)) ((e112)) (((hF109.1 31 rfl).trans (ex_nd1))) (((hF109.1 15 rfl).trans (ex_op1))) (ec118) (((hF109.1 9 rfl).trans (fx_9))) (by omega) (by omega) (by omega) (by omega) (by omega) (by omega) (by omega) (by omega) (by omega)
    · have _q : True := trivial
      exfalso
      omega
set_option maxRecDepth 20000 in
set_option maxHeartbeats 4000000 in
theorem c_readGuard_w_at_327p {X : jX} {d : Nat} {Vs : Nat → Prop} {sb : Int} {c0 c1 : jC} {G : Nat → Int} {A : Nat → Nat → Int} {T : jH} {ln le at0 fk op0 nd tk0 li ec sy : Int} (hd : 71 ≤ d + 1) (hW : Wk G A) (e_ln : G 9 = ln) (e_le : A 4 (ln).toNat = le) (e_at0 : G 10 = at0) (e_fk : G 16 = fk) (e_op0 : G 15 = op0) (e_nd : G 31 = nd) (e_tk0 : G 11 = tk0) (e_li : G 3 = li) (e_ec : ecn A (G 31) = ec) (e_sy : G 19 = sy) (i_SV : SV Vs sb G A) (p_0 : 0 ≤ op0 ∧ op0 ≤ 8) (p_1 : fk = 0) (p_2 : nd ≤ 2 * at0 - tz tk0 + 42) (p_3 : at0 ≤ le) (p_4 : ln < li) : ∀ (L : jL) (Gx : Nat → Int) (Ax : Nat → Nat → Int) (one at1 tk1 fk1 nd1 op1 ec1 : Int), jGet L 0 = some (.ref 66) → jGet L 1 = some (.int (i32 one)) → Wk Gx Ax → Fr [9, 10, 11, 12, 13, 14, 15, 16, 17, 18, 31] [15, 16, 17, 18, 19, 20, 21, 22, 24, 28] G A Gx Ax → Pf nd A Ax → Gx 10 = at1 → Gx 11 = tk1 → Gx 16 = fk1 → Gx 31 = nd1 → Gx 15 = op1 → ecn Ax (Gx 31) = ec1 → Gx 9 = ln → ((-2147483648 : Int) ≤ one ∧ one ≤ 2147483647) → (at0 ≤ at1) → (at1 ≤ le) → (nd ≤ nd1) → (op1 = op0) → (one = nd) → (one ≤ 6998 ∧ one < nd1) → (1 ≤ fk1) → (nd1 - nd ≤ (2 * at1 - tz tk1) - (2 * at0 - tz tk0) + 6) → wj X d jm303 (327, L, [], rV c0 c1 Gx Ax T) (fun o V' => ∃ (G' : Nat → Int) (A' : Nat → Nat → Int) (r : Int) (at2 : Int) (fk2 : Int) (nd2 : Int) (ln2 : Int) (ec2 : Int), V' = rV c0 c1 G' A' T ∧ o = .inl (some (.int (i32 r))) ∧ Wk G' A' ∧ Fr [9, 10, 11, 12, 13, 14, 15, 16, 17, 18, 31] [15, 16, 17, 18, 19, 20, 21, 22, 24, 28] G A G' A' ∧ Pf nd A A' ∧ ((-2147483648 : Int) ≤ r ∧ r ≤ 2147483647) ∧ G' 10 = at2 ∧ G' 16 = fk2 ∧ G' 31 = nd2 ∧ G' 9 = ln2 ∧ ecn A' (G' 31) = ec2 ∧ (at0 ≤ at2) ∧ (at2 ≤ le) ∧ (nd ≤ nd2) ∧ (0 ≤ r) ∧ (r ≤ nd2) ∧ (((1 ≤ fk2) ∧ (ln2 = ln) ∧ (nd2 - nd ≤ 2 * at2 - 2 * at0 + 12)) ∨ ((fk2 = 0) ∧ (ln2 = ln + 1) ∧ (nd2 - nd ≤ 2 * at2 - (2 * at0 - tz tk0) + 0) ∧ (nd ≤ r) ∧ (r < nd2) ∧ (wU A' Vs sb (r) (nd) (nd2)) ∧ (NX A' (r)) ∧ (nd2 - nd + 5 * (ec2 - ec) ≤ 2 * at2 - (2 * at0 - tz tk0) + 0) ∧ (NdM A' (nd) (nd2) (sy))))) := by
  have hF0 : Fr [9, 10, 11, 12, 13, 14, 15, 16, 17, 18, 31] [15, 16, 17, 18, 19, 20, 21, 22, 24, 28] G A G A := Fr_rf
  have hP0 : Pf nd A A := Pf_rf
  have b_ln : (0 : Int) ≤ ln ∧ ln ≤ 3000 := e_ln ▸ hW.1 9
  have b_le : (0 : Int) ≤ le ∧ le ≤ 3000 := e_le ▸ hW.2 4 _
  have b_at0 : (0 : Int) ≤ at0 ∧ at0 ≤ 3002 := e_at0 ▸ hW.1 10
  have b_fk : (0 : Int) ≤ fk ∧ fk ≤ 6 := e_fk ▸ hW.1 16
  have b_op0 : (-2147483648 : Int) ≤ op0 ∧ op0 ≤ 2147483647 := e_op0 ▸ hW.1 15
  have b_nd : (0 : Int) ≤ nd ∧ nd ≤ 6999 := e_nd ▸ hW.1 31
  have z_tk0 := tz_f tk0
  have b_tk0 : (0 : Int) ≤ tk0 ∧ tk0 ≤ 5 := e_tk0 ▸ hW.1 11
  have b_li : (0 : Int) ≤ li ∧ li ≤ 3000 := e_li ▸ hW.1 3
  have b_sy : (0 : Int) ≤ sy ∧ sy ≤ 202 := e_sy ▸ hW.1 19
  intro L Gx Ax one at1 tk1 fk1 nd1 op1 ec1 gL_0 gL_1 hWx hFx hPx ex_at1 ex_tk1 ex_fk1 ex_nd1 ex_op1 ex_ec1 fx_9 rx_one iv_0 iv_1 iv_2 iv_3 iv_4 iv_5 iv_6 iv_7
  have b_at1 : (0 : Int) ≤ at1 ∧ at1 ≤ 3002 := ex_at1 ▸ hWx.1 10
  have z_tk1 := tz_f tk1
  have b_tk1 : (0 : Int) ≤ tk1 ∧ tk1 ≤ 5 := ex_tk1 ▸ hWx.1 11
  have b_fk1 : (0 : Int) ≤ fk1 ∧ fk1 ≤ 6 := ex_fk1 ▸ hWx.1 16
  have b_nd1 : (0 : Int) ≤ nd1 ∧ nd1 ≤ 6999 := ex_nd1 ▸ hWx.1 31
  have b_op1 : (-2147483648 : Int) ≤ op1 ∧ op1 ≤ 2147483647 := ex_op1 ▸ hWx.1 15
  refine jx_ld (pc' := 328) (l' := L) (st' := [.ref 66]) rfl (jl_aloadn gL_0) ?_
  refine jr_get (pc' := 331) (i := 35) (v := .ref 85) rfl rfl (by decide) rfl rfl ?_
  refine jx_ld (pc' := 332) (l' := L) (st' := [.int (i32 (one)), .ref 85]) rfl (jl_iloadn gL_1) ?_
  refine jx_ld (pc' := 333) (l' := L) (st' := [.ref 66, .int (i32 (one)), .ref 85]) rfl (jl_aloadn gL_0) ?_
  refine jx_ar (pc' := 334) (st' := [.int (i32 (1)), .ref 66, .int (i32 (one)), .ref 85]) rfl rfl rfl rfl ?_
  refine jx_vr (pc' := 337) (as := [.int (i32 (1))]) (st := [.int (i32 (one)), .ref 85]) rfl rfl rfl rfl ⟨rfl, rfl, Nat.le_of_ble_eq_true rfl⟩ rfl rfl (c_readReference_w (dd := d) (hd := by omega) (hW := hWx) (ch := 1) (ln := ln) (e_ln := show Gx 9 = ln from (fx_9)) (le := le) (e_le := show Ax 4 (ln).toNat = le from (congrFun (hFx.2 4 rfl) _).trans (e_le)) (at0 := at1) (e_at0 := show Gx 10 = at1 from (ex_at1)) (fk := fk1) (e_fk := show Gx 16 = fk1 from (ex_fk1)) (op0 := op1) (e_op0 := show Gx 15 = op1 from (ex_op1)) (nd := nd1) (e_nd := show Gx 31 = nd1 from (ex_nd1)) (tk0 := tk1) (e_tk0 := show Gx 11 = tk1 from (ex_tk1)) (ec := ec1) (e_ec := show ecn Ax (Gx 31) = ec1 from ex_ec1) (sy := sy) (e_sy := show Gx 19 = sy from ((hFx.1 19 rfl).trans (e_sy))) (i_SV := (SV_ext ((hFx.1 29 rfl)) ((hFx.2 14 rfl)) i_SV)) (h_ch := ⟨(by decide), (by decide)⟩)  (p_0 := by omega) (p_1 := by omega) (p_2 := by omega) (p_3 := by omega) (p_4 := by omega)) (fun o V' hq => ?_)
  obtain ⟨G128, A129, r130, at2_131, fk2_132, op2_133, nd2_134, tk2_135, ec2_136, rfl, rfl, hW137, hF138, hQ139, b140, e141, e142, e143, e144, e145, e146, p147, p148, p149, p150, p151, p152, q153⟩ := hq
  have hF154 := Fr_tr hFx hF138 (Fr_sub (by decide)) (Fr_sub (by decide))
  have hP155 := Pf_tr hPx hQ139 (by omega)
  have bat2_131 : (0 : Int) ≤ at2_131 ∧ at2_131 ≤ 3002 := e141 ▸ hW137.1 10
  have bfk2_132 : (0 : Int) ≤ fk2_132 ∧ fk2_132 ≤ 6 := e142 ▸ hW137.1 16
  have bop2_133 : (-2147483648 : Int) ≤ op2_133 ∧ op2_133 ≤ 2147483647 := e143 ▸ hW137.1 15
  have bnd2_134 : (0 : Int) ≤ nd2_134 ∧ nd2_134 ≤ 6999 := e144 ▸ hW137.1 31
  have ztk2_135 := tz_b tk2_135
  have btk2_135 : (0 : Int) ≤ tk2_135 ∧ tk2_135 ≤ 5 := e145 ▸ hW137.1 11
  refine .inr ⟨_, rfl, ?_⟩
  rcases q153 with ⟨a156, a157, a158, a159, a160, a161⟩ | ⟨a162, a163, a164⟩ | ⟨a165, a166, a167, a168, a169, a170, a171⟩
  · have _q : True := trivial
    refine jr_st (pc' := 338) (i := 18) (m := 7000) (z := one) (y := r130) rfl (by decide) rfl (by decide) (by omega) (by omega) rfl ?_
    have hW173 : Wk G128 (uA A129 18 (one).toNat (r130)) := Wk_a hW137 (show (-2147483648 : Int) ≤ r130 by omega) (show r130 ≤ (2147483647 : Int) by omega)
    have hF174 := Fr_a (z := r130) (k := 18) (n := (one).toNat) hF154 (by decide)
    obtain ⟨A172, eA172⟩ : ∃ q, q = uA A129 18 (one).toNat (r130) := ⟨_, rfl⟩
    rw [← eA172]
    rw [← eA172] at hW173 hF174
    have q175 : A172 18 (one).toNat = r130 := by rw [eA172]; exact uA_eq
    have hP176 : Pf nd A A172 := eA172 ▸ Pf_a hP155 (z := one) (by omega) (by omega)
    have ec177 : ecn A172 (G128 31) = ec2_136 := (ecn_e ((congrFun eA172 15).trans (uA_ne (by decide)))).trans e146
    have z178 := tz_f (tk2_135)
    exact c_readGuard_w_at_338p (X := X) (d := d) (Vs := Vs) (sb := sb) (c0 := c0) (c1 := c1) (G := G) (A := A) (T := T) (ln := ln) (le := le) (at0 := at0) (fk := fk) (op0 := op0) (nd := nd) (tk0 := tk0) (li := li) (ec := ec) (sy := sy) (hd := hd) (hW := hW) (e_ln := e_ln) (e_le := e_le) (e_at0 := e_at0) (e_fk := e_fk) (e_op0 := e_op0) (e_nd := e_nd) (e_tk0 := e_tk0) (e_li := e_li) (e_ec := e_ec) (e_sy := e_sy) (i_SV := i_SV) (p_0 := p_0) (p_1 := p_1) (p_2 := p_2) (p_3 := p_3) (p_4 := p_4) L G128 A172 (one) (at2_131) (tk2_135) (fk2_132) (nd2_134) (op2_133) (ec2_136) gL_0 gL_1 hW173 hF174 hP176 ((e141)) ((e145)) ((e142)) ((e144)) ((e143)) (ec177) (((hF138.1 9 rfl).trans (fx_9))) (by omega) (by omega) (by omega) (by omega) (by omega) (by omega) (by omega) (by omega) (by omega)
  · have _q : True := trivial
    exfalso
    omega
  · have _q : True := trivial
    exfalso
    omega
set_option maxRecDepth 20000 in
set_option maxHeartbeats 4000000 in
theorem c_readGuard_w_at_310p {X : jX} {d : Nat} {Vs : Nat → Prop} {sb : Int} {c0 c1 : jC} {G : Nat → Int} {A : Nat → Nat → Int} {T : jH} {ln le at0 fk op0 nd tk0 li ec sy : Int} (hd : 71 ≤ d + 1) (hW : Wk G A) (e_ln : G 9 = ln) (e_le : A 4 (ln).toNat = le) (e_at0 : G 10 = at0) (e_fk : G 16 = fk) (e_op0 : G 15 = op0) (e_nd : G 31 = nd) (e_tk0 : G 11 = tk0) (e_li : G 3 = li) (e_ec : ecn A (G 31) = ec) (e_sy : G 19 = sy) (i_SV : SV Vs sb G A) (p_0 : 0 ≤ op0 ∧ op0 ≤ 8) (p_1 : fk = 0) (p_2 : nd ≤ 2 * at0 - tz tk0 + 42) (p_3 : at0 ≤ le) (p_4 : ln < li) : ∀ (L : jL) (Gx : Nat → Int) (Ax : Nat → Nat → Int) (one at1 tk1 fk1 nd1 op1 ec1 : Int), jGet L 0 = some (.ref 66) → jGet L 1 = some (.int (i32 one)) → Wk Gx Ax → Fr [9, 10, 11, 12, 13, 14, 15, 16, 17, 18, 31] [15, 16, 17, 18, 19, 20, 21, 22, 24, 28] G A Gx Ax → Pf nd A Ax → Gx 10 = at1 → Gx 11 = tk1 → Gx 16 = fk1 → Gx 31 = nd1 → Gx 15 = op1 → ecn Ax (Gx 31) = ec1 → Gx 9 = ln → ((-2147483648 : Int) ≤ one ∧ one ≤ 2147483647) → (at0 ≤ at1) → (at1 ≤ le) → (nd ≤ nd1) → (op1 = op0) → (one = nd) → (one ≤ 6998 ∧ one < nd1) → (1 ≤ fk1) → (nd1 - nd ≤ (2 * at1 - tz tk1) - (2 * at0 - tz tk0) + 6) → wj X d jm303 (310, L, [], rV c0 c1 Gx Ax T) (fun o V' => ∃ (G' : Nat → Int) (A' : Nat → Nat → Int) (r : Int) (at2 : Int) (fk2 : Int) (nd2 : Int) (ln2 : Int) (ec2 : Int), V' = rV c0 c1 G' A' T ∧ o = .inl (some (.int (i32 r))) ∧ Wk G' A' ∧ Fr [9, 10, 11, 12, 13, 14, 15, 16, 17, 18, 31] [15, 16, 17, 18, 19, 20, 21, 22, 24, 28] G A G' A' ∧ Pf nd A A' ∧ ((-2147483648 : Int) ≤ r ∧ r ≤ 2147483647) ∧ G' 10 = at2 ∧ G' 16 = fk2 ∧ G' 31 = nd2 ∧ G' 9 = ln2 ∧ ecn A' (G' 31) = ec2 ∧ (at0 ≤ at2) ∧ (at2 ≤ le) ∧ (nd ≤ nd2) ∧ (0 ≤ r) ∧ (r ≤ nd2) ∧ (((1 ≤ fk2) ∧ (ln2 = ln) ∧ (nd2 - nd ≤ 2 * at2 - 2 * at0 + 12)) ∨ ((fk2 = 0) ∧ (ln2 = ln + 1) ∧ (nd2 - nd ≤ 2 * at2 - (2 * at0 - tz tk0) + 0) ∧ (nd ≤ r) ∧ (r < nd2) ∧ (wU A' Vs sb (r) (nd) (nd2)) ∧ (NX A' (r)) ∧ (nd2 - nd + 5 * (ec2 - ec) ≤ 2 * at2 - (2 * at0 - tz tk0) + 0) ∧ (NdM A' (nd) (nd2) (sy))))) := by
  have hF0 : Fr [9, 10, 11, 12, 13, 14, 15, 16, 17, 18, 31] [15, 16, 17, 18, 19, 20, 21, 22, 24, 28] G A G A := Fr_rf
  have hP0 : Pf nd A A := Pf_rf
  have b_ln : (0 : Int) ≤ ln ∧ ln ≤ 3000 := e_ln ▸ hW.1 9
  have b_le : (0 : Int) ≤ le ∧ le ≤ 3000 := e_le ▸ hW.2 4 _
  have b_at0 : (0 : Int) ≤ at0 ∧ at0 ≤ 3002 := e_at0 ▸ hW.1 10
  have b_fk : (0 : Int) ≤ fk ∧ fk ≤ 6 := e_fk ▸ hW.1 16
  have b_op0 : (-2147483648 : Int) ≤ op0 ∧ op0 ≤ 2147483647 := e_op0 ▸ hW.1 15
  have b_nd : (0 : Int) ≤ nd ∧ nd ≤ 6999 := e_nd ▸ hW.1 31
  have z_tk0 := tz_f tk0
  have b_tk0 : (0 : Int) ≤ tk0 ∧ tk0 ≤ 5 := e_tk0 ▸ hW.1 11
  have b_li : (0 : Int) ≤ li ∧ li ≤ 3000 := e_li ▸ hW.1 3
  have b_sy : (0 : Int) ≤ sy ∧ sy ≤ 202 := e_sy ▸ hW.1 19
  intro L Gx Ax one at1 tk1 fk1 nd1 op1 ec1 gL_0 gL_1 hWx hFx hPx ex_at1 ex_tk1 ex_fk1 ex_nd1 ex_op1 ex_ec1 fx_9 rx_one iv_0 iv_1 iv_2 iv_3 iv_4 iv_5 iv_6 iv_7
  have b_at1 : (0 : Int) ≤ at1 ∧ at1 ≤ 3002 := ex_at1 ▸ hWx.1 10
  have z_tk1 := tz_f tk1
  have b_tk1 : (0 : Int) ≤ tk1 ∧ tk1 ≤ 5 := ex_tk1 ▸ hWx.1 11
  have b_fk1 : (0 : Int) ≤ fk1 ∧ fk1 ≤ 6 := ex_fk1 ▸ hWx.1 16
  have b_nd1 : (0 : Int) ≤ nd1 ∧ nd1 ≤ 6999 := ex_nd1 ▸ hWx.1 31
  have b_op1 : (-2147483648 : Int) ≤ op1 ∧ op1 ≤ 2147483647 := ex_op1 ▸ hWx.1 15
  refine jx_ld (pc' := 311) (l' := L) (st' := [.ref 66]) rfl (jl_aloadn gL_0) ?_
  refine jx_ar (pc' := 313) (st' := [.int (i32 (7)), .ref 66]) rfl rfl rfl rfl ?_
  have b179 : (-2147483648 : Int) ≤ Gx 13 ∧ Gx 13 ≤ 2147483647 := hWx.1 13
  refine jx_vr (pc' := 316) (as := [.int (i32 (7))]) (st := []) rfl rfl rfl rfl ⟨rfl, rfl, Nat.le_of_ble_eq_true rfl⟩ rfl rfl (c_isKey (dd := d) (hd := by omega) (hW := hWx) (k := 7) (tk := tk1) (e_tk := show Gx 11 = tk1 from (ex_tk1)) (tn := Gx 13) (e_tn := show Gx 13 = Gx 13 from rfl)  (h_k := ⟨(by decide), (by decide)⟩)  ) (fun o V' hq => ?_)
  obtain ⟨r180, rfl, rfl, b181, q182⟩ := hq
  refine .inr ⟨_, rfl, ?_⟩
  rcases q182 with ⟨rfl, a183, a184, a185⟩ | rfl
  · have _q : True := trivial
    refine jx_if_eq (pc' := 319) (tg := 327) rfl rfl rfl (by decide) (by decide) (fun h186 => ?_) (fun h186 => ?_)
    · have _q := h186
      exact absurd h186 (by omega)
    · have _q := h186
      refine jx_ld (pc' := 320) (l' := L) (st' := [.ref 66]) rfl (jl_aloadn gL_0) ?_
      refine jx_ar (pc' := 321) (st' := [.int (i32 (1)), .ref 66]) rfl rfl rfl rfl ?_
      refine jx_vr (pc' := 324) (as := [.int (i32 (1))]) (st := []) rfl rfl rfl rfl ⟨rfl, rfl, Nat.le_of_ble_eq_true rfl⟩ rfl rfl (c_need (dd := d) (hd := by omega) (hW := hWx) (g := 1) (ln := ln) (e_ln := show Gx 9 = ln from (fx_9)) (le := le) (e_le := show Ax 4 (ln).toNat = le from (congrFun (hFx.2 4 rfl) _).trans (e_le)) (at0 := at1) (e_at0 := show Gx 10 = at1 from (ex_at1)) (fk := fk1) (e_fk := show Gx 16 = fk1 from (ex_fk1)) (tk0 := tk1) (e_tk0 := show Gx 11 = tk1 from (ex_tk1))  (h_g := ⟨(by decide), (by decide)⟩)  (p_0 := by omega)) (fun o V' hq => ?_)
      obtain ⟨G187, A188, at2_189, tk2_190, fk2_191, rfl, rfl, hW192, hF193, e194, e195, e196, p197, p198, q199⟩ := hq
      have hF200 := Fr_tr hFx hF193 (Fr_sub (by decide)) (Fr_sub (by decide))
      have hP201 := Pf_f hPx hF193 (by decide)
      have ec202 : ecn A188 (G187 31) = ec1 := (ecn_f (hF193.2 15 rfl) (hF193.1 31 rfl)).trans ex_ec1
      have bat2_189 : (0 : Int) ≤ at2_189 ∧ at2_189 ≤ 3002 := e194 ▸ hW192.1 10
      have ztk2_190 := tz_b tk2_190
      have btk2_190 : (0 : Int) ≤ tk2_190 ∧ tk2_190 ≤ 5 := e195 ▸ hW192.1 11
      have bfk2_191 : (0 : Int) ≤ fk2_191 ∧ fk2_191 ≤ 6 := e196 ▸ hW192.1 16
      refine .inl ⟨rfl, ?_⟩
      rcases q199 with ⟨a203, a204, a205, a206⟩ | ⟨a207, a208, a209, a210⟩
      · have _q : True := trivial
        refine jx_go (tg := 359) rfl rfl ?_
        have z211 := tz_f (tk2_190)
        exact c_readGuard_w_at_359p (X := X) (d := d) (Vs := Vs) (sb := sb) (c0 := c0) (c1 := c1) (G := G) (A := A) (T := T) (ln := ln) (le := le) (at0 := at0) (fk := fk) (op0 := op0) (nd := nd) (tk0 := tk0) (li := li) (ec := ec) (sy := sy) (hd := hd) (hW := hW) (e_ln := e_ln) (e_le := e_le) (e_at0 := e_at0) (e_fk := e_fk) (e_op0 := e_op0) (e_nd := e_nd) (e_tk0 := e_tk0) (e_li := e_li) (e_ec := e_ec) (e_sy := e_sy) (i_SV := i_SV) (p_0 := p_0) (p_1 := p_1) (p_2 := p_2) (p_3 := p_3) (p_4 := p_4) L G187 A188 (one) (at2_189) (tk2_190) (fk2_191) (nd1) (op1) (ec1) gL_0 gL_1 hW192 hF200 hP201 ((e194)) ((e195)) ((e196)) (((hF193.1 31 rfl).trans (ex_nd1))) (((hF193.1 15 rfl).trans (ex_op1))) (ec202) (((hF193.1 9 rfl).trans (fx_9))) (by omega) (by omega) (by omega) (by omega) (by omega) (by omega) (by omega) (by omega) (by omega)
      · have _q : True := trivial
        exfalso
        omega
  · have _q : True := trivial
    refine jx_if_eq (pc' := 319) (tg := 327) rfl rfl rfl (by decide) (by decide) (fun h212 => ?_) (fun h212 => ?_)
    · have _q := h212
      have z213 := tz_f (tk1)
      exact c_readGuard_w_at_327p (X := X) (d := d) (Vs := Vs) (sb := sb) (c0 := c0) (c1 := c1) (G := G) (A := A) (T := T) (ln := ln) (le := le) (at0 := at0) (fk := fk) (op0 := op0) (nd := nd) (tk0 := tk0) (li := li) (ec := ec) (sy := sy) (hd := hd) (hW := hW) (e_ln := e_ln) (e_le := e_le) (e_at0 := e_at0) (e_fk := e_fk) (e_op0 := e_op0) (e_nd := e_nd) (e_tk0 := e_tk0) (e_li := e_li) (e_ec := e_ec) (e_sy := e_sy) (i_SV := i_SV) (p_0 := p_0) (p_1 := p_1) (p_2 := p_2) (p_3 := p_3) (p_4 := p_4) L Gx Ax (one) (at1) (tk1) (fk1) (nd1) (op1) (ec1) gL_0 gL_1 hWx hFx hPx ((ex_at1)) ((ex_tk1)) ((ex_fk1)) ((ex_nd1)) ((ex_op1)) (ex_ec1) ((fx_9)) (by omega) (by omega) (by omega) (by omega) (by omega) (by omega) (by omega) (by omega) (by omega)
    · have _q := h212
      exact absurd h212 (by omega)
set_option maxRecDepth 20000 in
set_option maxHeartbeats 4000000 in
theorem c_readGuard_w_at_293 {X : jX} {d : Nat} {Vs : Nat → Prop} {sb : Int} {c0 c1 : jC} {G : Nat → Int} {A : Nat → Nat → Int} {T : jH} {ln le at0 fk op0 nd tk0 li ec sy : Int} (hd : 71 ≤ d + 1) (hW : Wk G A) (e_ln : G 9 = ln) (e_le : A 4 (ln).toNat = le) (e_at0 : G 10 = at0) (e_fk : G 16 = fk) (e_op0 : G 15 = op0) (e_nd : G 31 = nd) (e_tk0 : G 11 = tk0) (e_li : G 3 = li) (e_ec : ecn A (G 31) = ec) (e_sy : G 19 = sy) (i_SV : SV Vs sb G A) (p_0 : 0 ≤ op0 ∧ op0 ≤ 8) (p_1 : fk = 0) (p_2 : nd ≤ 2 * at0 - tz tk0 + 42) (p_3 : at0 ≤ le) (p_4 : ln < li) : ∀ (L : jL) (Gx : Nat → Int) (Ax : Nat → Nat → Int) (one e at1 tk1 fk1 nd1 op1 ec1 : Int), jGet L 0 = some (.ref 66) → jGet L 1 = some (.int (i32 one)) → jGet L 2 = some (.int (i32 e)) → Wk Gx Ax → Fr [9, 10, 11, 12, 13, 14, 15, 16, 17, 18, 31] [15, 16, 17, 18, 19, 20, 21, 22, 24, 28] G A Gx Ax → Pf nd A Ax → Gx 10 = at1 → Gx 11 = tk1 → Gx 16 = fk1 → Gx 31 = nd1 → Gx 15 = op1 → ecn Ax (Gx 31) = ec1 → Gx 9 = ln → ((-2147483648 : Int) ≤ one ∧ one ≤ 2147483647) → ((-2147483648 : Int) ≤ e ∧ e ≤ 2147483647) → (at0 ≤ at1) → (at1 ≤ le) → (nd ≤ nd1) → (op1 = op0) → (one = nd) → (one ≤ 6998 ∧ one < nd1) → (fk1 = 0) → (nd1 - nd ≤ (2 * at1 - tz tk1) - (2 * at0 - tz tk0) + 1) → (0 ≤ e ∧ e ≤ nd1) → (ND Ax (one) (33) (0) (0) (0) (0) (0) (0)) → (wE Ax Vs sb (22) (e) (one + 1) (nd1)) → (nd1 - nd + 5 * (ec1 - ec) ≤ (2 * at1 - tz tk1) - (2 * at0 - tz tk0) + 1 - tz tk1) → (NdM Ax (nd) (nd1) (sy)) → wj X d jm303 (293, L, [], rV c0 c1 Gx Ax T) (fun o V' => ∃ (G' : Nat → Int) (A' : Nat → Nat → Int) (r : Int) (at2 : Int) (fk2 : Int) (nd2 : Int) (ln2 : Int) (ec2 : Int), V' = rV c0 c1 G' A' T ∧ o = .inl (some (.int (i32 r))) ∧ Wk G' A' ∧ Fr [9, 10, 11, 12, 13, 14, 15, 16, 17, 18, 31] [15, 16, 17, 18, 19, 20, 21, 22, 24, 28] G A G' A' ∧ Pf nd A A' ∧ ((-2147483648 : Int) ≤ r ∧ r ≤ 2147483647) ∧ G' 10 = at2 ∧ G' 16 = fk2 ∧ G' 31 = nd2 ∧ G' 9 = ln2 ∧ ecn A' (G' 31) = ec2 ∧ (at0 ≤ at2) ∧ (at2 ≤ le) ∧ (nd ≤ nd2) ∧ (0 ≤ r) ∧ (r ≤ nd2) ∧ (((1 ≤ fk2) ∧ (ln2 = ln) ∧ (nd2 - nd ≤ 2 * at2 - 2 * at0 + 12)) ∨ ((fk2 = 0) ∧ (ln2 = ln + 1) ∧ (nd2 - nd ≤ 2 * at2 - (2 * at0 - tz tk0) + 0) ∧ (nd ≤ r) ∧ (r < nd2) ∧ (wU A' Vs sb (r) (nd) (nd2)) ∧ (NX A' (r)) ∧ (nd2 - nd + 5 * (ec2 - ec) ≤ 2 * at2 - (2 * at0 - tz tk0) + 0) ∧ (NdM A' (nd) (nd2) (sy))))) := by
  have hF0 : Fr [9, 10, 11, 12, 13, 14, 15, 16, 17, 18, 31] [15, 16, 17, 18, 19, 20, 21, 22, 24, 28] G A G A := Fr_rf
  have hP0 : Pf nd A A := Pf_rf
  have b_ln : (0 : Int) ≤ ln ∧ ln ≤ 3000 := e_ln ▸ hW.1 9
  have b_le : (0 : Int) ≤ le ∧ le ≤ 3000 := e_le ▸ hW.2 4 _
  have b_at0 : (0 : Int) ≤ at0 ∧ at0 ≤ 3002 := e_at0 ▸ hW.1 10
  have b_fk : (0 : Int) ≤ fk ∧ fk ≤ 6 := e_fk ▸ hW.1 16
  have b_op0 : (-2147483648 : Int) ≤ op0 ∧ op0 ≤ 2147483647 := e_op0 ▸ hW.1 15
  have b_nd : (0 : Int) ≤ nd ∧ nd ≤ 6999 := e_nd ▸ hW.1 31
  have z_tk0 := tz_f tk0
  have b_tk0 : (0 : Int) ≤ tk0 ∧ tk0 ≤ 5 := e_tk0 ▸ hW.1 11
  have b_li : (0 : Int) ≤ li ∧ li ≤ 3000 := e_li ▸ hW.1 3
  have b_sy : (0 : Int) ≤ sy ∧ sy ≤ 202 := e_sy ▸ hW.1 19
  intro L Gx Ax one e at1 tk1 fk1 nd1 op1 ec1 gL_0 gL_1 gL_2 hWx hFx hPx ex_at1 ex_tk1 ex_fk1 ex_nd1 ex_op1 ex_ec1 fx_9 rx_one rx_e iv_0 iv_1 iv_2 iv_3 iv_4 iv_5 iv_6 iv_7 iv_8 iv_9 iv_10 iv_11 iv_12
  have b_at1 : (0 : Int) ≤ at1 ∧ at1 ≤ 3002 := ex_at1 ▸ hWx.1 10
  have z_tk1 := tz_f tk1
  have b_tk1 : (0 : Int) ≤ tk1 ∧ tk1 ≤ 5 := ex_tk1 ▸ hWx.1 11
  have b_fk1 : (0 : Int) ≤ fk1 ∧ fk1 ≤ 6 := ex_fk1 ▸ hWx.1 16
  have b_nd1 : (0 : Int) ≤ nd1 ∧ nd1 ≤ 6999 := ex_nd1 ▸ hWx.1 31
  have b_op1 : (-2147483648 : Int) ≤ op1 ∧ op1 ≤ 2147483647 := ex_op1 ▸ hWx.1 15
  refine jx_ld (pc' := 294) (l' := L) (st' := [.ref 66]) rfl (jl_aloadn gL_0) ?_
  refine jr_get (pc' := 297) (i := 34) (v := .ref 84) rfl rfl (by decide) rfl rfl ?_
  refine jx_ld (pc' := 298) (l' := L) (st' := [.int (i32 (one)), .ref 84]) rfl (jl_iloadn gL_1) ?_
  refine jx_ld (pc' := 299) (l' := L) (st' := [.int (i32 (e)), .int (i32 (one)), .ref 84]) rfl (jl_iloadn gL_2) ?_
  refine jr_st (pc' := 300) (i := 17) (m := 7000) (z := one) (y := e) rfl (by decide) rfl (by decide) (by omega) (by omega) rfl ?_
  have hW215 : Wk Gx (uA Ax 17 (one).toNat (e)) := Wk_a hWx (show (-2147483648 : Int) ≤ e by omega) (show e ≤ (2147483647 : Int) by omega)
  have hF216 := Fr_a (z := e) (k := 17) (n := (one).toNat) hFx (by decide)
  obtain ⟨A214, eA214⟩ : ∃ q, q = uA Ax 17 (one).toNat (e) := ⟨_, rfl⟩
  rw [← eA214]
  rw [← eA214] at hW215 hF216
  have q217 : A214 17 (one).toNat = e := by rw [eA214]; exact uA_eq
  have hP218 : Pf nd A A214 := eA214 ▸ Pf_a hPx (z := one) (by omega) (by omega)
  have sf219 : ND A214 (one) (33) (e) (0) (0) (0) (0) (0) := ND_a eA214 iv_9
  have sf220 : wE A214 Vs sb (22) (e) (one + 1) (nd1) := wE_ag (by omega) (Sg_ne eA214 rfl) (Ag_st eA214 (by omega) (by omega)) iv_10
  have sf221 : NdM A214 (nd) (nd1) (sy) := NdM_st eA214 (by decide) iv_12
  have ec222 : ecn A214 (Gx 31) = ec1 := (ecn_e ((congrFun eA214 15).trans (uA_ne (by decide)))).trans ex_ec1
  refine jx_ld (pc' := 301) (l' := L) (st' := [.ref 66]) rfl (jl_aloadn gL_0) ?_
  refine jx_ld (pc' := 302) (l' := L) (st' := [.ref 66, .ref 66]) rfl (jl_aloadn gL_0) ?_
  refine jx_ar (pc' := 304) (st' := [.int (i32 (38)), .ref 66, .ref 66]) rfl rfl rfl rfl ?_
  have b223 : (-2147483648 : Int) ≤ Gx 13 ∧ Gx 13 ≤ 2147483647 := hWx.1 13
  refine jx_vr (pc' := 307) (as := [.int (i32 (38))]) (st := [.ref 66]) rfl rfl rfl rfl ⟨rfl, rfl, Nat.le_of_ble_eq_true rfl⟩ rfl rfl (c_is (dd := d) (hd := by omega) (hW := hW215) (k := 38) (tk := tk1) (e_tk := show Gx 11 = tk1 from (ex_tk1)) (tn := Gx 13) (e_tn := show Gx 13 = Gx 13 from rfl)  (h_k := ⟨(by decide), (by decide)⟩)  ) (fun o V' hq => ?_)
  obtain ⟨r224, rfl, rfl, b225, q226⟩ := hq
  refine .inr ⟨_, rfl, ?_⟩
  rcases q226 with ⟨rfl, a227, a228, a229⟩ | rfl
  · have _q : True := trivial
    refine jx_vr (pc' := 310) (as := [.int (i32 (1))]) (st := []) rfl rfl rfl rfl ⟨rfl, rfl, Nat.le_of_ble_eq_true rfl⟩ rfl rfl (c_need (dd := d) (hd := by omega) (hW := hW215) (g := 1) (ln := ln) (e_ln := show Gx 9 = ln from (fx_9)) (le := le) (e_le := show A214 4 (ln).toNat = le from (congrFun (((congrFun eA214 4).trans (uA_ne (by decide))).trans (hFx.2 4 rfl)) _).trans (e_le)) (at0 := at1) (e_at0 := show Gx 10 = at1 from (ex_at1)) (fk := fk1) (e_fk := show Gx 16 = fk1 from (ex_fk1)) (tk0 := tk1) (e_tk0 := show Gx 11 = tk1 from (ex_tk1))  (h_g := ⟨(by decide), (by decide)⟩)  (p_0 := by omega)) (fun o V' hq => ?_)
    obtain ⟨G230, A231, at2_232, tk2_233, fk2_234, rfl, rfl, hW235, hF236, e237, e238, e239, p240, p241, q242⟩ := hq
    have hF243 := Fr_tr hF216 hF236 (Fr_sub (by decide)) (Fr_sub (by decide))
    have hP244 := Pf_f hP218 hF236 (by decide)
    have sf245 : ND A231 (one) (33) (e) (0) (0) (0) (0) (0) := ND_ag (by omega) (Ag_fr hF236 (by decide)) sf219
    have sf246 : wE A231 Vs sb (22) (e) (one + 1) (nd1) := wE_ag (by omega) (Sg_fr hF236 (by decide)) (Ag_fr hF236 (by decide)) sf220
    have sf247 : NdM A231 (nd) (nd1) (sy) := NdM_f hF236 (by decide) sf221
    have ec248 : ecn A231 (G230 31) = ec1 := (ecn_f (hF236.2 15 rfl) (hF236.1 31 rfl)).trans ec222
    have bat2_232 : (0 : Int) ≤ at2_232 ∧ at2_232 ≤ 3002 := e237 ▸ hW235.1 10
    have ztk2_233 := tz_b tk2_233
    have btk2_233 : (0 : Int) ≤ tk2_233 ∧ tk2_233 ≤ 5 := e238 ▸ hW235.1 11
    have bfk2_234 : (0 : Int) ≤ fk2_234 ∧ fk2_234 ≤ 6 := e239 ▸ hW235.1 16
    refine .inl ⟨rfl, ?_⟩
    rcases q242 with ⟨a249, a250, a251, a252⟩ | ⟨a253, a254, a255, a256⟩
    · have _q : True := trivial
      have z257 := tz_f (tk2_233)
      exact c_readGuard_w_at_310p (X := X) (d := d) (Vs := Vs) (sb := sb) (c0 := c0) (c1 := c1) (G := G) (A := A) (T := T) (ln := ln) (le := le) (at0 := at0) (fk := fk) (op0 := op0) (nd := nd) (tk0 := tk0) (li := li) (ec := ec) (sy := sy) (hd := hd) (hW := hW) (e_ln := e_ln) (e_le := e_le) (e_at0 := e_at0) (e_fk := e_fk) (e_op0 := e_op0) (e_nd := e_nd) (e_tk0 := e_tk0) (e_li := e_li) (e_ec := e_ec) (e_sy := e_sy) (i_SV := i_SV) (p_0 := p_0) (p_1 := p_1) (p_2 := p_2) (p_3 := p_3) (p_4 := p_4) L G230 A231 (one) (at2_232) (tk2_233) (fk2_234) (nd1) (op1) (ec1) gL_0 gL_1 hW235 hF243 hP244 ((e237)) ((e238)) ((e239)) (((hF236.1 31 rfl).trans (ex_nd1))) (((hF236.1 15 rfl).trans (ex_op1))) (ec248) (((hF236.1 9 rfl).trans (fx_9))) (by omega) (by omega) (by omega) (by omega) (by omega) (by omega) (by omega) (by omega) (by omega)
    · have _q : True := trivial
      have pz258 : at1 + tz tk2_233 ≤ at2_232 := by omega
      refine jx_ld (pc' := 311) (l' := L) (st' := [.ref 66]) rfl (jl_aloadn gL_0) ?_
      refine jx_ar (pc' := 313) (st' := [.int (i32 (7)), .ref 66]) rfl rfl rfl rfl ?_
      have b259 : (-2147483648 : Int) ≤ G230 13 ∧ G230 13 ≤ 2147483647 := hW235.1 13
      refine jx_vr (pc' := 316) (as := [.int (i32 (7))]) (st := []) rfl rfl rfl rfl ⟨rfl, rfl, Nat.le_of_ble_eq_true rfl⟩ rfl rfl (c_isKey (dd := d) (hd := by omega) (hW := hW235) (k := 7) (tk := tk2_233) (e_tk := show G230 11 = tk2_233 from (e238)) (tn := G230 13) (e_tn := show G230 13 = G230 13 from rfl)  (h_k := ⟨(by decide), (by decide)⟩)  ) (fun o V' hq => ?_)
      obtain ⟨r260, rfl, rfl, b261, q262⟩ := hq
      refine .inr ⟨_, rfl, ?_⟩
      rcases q262 with ⟨rfl, a263, a264, a265⟩ | rfl
      · have _q : True := trivial
        refine jx_if_eq (pc' := 319) (tg := 327) rfl rfl rfl (by decide) (by decide) (fun h266 => ?_) (fun h266 => ?_)
        · have _q := h266
          exact absurd h266 (by omega)
        · have _q := h266
          refine jx_ld (pc' := 320) (l' := L) (st' := [.ref 66]) rfl (jl_aloadn gL_0) ?_
          refine jx_ar (pc' := 321) (st' := [.int (i32 (1)), .ref 66]) rfl rfl rfl rfl ?_
          refine jx_vr (pc' := 324) (as := [.int (i32 (1))]) (st := []) rfl rfl rfl rfl ⟨rfl, rfl, Nat.le_of_ble_eq_true rfl⟩ rfl rfl (c_need (dd := d) (hd := by omega) (hW := hW235) (g := 1) (ln := ln) (e_ln := show G230 9 = ln from ((hF236.1 9 rfl).trans (fx_9))) (le := le) (e_le := show A231 4 (ln).toNat = le from (congrFun ((hF236.2 4 rfl).trans (((congrFun eA214 4).trans (uA_ne (by decide))).trans (hFx.2 4 rfl))) _).trans (e_le)) (at0 := at2_232) (e_at0 := show G230 10 = at2_232 from (e237)) (fk := fk2_234) (e_fk := show G230 16 = fk2_234 from (e239)) (tk0 := tk2_233) (e_tk0 := show G230 11 = tk2_233 from (e238))  (h_g := ⟨(by decide), (by decide)⟩)  (p_0 := by omega)) (fun o V' hq => ?_)
          obtain ⟨G267, A268, at2_269, tk2_270, fk2_271, rfl, rfl, hW272, hF273, e274, e275, e276, p277, p278, q279⟩ := hq
          have hF280 := Fr_tr hF243 hF273 (Fr_sub (by decide)) (Fr_sub (by decide))
          have hP281 := Pf_f hP244 hF273 (by decide)
          have sf282 : ND A268 (one) (33) (e) (0) (0) (0) (0) (0) := ND_ag (by omega) (Ag_fr hF273 (by decide)) sf245
          have sf283 : wE A268 Vs sb (22) (e) (one + 1) (nd1) := wE_ag (by omega) (Sg_fr hF273 (by decide)) (Ag_fr hF273 (by decide)) sf246
          have sf284 : NdM A268 (nd) (nd1) (sy) := NdM_f hF273 (by decide) sf247
          have ec285 : ecn A268 (G267 31) = ec1 := (ecn_f (hF273.2 15 rfl) (hF273.1 31 rfl)).trans ec248
          have bat2_269 : (0 : Int) ≤ at2_269 ∧ at2_269 ≤ 3002 := e274 ▸ hW272.1 10
          have ztk2_270 := tz_b tk2_270
          have btk2_270 : (0 : Int) ≤ tk2_270 ∧ tk2_270 ≤ 5 := e275 ▸ hW272.1 11
          have bfk2_271 : (0 : Int) ≤ fk2_271 ∧ fk2_271 ≤ 6 := e276 ▸ hW272.1 16
          refine .inl ⟨rfl, ?_⟩
          rcases q279 with ⟨a286, a287, a288, a289⟩ | ⟨a290, a291, a292, a293⟩
          · have _q : True := trivial
            refine jx_go (tg := 359) rfl rfl ?_
            have z294 := tz_f (tk2_270)
            exact c_readGuard_w_at_359p (X := X) (d := d) (Vs := Vs) (sb := sb) (c0 := c0) (c1 := c1) (G := G) (A := A) (T := T) (ln := ln) (le := le) (at0 := at0) (fk := fk) (op0 := op0) (nd := nd) (tk0 := tk0) (li := li) (ec := ec) (sy := sy) (hd := hd) (hW := hW) (e_ln := e_ln) (e_le := e_le) (e_at0 := e_at0) (e_fk := e_fk) (e_op0 := e_op0) (e_nd := e_nd) (e_tk0 := e_tk0) (e_li := e_li) (e_ec := e_ec) (e_sy := e_sy) (i_SV := i_SV) (p_0 := p_0) (p_1 := p_1) (p_2 := p_2) (p_3 := p_3) (p_4 := p_4) L G267 A268 (one) (at2_269) (tk2_270) (fk2_271) (nd1) (op1) (ec1) gL_0 gL_1 hW272 hF280 hP281 ((e274)) ((e275)) ((e276)) (((hF273.1 31 rfl).trans ((hF236.1 31 rfl).trans (ex_nd1)))) (((hF273.1 15 rfl).trans ((hF236.1 15 rfl).trans (ex_op1)))) (ec285) (((hF273.1 9 rfl).trans ((hF236.1 9 rfl).trans (fx_9)))) (by omega) (by omega) (by omega) (by omega) (by omega) (by omega) (by omega) (by omega) (by omega)
          · have _q : True := trivial
            have pz295 : at2_232 + tz tk2_270 ≤ at2_269 := by omega
            refine jx_go (tg := 359) rfl rfl ?_
            refine jx_ld (pc' := 360) (l' := L) (st' := [.ref 66]) rfl (jl_aloadn gL_0) ?_
            refine jx_vr (pc' := 363) (as := []) (st := []) rfl rfl rfl rfl ⟨rfl, rfl, Nat.le_of_ble_eq_true rfl⟩ rfl rfl (c_endLine (dd := d) (hd := by omega) (hW := hW272)  (ln := ln) (e_ln := show G267 9 = ln from ((hF273.1 9 rfl).trans ((hF236.1 9 rfl).trans (fx_9)))) (li := li) (e_li := show G267 3 = li from ((hF273.1 3 rfl).trans ((hF236.1 3 rfl).trans ((hFx.1 3 rfl).trans (e_li))))) (fk := fk2_271) (e_fk := show G267 16 = fk2_271 from (e276)) (tk0 := tk2_270) (e_tk0 := show G267 11 = tk2_270 from (e275))    (p_0 := by omega)) (fun o V' hq => ?_)
            obtain ⟨G296, A297, ln2_298, fk2_299, rfl, rfl, hW300, hF301, e302, e303, q304⟩ := hq
            have hF305 := Fr_tr hF280 hF301 (Fr_sub (by decide)) (Fr_sub (by decide))
            have hP306 := Pf_f hP281 hF301 (by decide)
            have sf307 : ND A297 (one) (33) (e) (0) (0) (0) (0) (0) := ND_ag (by omega) (Ag_fr hF301 (by decide)) sf282
            have sf308 : wE A297 Vs sb (22) (e) (one + 1) (nd1) := wE_ag (by omega) (Sg_fr hF301 (by decide)) (Ag_fr hF301 (by decide)) sf283
            have sf309 : NdM A297 (nd) (nd1) (sy) := NdM_f hF301 (by decide) sf284
            have ec310 : ecn A297 (G296 31) = ec1 := (ecn_f (hF301.2 15 rfl) (hF301.1 31 rfl)).trans ec285
            have bln2_298 : (0 : Int) ≤ ln2_298 ∧ ln2_298 ≤ 3000 := e302 ▸ hW300.1 9
            have bfk2_299 : (0 : Int) ≤ fk2_299 ∧ fk2_299 ≤ 6 := e303 ▸ hW300.1 16
            refine .inl ⟨rfl, ?_⟩
            rcases q304 with ⟨a311, a312, a313, a314, a315⟩ | ⟨a316, a317⟩
            · have _q : True := trivial
              refine jx_ld (pc' := 364) (l' := L) (st' := [.int (i32 (one))]) rfl (jl_iloadn gL_1) ?_
              refine jx_rt (v := some (.int (i32 (one)))) rfl rfl rfl rfl rfl rfl ?_
              exact ⟨_, _, _, at2_269, fk2_299, nd1, ln2_298, ec1, rfl, rfl, hW300, hF305, hP306, by omega, ((hF301.1 10 rfl).trans (e274)), (e303), ((hF301.1 31 rfl).trans ((hF273.1 31 rfl).trans ((hF236.1 31 rfl).trans (ex_nd1)))), (e302), ec310, by omega, by omega, by omega, by omega, by omega, by first | exact Or.inr ((⟨by omega, by omega, by omega, by omega, by omega, (wU_sk sf307 (by omega) (by omega) (wE_mono (by omega) (by omega) (by omega) sf308)), (NX_nd sf307), by omega, sf309⟩))⟩
            · have _q : True := trivial
              refine jx_ld (pc' := 364) (l' := L) (st' := [.int (i32 (one))]) rfl (jl_iloadn gL_1) ?_
              refine jx_rt (v := some (.int (i32 (one)))) rfl rfl rfl rfl rfl rfl ?_
              exact ⟨_, _, _, at2_269, fk2_299, nd1, ln2_298, ec1, rfl, rfl, hW300, hF305, hP306, by omega, ((hF301.1 10 rfl).trans (e274)), (e303), ((hF301.1 31 rfl).trans ((hF273.1 31 rfl).trans ((hF236.1 31 rfl).trans (ex_nd1)))), (e302), ec310, by omega, by omega, by omega, by omega, by omega, by first | exact Or.inl (⟨by omega, by omega, by omega⟩)⟩
      · have _q : True := trivial
        refine jx_if_eq (pc' := 319) (tg := 327) rfl rfl rfl (by decide) (by decide) (fun h318 => ?_) (fun h318 => ?_)
        · have _q := h318
          refine jx_ld (pc' := 328) (l' := L) (st' := [.ref 66]) rfl (jl_aloadn gL_0) ?_
          refine jr_get (pc' := 331) (i := 35) (v := .ref 85) rfl rfl (by decide) rfl rfl ?_
          refine jx_ld (pc' := 332) (l' := L) (st' := [.int (i32 (one)), .ref 85]) rfl (jl_iloadn gL_1) ?_
          refine jx_ld (pc' := 333) (l' := L) (st' := [.ref 66, .int (i32 (one)), .ref 85]) rfl (jl_aloadn gL_0) ?_
          refine jx_ar (pc' := 334) (st' := [.int (i32 (1)), .ref 66, .int (i32 (one)), .ref 85]) rfl rfl rfl rfl ?_
          refine jx_vr (pc' := 337) (as := [.int (i32 (1))]) (st := [.int (i32 (one)), .ref 85]) rfl rfl rfl rfl ⟨rfl, rfl, Nat.le_of_ble_eq_true rfl⟩ rfl rfl (c_readReference_w (dd := d) (hd := by omega) (hW := hW235) (ch := 1) (ln := ln) (e_ln := show G230 9 = ln from ((hF236.1 9 rfl).trans (fx_9))) (le := le) (e_le := show A231 4 (ln).toNat = le from (congrFun ((hF236.2 4 rfl).trans (((congrFun eA214 4).trans (uA_ne (by decide))).trans (hFx.2 4 rfl))) _).trans (e_le)) (at0 := at2_232) (e_at0 := show G230 10 = at2_232 from (e237)) (fk := fk2_234) (e_fk := show G230 16 = fk2_234 from (e239)) (op0 := op1) (e_op0 := show G230 15 = op1 from ((hF236.1 15 rfl).trans (ex_op1))) (nd := nd1) (e_nd := show G230 31 = nd1 from ((hF236.1 31 rfl).trans (ex_nd1))) (tk0 := tk2_233) (e_tk0 := show G230 11 = tk2_233 from (e238)) (ec := ec1) (e_ec := show ecn A231 (G230 31) = ec1 from ec248) (sy := sy) (e_sy := show G230 19 = sy from ((hF236.1 19 rfl).trans ((hFx.1 19 rfl).trans (e_sy)))) (i_SV := (SV_ext (((hF236.1 29 rfl).trans (hFx.1 29 rfl))) (((hF236.2 14 rfl).trans (((congrFun eA214 14).trans (uA_ne (by decide))).trans (hFx.2 14 rfl)))) i_SV)) (h_ch := ⟨(by decide), (by decide)⟩)  (p_0 := by omega) (p_1 := by omega) (p_2 := by omega) (p_3 := by omega) (p_4 := by omega)) (fun o V' hq => ?_)
          obtain ⟨G319, A320, r321, at2_322, fk2_323, op2_324, nd2_325, tk2_326, ec2_327, rfl, rfl, hW328, hF329, hQ330, b331, e332, e333, e334, e335, e336, e337, p338, p339, p340, p341, p342, p343, q344⟩ := hq
          have hF345 := Fr_tr hF243 hF329 (Fr_sub (by decide)) (Fr_sub (by decide))
          have k346 : A320 17 (one).toNat = e := (hQ330 17 _ rfl (by omega)).trans (show A231 17 (one).toNat = e from (congrFun (hF236.2 17 rfl) _).trans (q217))
          have hP347 := Pf_tr hP244 hQ330 (by omega)
          have sf348 : ND A320 (one) (33) (e) (0) (0) (0) (0) (0) := ND_ag (by omega) (Ag_pf hQ330 (by omega)) sf245
          have sf349 : wE A320 Vs sb (22) (e) (one + 1) (nd1) := wE_ag (by omega) (Sg_fr hF329 (by decide)) (Ag_pf hQ330 (by omega)) sf246
          have sf350 : NdM A320 (nd) (nd1) (sy) := NdM_pf hQ330 (by omega) (by omega) sf247
          have bat2_322 : (0 : Int) ≤ at2_322 ∧ at2_322 ≤ 3002 := e332 ▸ hW328.1 10
          have bfk2_323 : (0 : Int) ≤ fk2_323 ∧ fk2_323 ≤ 6 := e333 ▸ hW328.1 16
          have bop2_324 : (-2147483648 : Int) ≤ op2_324 ∧ op2_324 ≤ 2147483647 := e334 ▸ hW328.1 15
          have bnd2_325 : (0 : Int) ≤ nd2_325 ∧ nd2_325 ≤ 6999 := e335 ▸ hW328.1 31
          have ztk2_326 := tz_b tk2_326
          have btk2_326 : (0 : Int) ≤ tk2_326 ∧ tk2_326 ≤ 5 := e336 ▸ hW328.1 11
          refine .inr ⟨_, rfl, ?_⟩
          rcases q344 with ⟨a351, a352, a353, a354, a355, a356⟩ | ⟨a357, a358, a359⟩ | ⟨a360, a361, a362, a363, a364, a365, a366⟩
          · have _q : True := trivial
            exfalso
            omega
          · have _q : True := trivial
            refine jr_st (pc' := 338) (i := 18) (m := 7000) (z := one) (y := r321) rfl (by decide) rfl (by decide) (by omega) (by omega) rfl ?_
            have hW368 : Wk G319 (uA A320 18 (one).toNat (r321)) := Wk_a hW328 (show (-2147483648 : Int) ≤ r321 by omega) (show r321 ≤ (2147483647 : Int) by omega)
            have hF369 := Fr_a (z := r321) (k := 18) (n := (one).toNat) hF345 (by decide)
            obtain ⟨A367, eA367⟩ : ∃ q, q = uA A320 18 (one).toNat (r321) := ⟨_, rfl⟩
            rw [← eA367]
            rw [← eA367] at hW368 hF369
            have q370 : A367 18 (one).toNat = r321 := by rw [eA367]; exact uA_eq
            have hP371 : Pf nd A A367 := eA367 ▸ Pf_a hP347 (z := one) (by omega) (by omega)
            have sf372 : ND A367 (one) (33) (e) (r321) (0) (0) (0) (0) := ND_b eA367 sf348
            have sf373 : wE A367 Vs sb (22) (e) (one + 1) (nd1) := wE_ag (by omega) (Sg_ne eA367 rfl) (Ag_st eA367 (by omega) (by omega)) sf349
            have sf374 : NdM A367 (nd) (nd1) (sy) := NdM_st eA367 (by decide) sf350
            have ec375 : ecn A367 (G319 31) = ec2_327 := (ecn_e ((congrFun eA367 15).trans (uA_ne (by decide)))).trans e337
            have z376 := tz_f (tk2_326)
            exact c_readGuard_w_at_338p (X := X) (d := d) (Vs := Vs) (sb := sb) (c0 := c0) (c1 := c1) (G := G) (A := A) (T := T) (ln := ln) (le := le) (at0 := at0) (fk := fk) (op0 := op0) (nd := nd) (tk0 := tk0) (li := li) (ec := ec) (sy := sy) (hd := hd) (hW := hW) (e_ln := e_ln) (e_le := e_le) (e_at0 := e_at0) (e_fk := e_fk) (e_op0 := e_op0) (e_nd := e_nd) (e_tk0 := e_tk0) (e_li := e_li) (e_ec := e_ec) (e_sy := e_sy) (i_SV := i_SV) (p_0 := p_0) (p_1 := p_1) (p_2 := p_2) (p_3 := p_3) (p_4 := p_4) L G319 A367 (one) (at2_322) (tk2_326) (fk2_323) (nd2_325) (op2_324) (ec2_327) gL_0 gL_1 hW368 hF369 hP371 ((e332)) ((e336)) ((e333)) ((e335)) ((e334)) (ec375) (((hF329.1 9 rfl).trans ((hF236.1 9 rfl).trans (fx_9)))) (by omega) (by omega) (by omega) (by omega) (by omega) (by omega) (by omega) (by omega) (by omega)
          · have _q : True := trivial
            refine jr_st (pc' := 338) (i := 18) (m := 7000) (z := one) (y := r321) rfl (by decide) rfl (by decide) (by omega) (by omega) rfl ?_
            have hW378 : Wk G319 (uA A320 18 (one).toNat (r321)) := Wk_a hW328 (show (-2147483648 : Int) ≤ r321 by omega) (show r321 ≤ (2147483647 : Int) by omega)
            have hF379 := Fr_a (z := r321) (k := 18) (n := (one).toNat) hF345 (by decide)
            obtain ⟨A377, eA377⟩ : ∃ q, q = uA A320 18 (one).toNat (r321) := ⟨_, rfl⟩
            rw [← eA377]
            rw [← eA377] at hW378 hF379
            have q380 : A377 18 (one).toNat = r321 := by rw [eA377]; exact uA_eq
            have hP381 : Pf nd A A377 := eA377 ▸ Pf_a hP347 (z := one) (by omega) (by omega)
            have sf382 : ND A377 (one) (33) (e) (r321) (0) (0) (0) (0) := ND_b eA377 sf348
            have sf383 : wE A377 Vs sb (22) (e) (one + 1) (nd1) := wE_ag (by omega) (Sg_ne eA377 rfl) (Ag_st eA377 (by omega) (by omega)) sf349
            have sf384 : NdM A377 (nd) (nd1) (sy) := NdM_st eA377 (by decide) sf350
            have sf385 : wR A377 Vs sb (20) (1) (r321) (nd1) (nd2_325) := wR_ag (by omega) (Sg_ne eA377 rfl) (Ag_st eA377 (by omega) (by omega)) a363
            have sf386 : NdM A377 (nd1) (nd2_325) (sy) := NdM_st eA377 (by decide) a365
            have ec387 : ecn A377 (G319 31) = ec2_327 := (ecn_e ((congrFun eA377 15).trans (uA_ne (by decide)))).trans e337
            refine jx_ld (pc' := 339) (l' := L) (st' := [.ref 66]) rfl (jl_aloadn gL_0) ?_
            refine jx_ld (pc' := 340) (l' := L) (st' := [.ref 66, .ref 66]) rfl (jl_aloadn gL_0) ?_
            refine jx_ar (pc' := 342) (st' := [.int (i32 (63)), .ref 66, .ref 66]) rfl rfl rfl rfl ?_
            have b388 : (-2147483648 : Int) ≤ G319 13 ∧ G319 13 ≤ 2147483647 := hW328.1 13
            refine jx_vr (pc' := 345) (as := [.int (i32 (63))]) (st := [.ref 66]) rfl rfl rfl rfl ⟨rfl, rfl, Nat.le_of_ble_eq_true rfl⟩ rfl rfl (c_is (dd := d) (hd := by omega) (hW := hW378) (k := 63) (tk := tk2_326) (e_tk := show G319 11 = tk2_326 from (e336)) (tn := G319 13) (e_tn := show G319 13 = G319 13 from rfl)  (h_k := ⟨(by decide), (by decide)⟩)  ) (fun o V' hq => ?_)
            obtain ⟨r389, rfl, rfl, b390, q391⟩ := hq
            refine .inr ⟨_, rfl, ?_⟩
            rcases q391 with ⟨rfl, a392, a393, a394⟩ | rfl
            · have _q : True := trivial
              refine jx_vr (pc' := 348) (as := [.int (i32 (1))]) (st := []) rfl rfl rfl rfl ⟨rfl, rfl, Nat.le_of_ble_eq_true rfl⟩ rfl rfl (c_need (dd := d) (hd := by omega) (hW := hW378) (g := 1) (ln := ln) (e_ln := show G319 9 = ln from ((hF329.1 9 rfl).trans ((hF236.1 9 rfl).trans (fx_9)))) (le := le) (e_le := show A377 4 (ln).toNat = le from (congrFun (((congrFun eA377 4).trans (uA_ne (by decide))).trans ((hF329.2 4 rfl).trans ((hF236.2 4 rfl).trans (((congrFun eA214 4).trans (uA_ne (by decide))).trans (hFx.2 4 rfl))))) _).trans (e_le)) (at0 := at2_322) (e_at0 := show G319 10 = at2_322 from (e332)) (fk := fk2_323) (e_fk := show G319 16 = fk2_323 from (e333)) (tk0 := tk2_326) (e_tk0 := show G319 11 = tk2_326 from (e336))  (h_g := ⟨(by decide), (by decide)⟩)  (p_0 := by omega)) (fun o V' hq => ?_)
              obtain ⟨G395, A396, at2_397, tk2_398, fk2_399, rfl, rfl, hW400, hF401, e402, e403, e404, p405, p406, q407⟩ := hq
              have hF408 := Fr_tr hF379 hF401 (Fr_sub (by decide)) (Fr_sub (by decide))
              have hP409 := Pf_f hP381 hF401 (by decide)
              have sf410 : ND A396 (one) (33) (e) (r321) (0) (0) (0) (0) := ND_ag (by omega) (Ag_fr hF401 (by decide)) sf382
              have sf411 : wE A396 Vs sb (22) (e) (one + 1) (nd1) := wE_ag (by omega) (Sg_fr hF401 (by decide)) (Ag_fr hF401 (by decide)) sf383
              have sf412 : NdM A396 (nd) (nd1) (sy) := NdM_f hF401 (by decide) sf384
              have sf413 : wR A396 Vs sb (20) (1) (r321) (nd1) (nd2_325) := wR_ag (by omega) (Sg_fr hF401 (by decide)) (Ag_fr hF401 (by decide)) sf385
              have sf414 : NdM A396 (nd1) (nd2_325) (sy) := NdM_f hF401 (by decide) sf386
              have ec415 : ecn A396 (G395 31) = ec2_327 := (ecn_f (hF401.2 15 rfl) (hF401.1 31 rfl)).trans ec387
              have bat2_397 : (0 : Int) ≤ at2_397 ∧ at2_397 ≤ 3002 := e402 ▸ hW400.1 10
              have ztk2_398 := tz_b tk2_398
              have btk2_398 : (0 : Int) ≤ tk2_398 ∧ tk2_398 ≤ 5 := e403 ▸ hW400.1 11
              have bfk2_399 : (0 : Int) ≤ fk2_399 ∧ fk2_399 ≤ 6 := e404 ▸ hW400.1 16
              refine .inl ⟨rfl, ?_⟩
              rcases q407 with ⟨a416, a417, a418, a419⟩ | ⟨a420, a421, a422, a423⟩
              · have _q : True := trivial
                have z424 := tz_f (tk2_398)
                exact c_readGuard_w_at_348p (X := X) (d := d) (Vs := Vs) (sb := sb) (c0 := c0) (c1 := c1) (G := G) (A := A) (T := T) (ln := ln) (le := le) (at0 := at0) (fk := fk) (op0 := op0) (nd := nd) (tk0 := tk0) (li := li) (ec := ec) (sy := sy) (hd := hd) (hW := hW) (e_ln := e_ln) (e_le := e_le) (e_at0 := e_at0) (e_fk := e_fk) (e_op0 := e_op0) (e_nd := e_nd) (e_tk0 := e_tk0) (e_li := e_li) (e_ec := e_ec) (e_sy := e_sy) (i_SV := i_SV) (p_0 := p_0) (p_1 := p_1) (p_2 := p_2) (p_3 := p_3) (p_4 := p_4) L G395 A396 (one) (at2_397) (tk2_398) (fk2_399) (nd2_325) (op2_324) (ec2_327) gL_0 gL_1 hW400 hF408 hP409 ((e402)) ((e403)) ((e404)) (((hF401.1 31 rfl).trans (e335))) (((hF401.1 15 rfl).trans (e334))) (ec415) (((hF401.1 9 rfl).trans ((hF329.1 9 rfl).trans ((hF236.1 9 rfl).trans (fx_9))))) (by omega) (by omega) (by omega) (by omega) (by omega) (by omega) (by omega) (by omega) (by omega)
              · have _q : True := trivial
                have pz425 : at2_322 + tz tk2_398 ≤ at2_397 := by omega
                refine jx_ld (pc' := 349) (l' := L) (st' := [.ref 66]) rfl (jl_aloadn gL_0) ?_
                refine jr_get (pc' := 352) (i := 36) (v := .ref 86) rfl rfl (by decide) rfl rfl ?_
                refine jx_ld (pc' := 353) (l' := L) (st' := [.int (i32 (one)), .ref 86]) rfl (jl_iloadn gL_1) ?_
                refine jx_ld (pc' := 354) (l' := L) (st' := [.ref 66, .int (i32 (one)), .ref 86]) rfl (jl_aloadn gL_0) ?_
                refine jx_ar (pc' := 355) (st' := [.int (i32 (0)), .ref 66, .int (i32 (one)), .ref 86]) rfl rfl rfl rfl ?_
                refine jx_vr (pc' := 358) (as := [.int (i32 (0))]) (st := [.int (i32 (one)), .ref 86]) rfl rfl rfl rfl ⟨rfl, rfl, Nat.le_of_ble_eq_true rfl⟩ rfl rfl (c_readReference_w (dd := d) (hd := by omega) (hW := hW400) (ch := 0) (ln := ln) (e_ln := show G395 9 = ln from ((hF401.1 9 rfl).trans ((hF329.1 9 rfl).trans ((hF236.1 9 rfl).trans (fx_9))))) (le := le) (e_le := show A396 4 (ln).toNat = le from (congrFun ((hF401.2 4 rfl).trans (((congrFun eA377 4).trans (uA_ne (by decide))).trans ((hF329.2 4 rfl).trans ((hF236.2 4 rfl).trans (((congrFun eA214 4).trans (uA_ne (by decide))).trans (hFx.2 4 rfl)))))) _).trans (e_le)) (at0 := at2_397) (e_at0 := show G395 10 = at2_397 from (e402)) (fk := fk2_399) (e_fk := show G395 16 = fk2_399 from (e404)) (op0 := op2_324) (e_op0 := show G395 15 = op2_324 from ((hF401.1 15 rfl).trans (e334))) (nd := nd2_325) (e_nd := show G395 31 = nd2_325 from ((hF401.1 31 rfl).trans (e335))) (tk0 := tk2_398) (e_tk0 := show G395 11 = tk2_398 from (e403)) (ec := ec2_327) (e_ec := show ecn A396 (G395 31) = ec2_327 from ec415) (sy := sy) (e_sy := show G395 19 = sy from ((hF401.1 19 rfl).trans ((hF329.1 19 rfl).trans ((hF236.1 19 rfl).trans ((hFx.1 19 rfl).trans (e_sy)))))) (i_SV := (SV_ext (((hF401.1 29 rfl).trans ((hF329.1 29 rfl).trans ((hF236.1 29 rfl).trans (hFx.1 29 rfl))))) (((hF401.2 14 rfl).trans (((congrFun eA377 14).trans (uA_ne (by decide))).trans ((hF329.2 14 rfl).trans ((hF236.2 14 rfl).trans (((congrFun eA214 14).trans (uA_ne (by decide))).trans (hFx.2 14 rfl))))))) i_SV)) (h_ch := ⟨(by decide), (by decide)⟩)  (p_0 := by omega) (p_1 := by omega) (p_2 := by omega) (p_3 := by omega) (p_4 := by omega)) (fun o V' hq => ?_)
                obtain ⟨G426, A427, r428, at2_429, fk2_430, op2_431, nd2_432, tk2_433, ec2_434, rfl, rfl, hW435, hF436, hQ437, b438, e439, e440, e441, e442, e443, e444, p445, p446, p447, p448, p449, p450, q451⟩ := hq
                have hF452 := Fr_tr hF408 hF436 (Fr_sub (by decide)) (Fr_sub (by decide))
                have k453 : A427 17 (one).toNat = e := (hQ437 17 _ rfl (by omega)).trans (show A396 17 (one).toNat = e from (congrFun ((hF401.2 17 rfl).trans ((congrFun eA377 17).trans (uA_ne (by decide)))) _).trans (k346))
                have k454 : A427 18 (one).toNat = r321 := (hQ437 18 _ rfl (by omega)).trans (show A396 18 (one).toNat = r321 from (congrFun (hF401.2 18 rfl) _).trans (q380))
                have hP455 := Pf_tr hP409 hQ437 (by omega)
                have sf456 : ND A427 (one) (33) (e) (r321) (0) (0) (0) (0) := ND_ag (by omega) (Ag_pf hQ437 (by omega)) sf410
                have sf457 : wE A427 Vs sb (22) (e) (one + 1) (nd1) := wE_ag (by omega) (Sg_fr hF436 (by decide)) (Ag_pf hQ437 (by omega)) sf411
                have sf458 : NdM A427 (nd) (nd1) (sy) := NdM_pf hQ437 (by omega) (by omega) sf412
                have sf459 : wR A427 Vs sb (20) (1) (r321) (nd1) (nd2_325) := wR_ag (by omega) (Sg_fr hF436 (by decide)) (Ag_pf hQ437 (by omega)) sf413
                have sf460 : NdM A427 (nd1) (nd2_325) (sy) := NdM_pf hQ437 (by omega) (by omega) sf414
                have bat2_429 : (0 : Int) ≤ at2_429 ∧ at2_429 ≤ 3002 := e439 ▸ hW435.1 10
                have bfk2_430 : (0 : Int) ≤ fk2_430 ∧ fk2_430 ≤ 6 := e440 ▸ hW435.1 16
                have bop2_431 : (-2147483648 : Int) ≤ op2_431 ∧ op2_431 ≤ 2147483647 := e441 ▸ hW435.1 15
                have bnd2_432 : (0 : Int) ≤ nd2_432 ∧ nd2_432 ≤ 6999 := e442 ▸ hW435.1 31
                have ztk2_433 := tz_b tk2_433
                have btk2_433 : (0 : Int) ≤ tk2_433 ∧ tk2_433 ≤ 5 := e443 ▸ hW435.1 11
                refine .inr ⟨_, rfl, ?_⟩
                rcases q451 with ⟨a461, a462, a463, a464, a465, a466⟩ | ⟨a467, a468, a469⟩ | ⟨a470, a471, a472, a473, a474, a475, a476⟩
                · have _q : True := trivial
                  exfalso
                  omega
                · have _q : True := trivial
                  refine jr_st (pc' := 359) (i := 19) (m := 7000) (z := one) (y := r428) rfl (by decide) rfl (by decide) (by omega) (by omega) rfl ?_
                  have hW478 : Wk G426 (uA A427 19 (one).toNat (r428)) := Wk_a hW435 (show (-2147483648 : Int) ≤ r428 by omega) (show r428 ≤ (2147483647 : Int) by omega)
                  have hF479 := Fr_a (z := r428) (k := 19) (n := (one).toNat) hF452 (by decide)
                  obtain ⟨A477, eA477⟩ : ∃ q, q = uA A427 19 (one).toNat (r428) := ⟨_, rfl⟩
                  rw [← eA477]
                  rw [← eA477] at hW478 hF479
                  have q480 : A477 19 (one).toNat = r428 := by rw [eA477]; exact uA_eq
                  have hP481 : Pf nd A A477 := eA477 ▸ Pf_a hP455 (z := one) (by omega) (by omega)
                  have sf482 : ND A477 (one) (33) (e) (r321) (r428) (0) (0) (0) := ND_c eA477 sf456
                  have sf483 : wE A477 Vs sb (22) (e) (one + 1) (nd1) := wE_ag (by omega) (Sg_ne eA477 rfl) (Ag_st eA477 (by omega) (by omega)) sf457
                  have sf484 : NdM A477 (nd) (nd1) (sy) := NdM_st eA477 (by decide) sf458
                  have sf485 : wR A477 Vs sb (20) (1) (r321) (nd1) (nd2_325) := wR_ag (by omega) (Sg_ne eA477 rfl) (Ag_st eA477 (by omega) (by omega)) sf459
                  have sf486 : NdM A477 (nd1) (nd2_325) (sy) := NdM_st eA477 (by decide) sf460
                  have ec487 : ecn A477 (G426 31) = ec2_434 := (ecn_e ((congrFun eA477 15).trans (uA_ne (by decide)))).trans e444
                  have z488 := tz_f (tk2_433)
                  exact c_readGuard_w_at_359p (X := X) (d := d) (Vs := Vs) (sb := sb) (c0 := c0) (c1 := c1) (G := G) (A := A) (T := T) (ln := ln) (le := le) (at0 := at0) (fk := fk) (op0 := op0) (nd := nd) (tk0 := tk0) (li := li) (ec := ec) (sy := sy) (hd := hd) (hW := hW) (e_ln := e_ln) (e_le := e_le) (e_at0 := e_at0) (e_fk := e_fk) (e_op0 := e_op0) (e_nd := e_nd) (e_tk0 := e_tk0) (e_li := e_li) (e_ec := e_ec) (e_sy := e_sy) (i_SV := i_SV) (p_0 := p_0) (p_1 := p_1) (p_2 := p_2) (p_3 := p_3) (p_4 := p_4) L G426 A477 (one) (at2_429) (tk2_433) (fk2_430) (nd2_432) (op2_431) (ec2_434) gL_0 gL_1 hW478 hF479 hP481 ((e439)) ((e443)) ((e440)) ((e442)) ((e441)) (ec487) (((hF436.1 9 rfl).trans ((hF401.1 9 rfl).trans ((hF329.1 9 rfl).trans ((hF236.1 9 rfl).trans (fx_9)))))) (by omega) (by omega) (by omega) (by omega) (by omega) (by omega) (by omega) (by omega) (by omega)
                · have _q : True := trivial
                  refine jr_st (pc' := 359) (i := 19) (m := 7000) (z := one) (y := r428) rfl (by decide) rfl (by decide) (by omega) (by omega) rfl ?_
                  have hW490 : Wk G426 (uA A427 19 (one).toNat (r428)) := Wk_a hW435 (show (-2147483648 : Int) ≤ r428 by omega) (show r428 ≤ (2147483647 : Int) by omega)
                  have hF491 := Fr_a (z := r428) (k := 19) (n := (one).toNat) hF452 (by decide)
                  obtain ⟨A489, eA489⟩ : ∃ q, q = uA A427 19 (one).toNat (r428) := ⟨_, rfl⟩
                  rw [← eA489]
                  rw [← eA489] at hW490 hF491
                  have q492 : A489 19 (one).toNat = r428 := by rw [eA489]; exact uA_eq
                  have hP493 : Pf nd A A489 := eA489 ▸ Pf_a hP455 (z := one) (by omega) (by omega)
                  have sf494 : ND A489 (one) (33) (e) (r321) (r428) (0) (0) (0) := ND_c eA489 sf456
                  have sf495 : wE A489 Vs sb (22) (e) (one + 1) (nd1) := wE_ag (by omega) (Sg_ne eA489 rfl) (Ag_st eA489 (by omega) (by omega)) sf457
                  have sf496 : NdM A489 (nd) (nd1) (sy) := NdM_st eA489 (by decide) sf458
                  have sf497 : wR A489 Vs sb (20) (1) (r321) (nd1) (nd2_325) := wR_ag (by omega) (Sg_ne eA489 rfl) (Ag_st eA489 (by omega) (by omega)) sf459
                  have sf498 : NdM A489 (nd1) (nd2_325) (sy) := NdM_st eA489 (by decide) sf460
                  have sf499 : wR A489 Vs sb (20) (0) (r428) (nd2_325) (nd2_432) := wR_ag (by omega) (Sg_ne eA489 rfl) (Ag_st eA489 (by omega) (by omega)) a473
                  have sf500 : NdM A489 (nd2_325) (nd2_432) (sy) := NdM_st eA489 (by decide) a475
                  have ec501 : ecn A489 (G426 31) = ec2_434 := (ecn_e ((congrFun eA489 15).trans (uA_ne (by decide)))).trans e444
                  refine jx_ld (pc' := 360) (l' := L) (st' := [.ref 66]) rfl (jl_aloadn gL_0) ?_
                  refine jx_vr (pc' := 363) (as := []) (st := []) rfl rfl rfl rfl ⟨rfl, rfl, Nat.le_of_ble_eq_true rfl⟩ rfl rfl (c_endLine (dd := d) (hd := by omega) (hW := hW490)  (ln := ln) (e_ln := show G426 9 = ln from ((hF436.1 9 rfl).trans ((hF401.1 9 rfl).trans ((hF329.1 9 rfl).trans ((hF236.1 9 rfl).trans (fx_9)))))) (li := li) (e_li := show G426 3 = li from ((hF436.1 3 rfl).trans ((hF401.1 3 rfl).trans ((hF329.1 3 rfl).trans ((hF236.1 3 rfl).trans ((hFx.1 3 rfl).trans (e_li))))))) (fk := fk2_430) (e_fk := show G426 16 = fk2_430 from (e440)) (tk0 := tk2_433) (e_tk0 := show G426 11 = tk2_433 from (e443))    (p_0 := by omega)) (fun o V' hq => ?_)
                  obtain ⟨G502, A503, ln2_504, fk2_505, rfl, rfl, hW506, hF507, e508, e509, q510⟩ := hq
                  have hF511 := Fr_tr hF491 hF507 (Fr_sub (by decide)) (Fr_sub (by decide))
                  have hP512 := Pf_f hP493 hF507 (by decide)
                  have sf513 : ND A503 (one) (33) (e) (r321) (r428) (0) (0) (0) := ND_ag (by omega) (Ag_fr hF507 (by decide)) sf494
                  have sf514 : wE A503 Vs sb (22) (e) (one + 1) (nd1) := wE_ag (by omega) (Sg_fr hF507 (by decide)) (Ag_fr hF507 (by decide)) sf495
                  have sf515 : NdM A503 (nd) (nd1) (sy) := NdM_f hF507 (by decide) sf496
                  have sf516 : wR A503 Vs sb (20) (1) (r321) (nd1) (nd2_325) := wR_ag (by omega) (Sg_fr hF507 (by decide)) (Ag_fr hF507 (by decide)) sf497
                  have sf517 : NdM A503 (nd1) (nd2_325) (sy) := NdM_f hF507 (by decide) sf498
                  have sf518 : wR A503 Vs sb (20) (0) (r428) (nd2_325) (nd2_432) := wR_ag (by omega) (Sg_fr hF507 (by decide)) (Ag_fr hF507 (by decide)) sf499
                  have sf519 : NdM A503 (nd2_325) (nd2_432) (sy) := NdM_f hF507 (by decide) sf500
                  have ec520 : ecn A503 (G502 31) = ec2_434 := (ecn_f (hF507.2 15 rfl) (hF507.1 31 rfl)).trans ec501
                  have bln2_504 : (0 : Int) ≤ ln2_504 ∧ ln2_504 ≤ 3000 := e508 ▸ hW506.1 9
                  have bfk2_505 : (0 : Int) ≤ fk2_505 ∧ fk2_505 ≤ 6 := e509 ▸ hW506.1 16
                  refine .inl ⟨rfl, ?_⟩
                  rcases q510 with ⟨a521, a522, a523, a524, a525⟩ | ⟨a526, a527⟩
                  · have _q : True := trivial
                    refine jx_ld (pc' := 364) (l' := L) (st' := [.int (i32 (one))]) rfl (jl_iloadn gL_1) ?_
                    refine jx_rt (v := some (.int (i32 (one)))) rfl rfl rfl rfl rfl rfl ?_
                    exact ⟨_, _, _, at2_429, fk2_505, nd2_432, ln2_504, ec2_434, rfl, rfl, hW506, hF511, hP512, by omega, ((hF507.1 10 rfl).trans (e439)), (e509), ((hF507.1 31 rfl).trans (e442)), (e508), ec520, by omega, by omega, by omega, by omega, by omega, by first | exact Or.inr ((⟨by omega, by omega, by omega, by omega, by omega, (wU_bo (m := nd1) (k := nd2_325) sf513 (by omega) (by omega) (by omega) (by omega) (by omega) (wE_mono (by omega) (by omega) (by omega) sf514) (wR_mono (by omega) (by omega) (by omega) sf516) (wR_mono (by omega) (by omega) (by omega) sf518)), (NX_nd sf513), by omega, (NdM_w (NdM_app (sy := sy) sf515 (NdM_app (sy := sy) sf517 sf519 (by omega) (by omega) (by omega)) (by omega) (by omega) (by omega)) (by omega) (by omega) (by omega))⟩))⟩
                  · have _q : True := trivial
                    refine jx_ld (pc' := 364) (l' := L) (st' := [.int (i32 (one))]) rfl (jl_iloadn gL_1) ?_
                    refine jx_rt (v := some (.int (i32 (one)))) rfl rfl rfl rfl rfl rfl ?_
                    exact ⟨_, _, _, at2_429, fk2_505, nd2_432, ln2_504, ec2_434, rfl, rfl, hW506, hF511, hP512, by omega, ((hF507.1 10 rfl).trans (e439)), (e509), ((hF507.1 31 rfl).trans (e442)), (e508), ec520, by omega, by omega, by omega, by omega, by omega, by first | exact Or.inl (⟨by omega, by omega, by omega⟩)⟩
            · have _q : True := trivial
              refine jx_vr (pc' := 348) (as := [.int (i32 (0))]) (st := []) rfl rfl rfl rfl ⟨rfl, rfl, Nat.le_of_ble_eq_true rfl⟩ rfl rfl (c_need (dd := d) (hd := by omega) (hW := hW378) (g := 0) (ln := ln) (e_ln := show G319 9 = ln from ((hF329.1 9 rfl).trans ((hF236.1 9 rfl).trans (fx_9)))) (le := le) (e_le := show A377 4 (ln).toNat = le from (congrFun (((congrFun eA377 4).trans (uA_ne (by decide))).trans ((hF329.2 4 rfl).trans ((hF236.2 4 rfl).trans (((congrFun eA214 4).trans (uA_ne (by decide))).trans (hFx.2 4 rfl))))) _).trans (e_le)) (at0 := at2_322) (e_at0 := show G319 10 = at2_322 from (e332)) (fk := fk2_323) (e_fk := show G319 16 = fk2_323 from (e333)) (tk0 := tk2_326) (e_tk0 := show G319 11 = tk2_326 from (e336))  (h_g := ⟨(by decide), (by decide)⟩)  (p_0 := by omega)) (fun o V' hq => ?_)
              obtain ⟨G528, A529, at2_530, tk2_531, fk2_532, rfl, rfl, hW533, hF534, e535, e536, e537, p538, p539, q540⟩ := hq
              have hF541 := Fr_tr hF379 hF534 (Fr_sub (by decide)) (Fr_sub (by decide))
              have hP542 := Pf_f hP381 hF534 (by decide)
              have sf543 : ND A529 (one) (33) (e) (r321) (0) (0) (0) (0) := ND_ag (by omega) (Ag_fr hF534 (by decide)) sf382
              have sf544 : wE A529 Vs sb (22) (e) (one + 1) (nd1) := wE_ag (by omega) (Sg_fr hF534 (by decide)) (Ag_fr hF534 (by decide)) sf383
              have sf545 : NdM A529 (nd) (nd1) (sy) := NdM_f hF534 (by decide) sf384
              have sf546 : wR A529 Vs sb (20) (1) (r321) (nd1) (nd2_325) := wR_ag (by omega) (Sg_fr hF534 (by decide)) (Ag_fr hF534 (by decide)) sf385
              have sf547 : NdM A529 (nd1) (nd2_325) (sy) := NdM_f hF534 (by decide) sf386
              have ec548 : ecn A529 (G528 31) = ec2_327 := (ecn_f (hF534.2 15 rfl) (hF534.1 31 rfl)).trans ec387
              have bat2_530 : (0 : Int) ≤ at2_530 ∧ at2_530 ≤ 3002 := e535 ▸ hW533.1 10
              have ztk2_531 := tz_b tk2_531
              have btk2_531 : (0 : Int) ≤ tk2_531 ∧ tk2_531 ≤ 5 := e536 ▸ hW533.1 11
              have bfk2_532 : (0 : Int) ≤ fk2_532 ∧ fk2_532 ≤ 6 := e537 ▸ hW533.1 16
              refine .inl ⟨rfl, ?_⟩
              rcases q540 with ⟨a549, a550, a551, a552⟩ | ⟨a553, a554, a555, a556⟩
              · have _q : True := trivial
                have z557 := tz_f (tk2_531)
                exact c_readGuard_w_at_348p (X := X) (d := d) (Vs := Vs) (sb := sb) (c0 := c0) (c1 := c1) (G := G) (A := A) (T := T) (ln := ln) (le := le) (at0 := at0) (fk := fk) (op0 := op0) (nd := nd) (tk0 := tk0) (li := li) (ec := ec) (sy := sy) (hd := hd) (hW := hW) (e_ln := e_ln) (e_le := e_le) (e_at0 := e_at0) (e_fk := e_fk) (e_op0 := e_op0) (e_nd := e_nd) (e_tk0 := e_tk0) (e_li := e_li) (e_ec := e_ec) (e_sy := e_sy) (i_SV := i_SV) (p_0 := p_0) (p_1 := p_1) (p_2 := p_2) (p_3 := p_3) (p_4 := p_4) L G528 A529 (one) (at2_530) (tk2_531) (fk2_532) (nd2_325) (op2_324) (ec2_327) gL_0 gL_1 hW533 hF541 hP542 ((e535)) ((e536)) ((e537)) (((hF534.1 31 rfl).trans (e335))) (((hF534.1 15 rfl).trans (e334))) (ec548) (((hF534.1 9 rfl).trans ((hF329.1 9 rfl).trans ((hF236.1 9 rfl).trans (fx_9))))) (by omega) (by omega) (by omega) (by omega) (by omega) (by omega) (by omega) (by omega) (by omega)
              · have _q : True := trivial
                exfalso
                omega
        · have _q := h318
          exact absurd h318 (by omega)
  · have _q : True := trivial
    refine jx_vr (pc' := 310) (as := [.int (i32 (0))]) (st := []) rfl rfl rfl rfl ⟨rfl, rfl, Nat.le_of_ble_eq_true rfl⟩ rfl rfl (c_need (dd := d) (hd := by omega) (hW := hW215) (g := 0) (ln := ln) (e_ln := show Gx 9 = ln from (fx_9)) (le := le) (e_le := show A214 4 (ln).toNat = le from (congrFun (((congrFun eA214 4).trans (uA_ne (by decide))).trans (hFx.2 4 rfl)) _).trans (e_le)) (at0 := at1) (e_at0 := show Gx 10 = at1 from (ex_at1)) (fk := fk1) (e_fk := show Gx 16 = fk1 from (ex_fk1)) (tk0 := tk1) (e_tk0 := show Gx 11 = tk1 from (ex_tk1))  (h_g := ⟨(by decide), (by decide)⟩)  (p_0 := by omega)) (fun o V' hq => ?_)
    obtain ⟨G558, A559, at2_560, tk2_561, fk2_562, rfl, rfl, hW563, hF564, e565, e566, e567, p568, p569, q570⟩ := hq
    have hF571 := Fr_tr hF216 hF564 (Fr_sub (by decide)) (Fr_sub (by decide))
    have hP572 := Pf_f hP218 hF564 (by decide)
    have sf573 : ND A559 (one) (33) (e) (0) (0) (0) (0) (0) := ND_ag (by omega) (Ag_fr hF564 (by decide)) sf219
    have sf574 : wE A559 Vs sb (22) (e) (one + 1) (nd1) := wE_ag (by omega) (Sg_fr hF564 (by decide)) (Ag_fr hF564 (by decide)) sf220
    have sf575 : NdM A559 (nd) (nd1) (sy) := NdM_f hF564 (by decide) sf221
    have ec576 : ecn A559 (G558 31) = ec1 := (ecn_f (hF564.2 15 rfl) (hF564.1 31 rfl)).trans ec222
    have bat2_560 : (0 : Int) ≤ at2_560 ∧ at2_560 ≤ 3002 := e565 ▸ hW563.1 10
    have ztk2_561 := tz_b tk2_561
    have btk2_561 : (0 : Int) ≤ tk2_561 ∧ tk2_561 ≤ 5 := e566 ▸ hW563.1 11
    have bfk2_562 : (0 : Int) ≤ fk2_562 ∧ fk2_562 ≤ 6 := e567 ▸ hW563.1 16
    refine .inl ⟨rfl, ?_⟩
    rcases q570 with ⟨a577, a578, a579, a580⟩ | ⟨a581, a582, a583, a584⟩
    · have _q : True := trivial
      have z585 := tz_f (tk2_561)
      exact c_readGuard_w_at_310p (X := X) (d := d) (Vs := Vs) (sb := sb) (c0 := c0) (c1 := c1) (G := G) (A := A) (T := T) (ln := ln) (le := le) (at0 := at0) (fk := fk) (op0 := op0) (nd := nd) (tk0 := tk0) (li := li) (ec := ec) (sy := sy) (hd := hd) (hW := hW) (e_ln := e_ln) (e_le := e_le) (e_at0 := e_at0) (e_fk := e_fk) (e_op0 := e_op0) (e_nd := e_nd) (e_tk0 := e_tk0) (e_li := e_li) (e_ec := e_ec) (e_sy := e_sy) (i_SV := i_SV) (p_0 := p_0) (p_1 := p_1) (p_2 := p_2) (p_3 := p_3) (p_4 := p_4) L G558 A559 (one) (at2_560) (tk2_561) (fk2_562) (nd1) (op1) (ec1) gL_0 gL_1 hW563 hF571 hP572 ((e565)) ((e566)) ((e567)) (((hF564.1 31 rfl).trans (ex_nd1))) (((hF564.1 15 rfl).trans (ex_op1))) (ec576) (((hF564.1 9 rfl).trans (fx_9))) (by omega) (by omega) (by omega) (by omega) (by omega) (by omega) (by omega) (by omega) (by omega)
    · have _q : True := trivial
      exfalso
      omega
set_option maxRecDepth 20000 in
set_option maxHeartbeats 4000000 in
theorem c_readGuard_w_at_293p {X : jX} {d : Nat} {Vs : Nat → Prop} {sb : Int} {c0 c1 : jC} {G : Nat → Int} {A : Nat → Nat → Int} {T : jH} {ln le at0 fk op0 nd tk0 li ec sy : Int} (hd : 71 ≤ d + 1) (hW : Wk G A) (e_ln : G 9 = ln) (e_le : A 4 (ln).toNat = le) (e_at0 : G 10 = at0) (e_fk : G 16 = fk) (e_op0 : G 15 = op0) (e_nd : G 31 = nd) (e_tk0 : G 11 = tk0) (e_li : G 3 = li) (e_ec : ecn A (G 31) = ec) (e_sy : G 19 = sy) (i_SV : SV Vs sb G A) (p_0 : 0 ≤ op0 ∧ op0 ≤ 8) (p_1 : fk = 0) (p_2 : nd ≤ 2 * at0 - tz tk0 + 42) (p_3 : at0 ≤ le) (p_4 : ln < li) : ∀ (L : jL) (Gx : Nat → Int) (Ax : Nat → Nat → Int) (one e at1 tk1 fk1 nd1 op1 ec1 : Int), jGet L 0 = some (.ref 66) → jGet L 1 = some (.int (i32 one)) → jGet L 2 = some (.int (i32 e)) → Wk Gx Ax → Fr [9, 10, 11, 12, 13, 14, 15, 16, 17, 18, 31] [15, 16, 17, 18, 19, 20, 21, 22, 24, 28] G A Gx Ax → Pf nd A Ax → Gx 10 = at1 → Gx 11 = tk1 → Gx 16 = fk1 → Gx 31 = nd1 → Gx 15 = op1 → ecn Ax (Gx 31) = ec1 → Gx 9 = ln → ((-2147483648 : Int) ≤ one ∧ one ≤ 2147483647) → ((-2147483648 : Int) ≤ e ∧ e ≤ 2147483647) → (at0 ≤ at1) → (at1 ≤ le) → (nd ≤ nd1) → (op1 = op0) → (one = nd) → (one ≤ 6998 ∧ one < nd1) → (1 ≤ fk1) → (nd1 - nd ≤ (2 * at1 - tz tk1) - (2 * at0 - tz tk0) + 5) → wj X d jm303 (293, L, [], rV c0 c1 Gx Ax T) (fun o V' => ∃ (G' : Nat → Int) (A' : Nat → Nat → Int) (r : Int) (at2 : Int) (fk2 : Int) (nd2 : Int) (ln2 : Int) (ec2 : Int), V' = rV c0 c1 G' A' T ∧ o = .inl (some (.int (i32 r))) ∧ Wk G' A' ∧ Fr [9, 10, 11, 12, 13, 14, 15, 16, 17, 18, 31] [15, 16, 17, 18, 19, 20, 21, 22, 24, 28] G A G' A' ∧ Pf nd A A' ∧ ((-2147483648 : Int) ≤ r ∧ r ≤ 2147483647) ∧ G' 10 = at2 ∧ G' 16 = fk2 ∧ G' 31 = nd2 ∧ G' 9 = ln2 ∧ ecn A' (G' 31) = ec2 ∧ (at0 ≤ at2) ∧ (at2 ≤ le) ∧ (nd ≤ nd2) ∧ (0 ≤ r) ∧ (r ≤ nd2) ∧ (((1 ≤ fk2) ∧ (ln2 = ln) ∧ (nd2 - nd ≤ 2 * at2 - 2 * at0 + 12)) ∨ ((fk2 = 0) ∧ (ln2 = ln + 1) ∧ (nd2 - nd ≤ 2 * at2 - (2 * at0 - tz tk0) + 0) ∧ (nd ≤ r) ∧ (r < nd2) ∧ (wU A' Vs sb (r) (nd) (nd2)) ∧ (NX A' (r)) ∧ (nd2 - nd + 5 * (ec2 - ec) ≤ 2 * at2 - (2 * at0 - tz tk0) + 0) ∧ (NdM A' (nd) (nd2) (sy))))) := by
  have hF0 : Fr [9, 10, 11, 12, 13, 14, 15, 16, 17, 18, 31] [15, 16, 17, 18, 19, 20, 21, 22, 24, 28] G A G A := Fr_rf
  have hP0 : Pf nd A A := Pf_rf
  have b_ln : (0 : Int) ≤ ln ∧ ln ≤ 3000 := e_ln ▸ hW.1 9
  have b_le : (0 : Int) ≤ le ∧ le ≤ 3000 := e_le ▸ hW.2 4 _
  have b_at0 : (0 : Int) ≤ at0 ∧ at0 ≤ 3002 := e_at0 ▸ hW.1 10
  have b_fk : (0 : Int) ≤ fk ∧ fk ≤ 6 := e_fk ▸ hW.1 16
  have b_op0 : (-2147483648 : Int) ≤ op0 ∧ op0 ≤ 2147483647 := e_op0 ▸ hW.1 15
  have b_nd : (0 : Int) ≤ nd ∧ nd ≤ 6999 := e_nd ▸ hW.1 31
  have z_tk0 := tz_f tk0
  have b_tk0 : (0 : Int) ≤ tk0 ∧ tk0 ≤ 5 := e_tk0 ▸ hW.1 11
  have b_li : (0 : Int) ≤ li ∧ li ≤ 3000 := e_li ▸ hW.1 3
  have b_sy : (0 : Int) ≤ sy ∧ sy ≤ 202 := e_sy ▸ hW.1 19
  intro L Gx Ax one e at1 tk1 fk1 nd1 op1 ec1 gL_0 gL_1 gL_2 hWx hFx hPx ex_at1 ex_tk1 ex_fk1 ex_nd1 ex_op1 ex_ec1 fx_9 rx_one rx_e iv_0 iv_1 iv_2 iv_3 iv_4 iv_5 iv_6 iv_7
  have b_at1 : (0 : Int) ≤ at1 ∧ at1 ≤ 3002 := ex_at1 ▸ hWx.1 10
  have z_tk1 := tz_f tk1
  have b_tk1 : (0 : Int) ≤ tk1 ∧ tk1 ≤ 5 := ex_tk1 ▸ hWx.1 11
  have b_fk1 : (0 : Int) ≤ fk1 ∧ fk1 ≤ 6 := ex_fk1 ▸ hWx.1 16
  have b_nd1 : (0 : Int) ≤ nd1 ∧ nd1 ≤ 6999 := ex_nd1 ▸ hWx.1 31
  have b_op1 : (-2147483648 : Int) ≤ op1 ∧ op1 ≤ 2147483647 := ex_op1 ▸ hWx.1 15
  refine jx_ld (pc' := 294) (l' := L) (st' := [.ref 66]) rfl (jl_aloadn gL_0) ?_
  refine jr_get (pc' := 297) (i := 34) (v := .ref 84) rfl rfl (by decide) rfl rfl ?_
  refine jx_ld (pc' := 298) (l' := L) (st' := [.int (i32 (one)), .ref 84]) rfl (jl_iloadn gL_1) ?_
  refine jx_ld (pc' := 299) (l' := L) (st' := [.int (i32 (e)), .int (i32 (one)), .ref 84]) rfl (jl_iloadn gL_2) ?_
  refine jr_st (pc' := 300) (i := 17) (m := 7000) (z := one) (y := e) rfl (by decide) rfl (by decide) (by omega) (by omega) rfl ?_
  have hW587 : Wk Gx (uA Ax 17 (one).toNat (e)) := Wk_a hWx (show (-2147483648 : Int) ≤ e by omega) (show e ≤ (2147483647 : Int) by omega)
  have hF588 := Fr_a (z := e) (k := 17) (n := (one).toNat) hFx (by decide)
  obtain ⟨A586, eA586⟩ : ∃ q, q = uA Ax 17 (one).toNat (e) := ⟨_, rfl⟩
  rw [← eA586]
  rw [← eA586] at hW587 hF588
  have q589 : A586 17 (one).toNat = e := by rw [eA586]; exact uA_eq
  have hP590 : Pf nd A A586 := eA586 ▸ Pf_a hPx (z := one) (by omega) (by omega)
  have ec591 : ecn A586 (Gx 31) = ec1 := (ecn_e ((congrFun eA586 15).trans (uA_ne (by decide)))).trans ex_ec1
  refine jx_ld (pc' := 301) (l' := L) (st' := [.ref 66]) rfl (jl_aloadn gL_0) ?_
  refine jx_ld (pc' := 302) (l' := L) (st' := [.ref 66, .ref 66]) rfl (jl_aloadn gL_0) ?_
  refine jx_ar (pc' := 304) (st' := [.int (i32 (38)), .ref 66, .ref 66]) rfl rfl rfl rfl ?_
  have b592 : (-2147483648 : Int) ≤ Gx 13 ∧ Gx 13 ≤ 2147483647 := hWx.1 13
  refine jx_vr (pc' := 307) (as := [.int (i32 (38))]) (st := [.ref 66]) rfl rfl rfl rfl ⟨rfl, rfl, Nat.le_of_ble_eq_true rfl⟩ rfl rfl (c_is (dd := d) (hd := by omega) (hW := hW587) (k := 38) (tk := tk1) (e_tk := show Gx 11 = tk1 from (ex_tk1)) (tn := Gx 13) (e_tn := show Gx 13 = Gx 13 from rfl)  (h_k := ⟨(by decide), (by decide)⟩)  ) (fun o V' hq => ?_)
  obtain ⟨r593, rfl, rfl, b594, q595⟩ := hq
  refine .inr ⟨_, rfl, ?_⟩
  rcases q595 with ⟨rfl, a596, a597, a598⟩ | rfl
  · have _q : True := trivial
    refine jx_vr (pc' := 310) (as := [.int (i32 (1))]) (st := []) rfl rfl rfl rfl ⟨rfl, rfl, Nat.le_of_ble_eq_true rfl⟩ rfl rfl (c_need (dd := d) (hd := by omega) (hW := hW587) (g := 1) (ln := ln) (e_ln := show Gx 9 = ln from (fx_9)) (le := le) (e_le := show A586 4 (ln).toNat = le from (congrFun (((congrFun eA586 4).trans (uA_ne (by decide))).trans (hFx.2 4 rfl)) _).trans (e_le)) (at0 := at1) (e_at0 := show Gx 10 = at1 from (ex_at1)) (fk := fk1) (e_fk := show Gx 16 = fk1 from (ex_fk1)) (tk0 := tk1) (e_tk0 := show Gx 11 = tk1 from (ex_tk1))  (h_g := ⟨(by decide), (by decide)⟩)  (p_0 := by omega)) (fun o V' hq => ?_)
    obtain ⟨G599, A600, at2_601, tk2_602, fk2_603, rfl, rfl, hW604, hF605, e606, e607, e608, p609, p610, q611⟩ := hq
    have hF612 := Fr_tr hF588 hF605 (Fr_sub (by decide)) (Fr_sub (by decide))
    have hP613 := Pf_f hP590 hF605 (by decide)
    have ec614 : ecn A600 (G599 31) = ec1 := (ecn_f (hF605.2 15 rfl) (hF605.1 31 rfl)).trans ec591
    have bat2_601 : (0 : Int) ≤ at2_601 ∧ at2_601 ≤ 3002 := e606 ▸ hW604.1 10
    have ztk2_602 := tz_b tk2_602
    have btk2_602 : (0 : Int) ≤ tk2_602 ∧ tk2_602 ≤ 5 := e607 ▸ hW604.1 11
    have bfk2_603 : (0 : Int) ≤ fk2_603 ∧ fk2_603 ≤ 6 := e608 ▸ hW604.1 16
    refine .inl ⟨rfl, ?_⟩
    rcases q611 with ⟨a615, a616, a617, a618⟩ | ⟨a619, a620, a621, a622⟩
    · have _q : True := trivial
      have z623 := tz_f (tk2_602)
      exact c_readGuard_w_at_310p (X := X) (d := d) (Vs := Vs) (sb := sb) (c0 := c0) (c1 := c1) (G := G) (A := A) (T := T) (ln := ln) (le := le) (at0 := at0) (fk := fk) (op0 := op0) (nd := nd) (tk0 := tk0) (li := li) (ec := ec) (sy := sy) (hd := hd) (hW := hW) (e_ln := e_ln) (e_le := e_le) (e_at0 := e_at0) (e_fk := e_fk) (e_op0 := e_op0) (e_nd := e_nd) (e_tk0 := e_tk0) (e_li := e_li) (e_ec := e_ec) (e_sy := e_sy) (i_SV := i_SV) (p_0 := p_0) (p_1 := p_1) (p_2 := p_2) (p_3 := p_3) (p_4 := p_4) L G599 A600 (one) (at2_601) (tk2_602) (fk2_603) (nd1) (op1) (ec1) gL_0 gL_1 hW604 hF612 hP613 ((e606)) ((e607)) ((e608)) (((hF605.1 31 rfl).trans (ex_nd1))) (((hF605.1 15 rfl).trans (ex_op1))) (ec614) (((hF605.1 9 rfl).trans (fx_9))) (by omega) (by omega) (by omega) (by omega) (by omega) (by omega) (by omega) (by omega) (by omega)
    · have _q : True := trivial
      exfalso
      omega
  · have _q : True := trivial
    refine jx_vr (pc' := 310) (as := [.int (i32 (0))]) (st := []) rfl rfl rfl rfl ⟨rfl, rfl, Nat.le_of_ble_eq_true rfl⟩ rfl rfl (c_need (dd := d) (hd := by omega) (hW := hW587) (g := 0) (ln := ln) (e_ln := show Gx 9 = ln from (fx_9)) (le := le) (e_le := show A586 4 (ln).toNat = le from (congrFun (((congrFun eA586 4).trans (uA_ne (by decide))).trans (hFx.2 4 rfl)) _).trans (e_le)) (at0 := at1) (e_at0 := show Gx 10 = at1 from (ex_at1)) (fk := fk1) (e_fk := show Gx 16 = fk1 from (ex_fk1)) (tk0 := tk1) (e_tk0 := show Gx 11 = tk1 from (ex_tk1))  (h_g := ⟨(by decide), (by decide)⟩)  (p_0 := by omega)) (fun o V' hq => ?_)
    obtain ⟨G624, A625, at2_626, tk2_627, fk2_628, rfl, rfl, hW629, hF630, e631, e632, e633, p634, p635, q636⟩ := hq
    have hF637 := Fr_tr hF588 hF630 (Fr_sub (by decide)) (Fr_sub (by decide))
    have hP638 := Pf_f hP590 hF630 (by decide)
    have ec639 : ecn A625 (G624 31) = ec1 := (ecn_f (hF630.2 15 rfl) (hF630.1 31 rfl)).trans ec591
    have bat2_626 : (0 : Int) ≤ at2_626 ∧ at2_626 ≤ 3002 := e631 ▸ hW629.1 10
    have ztk2_627 := tz_b tk2_627
    have btk2_627 : (0 : Int) ≤ tk2_627 ∧ tk2_627 ≤ 5 := e632 ▸ hW629.1 11
    have bfk2_628 : (0 : Int) ≤ fk2_628 ∧ fk2_628 ≤ 6 := e633 ▸ hW629.1 16
    refine .inl ⟨rfl, ?_⟩
    rcases q636 with ⟨a640, a641, a642, a643⟩ | ⟨a644, a645, a646, a647⟩
    · have _q : True := trivial
      have z648 := tz_f (tk2_627)
      exact c_readGuard_w_at_310p (X := X) (d := d) (Vs := Vs) (sb := sb) (c0 := c0) (c1 := c1) (G := G) (A := A) (T := T) (ln := ln) (le := le) (at0 := at0) (fk := fk) (op0 := op0) (nd := nd) (tk0 := tk0) (li := li) (ec := ec) (sy := sy) (hd := hd) (hW := hW) (e_ln := e_ln) (e_le := e_le) (e_at0 := e_at0) (e_fk := e_fk) (e_op0 := e_op0) (e_nd := e_nd) (e_tk0 := e_tk0) (e_li := e_li) (e_ec := e_ec) (e_sy := e_sy) (i_SV := i_SV) (p_0 := p_0) (p_1 := p_1) (p_2 := p_2) (p_3 := p_3) (p_4 := p_4) L G624 A625 (one) (at2_626) (tk2_627) (fk2_628) (nd1) (op1) (ec1) gL_0 gL_1 hW629 hF637 hP638 ((e631)) ((e632)) ((e633)) (((hF630.1 31 rfl).trans (ex_nd1))) (((hF630.1 15 rfl).trans (ex_op1))) (ec639) (((hF630.1 9 rfl).trans (fx_9))) (by omega) (by omega) (by omega) (by omega) (by omega) (by omega) (by omega) (by omega) (by omega)
    · have _q : True := trivial
      exfalso
      omega
set_option maxRecDepth 20000 in
set_option maxHeartbeats 4000000 in
theorem c_readGuard_w_at_222_1_1 {X : jX} {d : Nat} {Vs : Nat → Prop} {sb : Int} {c0 c1 : jC} {G : Nat → Int} {A : Nat → Nat → Int} {T : jH} {ln le at0 fk op0 nd tk0 li ec sy : Int} (hd : 71 ≤ d + 1) (hW : Wk G A) (e_ln : G 9 = ln) (e_le : A 4 (ln).toNat = le) (e_at0 : G 10 = at0) (e_fk : G 16 = fk) (e_op0 : G 15 = op0) (e_nd : G 31 = nd) (e_tk0 : G 11 = tk0) (e_li : G 3 = li) (e_ec : ecn A (G 31) = ec) (e_sy : G 19 = sy) (i_SV : SV Vs sb G A) (p_0 : 0 ≤ op0 ∧ op0 ≤ 8) (p_1 : fk = 0) (p_2 : nd ≤ 2 * at0 - tz tk0 + 42) (p_3 : at0 ≤ le) (p_4 : ln < li) : ∀ (L : jL) (Gx : Nat → Int) (Ax : Nat → Nat → Int) (one s ix at1 tk1 fk1 nd1 op1 ks ec1 : Int), jGet L 0 = some (.ref 66) → jGet L 6 = some (.int (i32 (1))) → jGet L 7 = some (.int (i32 (1))) → jGet L 1 = some (.int (i32 one)) → jGet L 4 = some (.int (i32 s)) → jGet L 5 = some (.int (i32 ix)) → Wk Gx Ax → Fr [9, 10, 11, 12, 13, 14, 15, 16, 17, 18, 31] [15, 16, 17, 18, 19, 20, 21, 22, 24, 28] G A Gx Ax → Pf nd A Ax → Gx 10 = at1 → Gx 11 = tk1 → Gx 16 = fk1 → Gx 31 = nd1 → Gx 15 = op1 → Ax 7 (s).toNat = ks → ecn Ax (Gx 31) = ec1 → Gx 9 = ln → ((-2147483648 : Int) ≤ one ∧ one ≤ 2147483647) → ((-2147483648 : Int) ≤ s ∧ s ≤ 2147483647) → ((-2147483648 : Int) ≤ ix ∧ ix ≤ 2147483647) → (at0 ≤ at1) → (at1 ≤ le) → (nd ≤ nd1) → (op1 = op0) → (one = nd) → (one ≤ 6998 ∧ one < nd1) → (fk1 = 0) → (nd1 - nd ≤ (2 * at1 - tz tk1) - (2 * at0 - tz tk0)) → (0 ≤ s ∧ s ≤ 201) → (SY Vs sb (s)) → (ND Ax (one) (33) (0) (0) (0) (0) (0) (0)) → (tz tk1 = 1) → (ks = 4) → (wE Ax Vs sb (20) (ix) (one + 1) (nd1)) → (nd1 - nd + 5 * (ec1 - ec) ≤ (2 * at1 - tz tk1) - (2 * at0 - tz tk0) - 5 - tz tk1) → (NdM Ax (nd) (nd1) (sy)) → wj X d jm303 (222, L, [], rV c0 c1 Gx Ax T) (fun o V' => ∃ (G' : Nat → Int) (A' : Nat → Nat → Int) (r : Int) (at2 : Int) (fk2 : Int) (nd2 : Int) (ln2 : Int) (ec2 : Int), V' = rV c0 c1 G' A' T ∧ o = .inl (some (.int (i32 r))) ∧ Wk G' A' ∧ Fr [9, 10, 11, 12, 13, 14, 15, 16, 17, 18, 31] [15, 16, 17, 18, 19, 20, 21, 22, 24, 28] G A G' A' ∧ Pf nd A A' ∧ ((-2147483648 : Int) ≤ r ∧ r ≤ 2147483647) ∧ G' 10 = at2 ∧ G' 16 = fk2 ∧ G' 31 = nd2 ∧ G' 9 = ln2 ∧ ecn A' (G' 31) = ec2 ∧ (at0 ≤ at2) ∧ (at2 ≤ le) ∧ (nd ≤ nd2) ∧ (0 ≤ r) ∧ (r ≤ nd2) ∧ (((1 ≤ fk2) ∧ (ln2 = ln) ∧ (nd2 - nd ≤ 2 * at2 - 2 * at0 + 12)) ∨ ((fk2 = 0) ∧ (ln2 = ln + 1) ∧ (nd2 - nd ≤ 2 * at2 - (2 * at0 - tz tk0) + 0) ∧ (nd ≤ r) ∧ (r < nd2) ∧ (wU A' Vs sb (r) (nd) (nd2)) ∧ (NX A' (r)) ∧ (nd2 - nd + 5 * (ec2 - ec) ≤ 2 * at2 - (2 * at0 - tz tk0) + 0) ∧ (NdM A' (nd) (nd2) (sy))))) := by
  have hF0 : Fr [9, 10, 11, 12, 13, 14, 15, 16, 17, 18, 31] [15, 16, 17, 18, 19, 20, 21, 22, 24, 28] G A G A := Fr_rf
  have hP0 : Pf nd A A := Pf_rf
  have b_ln : (0 : Int) ≤ ln ∧ ln ≤ 3000 := e_ln ▸ hW.1 9
  have b_le : (0 : Int) ≤ le ∧ le ≤ 3000 := e_le ▸ hW.2 4 _
  have b_at0 : (0 : Int) ≤ at0 ∧ at0 ≤ 3002 := e_at0 ▸ hW.1 10
  have b_fk : (0 : Int) ≤ fk ∧ fk ≤ 6 := e_fk ▸ hW.1 16
  have b_op0 : (-2147483648 : Int) ≤ op0 ∧ op0 ≤ 2147483647 := e_op0 ▸ hW.1 15
  have b_nd : (0 : Int) ≤ nd ∧ nd ≤ 6999 := e_nd ▸ hW.1 31
  have z_tk0 := tz_f tk0
  have b_tk0 : (0 : Int) ≤ tk0 ∧ tk0 ≤ 5 := e_tk0 ▸ hW.1 11
  have b_li : (0 : Int) ≤ li ∧ li ≤ 3000 := e_li ▸ hW.1 3
  have b_sy : (0 : Int) ≤ sy ∧ sy ≤ 202 := e_sy ▸ hW.1 19
  intro L Gx Ax one s ix at1 tk1 fk1 nd1 op1 ks ec1 gL_0 gL_6 gL_7 gL_1 gL_4 gL_5 hWx hFx hPx ex_at1 ex_tk1 ex_fk1 ex_nd1 ex_op1 ex_ks ex_ec1 fx_9 rx_one rx_s rx_ix iv_0 iv_1 iv_2 iv_3 iv_4 iv_5 iv_6 iv_7 iv_8 iv_9 iv_10 iv_11 iv_12 iv_13 iv_14 iv_15
  have b_at1 : (0 : Int) ≤ at1 ∧ at1 ≤ 3002 := ex_at1 ▸ hWx.1 10
  have z_tk1 := tz_f tk1
  have b_tk1 : (0 : Int) ≤ tk1 ∧ tk1 ≤ 5 := ex_tk1 ▸ hWx.1 11
  have b_fk1 : (0 : Int) ≤ fk1 ∧ fk1 ≤ 6 := ex_fk1 ▸ hWx.1 16
  have b_nd1 : (0 : Int) ≤ nd1 ∧ nd1 ≤ 6999 := ex_nd1 ▸ hWx.1 31
  have b_op1 : (-2147483648 : Int) ≤ op1 ∧ op1 ≤ 2147483647 := ex_op1 ▸ hWx.1 15
  have b_ks : (0 : Int) ≤ ks ∧ ks ≤ 14 := ex_ks ▸ hWx.2 7 _
  refine jx_ld (pc' := 223) (l' := L) (st' := [.ref 66]) rfl (jl_aloadn gL_0) ?_
  refine jx_ld (pc' := 225) (l' := L) (st' := [.int (i32 (1)), .ref 66]) rfl (jl_iload gL_6) ?_
  refine jx_if_eq (pc' := 228) (tg := 232) rfl rfl rfl (by decide) (by decide) (fun h649 => ?_) (fun h649 => ?_)
  · have _q := h649
    exact absurd h649 (by omega)
  · have _q := h649
    refine jx_ar (pc' := 229) (st' := [.int (i32 (3)), .ref 66]) rfl rfl rfl rfl ?_
    refine jx_go (tg := 233) rfl rfl ?_
    refine jx_ld (pc' := 235) (l' := L) (st' := [.int (i32 (s)), .int (i32 (3)), .ref 66]) rfl (jl_iload gL_4) ?_
    refine jx_ld (pc' := 237) (l' := L) (st' := [.int (i32 (ix)), .int (i32 (s)), .int (i32 (3)), .ref 66]) rfl (jl_iload gL_5) ?_
    refine jx_ar (pc' := 238) (st' := [.int (i32 (0)), .int (i32 (ix)), .int (i32 (s)), .int (i32 (3)), .ref 66]) rfl rfl rfl rfl ?_
    refine jx_ar (pc' := 239) (st' := [.int (i32 (0)), .int (i32 (0)), .int (i32 (ix)), .int (i32 (s)), .int (i32 (3)), .ref 66]) rfl rfl rfl rfl ?_
    refine jx_vr (pc' := 242) (as := [.int (i32 (3)), .int (i32 (s)), .int (i32 (ix)), .int (i32 (0)), .int (i32 (0))]) (st := []) rfl rfl rfl rfl ⟨rfl, rfl, Nat.le_of_ble_eq_true rfl⟩ rfl rfl (c_node_e (dd := d) (hd := by omega) (hW := hWx) (kind := 3) (a := s) (b := ix) (c := 0) (e := 0) (nd := nd1) (e_nd := show Gx 31 = nd1 from (ex_nd1)) (ec := ec1) (e_ec := show ecn Ax (Gx 31) = ec1 from ex_ec1) (sy := sy) (e_sy := show Gx 19 = sy from ((hFx.1 19 rfl).trans (e_sy)))  (h_kind := ⟨(by decide), (by decide)⟩) (h_a := ⟨(Int.le_trans (by decide : (-2147483648 : Int) ≤ -2147483648) rx_s.1), (Int.le_trans rx_s.2 (by decide : (2147483647 : Int) ≤ 2147483647))⟩) (h_b := ⟨(Int.le_trans (by decide : (-2147483648 : Int) ≤ -2147483648) rx_ix.1), (Int.le_trans rx_ix.2 (by decide : (2147483647 : Int) ≤ 2147483647))⟩) (h_c := ⟨(by decide), (by decide)⟩) (h_e := ⟨(by decide), (by decide)⟩)  (p_0 := by omega) (p_1 := by omega) (p_2 := by omega)) (fun o V' hq => ?_)
    obtain ⟨G650, A651, nd2_652, ec2_653, rfl, rfl, hW654, hF655, hQ656, e657, e658, p659, p660, p661, p662, -⟩ := hq
    have hF664 := Fr_tr hFx hF655 (Fr_sub (by decide)) (Fr_sub (by decide))
    have hP665 := Pf_tr hPx hQ656 (by omega)
    have sf666 : ND A651 (one) (33) (0) (0) (0) (0) (0) (0) := ND_ag (by omega) (Ag_pf hQ656 (by omega)) iv_10
    have sf667 : wE A651 Vs sb (20) (ix) (one + 1) (nd1) := wE_ag (by omega) (Sg_fr hF655 (by decide)) (Ag_pf hQ656 (by omega)) iv_13
    have sf668 : NdM A651 (nd) (nd1) (sy) := NdM_pf hQ656 (by omega) (by omega) iv_15
    have bnd2_652 : (0 : Int) ≤ nd2_652 ∧ nd2_652 ≤ 6999 := e657 ▸ hW654.1 31
    refine .inr ⟨_, rfl, ?_⟩
    refine jx_ld (pc' := 244) (l' := jSto1 L 10 (.int (i32 (nd1)))) (st' := []) rfl rfl ?_
    obtain ⟨L669, eL669⟩ : ∃ q, q = jSto1 L 10 (.int (i32 (nd1))) := ⟨_, rfl⟩
    rw [← eL669]
    have gL669_0 : jGet L669 0 = some (.ref 66) := eL669 ▸ jg_ne (by decide) gL_0 rfl
    have gL669_6 : jGet L669 6 = some (.int (i32 (1))) := eL669 ▸ jg_ne (by decide) gL_6 rfl
    have gL669_7 : jGet L669 7 = some (.int (i32 (1))) := eL669 ▸ jg_ne (by decide) gL_7 rfl
    have gL669_1 : jGet L669 1 = some (.int (i32 (one))) := eL669 ▸ jg_ne (by decide) gL_1 rfl
    have gL669_4 : jGet L669 4 = some (.int (i32 (s))) := eL669 ▸ jg_ne (by decide) gL_4 rfl
    have gL669_5 : jGet L669 5 = some (.int (i32 (ix))) := eL669 ▸ jg_ne (by decide) gL_5 rfl
    have gL669_10 : jGet L669 10 = some (.int (i32 (nd1))) := eL669 ▸ jg_eq
    refine jx_ld (pc' := 246) (l' := L669) (st' := [.int (i32 (1))]) rfl (jl_iload gL669_7) ?_
    refine jx_if_eq (pc' := 249) (tg := 278) rfl rfl rfl (by decide) (by decide) (fun h670 => ?_) (fun h670 => ?_)
    · have _q := h670
      exact absurd h670 (by omega)
    · have _q := h670
      refine jx_ld (pc' := 250) (l' := L669) (st' := [.ref 66]) rfl (jl_aloadn gL669_0) ?_
      refine jr_get (pc' := 253) (i := 35) (v := .ref 85) rfl rfl (by decide) rfl rfl ?_
      refine jx_ld (pc' := 254) (l' := L669) (st' := [.int (i32 (one)), .ref 85]) rfl (jl_iloadn gL669_1) ?_
      refine jx_ld (pc' := 256) (l' := L669) (st' := [.int (i32 (nd1)), .int (i32 (one)), .ref 85]) rfl (jl_iload gL669_10) ?_
      refine jr_st (pc' := 257) (i := 18) (m := 7000) (z := one) (y := nd1) rfl (by decide) rfl (by decide) (by omega) (by omega) rfl ?_
      have hW672 : Wk G650 (uA A651 18 (one).toNat (nd1)) := Wk_a hW654 (show (-2147483648 : Int) ≤ nd1 by omega) (show nd1 ≤ (2147483647 : Int) by omega)
      have hF673 := Fr_a (z := nd1) (k := 18) (n := (one).toNat) hF664 (by decide)
      obtain ⟨A671, eA671⟩ : ∃ q, q = uA A651 18 (one).toNat (nd1) := ⟨_, rfl⟩
      rw [← eA671]
      rw [← eA671] at hW672 hF673
      have q674 : A671 18 (one).toNat = nd1 := by rw [eA671]; exact uA_eq
      have hP675 : Pf nd A A671 := eA671 ▸ Pf_a hP665 (z := one) (by omega) (by omega)
      have sf676 : ND A671 (one) (33) (0) (nd1) (0) (0) (0) (0) := ND_b eA671 sf666
      have sf677 : wE A671 Vs sb (20) (ix) (one + 1) (nd1) := wE_ag (by omega) (Sg_ne eA671 rfl) (Ag_st eA671 (by omega) (by omega)) sf667
      have sf678 : NdM A671 (nd) (nd1) (sy) := NdM_st eA671 (by decide) sf668
      have sf679 : ND A671 (nd1) (3) (s) (ix) (0) (0) (0) (0) := ND_ag (by omega) (Ag_st eA671 (by omega) (by omega)) p661
      have sf680 : NdM A671 (nd1) (nd1 + 1) (sy) := NdM_st eA671 (by decide) p662
      have ec681 : ecn A671 (G650 31) = ec2_653 := (ecn_e ((congrFun eA671 15).trans (uA_ne (by decide)))).trans e658
      refine jx_ld (pc' := 258) (l' := L669) (st' := [.ref 66]) rfl (jl_aloadn gL669_0) ?_
      refine jx_vr (pc' := 261) (as := []) (st := []) rfl rfl rfl rfl ⟨rfl, rfl, Nat.le_of_ble_eq_true rfl⟩ rfl rfl (c_next (dd := d) (hd := by omega) (hW := hW672)  (ln := ln) (e_ln := show G650 9 = ln from ((hF655.1 9 rfl).trans (fx_9))) (le := le) (e_le := show A671 4 (ln).toNat = le from (congrFun (((congrFun eA671 4).trans (uA_ne (by decide))).trans ((hF655.2 4 rfl).trans (hFx.2 4 rfl))) _).trans (e_le)) (at0 := at1) (e_at0 := show G650 10 = at1 from ((hF655.1 10 rfl).trans (ex_at1)))    (p_0 := by omega)) (fun o V' hq => ?_)
      obtain ⟨G682, A683, at2_684, tk2_685, rfl, rfl, hW686, hF687, e688, e689, p690, p691, p692, -⟩ := hq
      have hF694 := Fr_tr hF673 hF687 (Fr_sub (by decide)) (Fr_sub (by decide))
      have hP695 := Pf_f hP675 hF687 (by decide)
      have sf696 : ND A683 (one) (33) (0) (nd1) (0) (0) (0) (0) := ND_ag (by omega) (Ag_fr hF687 (by decide)) sf676
      have sf697 : wE A683 Vs sb (20) (ix) (one + 1) (nd1) := wE_ag (by omega) (Sg_fr hF687 (by decide)) (Ag_fr hF687 (by decide)) sf677
      have sf698 : NdM A683 (nd) (nd1) (sy) := NdM_f hF687 (by decide) sf678
      have sf699 : ND A683 (nd1) (3) (s) (ix) (0) (0) (0) (0) := ND_ag (by omega) (Ag_fr hF687 (by decide)) sf679
      have sf700 : NdM A683 (nd1) (nd1 + 1) (sy) := NdM_f hF687 (by decide) sf680
      have ec701 : ecn A683 (G682 31) = ec2_653 := (ecn_f (hF687.2 15 rfl) (hF687.1 31 rfl)).trans ec681
      have bat2_684 : (0 : Int) ≤ at2_684 ∧ at2_684 ≤ 3002 := e688 ▸ hW686.1 10
      have ztk2_685 := tz_b tk2_685
      have btk2_685 : (0 : Int) ≤ tk2_685 ∧ tk2_685 ≤ 5 := e689 ▸ hW686.1 11
      refine .inl ⟨rfl, ?_⟩
      have pz702 : at1 + tz tk2_685 ≤ at2_684 := by omega
      refine jx_ld (pc' := 262) (l' := L669) (st' := [.ref 66]) rfl (jl_aloadn gL669_0) ?_
      refine jr_get (pc' := 265) (i := 36) (v := .ref 86) rfl rfl (by decide) rfl rfl ?_
      refine jx_ld (pc' := 266) (l' := L669) (st' := [.int (i32 (one)), .ref 86]) rfl (jl_iloadn gL669_1) ?_
      refine jx_ld (pc' := 267) (l' := L669) (st' := [.ref 66, .int (i32 (one)), .ref 86]) rfl (jl_aloadn gL669_0) ?_
      refine jx_ar (pc' := 268) (st' := [.int (i32 (0)), .ref 66, .int (i32 (one)), .ref 86]) rfl rfl rfl rfl ?_
      refine jx_vr (pc' := 271) (as := [.int (i32 (0))]) (st := [.int (i32 (one)), .ref 86]) rfl rfl rfl rfl ⟨rfl, rfl, Nat.le_of_ble_eq_true rfl⟩ rfl rfl (c_readReference_w (dd := d) (hd := by omega) (hW := hW686) (ch := 0) (ln := ln) (e_ln := show G682 9 = ln from ((hF687.1 9 rfl).trans ((hF655.1 9 rfl).trans (fx_9)))) (le := le) (e_le := show A683 4 (ln).toNat = le from (congrFun ((hF687.2 4 rfl).trans (((congrFun eA671 4).trans (uA_ne (by decide))).trans ((hF655.2 4 rfl).trans (hFx.2 4 rfl)))) _).trans (e_le)) (at0 := at2_684) (e_at0 := show G682 10 = at2_684 from (e688)) (fk := fk1) (e_fk := show G682 16 = fk1 from ((hF687.1 16 rfl).trans ((hF655.1 16 rfl).trans (ex_fk1)))) (op0 := op1) (e_op0 := show G682 15 = op1 from ((hF687.1 15 rfl).trans ((hF655.1 15 rfl).trans (ex_op1)))) (nd := nd2_652) (e_nd := show G682 31 = nd2_652 from ((hF687.1 31 rfl).trans (e657))) (tk0 := tk2_685) (e_tk0 := show G682 11 = tk2_685 from (e689)) (ec := ec2_653) (e_ec := show ecn A683 (G682 31) = ec2_653 from ec701) (sy := sy) (e_sy := show G682 19 = sy from ((hF687.1 19 rfl).trans ((hF655.1 19 rfl).trans ((hFx.1 19 rfl).trans (e_sy))))) (i_SV := (SV_ext (((hF687.1 29 rfl).trans ((hF655.1 29 rfl).trans (hFx.1 29 rfl)))) (((hF687.2 14 rfl).trans (((congrFun eA671 14).trans (uA_ne (by decide))).trans ((hF655.2 14 rfl).trans (hFx.2 14 rfl))))) i_SV)) (h_ch := ⟨(by decide), (by decide)⟩)  (p_0 := by omega) (p_1 := by omega) (p_2 := by omega) (p_3 := by omega) (p_4 := by omega)) (fun o V' hq => ?_)
      obtain ⟨G703, A704, r705, at2_706, fk2_707, op2_708, nd2_709, tk2_710, ec2_711, rfl, rfl, hW712, hF713, hQ714, b715, e716, e717, e718, e719, e720, e721, p722, p723, p724, p725, p726, p727, q728⟩ := hq
      have hF729 := Fr_tr hF694 hF713 (Fr_sub (by decide)) (Fr_sub (by decide))
      have k730 : A704 18 (one).toNat = nd1 := (hQ714 18 _ rfl (by omega)).trans (show A683 18 (one).toNat = nd1 from (congrFun (hF687.2 18 rfl) _).trans (q674))
      have hP731 := Pf_tr hP695 hQ714 (by omega)
      have sf732 : ND A704 (one) (33) (0) (nd1) (0) (0) (0) (0) := ND_ag (by omega) (Ag_pf hQ714 (by omega)) sf696
      have sf733 : wE A704 Vs sb (20) (ix) (one + 1) (nd1) := wE_ag (by omega) (Sg_fr hF713 (by decide)) (Ag_pf hQ714 (by omega)) sf697
      have sf734 : NdM A704 (nd) (nd1) (sy) := NdM_pf hQ714 (by omega) (by omega) sf698
      have sf735 : ND A704 (nd1) (3) (s) (ix) (0) (0) (0) (0) := ND_ag (by omega) (Ag_pf hQ714 (by omega)) sf699
      have sf736 : NdM A704 (nd1) (nd1 + 1) (sy) := NdM_pf hQ714 (by omega) (by omega) sf700
      have bat2_706 : (0 : Int) ≤ at2_706 ∧ at2_706 ≤ 3002 := e716 ▸ hW712.1 10
      have bfk2_707 : (0 : Int) ≤ fk2_707 ∧ fk2_707 ≤ 6 := e717 ▸ hW712.1 16
      have bop2_708 : (-2147483648 : Int) ≤ op2_708 ∧ op2_708 ≤ 2147483647 := e718 ▸ hW712.1 15
      have bnd2_709 : (0 : Int) ≤ nd2_709 ∧ nd2_709 ≤ 6999 := e719 ▸ hW712.1 31
      have ztk2_710 := tz_b tk2_710
      have btk2_710 : (0 : Int) ≤ tk2_710 ∧ tk2_710 ≤ 5 := e720 ▸ hW712.1 11
      refine .inr ⟨_, rfl, ?_⟩
      rcases q728 with ⟨a737, a738, a739, a740, a741, a742⟩ | ⟨a743, a744, a745⟩ | ⟨a746, a747, a748, a749, a750, a751, a752⟩
      · have _q : True := trivial
        exfalso
        omega
      · have _q : True := trivial
        refine jr_st (pc' := 272) (i := 19) (m := 7000) (z := one) (y := r705) rfl (by decide) rfl (by decide) (by omega) (by omega) rfl ?_
        have hW754 : Wk G703 (uA A704 19 (one).toNat (r705)) := Wk_a hW712 (show (-2147483648 : Int) ≤ r705 by omega) (show r705 ≤ (2147483647 : Int) by omega)
        have hF755 := Fr_a (z := r705) (k := 19) (n := (one).toNat) hF729 (by decide)
        obtain ⟨A753, eA753⟩ : ∃ q, q = uA A704 19 (one).toNat (r705) := ⟨_, rfl⟩
        rw [← eA753]
        rw [← eA753] at hW754 hF755
        have q756 : A753 19 (one).toNat = r705 := by rw [eA753]; exact uA_eq
        have hP757 : Pf nd A A753 := eA753 ▸ Pf_a hP731 (z := one) (by omega) (by omega)
        have sf758 : ND A753 (one) (33) (0) (nd1) (r705) (0) (0) (0) := ND_c eA753 sf732
        have sf759 : wE A753 Vs sb (20) (ix) (one + 1) (nd1) := wE_ag (by omega) (Sg_ne eA753 rfl) (Ag_st eA753 (by omega) (by omega)) sf733
        have sf760 : NdM A753 (nd) (nd1) (sy) := NdM_st eA753 (by decide) sf734
        have sf761 : ND A753 (nd1) (3) (s) (ix) (0) (0) (0) (0) := ND_ag (by omega) (Ag_st eA753 (by omega) (by omega)) sf735
        have sf762 : NdM A753 (nd1) (nd1 + 1) (sy) := NdM_st eA753 (by decide) sf736
        have ec763 : ecn A753 (G703 31) = ec2_711 := (ecn_e ((congrFun eA753 15).trans (uA_ne (by decide)))).trans e721
        refine jx_ld (pc' := 273) (l' := L669) (st' := [.ref 66]) rfl (jl_aloadn gL669_0) ?_
        refine jx_vr (pc' := 276) (as := []) (st := []) rfl rfl rfl rfl ⟨rfl, rfl, Nat.le_of_ble_eq_true rfl⟩ rfl rfl (c_endLine (dd := d) (hd := by omega) (hW := hW754)  (ln := ln) (e_ln := show G703 9 = ln from ((hF713.1 9 rfl).trans ((hF687.1 9 rfl).trans ((hF655.1 9 rfl).trans (fx_9))))) (li := li) (e_li := show G703 3 = li from ((hF713.1 3 rfl).trans ((hF687.1 3 rfl).trans ((hF655.1 3 rfl).trans ((hFx.1 3 rfl).trans (e_li)))))) (fk := fk2_707) (e_fk := show G703 16 = fk2_707 from (e717)) (tk0 := tk2_710) (e_tk0 := show G703 11 = tk2_710 from (e720))    (p_0 := by omega)) (fun o V' hq => ?_)
        obtain ⟨G764, A765, ln2_766, fk2_767, rfl, rfl, hW768, hF769, e770, e771, q772⟩ := hq
        have hF773 := Fr_tr hF755 hF769 (Fr_sub (by decide)) (Fr_sub (by decide))
        have hP774 := Pf_f hP757 hF769 (by decide)
        have sf775 : ND A765 (one) (33) (0) (nd1) (r705) (0) (0) (0) := ND_ag (by omega) (Ag_fr hF769 (by decide)) sf758
        have sf776 : wE A765 Vs sb (20) (ix) (one + 1) (nd1) := wE_ag (by omega) (Sg_fr hF769 (by decide)) (Ag_fr hF769 (by decide)) sf759
        have sf777 : NdM A765 (nd) (nd1) (sy) := NdM_f hF769 (by decide) sf760
        have sf778 : ND A765 (nd1) (3) (s) (ix) (0) (0) (0) (0) := ND_ag (by omega) (Ag_fr hF769 (by decide)) sf761
        have sf779 : NdM A765 (nd1) (nd1 + 1) (sy) := NdM_f hF769 (by decide) sf762
        have ec780 : ecn A765 (G764 31) = ec2_711 := (ecn_f (hF769.2 15 rfl) (hF769.1 31 rfl)).trans ec763
        have bln2_766 : (0 : Int) ≤ ln2_766 ∧ ln2_766 ≤ 3000 := e770 ▸ hW768.1 9
        have bfk2_767 : (0 : Int) ≤ fk2_767 ∧ fk2_767 ≤ 6 := e771 ▸ hW768.1 16
        refine .inl ⟨rfl, ?_⟩
        rcases q772 with ⟨a781, a782, a783, a784, a785⟩ | ⟨a786, a787⟩
        · have _q : True := trivial
          exfalso
          omega
        · have _q : True := trivial
          refine jx_ld (pc' := 277) (l' := L669) (st' := [.int (i32 (one))]) rfl (jl_iloadn gL669_1) ?_
          refine jx_rt (v := some (.int (i32 (one)))) rfl rfl rfl rfl rfl rfl ?_
          exact ⟨_, _, _, at2_706, fk2_767, nd2_709, ln2_766, ec2_711, rfl, rfl, hW768, hF773, hP774, by omega, ((hF769.1 10 rfl).trans (e716)), (e771), ((hF769.1 31 rfl).trans (e719)), (e770), ec780, by omega, by omega, by omega, by omega, by omega, by first | exact Or.inl (⟨by omega, by omega, by omega⟩)⟩
      · have _q : True := trivial
        refine jr_st (pc' := 272) (i := 19) (m := 7000) (z := one) (y := r705) rfl (by decide) rfl (by decide) (by omega) (by omega) rfl ?_
        have hW789 : Wk G703 (uA A704 19 (one).toNat (r705)) := Wk_a hW712 (show (-2147483648 : Int) ≤ r705 by omega) (show r705 ≤ (2147483647 : Int) by omega)
        have hF790 := Fr_a (z := r705) (k := 19) (n := (one).toNat) hF729 (by decide)
        obtain ⟨A788, eA788⟩ : ∃ q, q = uA A704 19 (one).toNat (r705) := ⟨_, rfl⟩
        rw [← eA788]
        rw [← eA788] at hW789 hF790
        have q791 : A788 19 (one).toNat = r705 := by rw [eA788]; exact uA_eq
        have hP792 : Pf nd A A788 := eA788 ▸ Pf_a hP731 (z := one) (by omega) (by omega)
        have sf793 : ND A788 (one) (33) (0) (nd1) (r705) (0) (0) (0) := ND_c eA788 sf732
        have sf794 : wE A788 Vs sb (20) (ix) (one + 1) (nd1) := wE_ag (by omega) (Sg_ne eA788 rfl) (Ag_st eA788 (by omega) (by omega)) sf733
        have sf795 : NdM A788 (nd) (nd1) (sy) := NdM_st eA788 (by decide) sf734
        have sf796 : ND A788 (nd1) (3) (s) (ix) (0) (0) (0) (0) := ND_ag (by omega) (Ag_st eA788 (by omega) (by omega)) sf735
        have sf797 : NdM A788 (nd1) (nd1 + 1) (sy) := NdM_st eA788 (by decide) sf736
        have sf798 : wR A788 Vs sb (20) (0) (r705) (nd2_652) (nd2_709) := wR_ag (by omega) (Sg_ne eA788 rfl) (Ag_st eA788 (by omega) (by omega)) a749
        have sf799 : NdM A788 (nd2_652) (nd2_709) (sy) := NdM_st eA788 (by decide) a751
        have ec800 : ecn A788 (G703 31) = ec2_711 := (ecn_e ((congrFun eA788 15).trans (uA_ne (by decide)))).trans e721
        refine jx_ld (pc' := 273) (l' := L669) (st' := [.ref 66]) rfl (jl_aloadn gL669_0) ?_
        refine jx_vr (pc' := 276) (as := []) (st := []) rfl rfl rfl rfl ⟨rfl, rfl, Nat.le_of_ble_eq_true rfl⟩ rfl rfl (c_endLine (dd := d) (hd := by omega) (hW := hW789)  (ln := ln) (e_ln := show G703 9 = ln from ((hF713.1 9 rfl).trans ((hF687.1 9 rfl).trans ((hF655.1 9 rfl).trans (fx_9))))) (li := li) (e_li := show G703 3 = li from ((hF713.1 3 rfl).trans ((hF687.1 3 rfl).trans ((hF655.1 3 rfl).trans ((hFx.1 3 rfl).trans (e_li)))))) (fk := fk2_707) (e_fk := show G703 16 = fk2_707 from (e717)) (tk0 := tk2_710) (e_tk0 := show G703 11 = tk2_710 from (e720))    (p_0 := by omega)) (fun o V' hq => ?_)
        obtain ⟨G801, A802, ln2_803, fk2_804, rfl, rfl, hW805, hF806, e807, e808, q809⟩ := hq
        have hF810 := Fr_tr hF790 hF806 (Fr_sub (by decide)) (Fr_sub (by decide))
        have hP811 := Pf_f hP792 hF806 (by decide)
        have sf812 : ND A802 (one) (33) (0) (nd1) (r705) (0) (0) (0) := ND_ag (by omega) (Ag_fr hF806 (by decide)) sf793
        have sf813 : wE A802 Vs sb (20) (ix) (one + 1) (nd1) := wE_ag (by omega) (Sg_fr hF806 (by decide)) (Ag_fr hF806 (by decide)) sf794
        have sf814 : NdM A802 (nd) (nd1) (sy) := NdM_f hF806 (by decide) sf795
        have sf815 : ND A802 (nd1) (3) (s) (ix) (0) (0) (0) (0) := ND_ag (by omega) (Ag_fr hF806 (by decide)) sf796
        have sf816 : NdM A802 (nd1) (nd1 + 1) (sy) := NdM_f hF806 (by decide) sf797
        have sf817 : wR A802 Vs sb (20) (0) (r705) (nd2_652) (nd2_709) := wR_ag (by omega) (Sg_fr hF806 (by decide)) (Ag_fr hF806 (by decide)) sf798
        have sf818 : NdM A802 (nd2_652) (nd2_709) (sy) := NdM_f hF806 (by decide) sf799
        have ec819 : ecn A802 (G801 31) = ec2_711 := (ecn_f (hF806.2 15 rfl) (hF806.1 31 rfl)).trans ec800
        have bln2_803 : (0 : Int) ≤ ln2_803 ∧ ln2_803 ≤ 3000 := e807 ▸ hW805.1 9
        have bfk2_804 : (0 : Int) ≤ fk2_804 ∧ fk2_804 ≤ 6 := e808 ▸ hW805.1 16
        refine .inl ⟨rfl, ?_⟩
        rcases q809 with ⟨a820, a821, a822, a823, a824⟩ | ⟨a825, a826⟩
        · have _q : True := trivial
          refine jx_ld (pc' := 277) (l' := L669) (st' := [.int (i32 (one))]) rfl (jl_iloadn gL669_1) ?_
          refine jx_rt (v := some (.int (i32 (one)))) rfl rfl rfl rfl rfl rfl ?_
          exact ⟨_, _, _, at2_706, fk2_804, nd2_709, ln2_803, ec2_711, rfl, rfl, hW805, hF810, hP811, by omega, ((hF806.1 10 rfl).trans (e716)), (e808), ((hF806.1 31 rfl).trans (e719)), (e807), ec819, by omega, by omega, by omega, by omega, by omega, by first | exact Or.inr ((⟨by omega, by omega, by omega, by omega, by omega, (wU_ch (m := (nd1 + 1)) sf812 (by omega) (by omega) (by omega) (by omega) (wR_elem sf815 (by omega) (by omega) iv_9 (kq (P := kRow (1)) (show A802 7 (s).toNat = ks from (congrFun ((hF806.2 7 rfl).trans (((congrFun eA788 7).trans (uA_ne (by decide))).trans ((hF713.2 7 rfl).trans ((hF687.2 7 rfl).trans (((congrFun eA671 7).trans (uA_ne (by decide))).trans (hF655.2 7 rfl)))))) _).trans (ex_ks)) (by first | exact .inr ⟨by omega, by omega⟩)) (wE_mono (by omega) (by omega) (by omega) sf813)) (wR_mono (by omega) (by omega) (by omega) sf817)), (NX_nd sf812), by omega, (NdM_w (NdM_app (sy := sy) sf814 (NdM_app (sy := sy) sf816 sf818 (by omega) (by omega) (by omega)) (by omega) (by omega) (by omega)) (by omega) (by omega) (by omega))⟩))⟩
        · have _q : True := trivial
          refine jx_ld (pc' := 277) (l' := L669) (st' := [.int (i32 (one))]) rfl (jl_iloadn gL669_1) ?_
          refine jx_rt (v := some (.int (i32 (one)))) rfl rfl rfl rfl rfl rfl ?_
          exact ⟨_, _, _, at2_706, fk2_804, nd2_709, ln2_803, ec2_711, rfl, rfl, hW805, hF810, hP811, by omega, ((hF806.1 10 rfl).trans (e716)), (e808), ((hF806.1 31 rfl).trans (e719)), (e807), ec819, by omega, by omega, by omega, by omega, by omega, by first | exact Or.inl (⟨by omega, by omega, by omega⟩)⟩
set_option maxRecDepth 20000 in
set_option maxHeartbeats 4000000 in
theorem c_readGuard_w_at_222_1_0 {X : jX} {d : Nat} {Vs : Nat → Prop} {sb : Int} {c0 c1 : jC} {G : Nat → Int} {A : Nat → Nat → Int} {T : jH} {ln le at0 fk op0 nd tk0 li ec sy : Int} (hd : 71 ≤ d + 1) (hW : Wk G A) (e_ln : G 9 = ln) (e_le : A 4 (ln).toNat = le) (e_at0 : G 10 = at0) (e_fk : G 16 = fk) (e_op0 : G 15 = op0) (e_nd : G 31 = nd) (e_tk0 : G 11 = tk0) (e_li : G 3 = li) (e_ec : ecn A (G 31) = ec) (e_sy : G 19 = sy) (i_SV : SV Vs sb G A) (p_0 : 0 ≤ op0 ∧ op0 ≤ 8) (p_1 : fk = 0) (p_2 : nd ≤ 2 * at0 - tz tk0 + 42) (p_3 : at0 ≤ le) (p_4 : ln < li) : ∀ (L : jL) (Gx : Nat → Int) (Ax : Nat → Nat → Int) (one s ix at1 tk1 fk1 nd1 op1 ks ec1 : Int), jGet L 0 = some (.ref 66) → jGet L 6 = some (.int (i32 (1))) → jGet L 7 = some (.int (i32 (0))) → jGet L 1 = some (.int (i32 one)) → jGet L 4 = some (.int (i32 s)) → jGet L 5 = some (.int (i32 ix)) → Wk Gx Ax → Fr [9, 10, 11, 12, 13, 14, 15, 16, 17, 18, 31] [15, 16, 17, 18, 19, 20, 21, 22, 24, 28] G A Gx Ax → Pf nd A Ax → Gx 10 = at1 → Gx 11 = tk1 → Gx 16 = fk1 → Gx 31 = nd1 → Gx 15 = op1 → Ax 7 (s).toNat = ks → ecn Ax (Gx 31) = ec1 → Gx 9 = ln → ((-2147483648 : Int) ≤ one ∧ one ≤ 2147483647) → ((-2147483648 : Int) ≤ s ∧ s ≤ 2147483647) → ((-2147483648 : Int) ≤ ix ∧ ix ≤ 2147483647) → (at0 ≤ at1) → (at1 ≤ le) → (nd ≤ nd1) → (op1 = op0) → (one = nd) → (one ≤ 6998 ∧ one < nd1) → (fk1 = 0) → (nd1 - nd ≤ (2 * at1 - tz tk1) - (2 * at0 - tz tk0)) → (0 ≤ s ∧ s ≤ 201) → (SY Vs sb (s)) → (ND Ax (one) (33) (0) (0) (0) (0) (0) (0)) → (kArr (ks)) → (wE Ax Vs sb (20) (ix) (one + 1) (nd1)) → (nd1 - nd + 5 * (ec1 - ec) ≤ (2 * at1 - tz tk1) - (2 * at0 - tz tk0) - 5 - tz tk1) → (NdM Ax (nd) (nd1) (sy)) → wj X d jm303 (222, L, [], rV c0 c1 Gx Ax T) (fun o V' => ∃ (G' : Nat → Int) (A' : Nat → Nat → Int) (r : Int) (at2 : Int) (fk2 : Int) (nd2 : Int) (ln2 : Int) (ec2 : Int), V' = rV c0 c1 G' A' T ∧ o = .inl (some (.int (i32 r))) ∧ Wk G' A' ∧ Fr [9, 10, 11, 12, 13, 14, 15, 16, 17, 18, 31] [15, 16, 17, 18, 19, 20, 21, 22, 24, 28] G A G' A' ∧ Pf nd A A' ∧ ((-2147483648 : Int) ≤ r ∧ r ≤ 2147483647) ∧ G' 10 = at2 ∧ G' 16 = fk2 ∧ G' 31 = nd2 ∧ G' 9 = ln2 ∧ ecn A' (G' 31) = ec2 ∧ (at0 ≤ at2) ∧ (at2 ≤ le) ∧ (nd ≤ nd2) ∧ (0 ≤ r) ∧ (r ≤ nd2) ∧ (((1 ≤ fk2) ∧ (ln2 = ln) ∧ (nd2 - nd ≤ 2 * at2 - 2 * at0 + 12)) ∨ ((fk2 = 0) ∧ (ln2 = ln + 1) ∧ (nd2 - nd ≤ 2 * at2 - (2 * at0 - tz tk0) + 0) ∧ (nd ≤ r) ∧ (r < nd2) ∧ (wU A' Vs sb (r) (nd) (nd2)) ∧ (NX A' (r)) ∧ (nd2 - nd + 5 * (ec2 - ec) ≤ 2 * at2 - (2 * at0 - tz tk0) + 0) ∧ (NdM A' (nd) (nd2) (sy))))) := by
  have hF0 : Fr [9, 10, 11, 12, 13, 14, 15, 16, 17, 18, 31] [15, 16, 17, 18, 19, 20, 21, 22, 24, 28] G A G A := Fr_rf
  have hP0 : Pf nd A A := Pf_rf
  have b_ln : (0 : Int) ≤ ln ∧ ln ≤ 3000 := e_ln ▸ hW.1 9
  have b_le : (0 : Int) ≤ le ∧ le ≤ 3000 := e_le ▸ hW.2 4 _
  have b_at0 : (0 : Int) ≤ at0 ∧ at0 ≤ 3002 := e_at0 ▸ hW.1 10
  have b_fk : (0 : Int) ≤ fk ∧ fk ≤ 6 := e_fk ▸ hW.1 16
  have b_op0 : (-2147483648 : Int) ≤ op0 ∧ op0 ≤ 2147483647 := e_op0 ▸ hW.1 15
  have b_nd : (0 : Int) ≤ nd ∧ nd ≤ 6999 := e_nd ▸ hW.1 31
  have z_tk0 := tz_f tk0
  have b_tk0 : (0 : Int) ≤ tk0 ∧ tk0 ≤ 5 := e_tk0 ▸ hW.1 11
  have b_li : (0 : Int) ≤ li ∧ li ≤ 3000 := e_li ▸ hW.1 3
  have b_sy : (0 : Int) ≤ sy ∧ sy ≤ 202 := e_sy ▸ hW.1 19
  intro L Gx Ax one s ix at1 tk1 fk1 nd1 op1 ks ec1 gL_0 gL_6 gL_7 gL_1 gL_4 gL_5 hWx hFx hPx ex_at1 ex_tk1 ex_fk1 ex_nd1 ex_op1 ex_ks ex_ec1 fx_9 rx_one rx_s rx_ix iv_0 iv_1 iv_2 iv_3 iv_4 iv_5 iv_6 iv_7 iv_8 iv_9 iv_10 iv_11 iv_12 iv_13 iv_14
  have b_at1 : (0 : Int) ≤ at1 ∧ at1 ≤ 3002 := ex_at1 ▸ hWx.1 10
  have z_tk1 := tz_f tk1
  have b_tk1 : (0 : Int) ≤ tk1 ∧ tk1 ≤ 5 := ex_tk1 ▸ hWx.1 11
  have b_fk1 : (0 : Int) ≤ fk1 ∧ fk1 ≤ 6 := ex_fk1 ▸ hWx.1 16
  have b_nd1 : (0 : Int) ≤ nd1 ∧ nd1 ≤ 6999 := ex_nd1 ▸ hWx.1 31
  have b_op1 : (-2147483648 : Int) ≤ op1 ∧ op1 ≤ 2147483647 := ex_op1 ▸ hWx.1 15
  have b_ks : (0 : Int) ≤ ks ∧ ks ≤ 14 := ex_ks ▸ hWx.2 7 _
  refine jx_ld (pc' := 223) (l' := L) (st' := [.ref 66]) rfl (jl_aloadn gL_0) ?_
  refine jx_ld (pc' := 225) (l' := L) (st' := [.int (i32 (1)), .ref 66]) rfl (jl_iload gL_6) ?_
  refine jx_if_eq (pc' := 228) (tg := 232) rfl rfl rfl (by decide) (by decide) (fun h827 => ?_) (fun h827 => ?_)
  · have _q := h827
    exact absurd h827 (by omega)
  · have _q := h827
    refine jx_ar (pc' := 229) (st' := [.int (i32 (3)), .ref 66]) rfl rfl rfl rfl ?_
    refine jx_go (tg := 233) rfl rfl ?_
    refine jx_ld (pc' := 235) (l' := L) (st' := [.int (i32 (s)), .int (i32 (3)), .ref 66]) rfl (jl_iload gL_4) ?_
    refine jx_ld (pc' := 237) (l' := L) (st' := [.int (i32 (ix)), .int (i32 (s)), .int (i32 (3)), .ref 66]) rfl (jl_iload gL_5) ?_
    refine jx_ar (pc' := 238) (st' := [.int (i32 (0)), .int (i32 (ix)), .int (i32 (s)), .int (i32 (3)), .ref 66]) rfl rfl rfl rfl ?_
    refine jx_ar (pc' := 239) (st' := [.int (i32 (0)), .int (i32 (0)), .int (i32 (ix)), .int (i32 (s)), .int (i32 (3)), .ref 66]) rfl rfl rfl rfl ?_
    refine jx_vr (pc' := 242) (as := [.int (i32 (3)), .int (i32 (s)), .int (i32 (ix)), .int (i32 (0)), .int (i32 (0))]) (st := []) rfl rfl rfl rfl ⟨rfl, rfl, Nat.le_of_ble_eq_true rfl⟩ rfl rfl (c_node_e (dd := d) (hd := by omega) (hW := hWx) (kind := 3) (a := s) (b := ix) (c := 0) (e := 0) (nd := nd1) (e_nd := show Gx 31 = nd1 from (ex_nd1)) (ec := ec1) (e_ec := show ecn Ax (Gx 31) = ec1 from ex_ec1) (sy := sy) (e_sy := show Gx 19 = sy from ((hFx.1 19 rfl).trans (e_sy)))  (h_kind := ⟨(by decide), (by decide)⟩) (h_a := ⟨(Int.le_trans (by decide : (-2147483648 : Int) ≤ -2147483648) rx_s.1), (Int.le_trans rx_s.2 (by decide : (2147483647 : Int) ≤ 2147483647))⟩) (h_b := ⟨(Int.le_trans (by decide : (-2147483648 : Int) ≤ -2147483648) rx_ix.1), (Int.le_trans rx_ix.2 (by decide : (2147483647 : Int) ≤ 2147483647))⟩) (h_c := ⟨(by decide), (by decide)⟩) (h_e := ⟨(by decide), (by decide)⟩)  (p_0 := by omega) (p_1 := by omega) (p_2 := by omega)) (fun o V' hq => ?_)
    obtain ⟨G828, A829, nd2_830, ec2_831, rfl, rfl, hW832, hF833, hQ834, e835, e836, p837, p838, p839, p840, -⟩ := hq
    have hF842 := Fr_tr hFx hF833 (Fr_sub (by decide)) (Fr_sub (by decide))
    have hP843 := Pf_tr hPx hQ834 (by omega)
    have sf844 : ND A829 (one) (33) (0) (0) (0) (0) (0) (0) := ND_ag (by omega) (Ag_pf hQ834 (by omega)) iv_10
    have sf845 : wE A829 Vs sb (20) (ix) (one + 1) (nd1) := wE_ag (by omega) (Sg_fr hF833 (by decide)) (Ag_pf hQ834 (by omega)) iv_12
    have sf846 : NdM A829 (nd) (nd1) (sy) := NdM_pf hQ834 (by omega) (by omega) iv_14
    have bnd2_830 : (0 : Int) ≤ nd2_830 ∧ nd2_830 ≤ 6999 := e835 ▸ hW832.1 31
    refine .inr ⟨_, rfl, ?_⟩
    refine jx_ld (pc' := 244) (l' := jSto1 L 10 (.int (i32 (nd1)))) (st' := []) rfl rfl ?_
    obtain ⟨L847, eL847⟩ : ∃ q, q = jSto1 L 10 (.int (i32 (nd1))) := ⟨_, rfl⟩
    rw [← eL847]
    have gL847_0 : jGet L847 0 = some (.ref 66) := eL847 ▸ jg_ne (by decide) gL_0 rfl
    have gL847_6 : jGet L847 6 = some (.int (i32 (1))) := eL847 ▸ jg_ne (by decide) gL_6 rfl
    have gL847_7 : jGet L847 7 = some (.int (i32 (0))) := eL847 ▸ jg_ne (by decide) gL_7 rfl
    have gL847_1 : jGet L847 1 = some (.int (i32 (one))) := eL847 ▸ jg_ne (by decide) gL_1 rfl
    have gL847_4 : jGet L847 4 = some (.int (i32 (s))) := eL847 ▸ jg_ne (by decide) gL_4 rfl
    have gL847_5 : jGet L847 5 = some (.int (i32 (ix))) := eL847 ▸ jg_ne (by decide) gL_5 rfl
    have gL847_10 : jGet L847 10 = some (.int (i32 (nd1))) := eL847 ▸ jg_eq
    refine jx_ld (pc' := 246) (l' := L847) (st' := [.int (i32 (0))]) rfl (jl_iload gL847_7) ?_
    refine jx_if_eq (pc' := 249) (tg := 278) rfl rfl rfl (by decide) (by decide) (fun h848 => ?_) (fun h848 => ?_)
    · have _q := h848
      refine jx_ld (pc' := 279) (l' := L847) (st' := [.ref 66]) rfl (jl_aloadn gL847_0) ?_
      refine jx_ld (pc' := 281) (l' := L847) (st' := [.int (i32 (nd1)), .ref 66]) rfl (jl_iload gL847_10) ?_
      refine jx_vr (pc' := 284) (as := [.int (i32 (nd1))]) (st := []) rfl rfl rfl rfl ⟨rfl, rfl, Nat.le_of_ble_eq_true rfl⟩ rfl rfl (c_readRest_w (dd := d) (k := 9) (hE := REw_all X 9) (hd := by omega) (hW := hW832) (x := nd1) (lo := (one + 1)) (ln := ln) (e_ln := show G828 9 = ln from ((hF833.1 9 rfl).trans (fx_9))) (le := le) (e_le := show A829 4 (ln).toNat = le from (congrFun ((hF833.2 4 rfl).trans (hFx.2 4 rfl)) _).trans (e_le)) (at0 := at1) (e_at0 := show G828 10 = at1 from ((hF833.1 10 rfl).trans (ex_at1))) (fk := fk1) (e_fk := show G828 16 = fk1 from ((hF833.1 16 rfl).trans (ex_fk1))) (op0 := op1) (e_op0 := show G828 15 = op1 from ((hF833.1 15 rfl).trans (ex_op1))) (nd := nd2_830) (e_nd := show G828 31 = nd2_830 from (e835)) (tk0 := tk1) (e_tk0 := show G828 11 = tk1 from ((hF833.1 11 rfl).trans (ex_tk1))) (ec := ec2_831) (e_ec := show ecn A829 (G828 31) = ec2_831 from e836) (sy := sy) (e_sy := show G828 19 = sy from ((hF833.1 19 rfl).trans ((hFx.1 19 rfl).trans (e_sy)))) (i_SV := (SV_ext (((hF833.1 29 rfl).trans (hFx.1 29 rfl))) (((hF833.2 14 rfl).trans (hFx.2 14 rfl))) i_SV)) (h_x := ⟨(Int.le_trans (by decide : (-2147483648 : Int) ≤ 0) b_nd1.1), (Int.le_trans b_nd1.2 (by decide : (6999 : Int) ≤ 2147483647))⟩)  (p_0 := by omega) (p_1 := by omega) (p_2 := by omega) (p_3 := by omega) (p_4 := by omega) (p_5 := by omega) (p_6 := by omega) (p_7 := by omega) (p_8 := by omega) (p_9 := (fun _ => (wE_elem p839 (by omega) (by omega) iv_9 (kq (P := kArr) (show A829 7 (s).toNat = ks from (congrFun (hF833.2 7 rfl) _).trans (ex_ks)) iv_11) (wE_mono (by omega) (by omega) (by omega) sf845))))) (fun o V' hq => ?_)
      obtain ⟨G849, A850, r851, at2_852, fk2_853, op2_854, nd2_855, tk2_856, ec2_857, rfl, rfl, hW858, hF859, hQ860, b861, e862, e863, e864, e865, e866, e867, p868, p869, p870, p871, p872, p873, q874⟩ := hq
      have hF875 := Fr_tr hF842 hF859 (Fr_sub (by decide)) (Fr_sub (by decide))
      have hP876 := Pf_tr hP843 hQ860 (by omega)
      have sf877 : ND A850 (one) (33) (0) (0) (0) (0) (0) (0) := ND_ag (by omega) (Ag_pf hQ860 (by omega)) sf844
      have sf878 : wE A850 Vs sb (20) (ix) (one + 1) (nd1) := wE_ag (by omega) (Sg_fr hF859 (by decide)) (Ag_pf hQ860 (by omega)) sf845
      have sf879 : NdM A850 (nd) (nd1) (sy) := NdM_pf hQ860 (by omega) (by omega) sf846
      have sf880 : ND A850 (nd1) (3) (s) (ix) (0) (0) (0) (0) := ND_ag (by omega) (Ag_pf hQ860 (by omega)) p839
      have sf881 : NdM A850 (nd1) (nd1 + 1) (sy) := NdM_pf hQ860 (by omega) (by omega) p840
      have bat2_852 : (0 : Int) ≤ at2_852 ∧ at2_852 ≤ 3002 := e862 ▸ hW858.1 10
      have bfk2_853 : (0 : Int) ≤ fk2_853 ∧ fk2_853 ≤ 6 := e863 ▸ hW858.1 16
      have bop2_854 : (-2147483648 : Int) ≤ op2_854 ∧ op2_854 ≤ 2147483647 := e864 ▸ hW858.1 15
      have bnd2_855 : (0 : Int) ≤ nd2_855 ∧ nd2_855 ≤ 6999 := e865 ▸ hW858.1 31
      have ztk2_856 := tz_b tk2_856
      have btk2_856 : (0 : Int) ≤ tk2_856 ∧ tk2_856 ≤ 5 := e866 ▸ hW858.1 11
      refine .inr ⟨_, rfl, ?_⟩
      rcases q874 with ⟨a882, a883, a884, a885, a886, a887⟩ | ⟨a888, a889, a890⟩ | ⟨a891, a892, a893, a894, a895, a896⟩
      · have _q : True := trivial
        exfalso
        omega
      · have _q : True := trivial
        refine jx_ld (pc' := 285) (l' := jSto1 L847 2 (.int (i32 (r851)))) (st' := []) rfl rfl ?_
        obtain ⟨L897, eL897⟩ : ∃ q, q = jSto1 L847 2 (.int (i32 (r851))) := ⟨_, rfl⟩
        rw [← eL897]
        have gL897_0 : jGet L897 0 = some (.ref 66) := eL897 ▸ jg_ne (by decide) gL847_0 rfl
        have gL897_6 : jGet L897 6 = some (.int (i32 (1))) := eL897 ▸ jg_ne (by decide) gL847_6 rfl
        have gL897_7 : jGet L897 7 = some (.int (i32 (0))) := eL897 ▸ jg_ne (by decide) gL847_7 rfl
        have gL897_1 : jGet L897 1 = some (.int (i32 (one))) := eL897 ▸ jg_ne (by decide) gL847_1 rfl
        have gL897_4 : jGet L897 4 = some (.int (i32 (s))) := eL897 ▸ jg_ne (by decide) gL847_4 rfl
        have gL897_5 : jGet L897 5 = some (.int (i32 (ix))) := eL897 ▸ jg_ne (by decide) gL847_5 rfl
        have gL897_10 : jGet L897 10 = some (.int (i32 (nd1))) := eL897 ▸ jg_ne (by decide) gL847_10 rfl
        have gL897_2 : jGet L897 2 = some (.int (i32 (r851))) := eL897 ▸ jg_eq
        refine jx_go (tg := 293) rfl rfl ?_
        have z898 := tz_f (tk2_856)
        exact c_readGuard_w_at_293p (X := X) (d := d) (Vs := Vs) (sb := sb) (c0 := c0) (c1 := c1) (G := G) (A := A) (T := T) (ln := ln) (le := le) (at0 := at0) (fk := fk) (op0 := op0) (nd := nd) (tk0 := tk0) (li := li) (ec := ec) (sy := sy) (hd := hd) (hW := hW) (e_ln := e_ln) (e_le := e_le) (e_at0 := e_at0) (e_fk := e_fk) (e_op0 := e_op0) (e_nd := e_nd) (e_tk0 := e_tk0) (e_li := e_li) (e_ec := e_ec) (e_sy := e_sy) (i_SV := i_SV) (p_0 := p_0) (p_1 := p_1) (p_2 := p_2) (p_3 := p_3) (p_4 := p_4) L897 G849 A850 (one) (r851) (at2_852) (tk2_856) (fk2_853) (nd2_855) (op2_854) (ec2_857) gL897_0 gL897_1 gL897_2 hW858 hF875 hP876 ((e862)) ((e866)) ((e863)) ((e865)) ((e864)) (e867) (((hF859.1 9 rfl).trans ((hF833.1 9 rfl).trans (fx_9)))) (by omega) (by omega) (by omega) (by omega) (by omega) (by omega) (by omega) (by omega) (by omega) (by omega)
      · have _q : True := trivial
        refine jx_ld (pc' := 285) (l' := jSto1 L847 2 (.int (i32 (r851)))) (st' := []) rfl rfl ?_
        obtain ⟨L899, eL899⟩ : ∃ q, q = jSto1 L847 2 (.int (i32 (r851))) := ⟨_, rfl⟩
        rw [← eL899]
        have gL899_0 : jGet L899 0 = some (.ref 66) := eL899 ▸ jg_ne (by decide) gL847_0 rfl
        have gL899_6 : jGet L899 6 = some (.int (i32 (1))) := eL899 ▸ jg_ne (by decide) gL847_6 rfl
        have gL899_7 : jGet L899 7 = some (.int (i32 (0))) := eL899 ▸ jg_ne (by decide) gL847_7 rfl
        have gL899_1 : jGet L899 1 = some (.int (i32 (one))) := eL899 ▸ jg_ne (by decide) gL847_1 rfl
        have gL899_4 : jGet L899 4 = some (.int (i32 (s))) := eL899 ▸ jg_ne (by decide) gL847_4 rfl
        have gL899_5 : jGet L899 5 = some (.int (i32 (ix))) := eL899 ▸ jg_ne (by decide) gL847_5 rfl
        have gL899_10 : jGet L899 10 = some (.int (i32 (nd1))) := eL899 ▸ jg_ne (by decide) gL847_10 rfl
        have gL899_2 : jGet L899 2 = some (.int (i32 (r851))) := eL899 ▸ jg_eq
        refine jx_go (tg := 293) rfl rfl ?_
        have z900 := tz_f (tk2_856)
        exact c_readGuard_w_at_293 (X := X) (d := d) (Vs := Vs) (sb := sb) (c0 := c0) (c1 := c1) (G := G) (A := A) (T := T) (ln := ln) (le := le) (at0 := at0) (fk := fk) (op0 := op0) (nd := nd) (tk0 := tk0) (li := li) (ec := ec) (sy := sy) (hd := hd) (hW := hW) (e_ln := e_ln) (e_le := e_le) (e_at0 := e_at0) (e_fk := e_fk) (e_op0 := e_op0) (e_nd := e_nd) (e_tk0 := e_tk0) (e_li := e_li) (e_ec := e_ec) (e_sy := e_sy) (i_SV := i_SV) (p_0 := p_0) (p_1 := p_1) (p_2 := p_2) (p_3 := p_3) (p_4 := p_4) L899 G849 A850 (one) (r851) (at2_852) (tk2_856) (fk2_853) (nd2_855) (op2_854) (ec2_857) gL899_0 gL899_1 gL899_2 hW858 hF875 hP876 ((e862)) ((e866)) ((e863)) ((e865)) ((e864)) (e867) (((hF859.1 9 rfl).trans ((hF833.1 9 rfl).trans (fx_9)))) (by omega) (by omega) (by omega) (by omega) (by omega) (by omega) (by omega) (by omega) (by omega) (by omega) (by omega) (sf877) ((wE_mono (by omega) (by omega) (by omega) a894)) (by omega) ((NdM_w (NdM_app (sy := sy) sf879 (NdM_app (sy := sy) sf881 a896 (by omega) (by omega) (by omega)) (by omega) (by omega) (by omega)) (by omega) (by omega) (by omega)))
    · have _q := h848
      exact absurd h848 (by omega)
set_option maxRecDepth 20000 in
set_option maxHeartbeats 4000000 in
theorem c_readGuard_w_at_222_0_1 {X : jX} {d : Nat} {Vs : Nat → Prop} {sb : Int} {c0 c1 : jC} {G : Nat → Int} {A : Nat → Nat → Int} {T : jH} {ln le at0 fk op0 nd tk0 li ec sy : Int} (hd : 71 ≤ d + 1) (hW : Wk G A) (e_ln : G 9 = ln) (e_le : A 4 (ln).toNat = le) (e_at0 : G 10 = at0) (e_fk : G 16 = fk) (e_op0 : G 15 = op0) (e_nd : G 31 = nd) (e_tk0 : G 11 = tk0) (e_li : G 3 = li) (e_ec : ecn A (G 31) = ec) (e_sy : G 19 = sy) (i_SV : SV Vs sb G A) (p_0 : 0 ≤ op0 ∧ op0 ≤ 8) (p_1 : fk = 0) (p_2 : nd ≤ 2 * at0 - tz tk0 + 42) (p_3 : at0 ≤ le) (p_4 : ln < li) : ∀ (L : jL) (Gx : Nat → Int) (Ax : Nat → Nat → Int) (one s at1 tk1 fk1 nd1 op1 ks ec1 : Int), jGet L 0 = some (.ref 66) → jGet L 6 = some (.int (i32 (0))) → jGet L 7 = some (.int (i32 (1))) → jGet L 5 = some (.int (i32 (0))) → jGet L 1 = some (.int (i32 one)) → jGet L 4 = some (.int (i32 s)) → Wk Gx Ax → Fr [9, 10, 11, 12, 13, 14, 15, 16, 17, 18, 31] [15, 16, 17, 18, 19, 20, 21, 22, 24, 28] G A Gx Ax → Pf nd A Ax → Gx 10 = at1 → Gx 11 = tk1 → Gx 16 = fk1 → Gx 31 = nd1 → Gx 15 = op1 → Ax 7 (s).toNat = ks → ecn Ax (Gx 31) = ec1 → Gx 9 = ln → ((-2147483648 : Int) ≤ one ∧ one ≤ 2147483647) → ((-2147483648 : Int) ≤ s ∧ s ≤ 2147483647) → (at0 ≤ at1) → (at1 ≤ le) → (nd ≤ nd1) → (op1 = op0) → (one = nd) → (one ≤ 6998 ∧ one < nd1) → (fk1 = 0) → (nd1 - nd ≤ (2 * at1 - tz tk1) - (2 * at0 - tz tk0)) → (0 ≤ s ∧ s ≤ 201) → (SY Vs sb (s)) → (ND Ax (one) (33) (0) (0) (0) (0) (0) (0)) → (tz tk1 = 1) → (kCh (ks)) → (nd1 - nd + 5 * (ec1 - ec) ≤ (2 * at1 - tz tk1) - (2 * at0 - tz tk0) - tz tk1) → (NdM Ax (nd) (nd1) (sy)) → wj X d jm303 (222, L, [], rV c0 c1 Gx Ax T) (fun o V' => ∃ (G' : Nat → Int) (A' : Nat → Nat → Int) (r : Int) (at2 : Int) (fk2 : Int) (nd2 : Int) (ln2 : Int) (ec2 : Int), V' = rV c0 c1 G' A' T ∧ o = .inl (some (.int (i32 r))) ∧ Wk G' A' ∧ Fr [9, 10, 11, 12, 13, 14, 15, 16, 17, 18, 31] [15, 16, 17, 18, 19, 20, 21, 22, 24, 28] G A G' A' ∧ Pf nd A A' ∧ ((-2147483648 : Int) ≤ r ∧ r ≤ 2147483647) ∧ G' 10 = at2 ∧ G' 16 = fk2 ∧ G' 31 = nd2 ∧ G' 9 = ln2 ∧ ecn A' (G' 31) = ec2 ∧ (at0 ≤ at2) ∧ (at2 ≤ le) ∧ (nd ≤ nd2) ∧ (0 ≤ r) ∧ (r ≤ nd2) ∧ (((1 ≤ fk2) ∧ (ln2 = ln) ∧ (nd2 - nd ≤ 2 * at2 - 2 * at0 + 12)) ∨ ((fk2 = 0) ∧ (ln2 = ln + 1) ∧ (nd2 - nd ≤ 2 * at2 - (2 * at0 - tz tk0) + 0) ∧ (nd ≤ r) ∧ (r < nd2) ∧ (wU A' Vs sb (r) (nd) (nd2)) ∧ (NX A' (r)) ∧ (nd2 - nd + 5 * (ec2 - ec) ≤ 2 * at2 - (2 * at0 - tz tk0) + 0) ∧ (NdM A' (nd) (nd2) (sy))))) := by
  have hF0 : Fr [9, 10, 11, 12, 13, 14, 15, 16, 17, 18, 31] [15, 16, 17, 18, 19, 20, 21, 22, 24, 28] G A G A := Fr_rf
  have hP0 : Pf nd A A := Pf_rf
  have b_ln : (0 : Int) ≤ ln ∧ ln ≤ 3000 := e_ln ▸ hW.1 9
  have b_le : (0 : Int) ≤ le ∧ le ≤ 3000 := e_le ▸ hW.2 4 _
  have b_at0 : (0 : Int) ≤ at0 ∧ at0 ≤ 3002 := e_at0 ▸ hW.1 10
  have b_fk : (0 : Int) ≤ fk ∧ fk ≤ 6 := e_fk ▸ hW.1 16
  have b_op0 : (-2147483648 : Int) ≤ op0 ∧ op0 ≤ 2147483647 := e_op0 ▸ hW.1 15
  have b_nd : (0 : Int) ≤ nd ∧ nd ≤ 6999 := e_nd ▸ hW.1 31
  have z_tk0 := tz_f tk0
  have b_tk0 : (0 : Int) ≤ tk0 ∧ tk0 ≤ 5 := e_tk0 ▸ hW.1 11
  have b_li : (0 : Int) ≤ li ∧ li ≤ 3000 := e_li ▸ hW.1 3
  have b_sy : (0 : Int) ≤ sy ∧ sy ≤ 202 := e_sy ▸ hW.1 19
  intro L Gx Ax one s at1 tk1 fk1 nd1 op1 ks ec1 gL_0 gL_6 gL_7 gL_5 gL_1 gL_4 hWx hFx hPx ex_at1 ex_tk1 ex_fk1 ex_nd1 ex_op1 ex_ks ex_ec1 fx_9 rx_one rx_s iv_0 iv_1 iv_2 iv_3 iv_4 iv_5 iv_6 iv_7 iv_8 iv_9 iv_10 iv_11 iv_12 iv_13 iv_14
  have b_at1 : (0 : Int) ≤ at1 ∧ at1 ≤ 3002 := ex_at1 ▸ hWx.1 10
  have z_tk1 := tz_f tk1
  have b_tk1 : (0 : Int) ≤ tk1 ∧ tk1 ≤ 5 := ex_tk1 ▸ hWx.1 11
  have b_fk1 : (0 : Int) ≤ fk1 ∧ fk1 ≤ 6 := ex_fk1 ▸ hWx.1 16
  have b_nd1 : (0 : Int) ≤ nd1 ∧ nd1 ≤ 6999 := ex_nd1 ▸ hWx.1 31
  have b_op1 : (-2147483648 : Int) ≤ op1 ∧ op1 ≤ 2147483647 := ex_op1 ▸ hWx.1 15
  have b_ks : (0 : Int) ≤ ks ∧ ks ≤ 14 := ex_ks ▸ hWx.2 7 _
  refine jx_ld (pc' := 223) (l' := L) (st' := [.ref 66]) rfl (jl_aloadn gL_0) ?_
  refine jx_ld (pc' := 225) (l' := L) (st' := [.int (i32 (0)), .ref 66]) rfl (jl_iload gL_6) ?_
  refine jx_if_eq (pc' := 228) (tg := 232) rfl rfl rfl (by decide) (by decide) (fun h901 => ?_) (fun h901 => ?_)
  · have _q := h901
    refine jx_ar (pc' := 233) (st' := [.int (i32 (2)), .ref 66]) rfl rfl rfl rfl ?_
    refine jx_ld (pc' := 235) (l' := L) (st' := [.int (i32 (s)), .int (i32 (2)), .ref 66]) rfl (jl_iload gL_4) ?_
    refine jx_ld (pc' := 237) (l' := L) (st' := [.int (i32 (0)), .int (i32 (s)), .int (i32 (2)), .ref 66]) rfl (jl_iload gL_5) ?_
    refine jx_ar (pc' := 238) (st' := [.int (i32 (0)), .int (i32 (0)), .int (i32 (s)), .int (i32 (2)), .ref 66]) rfl rfl rfl rfl ?_
    refine jx_ar (pc' := 239) (st' := [.int (i32 (0)), .int (i32 (0)), .int (i32 (0)), .int (i32 (s)), .int (i32 (2)), .ref 66]) rfl rfl rfl rfl ?_
    refine jx_vr (pc' := 242) (as := [.int (i32 (2)), .int (i32 (s)), .int (i32 (0)), .int (i32 (0)), .int (i32 (0))]) (st := []) rfl rfl rfl rfl ⟨rfl, rfl, Nat.le_of_ble_eq_true rfl⟩ rfl rfl (c_node_o (dd := d) (hd := by omega) (hW := hWx) (kind := 2) (a := s) (b := 0) (c := 0) (e := 0) (nd := nd1) (e_nd := show Gx 31 = nd1 from (ex_nd1)) (ec := ec1) (e_ec := show ecn Ax (Gx 31) = ec1 from ex_ec1) (sy := sy) (e_sy := show Gx 19 = sy from ((hFx.1 19 rfl).trans (e_sy)))  (h_kind := ⟨(by decide), (by decide)⟩) (h_a := ⟨(Int.le_trans (by decide : (-2147483648 : Int) ≤ -2147483648) rx_s.1), (Int.le_trans rx_s.2 (by decide : (2147483647 : Int) ≤ 2147483647))⟩) (h_b := ⟨(by decide), (by decide)⟩) (h_c := ⟨(by decide), (by decide)⟩) (h_e := ⟨(by decide), (by decide)⟩)  (p_0 := by omega) (p_1 := by omega) (p_2 := by omega)) (fun o V' hq => ?_)
    obtain ⟨G902, A903, nd2_904, ec2_905, rfl, rfl, hW906, hF907, hQ908, e909, e910, p911, p912, p913, p914, -⟩ := hq
    have hF916 := Fr_tr hFx hF907 (Fr_sub (by decide)) (Fr_sub (by decide))
    have hP917 := Pf_tr hPx hQ908 (by omega)
    have sf918 : ND A903 (one) (33) (0) (0) (0) (0) (0) (0) := ND_ag (by omega) (Ag_pf hQ908 (by omega)) iv_10
    have sf919 : NdM A903 (nd) (nd1) (sy) := NdM_pf hQ908 (by omega) (by omega) iv_14
    have bnd2_904 : (0 : Int) ≤ nd2_904 ∧ nd2_904 ≤ 6999 := e909 ▸ hW906.1 31
    refine .inr ⟨_, rfl, ?_⟩
    refine jx_ld (pc' := 244) (l' := jSto1 L 10 (.int (i32 (nd1)))) (st' := []) rfl rfl ?_
    obtain ⟨L920, eL920⟩ : ∃ q, q = jSto1 L 10 (.int (i32 (nd1))) := ⟨_, rfl⟩
    rw [← eL920]
    have gL920_0 : jGet L920 0 = some (.ref 66) := eL920 ▸ jg_ne (by decide) gL_0 rfl
    have gL920_6 : jGet L920 6 = some (.int (i32 (0))) := eL920 ▸ jg_ne (by decide) gL_6 rfl
    have gL920_7 : jGet L920 7 = some (.int (i32 (1))) := eL920 ▸ jg_ne (by decide) gL_7 rfl
    have gL920_5 : jGet L920 5 = some (.int (i32 (0))) := eL920 ▸ jg_ne (by decide) gL_5 rfl
    have gL920_1 : jGet L920 1 = some (.int (i32 (one))) := eL920 ▸ jg_ne (by decide) gL_1 rfl
    have gL920_4 : jGet L920 4 = some (.int (i32 (s))) := eL920 ▸ jg_ne (by decide) gL_4 rfl
    have gL920_10 : jGet L920 10 = some (.int (i32 (nd1))) := eL920 ▸ jg_eq
    refine jx_ld (pc' := 246) (l' := L920) (st' := [.int (i32 (1))]) rfl (jl_iload gL920_7) ?_
    refine jx_if_eq (pc' := 249) (tg := 278) rfl rfl rfl (by decide) (by decide) (fun h921 => ?_) (fun h921 => ?_)
    · have _q := h921
      exact absurd h921 (by omega)
    · have _q := h921
      refine jx_ld (pc' := 250) (l' := L920) (st' := [.ref 66]) rfl (jl_aloadn gL920_0) ?_
      refine jr_get (pc' := 253) (i := 35) (v := .ref 85) rfl rfl (by decide) rfl rfl ?_
      refine jx_ld (pc' := 254) (l' := L920) (st' := [.int (i32 (one)), .ref 85]) rfl (jl_iloadn gL920_1) ?_
      refine jx_ld (pc' := 256) (l' := L920) (st' := [.int (i32 (nd1)), .int (i32 (one)), .ref 85]) rfl (jl_iload gL920_10) ?_
      refine jr_st (pc' := 257) (i := 18) (m := 7000) (z := one) (y := nd1) rfl (by decide) rfl (by decide) (by omega) (by omega) rfl ?_
      have hW923 : Wk G902 (uA A903 18 (one).toNat (nd1)) := Wk_a hW906 (show (-2147483648 : Int) ≤ nd1 by omega) (show nd1 ≤ (2147483647 : Int) by omega)
      have hF924 := Fr_a (z := nd1) (k := 18) (n := (one).toNat) hF916 (by decide)
      obtain ⟨A922, eA922⟩ : ∃ q, q = uA A903 18 (one).toNat (nd1) := ⟨_, rfl⟩
      rw [← eA922]
      rw [← eA922] at hW923 hF924
      have q925 : A922 18 (one).toNat = nd1 := by rw [eA922]; exact uA_eq
      have hP926 : Pf nd A A922 := eA922 ▸ Pf_a hP917 (z := one) (by omega) (by omega)
      have sf927 : ND A922 (one) (33) (0) (nd1) (0) (0) (0) (0) := ND_b eA922 sf918
      have sf928 : NdM A922 (nd) (nd1) (sy) := NdM_st eA922 (by decide) sf919
      have sf929 : ND A922 (nd1) (2) (s) (0) (0) (0) (0) (0) := ND_ag (by omega) (Ag_st eA922 (by omega) (by omega)) p913
      have sf930 : NdM A922 (nd1) (nd1 + 1) (sy) := NdM_st eA922 (by decide) p914
      have ec931 : ecn A922 (G902 31) = ec2_905 := (ecn_e ((congrFun eA922 15).trans (uA_ne (by decide)))).trans e910
      refine jx_ld (pc' := 258) (l' := L920) (st' := [.ref 66]) rfl (jl_aloadn gL920_0) ?_
      refine jx_vr (pc' := 261) (as := []) (st := []) rfl rfl rfl rfl ⟨rfl, rfl, Nat.le_of_ble_eq_true rfl⟩ rfl rfl (c_next (dd := d) (hd := by omega) (hW := hW923)  (ln := ln) (e_ln := show G902 9 = ln from ((hF907.1 9 rfl).trans (fx_9))) (le := le) (e_le := show A922 4 (ln).toNat = le from (congrFun (((congrFun eA922 4).trans (uA_ne (by decide))).trans ((hF907.2 4 rfl).trans (hFx.2 4 rfl))) _).trans (e_le)) (at0 := at1) (e_at0 := show G902 10 = at1 from ((hF907.1 10 rfl).trans (ex_at1)))    (p_0 := by omega)) (fun o V' hq => ?_)
      obtain ⟨G932, A933, at2_934, tk2_935, rfl, rfl, hW936, hF937, e938, e939, p940, p941, p942, -⟩ := hq
      have hF944 := Fr_tr hF924 hF937 (Fr_sub (by decide)) (Fr_sub (by decide))
      have hP945 := Pf_f hP926 hF937 (by decide)
      have sf946 : ND A933 (one) (33) (0) (nd1) (0) (0) (0) (0) := ND_ag (by omega) (Ag_fr hF937 (by decide)) sf927
      have sf947 : NdM A933 (nd) (nd1) (sy) := NdM_f hF937 (by decide) sf928
      have sf948 : ND A933 (nd1) (2) (s) (0) (0) (0) (0) (0) := ND_ag (by omega) (Ag_fr hF937 (by decide)) sf929
      have sf949 : NdM A933 (nd1) (nd1 + 1) (sy) := NdM_f hF937 (by decide) sf930
      have ec950 : ecn A933 (G932 31) = ec2_905 := (ecn_f (hF937.2 15 rfl) (hF937.1 31 rfl)).trans ec931
      have bat2_934 : (0 : Int) ≤ at2_934 ∧ at2_934 ≤ 3002 := e938 ▸ hW936.1 10
      have ztk2_935 := tz_b tk2_935
      have btk2_935 : (0 : Int) ≤ tk2_935 ∧ tk2_935 ≤ 5 := e939 ▸ hW936.1 11
      refine .inl ⟨rfl, ?_⟩
      have pz951 : at1 + tz tk2_935 ≤ at2_934 := by omega
      refine jx_ld (pc' := 262) (l' := L920) (st' := [.ref 66]) rfl (jl_aloadn gL920_0) ?_
      refine jr_get (pc' := 265) (i := 36) (v := .ref 86) rfl rfl (by decide) rfl rfl ?_
      refine jx_ld (pc' := 266) (l' := L920) (st' := [.int (i32 (one)), .ref 86]) rfl (jl_iloadn gL920_1) ?_
      refine jx_ld (pc' := 267) (l' := L920) (st' := [.ref 66, .int (i32 (one)), .ref 86]) rfl (jl_aloadn gL920_0) ?_
      refine jx_ar (pc' := 268) (st' := [.int (i32 (0)), .ref 66, .int (i32 (one)), .ref 86]) rfl rfl rfl rfl ?_
      refine jx_vr (pc' := 271) (as := [.int (i32 (0))]) (st := [.int (i32 (one)), .ref 86]) rfl rfl rfl rfl ⟨rfl, rfl, Nat.le_of_ble_eq_true rfl⟩ rfl rfl (c_readReference_w (dd := d) (hd := by omega) (hW := hW936) (ch := 0) (ln := ln) (e_ln := show G932 9 = ln from ((hF937.1 9 rfl).trans ((hF907.1 9 rfl).trans (fx_9)))) (le := le) (e_le := show A933 4 (ln).toNat = le from (congrFun ((hF937.2 4 rfl).trans (((congrFun eA922 4).trans (uA_ne (by decide))).trans ((hF907.2 4 rfl).trans (hFx.2 4 rfl)))) _).trans (e_le)) (at0 := at2_934) (e_at0 := show G932 10 = at2_934 from (e938)) (fk := fk1) (e_fk := show G932 16 = fk1 from ((hF937.1 16 rfl).trans ((hF907.1 16 rfl).trans (ex_fk1)))) (op0 := op1) (e_op0 := show G932 15 = op1 from ((hF937.1 15 rfl).trans ((hF907.1 15 rfl).trans (ex_op1)))) (nd := nd2_904) (e_nd := show G932 31 = nd2_904 from ((hF937.1 31 rfl).trans (e909))) (tk0 := tk2_935) (e_tk0 := show G932 11 = tk2_935 from (e939)) (ec := ec2_905) (e_ec := show ecn A933 (G932 31) = ec2_905 from ec950) (sy := sy) (e_sy := show G932 19 = sy from ((hF937.1 19 rfl).trans ((hF907.1 19 rfl).trans ((hFx.1 19 rfl).trans (e_sy))))) (i_SV := (SV_ext (((hF937.1 29 rfl).trans ((hF907.1 29 rfl).trans (hFx.1 29 rfl)))) (((hF937.2 14 rfl).trans (((congrFun eA922 14).trans (uA_ne (by decide))).trans ((hF907.2 14 rfl).trans (hFx.2 14 rfl))))) i_SV)) (h_ch := ⟨(by decide), (by decide)⟩)  (p_0 := by omega) (p_1 := by omega) (p_2 := by omega) (p_3 := by omega) (p_4 := by omega)) (fun o V' hq => ?_)
      obtain ⟨G952, A953, r954, at2_955, fk2_956, op2_957, nd2_958, tk2_959, ec2_960, rfl, rfl, hW961, hF962, hQ963, b964, e965, e966, e967, e968, e969, e970, p971, p972, p973, p974, p975, p976, q977⟩ := hq
      have hF978 := Fr_tr hF944 hF962 (Fr_sub (by decide)) (Fr_sub (by decide))
      have k979 : A953 18 (one).toNat = nd1 := (hQ963 18 _ rfl (by omega)).trans (show A933 18 (one).toNat = nd1 from (congrFun (hF937.2 18 rfl) _).trans (q925))
      have hP980 := Pf_tr hP945 hQ963 (by omega)
      have sf981 : ND A953 (one) (33) (0) (nd1) (0) (0) (0) (0) := ND_ag (by omega) (Ag_pf hQ963 (by omega)) sf946
      have sf982 : NdM A953 (nd) (nd1) (sy) := NdM_pf hQ963 (by omega) (by omega) sf947
      have sf983 : ND A953 (nd1) (2) (s) (0) (0) (0) (0) (0) := ND_ag (by omega) (Ag_pf hQ963 (by omega)) sf948
      have sf984 : NdM A953 (nd1) (nd1 + 1) (sy) := NdM_pf hQ963 (by omega) (by omega) sf949
      have bat2_955 : (0 : Int) ≤ at2_955 ∧ at2_955 ≤ 3002 := e965 ▸ hW961.1 10
      have bfk2_956 : (0 : Int) ≤ fk2_956 ∧ fk2_956 ≤ 6 := e966 ▸ hW961.1 16
      have bop2_957 : (-2147483648 : Int) ≤ op2_957 ∧ op2_957 ≤ 2147483647 := e967 ▸ hW961.1 15
      have bnd2_958 : (0 : Int) ≤ nd2_958 ∧ nd2_958 ≤ 6999 := e968 ▸ hW961.1 31
      have ztk2_959 := tz_b tk2_959
      have btk2_959 : (0 : Int) ≤ tk2_959 ∧ tk2_959 ≤ 5 := e969 ▸ hW961.1 11
      refine .inr ⟨_, rfl, ?_⟩
      rcases q977 with ⟨a985, a986, a987, a988, a989, a990⟩ | ⟨a991, a992, a993⟩ | ⟨a994, a995, a996, a997, a998, a999, a1000⟩
      · have _q : True := trivial
        exfalso
        omega
      · have _q : True := trivial
        refine jr_st (pc' := 272) (i := 19) (m := 7000) (z := one) (y := r954) rfl (by decide) rfl (by decide) (by omega) (by omega) rfl ?_
        have hW1002 : Wk G952 (uA A953 19 (one).toNat (r954)) := Wk_a hW961 (show (-2147483648 : Int) ≤ r954 by omega) (show r954 ≤ (2147483647 : Int) by omega)
        have hF1003 := Fr_a (z := r954) (k := 19) (n := (one).toNat) hF978 (by decide)
        obtain ⟨A1001, eA1001⟩ : ∃ q, q = uA A953 19 (one).toNat (r954) := ⟨_, rfl⟩
        rw [← eA1001]
        rw [← eA1001] at hW1002 hF1003
        have q1004 : A1001 19 (one).toNat = r954 := by rw [eA1001]; exact uA_eq
        have hP1005 : Pf nd A A1001 := eA1001 ▸ Pf_a hP980 (z := one) (by omega) (by omega)
        have sf1006 : ND A1001 (one) (33) (0) (nd1) (r954) (0) (0) (0) := ND_c eA1001 sf981
        have sf1007 : NdM A1001 (nd) (nd1) (sy) := NdM_st eA1001 (by decide) sf982
        have sf1008 : ND A1001 (nd1) (2) (s) (0) (0) (0) (0) (0) := ND_ag (by omega) (Ag_st eA1001 (by omega) (by omega)) sf983
        have sf1009 : NdM A1001 (nd1) (nd1 + 1) (sy) := NdM_st eA1001 (by decide) sf984
        have ec1010 : ecn A1001 (G952 31) = ec2_960 := (ecn_e ((congrFun eA1001 15).trans (uA_ne (by decide)))).trans e970
        refine jx_ld (pc' := 273) (l' := L920) (st' := [.ref 66]) rfl (jl_aloadn gL920_0) ?_
        refine jx_vr (pc' := 276) (as := []) (st := []) rfl rfl rfl rfl ⟨rfl, rfl, Nat.le_of_ble_eq_true rfl⟩ rfl rfl (c_endLine (dd := d) (hd := by omega) (hW := hW1002)  (ln := ln) (e_ln := show G952 9 = ln from ((hF962.1 9 rfl).trans ((hF937.1 9 rfl).trans ((hF907.1 9 rfl).trans (fx_9))))) (li := li) (e_li := show G952 3 = li from ((hF962.1 3 rfl).trans ((hF937.1 3 rfl).trans ((hF907.1 3 rfl).trans ((hFx.1 3 rfl).trans (e_li)))))) (fk := fk2_956) (e_fk := show G952 16 = fk2_956 from (e966)) (tk0 := tk2_959) (e_tk0 := show G952 11 = tk2_959 from (e969))    (p_0 := by omega)) (fun o V' hq => ?_)
        obtain ⟨G1011, A1012, ln2_1013, fk2_1014, rfl, rfl, hW1015, hF1016, e1017, e1018, q1019⟩ := hq
        have hF1020 := Fr_tr hF1003 hF1016 (Fr_sub (by decide)) (Fr_sub (by decide))
        have hP1021 := Pf_f hP1005 hF1016 (by decide)
        have sf1022 : ND A1012 (one) (33) (0) (nd1) (r954) (0) (0) (0) := ND_ag (by omega) (Ag_fr hF1016 (by decide)) sf1006
        have sf1023 : NdM A1012 (nd) (nd1) (sy) := NdM_f hF1016 (by decide) sf1007
        have sf1024 : ND A1012 (nd1) (2) (s) (0) (0) (0) (0) (0) := ND_ag (by omega) (Ag_fr hF1016 (by decide)) sf1008
        have sf1025 : NdM A1012 (nd1) (nd1 + 1) (sy) := NdM_f hF1016 (by decide) sf1009
        have ec1026 : ecn A1012 (G1011 31) = ec2_960 := (ecn_f (hF1016.2 15 rfl) (hF1016.1 31 rfl)).trans ec1010
        have bln2_1013 : (0 : Int) ≤ ln2_1013 ∧ ln2_1013 ≤ 3000 := e1017 ▸ hW1015.1 9
        have bfk2_1014 : (0 : Int) ≤ fk2_1014 ∧ fk2_1014 ≤ 6 := e1018 ▸ hW1015.1 16
        refine .inl ⟨rfl, ?_⟩
        rcases q1019 with ⟨a1027, a1028, a1029, a1030, a1031⟩ | ⟨a1032, a1033⟩
        · have _q : True := trivial
          exfalso
          omega
        · have _q : True := trivial
          refine jx_ld (pc' := 277) (l' := L920) (st' := [.int (i32 (one))]) rfl (jl_iloadn gL920_1) ?_
          refine jx_rt (v := some (.int (i32 (one)))) rfl rfl rfl rfl rfl rfl ?_
          exact ⟨_, _, _, at2_955, fk2_1014, nd2_958, ln2_1013, ec2_960, rfl, rfl, hW1015, hF1020, hP1021, by omega, ((hF1016.1 10 rfl).trans (e965)), (e1018), ((hF1016.1 31 rfl).trans (e968)), (e1017), ec1026, by omega, by omega, by omega, by omega, by omega, by first | exact Or.inl (⟨by omega, by omega, by omega⟩)⟩
      · have _q : True := trivial
        refine jr_st (pc' := 272) (i := 19) (m := 7000) (z := one) (y := r954) rfl (by decide) rfl (by decide) (by omega) (by omega) rfl ?_
        have hW1035 : Wk G952 (uA A953 19 (one).toNat (r954)) := Wk_a hW961 (show (-2147483648 : Int) ≤ r954 by omega) (show r954 ≤ (2147483647 : Int) by omega)
        have hF1036 := Fr_a (z := r954) (k := 19) (n := (one).toNat) hF978 (by decide)
        obtain ⟨A1034, eA1034⟩ : ∃ q, q = uA A953 19 (one).toNat (r954) := ⟨_, rfl⟩
        rw [← eA1034]
        rw [← eA1034] at hW1035 hF1036
        have q1037 : A1034 19 (one).toNat = r954 := by rw [eA1034]; exact uA_eq
        have hP1038 : Pf nd A A1034 := eA1034 ▸ Pf_a hP980 (z := one) (by omega) (by omega)
        have sf1039 : ND A1034 (one) (33) (0) (nd1) (r954) (0) (0) (0) := ND_c eA1034 sf981
        have sf1040 : NdM A1034 (nd) (nd1) (sy) := NdM_st eA1034 (by decide) sf982
        have sf1041 : ND A1034 (nd1) (2) (s) (0) (0) (0) (0) (0) := ND_ag (by omega) (Ag_st eA1034 (by omega) (by omega)) sf983
        have sf1042 : NdM A1034 (nd1) (nd1 + 1) (sy) := NdM_st eA1034 (by decide) sf984
        have sf1043 : wR A1034 Vs sb (20) (0) (r954) (nd2_904) (nd2_958) := wR_ag (by omega) (Sg_ne eA1034 rfl) (Ag_st eA1034 (by omega) (by omega)) a997
        have sf1044 : NdM A1034 (nd2_904) (nd2_958) (sy) := NdM_st eA1034 (by decide) a999
        have ec1045 : ecn A1034 (G952 31) = ec2_960 := (ecn_e ((congrFun eA1034 15).trans (uA_ne (by decide)))).trans e970
        refine jx_ld (pc' := 273) (l' := L920) (st' := [.ref 66]) rfl (jl_aloadn gL920_0) ?_
        refine jx_vr (pc' := 276) (as := []) (st := []) rfl rfl rfl rfl ⟨rfl, rfl, Nat.le_of_ble_eq_true rfl⟩ rfl rfl (c_endLine (dd := d) (hd := by omega) (hW := hW1035)  (ln := ln) (e_ln := show G952 9 = ln from ((hF962.1 9 rfl).trans ((hF937.1 9 rfl).trans ((hF907.1 9 rfl).trans (fx_9))))) (li := li) (e_li := show G952 3 = li from ((hF962.1 3 rfl).trans ((hF937.1 3 rfl).trans ((hF907.1 3 rfl).trans ((hFx.1 3 rfl).trans (e_li)))))) (fk := fk2_956) (e_fk := show G952 16 = fk2_956 from (e966)) (tk0 := tk2_959) (e_tk0 := show G952 11 = tk2_959 from (e969))    (p_0 := by omega)) (fun o V' hq => ?_)
        obtain ⟨G1046, A1047, ln2_1048, fk2_1049, rfl, rfl, hW1050, hF1051, e1052, e1053, q1054⟩ := hq
        have hF1055 := Fr_tr hF1036 hF1051 (Fr_sub (by decide)) (Fr_sub (by decide))
        have hP1056 := Pf_f hP1038 hF1051 (by decide)
        have sf1057 : ND A1047 (one) (33) (0) (nd1) (r954) (0) (0) (0) := ND_ag (by omega) (Ag_fr hF1051 (by decide)) sf1039
        have sf1058 : NdM A1047 (nd) (nd1) (sy) := NdM_f hF1051 (by decide) sf1040
        have sf1059 : ND A1047 (nd1) (2) (s) (0) (0) (0) (0) (0) := ND_ag (by omega) (Ag_fr hF1051 (by decide)) sf1041
        have sf1060 : NdM A1047 (nd1) (nd1 + 1) (sy) := NdM_f hF1051 (by decide) sf1042
        have sf1061 : wR A1047 Vs sb (20) (0) (r954) (nd2_904) (nd2_958) := wR_ag (by omega) (Sg_fr hF1051 (by decide)) (Ag_fr hF1051 (by decide)) sf1043
        have sf1062 : NdM A1047 (nd2_904) (nd2_958) (sy) := NdM_f hF1051 (by decide) sf1044
        have ec1063 : ecn A1047 (G1046 31) = ec2_960 := (ecn_f (hF1051.2 15 rfl) (hF1051.1 31 rfl)).trans ec1045
        have bln2_1048 : (0 : Int) ≤ ln2_1048 ∧ ln2_1048 ≤ 3000 := e1052 ▸ hW1050.1 9
        have bfk2_1049 : (0 : Int) ≤ fk2_1049 ∧ fk2_1049 ≤ 6 := e1053 ▸ hW1050.1 16
        refine .inl ⟨rfl, ?_⟩
        rcases q1054 with ⟨a1064, a1065, a1066, a1067, a1068⟩ | ⟨a1069, a1070⟩
        · have _q : True := trivial
          refine jx_ld (pc' := 277) (l' := L920) (st' := [.int (i32 (one))]) rfl (jl_iloadn gL920_1) ?_
          refine jx_rt (v := some (.int (i32 (one)))) rfl rfl rfl rfl rfl rfl ?_
          exact ⟨_, _, _, at2_955, fk2_1049, nd2_958, ln2_1048, ec2_960, rfl, rfl, hW1050, hF1055, hP1056, by omega, ((hF1051.1 10 rfl).trans (e965)), (e1053), ((hF1051.1 31 rfl).trans (e968)), (e1052), ec1063, by omega, by omega, by omega, by omega, by omega, by first | exact Or.inr ((⟨by omega, by omega, by omega, by omega, by omega, (wU_ch (m := (nd1 + 1)) sf1057 (by omega) (by omega) (by omega) (by omega) (wR_var sf1059 (by omega) (by omega) iv_9 (kq (P := kRef (1)) (show A1047 7 (s).toNat = ks from (congrFun ((hF1051.2 7 rfl).trans (((congrFun eA1034 7).trans (uA_ne (by decide))).trans ((hF962.2 7 rfl).trans ((hF937.2 7 rfl).trans (((congrFun eA922 7).trans (uA_ne (by decide))).trans (hF907.2 7 rfl)))))) _).trans (ex_ks)) (by first | exact .inr ⟨by omega, iv_12⟩))) (wR_mono (by omega) (by omega) (by omega) sf1061)), (NX_nd sf1057), by omega, (NdM_w (NdM_app (sy := sy) sf1058 (NdM_app (sy := sy) sf1060 sf1062 (by omega) (by omega) (by omega)) (by omega) (by omega) (by omega)) (by omega) (by omega) (by omega))⟩))⟩
        · have _q : True := trivial
          refine jx_ld (pc' := 277) (l' := L920) (st' := [.int (i32 (one))]) rfl (jl_iloadn gL920_1) ?_
          refine jx_rt (v := some (.int (i32 (one)))) rfl rfl rfl rfl rfl rfl ?_
          exact ⟨_, _, _, at2_955, fk2_1049, nd2_958, ln2_1048, ec2_960, rfl, rfl, hW1050, hF1055, hP1056, by omega, ((hF1051.1 10 rfl).trans (e965)), (e1053), ((hF1051.1 31 rfl).trans (e968)), (e1052), ec1063, by omega, by omega, by omega, by omega, by omega, by first | exact Or.inl (⟨by omega, by omega, by omega⟩)⟩
  · have _q := h901
    exact absurd h901 (by omega)
set_option maxRecDepth 20000 in
set_option maxHeartbeats 4000000 in
theorem c_readGuard_w_at_222_0_0 {X : jX} {d : Nat} {Vs : Nat → Prop} {sb : Int} {c0 c1 : jC} {G : Nat → Int} {A : Nat → Nat → Int} {T : jH} {ln le at0 fk op0 nd tk0 li ec sy : Int} (hd : 71 ≤ d + 1) (hW : Wk G A) (e_ln : G 9 = ln) (e_le : A 4 (ln).toNat = le) (e_at0 : G 10 = at0) (e_fk : G 16 = fk) (e_op0 : G 15 = op0) (e_nd : G 31 = nd) (e_tk0 : G 11 = tk0) (e_li : G 3 = li) (e_ec : ecn A (G 31) = ec) (e_sy : G 19 = sy) (i_SV : SV Vs sb G A) (p_0 : 0 ≤ op0 ∧ op0 ≤ 8) (p_1 : fk = 0) (p_2 : nd ≤ 2 * at0 - tz tk0 + 42) (p_3 : at0 ≤ le) (p_4 : ln < li) : ∀ (L : jL) (Gx : Nat → Int) (Ax : Nat → Nat → Int) (one s at1 tk1 fk1 nd1 op1 ks ec1 : Int), jGet L 0 = some (.ref 66) → jGet L 6 = some (.int (i32 (0))) → jGet L 7 = some (.int (i32 (0))) → jGet L 5 = some (.int (i32 (0))) → jGet L 1 = some (.int (i32 one)) → jGet L 4 = some (.int (i32 s)) → Wk Gx Ax → Fr [9, 10, 11, 12, 13, 14, 15, 16, 17, 18, 31] [15, 16, 17, 18, 19, 20, 21, 22, 24, 28] G A Gx Ax → Pf nd A Ax → Gx 10 = at1 → Gx 11 = tk1 → Gx 16 = fk1 → Gx 31 = nd1 → Gx 15 = op1 → Ax 7 (s).toNat = ks → ecn Ax (Gx 31) = ec1 → Gx 9 = ln → ((-2147483648 : Int) ≤ one ∧ one ≤ 2147483647) → ((-2147483648 : Int) ≤ s ∧ s ≤ 2147483647) → (at0 ≤ at1) → (at1 ≤ le) → (nd ≤ nd1) → (op1 = op0) → (one = nd) → (one ≤ 6998 ∧ one < nd1) → (fk1 = 0) → (nd1 - nd ≤ (2 * at1 - tz tk1) - (2 * at0 - tz tk0)) → (0 ≤ s ∧ s ≤ 201) → (SY Vs sb (s)) → (ND Ax (one) (33) (0) (0) (0) (0) (0) (0)) → (kVal (ks)) → (nd1 - nd + 5 * (ec1 - ec) ≤ (2 * at1 - tz tk1) - (2 * at0 - tz tk0) - tz tk1) → (NdM Ax (nd) (nd1) (sy)) → wj X d jm303 (222, L, [], rV c0 c1 Gx Ax T) (fun o V' => ∃ (G' : Nat → Int) (A' : Nat → Nat → Int) (r : Int) (at2 : Int) (fk2 : Int) (nd2 : Int) (ln2 : Int) (ec2 : Int), V' = rV c0 c1 G' A' T ∧ o = .inl (some (.int (i32 r))) ∧ Wk G' A' ∧ Fr [9, 10, 11, 12, 13, 14, 15, 16, 17, 18, 31] [15, 16, 17, 18, 19, 20, 21, 22, 24, 28] G A G' A' ∧ Pf nd A A' ∧ ((-2147483648 : Int) ≤ r ∧ r ≤ 2147483647) ∧ G' 10 = at2 ∧ G' 16 = fk2 ∧ G' 31 = nd2 ∧ G' 9 = ln2 ∧ ecn A' (G' 31) = ec2 ∧ (at0 ≤ at2) ∧ (at2 ≤ le) ∧ (nd ≤ nd2) ∧ (0 ≤ r) ∧ (r ≤ nd2) ∧ (((1 ≤ fk2) ∧ (ln2 = ln) ∧ (nd2 - nd ≤ 2 * at2 - 2 * at0 + 12)) ∨ ((fk2 = 0) ∧ (ln2 = ln + 1) ∧ (nd2 - nd ≤ 2 * at2 - (2 * at0 - tz tk0) + 0) ∧ (nd ≤ r) ∧ (r < nd2) ∧ (wU A' Vs sb (r) (nd) (nd2)) ∧ (NX A' (r)) ∧ (nd2 - nd + 5 * (ec2 - ec) ≤ 2 * at2 - (2 * at0 - tz tk0) + 0) ∧ (NdM A' (nd) (nd2) (sy))))) := by
  have hF0 : Fr [9, 10, 11, 12, 13, 14, 15, 16, 17, 18, 31] [15, 16, 17, 18, 19, 20, 21, 22, 24, 28] G A G A := Fr_rf
  have hP0 : Pf nd A A := Pf_rf
  have b_ln : (0 : Int) ≤ ln ∧ ln ≤ 3000 := e_ln ▸ hW.1 9
  have b_le : (0 : Int) ≤ le ∧ le ≤ 3000 := e_le ▸ hW.2 4 _
  have b_at0 : (0 : Int) ≤ at0 ∧ at0 ≤ 3002 := e_at0 ▸ hW.1 10
  have b_fk : (0 : Int) ≤ fk ∧ fk ≤ 6 := e_fk ▸ hW.1 16
  have b_op0 : (-2147483648 : Int) ≤ op0 ∧ op0 ≤ 2147483647 := e_op0 ▸ hW.1 15
  have b_nd : (0 : Int) ≤ nd ∧ nd ≤ 6999 := e_nd ▸ hW.1 31
  have z_tk0 := tz_f tk0
  have b_tk0 : (0 : Int) ≤ tk0 ∧ tk0 ≤ 5 := e_tk0 ▸ hW.1 11
  have b_li : (0 : Int) ≤ li ∧ li ≤ 3000 := e_li ▸ hW.1 3
  have b_sy : (0 : Int) ≤ sy ∧ sy ≤ 202 := e_sy ▸ hW.1 19
  intro L Gx Ax one s at1 tk1 fk1 nd1 op1 ks ec1 gL_0 gL_6 gL_7 gL_5 gL_1 gL_4 hWx hFx hPx ex_at1 ex_tk1 ex_fk1 ex_nd1 ex_op1 ex_ks ex_ec1 fx_9 rx_one rx_s iv_0 iv_1 iv_2 iv_3 iv_4 iv_5 iv_6 iv_7 iv_8 iv_9 iv_10 iv_11 iv_12 iv_13
  have b_at1 : (0 : Int) ≤ at1 ∧ at1 ≤ 3002 := ex_at1 ▸ hWx.1 10
  have z_tk1 := tz_f tk1
  have b_tk1 : (0 : Int) ≤ tk1 ∧ tk1 ≤ 5 := ex_tk1 ▸ hWx.1 11
  have b_fk1 : (0 : Int) ≤ fk1 ∧ fk1 ≤ 6 := ex_fk1 ▸ hWx.1 16
  have b_nd1 : (0 : Int) ≤ nd1 ∧ nd1 ≤ 6999 := ex_nd1 ▸ hWx.1 31
  have b_op1 : (-2147483648 : Int) ≤ op1 ∧ op1 ≤ 2147483647 := ex_op1 ▸ hWx.1 15
  have b_ks : (0 : Int) ≤ ks ∧ ks ≤ 14 := ex_ks ▸ hWx.2 7 _
  refine jx_ld (pc' := 223) (l' := L) (st' := [.ref 66]) rfl (jl_aloadn gL_0) ?_
  refine jx_ld (pc' := 225) (l' := L) (st' := [.int (i32 (0)), .ref 66]) rfl (jl_iload gL_6) ?_
  refine jx_if_eq (pc' := 228) (tg := 232) rfl rfl rfl (by decide) (by decide) (fun h1071 => ?_) (fun h1071 => ?_)
  · have _q := h1071
    refine jx_ar (pc' := 233) (st' := [.int (i32 (2)), .ref 66]) rfl rfl rfl rfl ?_
    refine jx_ld (pc' := 235) (l' := L) (st' := [.int (i32 (s)), .int (i32 (2)), .ref 66]) rfl (jl_iload gL_4) ?_
    refine jx_ld (pc' := 237) (l' := L) (st' := [.int (i32 (0)), .int (i32 (s)), .int (i32 (2)), .ref 66]) rfl (jl_iload gL_5) ?_
    refine jx_ar (pc' := 238) (st' := [.int (i32 (0)), .int (i32 (0)), .int (i32 (s)), .int (i32 (2)), .ref 66]) rfl rfl rfl rfl ?_
    refine jx_ar (pc' := 239) (st' := [.int (i32 (0)), .int (i32 (0)), .int (i32 (0)), .int (i32 (s)), .int (i32 (2)), .ref 66]) rfl rfl rfl rfl ?_
    refine jx_vr (pc' := 242) (as := [.int (i32 (2)), .int (i32 (s)), .int (i32 (0)), .int (i32 (0)), .int (i32 (0))]) (st := []) rfl rfl rfl rfl ⟨rfl, rfl, Nat.le_of_ble_eq_true rfl⟩ rfl rfl (c_node_o (dd := d) (hd := by omega) (hW := hWx) (kind := 2) (a := s) (b := 0) (c := 0) (e := 0) (nd := nd1) (e_nd := show Gx 31 = nd1 from (ex_nd1)) (ec := ec1) (e_ec := show ecn Ax (Gx 31) = ec1 from ex_ec1) (sy := sy) (e_sy := show Gx 19 = sy from ((hFx.1 19 rfl).trans (e_sy)))  (h_kind := ⟨(by decide), (by decide)⟩) (h_a := ⟨(Int.le_trans (by decide : (-2147483648 : Int) ≤ -2147483648) rx_s.1), (Int.le_trans rx_s.2 (by decide : (2147483647 : Int) ≤ 2147483647))⟩) (h_b := ⟨(by decide), (by decide)⟩) (h_c := ⟨(by decide), (by decide)⟩) (h_e := ⟨(by decide), (by decide)⟩)  (p_0 := by omega) (p_1 := by omega) (p_2 := by omega)) (fun o V' hq => ?_)
    obtain ⟨G1072, A1073, nd2_1074, ec2_1075, rfl, rfl, hW1076, hF1077, hQ1078, e1079, e1080, p1081, p1082, p1083, p1084, -⟩ := hq
    have hF1086 := Fr_tr hFx hF1077 (Fr_sub (by decide)) (Fr_sub (by decide))
    have hP1087 := Pf_tr hPx hQ1078 (by omega)
    have sf1088 : ND A1073 (one) (33) (0) (0) (0) (0) (0) (0) := ND_ag (by omega) (Ag_pf hQ1078 (by omega)) iv_10
    have sf1089 : NdM A1073 (nd) (nd1) (sy) := NdM_pf hQ1078 (by omega) (by omega) iv_13
    have bnd2_1074 : (0 : Int) ≤ nd2_1074 ∧ nd2_1074 ≤ 6999 := e1079 ▸ hW1076.1 31
    refine .inr ⟨_, rfl, ?_⟩
    refine jx_ld (pc' := 244) (l' := jSto1 L 10 (.int (i32 (nd1)))) (st' := []) rfl rfl ?_
    obtain ⟨L1090, eL1090⟩ : ∃ q, q = jSto1 L 10 (.int (i32 (nd1))) := ⟨_, rfl⟩
    rw [← eL1090]
    have gL1090_0 : jGet L1090 0 = some (.ref 66) := eL1090 ▸ jg_ne (by decide) gL_0 rfl
    have gL1090_6 : jGet L1090 6 = some (.int (i32 (0))) := eL1090 ▸ jg_ne (by decide) gL_6 rfl
    have gL1090_7 : jGet L1090 7 = some (.int (i32 (0))) := eL1090 ▸ jg_ne (by decide) gL_7 rfl
    have gL1090_5 : jGet L1090 5 = some (.int (i32 (0))) := eL1090 ▸ jg_ne (by decide) gL_5 rfl
    have gL1090_1 : jGet L1090 1 = some (.int (i32 (one))) := eL1090 ▸ jg_ne (by decide) gL_1 rfl
    have gL1090_4 : jGet L1090 4 = some (.int (i32 (s))) := eL1090 ▸ jg_ne (by decide) gL_4 rfl
    have gL1090_10 : jGet L1090 10 = some (.int (i32 (nd1))) := eL1090 ▸ jg_eq
    refine jx_ld (pc' := 246) (l' := L1090) (st' := [.int (i32 (0))]) rfl (jl_iload gL1090_7) ?_
    refine jx_if_eq (pc' := 249) (tg := 278) rfl rfl rfl (by decide) (by decide) (fun h1091 => ?_) (fun h1091 => ?_)
    · have _q := h1091
      refine jx_ld (pc' := 279) (l' := L1090) (st' := [.ref 66]) rfl (jl_aloadn gL1090_0) ?_
      refine jx_ld (pc' := 281) (l' := L1090) (st' := [.int (i32 (nd1)), .ref 66]) rfl (jl_iload gL1090_10) ?_
      refine jx_vr (pc' := 284) (as := [.int (i32 (nd1))]) (st := []) rfl rfl rfl rfl ⟨rfl, rfl, Nat.le_of_ble_eq_true rfl⟩ rfl rfl (c_readRest_w (dd := d) (k := 9) (hE := REw_all X 9) (hd := by omega) (hW := hW1076) (x := nd1) (lo := (one + 1)) (ln := ln) (e_ln := show G1072 9 = ln from ((hF1077.1 9 rfl).trans (fx_9))) (le := le) (e_le := show A1073 4 (ln).toNat = le from (congrFun ((hF1077.2 4 rfl).trans (hFx.2 4 rfl)) _).trans (e_le)) (at0 := at1) (e_at0 := show G1072 10 = at1 from ((hF1077.1 10 rfl).trans (ex_at1))) (fk := fk1) (e_fk := show G1072 16 = fk1 from ((hF1077.1 16 rfl).trans (ex_fk1))) (op0 := op1) (e_op0 := show G1072 15 = op1 from ((hF1077.1 15 rfl).trans (ex_op1))) (nd := nd2_1074) (e_nd := show G1072 31 = nd2_1074 from (e1079)) (tk0 := tk1) (e_tk0 := show G1072 11 = tk1 from ((hF1077.1 11 rfl).trans (ex_tk1))) (ec := ec2_1075) (e_ec := show ecn A1073 (G1072 31) = ec2_1075 from e1080) (sy := sy) (e_sy := show G1072 19 = sy from ((hF1077.1 19 rfl).trans ((hFx.1 19 rfl).trans (e_sy)))) (i_SV := (SV_ext (((hF1077.1 29 rfl).trans (hFx.1 29 rfl))) (((hF1077.2 14 rfl).trans (hFx.2 14 rfl))) i_SV)) (h_x := ⟨(Int.le_trans (by decide : (-2147483648 : Int) ≤ 0) b_nd1.1), (Int.le_trans b_nd1.2 (by decide : (6999 : Int) ≤ 2147483647))⟩)  (p_0 := by omega) (p_1 := by omega) (p_2 := by omega) (p_3 := by omega) (p_4 := by omega) (p_5 := by omega) (p_6 := by omega) (p_7 := by omega) (p_8 := by omega) (p_9 := (fun _ => (wE_var p1083 (by omega) (by omega) iv_9 (kq (P := kVal) (show A1073 7 (s).toNat = ks from (congrFun (hF1077.2 7 rfl) _).trans (ex_ks)) iv_11))))) (fun o V' hq => ?_)
      obtain ⟨G1092, A1093, r1094, at2_1095, fk2_1096, op2_1097, nd2_1098, tk2_1099, ec2_1100, rfl, rfl, hW1101, hF1102, hQ1103, b1104, e1105, e1106, e1107, e1108, e1109, e1110, p1111, p1112, p1113, p1114, p1115, p1116, q1117⟩ := hq
      have hF1118 := Fr_tr hF1086 hF1102 (Fr_sub (by decide)) (Fr_sub (by decide))
      have hP1119 := Pf_tr hP1087 hQ1103 (by omega)
      have sf1120 : ND A1093 (one) (33) (0) (0) (0) (0) (0) (0) := ND_ag (by omega) (Ag_pf hQ1103 (by omega)) sf1088
      have sf1121 : NdM A1093 (nd) (nd1) (sy) := NdM_pf hQ1103 (by omega) (by omega) sf1089
      have sf1122 : ND A1093 (nd1) (2) (s) (0) (0) (0) (0) (0) := ND_ag (by omega) (Ag_pf hQ1103 (by omega)) p1083
      have sf1123 : NdM A1093 (nd1) (nd1 + 1) (sy) := NdM_pf hQ1103 (by omega) (by omega) p1084
      have bat2_1095 : (0 : Int) ≤ at2_1095 ∧ at2_1095 ≤ 3002 := e1105 ▸ hW1101.1 10
      have bfk2_1096 : (0 : Int) ≤ fk2_1096 ∧ fk2_1096 ≤ 6 := e1106 ▸ hW1101.1 16
      have bop2_1097 : (-2147483648 : Int) ≤ op2_1097 ∧ op2_1097 ≤ 2147483647 := e1107 ▸ hW1101.1 15
      have bnd2_1098 : (0 : Int) ≤ nd2_1098 ∧ nd2_1098 ≤ 6999 := e1108 ▸ hW1101.1 31
      have ztk2_1099 := tz_b tk2_1099
      have btk2_1099 : (0 : Int) ≤ tk2_1099 ∧ tk2_1099 ≤ 5 := e1109 ▸ hW1101.1 11
      refine .inr ⟨_, rfl, ?_⟩
      rcases q1117 with ⟨a1124, a1125, a1126, a1127, a1128, a1129⟩ | ⟨a1130, a1131, a1132⟩ | ⟨a1133, a1134, a1135, a1136, a1137, a1138⟩
      · have _q : True := trivial
        exfalso
        omega
      · have _q : True := trivial
        refine jx_ld (pc' := 285) (l' := jSto1 L1090 2 (.int (i32 (r1094)))) (st' := []) rfl rfl ?_
        obtain ⟨L1139, eL1139⟩ : ∃ q, q = jSto1 L1090 2 (.int (i32 (r1094))) := ⟨_, rfl⟩
        rw [← eL1139]
        have gL1139_0 : jGet L1139 0 = some (.ref 66) := eL1139 ▸ jg_ne (by decide) gL1090_0 rfl
        have gL1139_6 : jGet L1139 6 = some (.int (i32 (0))) := eL1139 ▸ jg_ne (by decide) gL1090_6 rfl
        have gL1139_7 : jGet L1139 7 = some (.int (i32 (0))) := eL1139 ▸ jg_ne (by decide) gL1090_7 rfl
        have gL1139_5 : jGet L1139 5 = some (.int (i32 (0))) := eL1139 ▸ jg_ne (by decide) gL1090_5 rfl
        have gL1139_1 : jGet L1139 1 = some (.int (i32 (one))) := eL1139 ▸ jg_ne (by decide) gL1090_1 rfl
        have gL1139_4 : jGet L1139 4 = some (.int (i32 (s))) := eL1139 ▸ jg_ne (by decide) gL1090_4 rfl
        have gL1139_10 : jGet L1139 10 = some (.int (i32 (nd1))) := eL1139 ▸ jg_ne (by decide) gL1090_10 rfl
        have gL1139_2 : jGet L1139 2 = some (.int (i32 (r1094))) := eL1139 ▸ jg_eq
        refine jx_go (tg := 293) rfl rfl ?_
        have z1140 := tz_f (tk2_1099)
        exact c_readGuard_w_at_293p (X := X) (d := d) (Vs := Vs) (sb := sb) (c0 := c0) (c1 := c1) (G := G) (A := A) (T := T) (ln := ln) (le := le) (at0 := at0) (fk := fk) (op0 := op0) (nd := nd) (tk0 := tk0) (li := li) (ec := ec) (sy := sy) (hd := hd) (hW := hW) (e_ln := e_ln) (e_le := e_le) (e_at0 := e_at0) (e_fk := e_fk) (e_op0 := e_op0) (e_nd := e_nd) (e_tk0 := e_tk0) (e_li := e_li) (e_ec := e_ec) (e_sy := e_sy) (i_SV := i_SV) (p_0 := p_0) (p_1 := p_1) (p_2 := p_2) (p_3 := p_3) (p_4 := p_4) L1139 G1092 A1093 (one) (r1094) (at2_1095) (tk2_1099) (fk2_1096) (nd2_1098) (op2_1097) (ec2_1100) gL1139_0 gL1139_1 gL1139_2 hW1101 hF1118 hP1119 ((e1105)) ((e1109)) ((e1106)) ((e1108)) ((e1107)) (e1110) (((hF1102.1 9 rfl).trans ((hF1077.1 9 rfl).trans (fx_9)))) (by omega) (by omega) (by omega) (by omega) (by omega) (by omega) (by omega) (by omega) (by omega) (by omega)
      · have _q : True := trivial
        refine jx_ld (pc' := 285) (l' := jSto1 L1090 2 (.int (i32 (r1094)))) (st' := []) rfl rfl ?_
        obtain ⟨L1141, eL1141⟩ : ∃ q, q = jSto1 L1090 2 (.int (i32 (r1094))) := ⟨_, rfl⟩
        rw [← eL1141]
        have gL1141_0 : jGet L1141 0 = some (.ref 66) := eL1141 ▸ jg_ne (by decide) gL1090_0 rfl
        have gL1141_6 : jGet L1141 6 = some (.int (i32 (0))) := eL1141 ▸ jg_ne (by decide) gL1090_6 rfl
        have gL1141_7 : jGet L1141 7 = some (.int (i32 (0))) := eL1141 ▸ jg_ne (by decide) gL1090_7 rfl
        have gL1141_5 : jGet L1141 5 = some (.int (i32 (0))) := eL1141 ▸ jg_ne (by decide) gL1090_5 rfl
        have gL1141_1 : jGet L1141 1 = some (.int (i32 (one))) := eL1141 ▸ jg_ne (by decide) gL1090_1 rfl
        have gL1141_4 : jGet L1141 4 = some (.int (i32 (s))) := eL1141 ▸ jg_ne (by decide) gL1090_4 rfl
        have gL1141_10 : jGet L1141 10 = some (.int (i32 (nd1))) := eL1141 ▸ jg_ne (by decide) gL1090_10 rfl
        have gL1141_2 : jGet L1141 2 = some (.int (i32 (r1094))) := eL1141 ▸ jg_eq
        refine jx_go (tg := 293) rfl rfl ?_
        have z1142 := tz_f (tk2_1099)
        exact c_readGuard_w_at_293 (X := X) (d := d) (Vs := Vs) (sb := sb) (c0 := c0) (c1 := c1) (G := G) (A := A) (T := T) (ln := ln) (le := le) (at0 := at0) (fk := fk) (op0 := op0) (nd := nd) (tk0 := tk0) (li := li) (ec := ec) (sy := sy) (hd := hd) (hW := hW) (e_ln := e_ln) (e_le := e_le) (e_at0 := e_at0) (e_fk := e_fk) (e_op0 := e_op0) (e_nd := e_nd) (e_tk0 := e_tk0) (e_li := e_li) (e_ec := e_ec) (e_sy := e_sy) (i_SV := i_SV) (p_0 := p_0) (p_1 := p_1) (p_2 := p_2) (p_3 := p_3) (p_4 := p_4) L1141 G1092 A1093 (one) (r1094) (at2_1095) (tk2_1099) (fk2_1096) (nd2_1098) (op2_1097) (ec2_1100) gL1141_0 gL1141_1 gL1141_2 hW1101 hF1118 hP1119 ((e1105)) ((e1109)) ((e1106)) ((e1108)) ((e1107)) (e1110) (((hF1102.1 9 rfl).trans ((hF1077.1 9 rfl).trans (fx_9)))) (by omega) (by omega) (by omega) (by omega) (by omega) (by omega) (by omega) (by omega) (by omega) (by omega) (by omega) (sf1120) ((wE_mono (by omega) (by omega) (by omega) a1136)) (by omega) ((NdM_w (NdM_app (sy := sy) sf1121 (NdM_app (sy := sy) sf1123 a1138 (by omega) (by omega) (by omega)) (by omega) (by omega) (by omega)) (by omega) (by omega) (by omega)))
    · have _q := h1091
      exact absurd h1091 (by omega)
  · have _q := h1071
    exact absurd h1071 (by omega)
set_option maxRecDepth 20000 in
set_option maxHeartbeats 4000000 in
theorem c_readGuard_w_at_157_1_1 {X : jX} {d : Nat} {Vs : Nat → Prop} {sb : Int} {c0 c1 : jC} {G : Nat → Int} {A : Nat → Nat → Int} {T : jH} {ln le at0 fk op0 nd tk0 li ec sy : Int} (hd : 71 ≤ d + 1) (hW : Wk G A) (e_ln : G 9 = ln) (e_le : A 4 (ln).toNat = le) (e_at0 : G 10 = at0) (e_fk : G 16 = fk) (e_op0 : G 15 = op0) (e_nd : G 31 = nd) (e_tk0 : G 11 = tk0) (e_li : G 3 = li) (e_ec : ecn A (G 31) = ec) (e_sy : G 19 = sy) (i_SV : SV Vs sb G A) (p_0 : 0 ≤ op0 ∧ op0 ≤ 8) (p_1 : fk = 0) (p_2 : nd ≤ 2 * at0 - tz tk0 + 42) (p_3 : at0 ≤ le) (p_4 : ln < li) : ∀ (L : jL) (Gx : Nat → Int) (Ax : Nat → Nat → Int) (one pl s ix at1 tk1 fk1 nd1 op1 ks ec1 : Int), jGet L 0 = some (.ref 66) → jGet L 6 = some (.int (i32 (1))) → jGet L 7 = some (.int (i32 (1))) → jGet L 8 = some (.int (i32 (ks))) → jGet L 1 = some (.int (i32 one)) → jGet L 3 = some (.int (i32 pl)) → jGet L 4 = some (.int (i32 s)) → jGet L 5 = some (.int (i32 ix)) → Wk Gx Ax → Fr [9, 10, 11, 12, 13, 14, 15, 16, 17, 18, 31] [15, 16, 17, 18, 19, 20, 21, 22, 24, 28] G A Gx Ax → Pf nd A Ax → Gx 10 = at1 → Gx 11 = tk1 → Gx 16 = fk1 → Gx 31 = nd1 → Gx 15 = op1 → Ax 7 (s).toNat = ks → ecn Ax (Gx 31) = ec1 → Gx 9 = ln → ((-2147483648 : Int) ≤ one ∧ one ≤ 2147483647) → ((-2147483648 : Int) ≤ pl ∧ pl ≤ 2147483647) → ((-2147483648 : Int) ≤ s ∧ s ≤ 2147483647) → ((-2147483648 : Int) ≤ ix ∧ ix ≤ 2147483647) → (at0 ≤ at1) → (at1 ≤ le) → (nd ≤ nd1) → (op1 = op0) → (one = nd) → (one ≤ 6998 ∧ one < nd1) → (fk1 = 0) → (nd1 - nd ≤ (2 * at1 - tz tk1) - (2 * at0 - tz tk0)) → (0 ≤ s ∧ s ≤ 201) → (-3000 ≤ pl ∧ pl ≤ 3002) → (SY Vs sb (s)) → (ND Ax (one) (33) (0) (0) (0) (0) (0) (0)) → (tz tk1 = 1) → (wE Ax Vs sb (20) (ix) (one + 1) (nd1)) → (nd1 - nd + 5 * (ec1 - ec) ≤ (2 * at1 - tz tk1) - (2 * at0 - tz tk0) - 5 - tz tk1) → (NdM Ax (nd) (nd1) (sy)) → wj X d jm303 (157, L, [], rV c0 c1 Gx Ax T) (fun o V' => ∃ (G' : Nat → Int) (A' : Nat → Nat → Int) (r : Int) (at2 : Int) (fk2 : Int) (nd2 : Int) (ln2 : Int) (ec2 : Int), V' = rV c0 c1 G' A' T ∧ o = .inl (some (.int (i32 r))) ∧ Wk G' A' ∧ Fr [9, 10, 11, 12, 13, 14, 15, 16, 17, 18, 31] [15, 16, 17, 18, 19, 20, 21, 22, 24, 28] G A G' A' ∧ Pf nd A A' ∧ ((-2147483648 : Int) ≤ r ∧ r ≤ 2147483647) ∧ G' 10 = at2 ∧ G' 16 = fk2 ∧ G' 31 = nd2 ∧ G' 9 = ln2 ∧ ecn A' (G' 31) = ec2 ∧ (at0 ≤ at2) ∧ (at2 ≤ le) ∧ (nd ≤ nd2) ∧ (0 ≤ r) ∧ (r ≤ nd2) ∧ (((1 ≤ fk2) ∧ (ln2 = ln) ∧ (nd2 - nd ≤ 2 * at2 - 2 * at0 + 12)) ∨ ((fk2 = 0) ∧ (ln2 = ln + 1) ∧ (nd2 - nd ≤ 2 * at2 - (2 * at0 - tz tk0) + 0) ∧ (nd ≤ r) ∧ (r < nd2) ∧ (wU A' Vs sb (r) (nd) (nd2)) ∧ (NX A' (r)) ∧ (nd2 - nd + 5 * (ec2 - ec) ≤ 2 * at2 - (2 * at0 - tz tk0) + 0) ∧ (NdM A' (nd) (nd2) (sy))))) := by
  have hF0 : Fr [9, 10, 11, 12, 13, 14, 15, 16, 17, 18, 31] [15, 16, 17, 18, 19, 20, 21, 22, 24, 28] G A G A := Fr_rf
  have hP0 : Pf nd A A := Pf_rf
  have b_ln : (0 : Int) ≤ ln ∧ ln ≤ 3000 := e_ln ▸ hW.1 9
  have b_le : (0 : Int) ≤ le ∧ le ≤ 3000 := e_le ▸ hW.2 4 _
  have b_at0 : (0 : Int) ≤ at0 ∧ at0 ≤ 3002 := e_at0 ▸ hW.1 10
  have b_fk : (0 : Int) ≤ fk ∧ fk ≤ 6 := e_fk ▸ hW.1 16
  have b_op0 : (-2147483648 : Int) ≤ op0 ∧ op0 ≤ 2147483647 := e_op0 ▸ hW.1 15
  have b_nd : (0 : Int) ≤ nd ∧ nd ≤ 6999 := e_nd ▸ hW.1 31
  have z_tk0 := tz_f tk0
  have b_tk0 : (0 : Int) ≤ tk0 ∧ tk0 ≤ 5 := e_tk0 ▸ hW.1 11
  have b_li : (0 : Int) ≤ li ∧ li ≤ 3000 := e_li ▸ hW.1 3
  have b_sy : (0 : Int) ≤ sy ∧ sy ≤ 202 := e_sy ▸ hW.1 19
  intro L Gx Ax one pl s ix at1 tk1 fk1 nd1 op1 ks ec1 gL_0 gL_6 gL_7 gL_8 gL_1 gL_3 gL_4 gL_5 hWx hFx hPx ex_at1 ex_tk1 ex_fk1 ex_nd1 ex_op1 ex_ks ex_ec1 fx_9 rx_one rx_pl rx_s rx_ix iv_0 iv_1 iv_2 iv_3 iv_4 iv_5 iv_6 iv_7 iv_8 iv_9 iv_10 iv_11 iv_12 iv_13 iv_14 iv_15
  have b_at1 : (0 : Int) ≤ at1 ∧ at1 ≤ 3002 := ex_at1 ▸ hWx.1 10
  have z_tk1 := tz_f tk1
  have b_tk1 : (0 : Int) ≤ tk1 ∧ tk1 ≤ 5 := ex_tk1 ▸ hWx.1 11
  have b_fk1 : (0 : Int) ≤ fk1 ∧ fk1 ≤ 6 := ex_fk1 ▸ hWx.1 16
  have b_nd1 : (0 : Int) ≤ nd1 ∧ nd1 ≤ 6999 := ex_nd1 ▸ hWx.1 31
  have b_op1 : (-2147483648 : Int) ≤ op1 ∧ op1 ≤ 2147483647 := ex_op1 ▸ hWx.1 15
  have b_ks : (0 : Int) ≤ ks ∧ ks ≤ 14 := ex_ks ▸ hWx.2 7 _
  refine jx_ld (pc' := 159) (l' := L) (st' := [.int (i32 (1))]) rfl (jl_iload gL_7) ?_
  refine jx_if_eq (pc' := 162) (tg := 189) rfl rfl rfl (by decide) (by decide) (fun h1143 => ?_) (fun h1143 => ?_)
  · have _q := h1143
    exact absurd h1143 (by omega)
  · have _q := h1143
    refine jx_ld (pc' := 164) (l' := L) (st' := [.int (i32 (1))]) rfl (jl_iload gL_6) ?_
    refine jx_if_eq (pc' := 167) (tg := 181) rfl rfl rfl (by decide) (by decide) (fun h1144 => ?_) (fun h1144 => ?_)
    · have _q := h1144
      exact absurd h1144 (by omega)
    · have _q := h1144
      refine jx_ld (pc' := 169) (l' := L) (st' := [.int (i32 (ks))]) rfl (jl_iload gL_8) ?_
      refine jx_ar (pc' := 170) (st' := [.int (i32 (4)), .int (i32 (ks))]) rfl rfl rfl rfl ?_
      refine jx_icmp_ne (pc' := 173) (tg := 177) rfl rfl rfl (Int.le_trans (by decide : (-2147483648 : Int) ≤ 0) b_ks.1) (Int.le_trans b_ks.2 (by decide : (14 : Int) ≤ 2147483647)) (by decide) (by decide) (fun h1145 => ?_) (fun h1145 => ?_)
      · have _q := h1145
        refine jx_ar (pc' := 178) (st' := [.int (i32 (0))]) rfl rfl rfl rfl ?_
        refine jx_go (tg := 207) rfl rfl ?_
        refine jx_ld (pc' := 209) (l' := jSto1 L 9 (.int (i32 (0)))) (st' := []) rfl rfl ?_
        obtain ⟨L1146, eL1146⟩ : ∃ q, q = jSto1 L 9 (.int (i32 (0))) := ⟨_, rfl⟩
        rw [← eL1146]
        have gL1146_0 : jGet L1146 0 = some (.ref 66) := eL1146 ▸ jg_ne (by decide) gL_0 rfl
        have gL1146_6 : jGet L1146 6 = some (.int (i32 (1))) := eL1146 ▸ jg_ne (by decide) gL_6 rfl
        have gL1146_7 : jGet L1146 7 = some (.int (i32 (1))) := eL1146 ▸ jg_ne (by decide) gL_7 rfl
        have gL1146_8 : jGet L1146 8 = some (.int (i32 (ks))) := eL1146 ▸ jg_ne (by decide) gL_8 rfl
        have gL1146_1 : jGet L1146 1 = some (.int (i32 (one))) := eL1146 ▸ jg_ne (by decide) gL_1 rfl
        have gL1146_3 : jGet L1146 3 = some (.int (i32 (pl))) := eL1146 ▸ jg_ne (by decide) gL_3 rfl
        have gL1146_4 : jGet L1146 4 = some (.int (i32 (s))) := eL1146 ▸ jg_ne (by decide) gL_4 rfl
        have gL1146_5 : jGet L1146 5 = some (.int (i32 (ix))) := eL1146 ▸ jg_ne (by decide) gL_5 rfl
        have gL1146_9 : jGet L1146 9 = some (.int (i32 (0))) := eL1146 ▸ jg_eq
        refine jx_ld (pc' := 211) (l' := L1146) (st' := [.int (i32 (0))]) rfl (jl_iload gL1146_9) ?_
        refine jx_if_ne (pc' := 214) (tg := 222) rfl rfl rfl (by decide) (by decide) (fun h1147 => ?_) (fun h1147 => ?_)
        · have _q := h1147
          exact absurd h1147 (by omega)
        · have _q := h1147
          refine jx_ld (pc' := 215) (l' := L1146) (st' := [.ref 66]) rfl (jl_aloadn gL1146_0) ?_
          refine jx_ar (pc' := 216) (st' := [.int (i32 (4)), .ref 66]) rfl rfl rfl rfl ?_
          refine jx_ld (pc' := 217) (l' := L1146) (st' := [.int (i32 (pl)), .int (i32 (4)), .ref 66]) rfl (jl_iloadn gL1146_3) ?_
          refine jx_vr (pc' := 220) (as := [.int (i32 (4)), .int (i32 (pl))]) (st := []) rfl rfl rfl rfl ⟨rfl, rfl, Nat.le_of_ble_eq_true rfl⟩ rfl rfl (c_fail (dd := d) (hd := by omega) (hW := hWx) (kind := 4) (place := pl) (fk := fk1) (e_fk := show Gx 16 = fk1 from (ex_fk1))  (h_kind := ⟨(by decide), (by decide)⟩) (h_place := ⟨(Int.le_trans (by decide : (-2147483648 : Int) ≤ -2147483648) rx_pl.1), (Int.le_trans rx_pl.2 (by decide : (2147483647 : Int) ≤ 2147483647))⟩)  (p_0 := by omega) (p_1 := by omega)) (fun o V' hq => ?_)
          obtain ⟨G1148, A1149, fk2_1150, rfl, rfl, hW1151, hF1152, e1153, p1154, -⟩ := hq
          have hF1156 := Fr_tr hFx hF1152 (Fr_sub (by decide)) (Fr_sub (by decide))
          have hP1157 := Pf_f hPx hF1152 (by decide)
          have sf1158 : ND A1149 (one) (33) (0) (0) (0) (0) (0) (0) := ND_ag (by omega) (Ag_fr hF1152 (by decide)) iv_11
          have sf1159 : wE A1149 Vs sb (20) (ix) (one + 1) (nd1) := wE_ag (by omega) (Sg_fr hF1152 (by decide)) (Ag_fr hF1152 (by decide)) iv_13
          have sf1160 : NdM A1149 (nd) (nd1) (sy) := NdM_f hF1152 (by decide) iv_15
          have ec1161 : ecn A1149 (G1148 31) = ec1 := (ecn_f (hF1152.2 15 rfl) (hF1152.1 31 rfl)).trans ex_ec1
          have bfk2_1150 : (0 : Int) ≤ fk2_1150 ∧ fk2_1150 ≤ 6 := e1153 ▸ hW1151.1 16
          refine .inl ⟨rfl, ?_⟩
          refine jx_ar (pc' := 221) (st' := [.int (i32 (0))]) rfl rfl rfl rfl ?_
          refine jx_rt (v := some (.int (i32 (0)))) rfl rfl rfl rfl rfl rfl ?_
          exact ⟨_, _, _, at1, fk2_1150, nd1, ln, ec1, rfl, rfl, hW1151, hF1156, hP1157, by omega, ((hF1152.1 10 rfl).trans (ex_at1)), (e1153), ((hF1152.1 31 rfl).trans (ex_nd1)), ((hF1152.1 9 rfl).trans (fx_9)), ec1161, by omega, by omega, by omega, by omega, by omega, by first | exact Or.inl (⟨by omega, by omega, by omega⟩)⟩
      · have _q := h1145
        refine jx_ar (pc' := 174) (st' := [.int (i32 (1))]) rfl rfl rfl rfl ?_
        refine jx_go (tg := 207) rfl rfl ?_
        refine jx_ld (pc' := 209) (l' := jSto1 L 9 (.int (i32 (1)))) (st' := []) rfl rfl ?_
        obtain ⟨L1162, eL1162⟩ : ∃ q, q = jSto1 L 9 (.int (i32 (1))) := ⟨_, rfl⟩
        rw [← eL1162]
        have gL1162_0 : jGet L1162 0 = some (.ref 66) := eL1162 ▸ jg_ne (by decide) gL_0 rfl
        have gL1162_6 : jGet L1162 6 = some (.int (i32 (1))) := eL1162 ▸ jg_ne (by decide) gL_6 rfl
        have gL1162_7 : jGet L1162 7 = some (.int (i32 (1))) := eL1162 ▸ jg_ne (by decide) gL_7 rfl
        have gL1162_8 : jGet L1162 8 = some (.int (i32 (ks))) := eL1162 ▸ jg_ne (by decide) gL_8 rfl
        have gL1162_1 : jGet L1162 1 = some (.int (i32 (one))) := eL1162 ▸ jg_ne (by decide) gL_1 rfl
        have gL1162_3 : jGet L1162 3 = some (.int (i32 (pl))) := eL1162 ▸ jg_ne (by decide) gL_3 rfl
        have gL1162_4 : jGet L1162 4 = some (.int (i32 (s))) := eL1162 ▸ jg_ne (by decide) gL_4 rfl
        have gL1162_5 : jGet L1162 5 = some (.int (i32 (ix))) := eL1162 ▸ jg_ne (by decide) gL_5 rfl
        have gL1162_9 : jGet L1162 9 = some (.int (i32 (1))) := eL1162 ▸ jg_eq
        refine jx_ld (pc' := 211) (l' := L1162) (st' := [.int (i32 (1))]) rfl (jl_iload gL1162_9) ?_
        refine jx_if_ne (pc' := 214) (tg := 222) rfl rfl rfl (by decide) (by decide) (fun h1163 => ?_) (fun h1163 => ?_)
        · have _q := h1163
          have z1164 := tz_f (tk1)
          exact c_readGuard_w_at_222_1_1 (X := X) (d := d) (Vs := Vs) (sb := sb) (c0 := c0) (c1 := c1) (G := G) (A := A) (T := T) (ln := ln) (le := le) (at0 := at0) (fk := fk) (op0 := op0) (nd := nd) (tk0 := tk0) (li := li) (ec := ec) (sy := sy) (hd := hd) (hW := hW) (e_ln := e_ln) (e_le := e_le) (e_at0 := e_at0) (e_fk := e_fk) (e_op0 := e_op0) (e_nd := e_nd) (e_tk0 := e_tk0) (e_li := e_li) (e_ec := e_ec) (e_sy := e_sy) (i_SV := i_SV) (p_0 := p_0) (p_1 := p_1) (p_2 := p_2) (p_3 := p_3) (p_4 := p_4) L1162 Gx Ax (one) (s) (ix) (at1) (tk1) (fk1) (nd1) (op1) (ks) (ec1) gL1162_0 gL1162_6 gL1162_7 gL1162_1 gL1162_4 gL1162_5 hWx hFx hPx ((ex_at1)) ((ex_tk1)) ((ex_fk1)) ((ex_nd1)) ((ex_op1)) ((ex_ks)) (ex_ec1) ((fx_9)) (by omega) (by omega) (by omega) (by omega) (by omega) (by omega) (by omega) (by omega) (by omega) (by omega) (by omega) (by omega) (iv_10) (iv_11) (by omega) (by omega) (iv_13) (by omega) (iv_15)
        · have _q := h1163
          exact absurd h1163 (by omega)
set_option maxRecDepth 20000 in
set_option maxHeartbeats 4000000 in
theorem c_readGuard_w_at_157_1_0 {X : jX} {d : Nat} {Vs : Nat → Prop} {sb : Int} {c0 c1 : jC} {G : Nat → Int} {A : Nat → Nat → Int} {T : jH} {ln le at0 fk op0 nd tk0 li ec sy : Int} (hd : 71 ≤ d + 1) (hW : Wk G A) (e_ln : G 9 = ln) (e_le : A 4 (ln).toNat = le) (e_at0 : G 10 = at0) (e_fk : G 16 = fk) (e_op0 : G 15 = op0) (e_nd : G 31 = nd) (e_tk0 : G 11 = tk0) (e_li : G 3 = li) (e_ec : ecn A (G 31) = ec) (e_sy : G 19 = sy) (i_SV : SV Vs sb G A) (p_0 : 0 ≤ op0 ∧ op0 ≤ 8) (p_1 : fk = 0) (p_2 : nd ≤ 2 * at0 - tz tk0 + 42) (p_3 : at0 ≤ le) (p_4 : ln < li) : ∀ (L : jL) (Gx : Nat → Int) (Ax : Nat → Nat → Int) (one pl s ix at1 tk1 fk1 nd1 op1 ks ec1 : Int), jGet L 0 = some (.ref 66) → jGet L 6 = some (.int (i32 (1))) → jGet L 7 = some (.int (i32 (0))) → jGet L 8 = some (.int (i32 (ks))) → jGet L 1 = some (.int (i32 one)) → jGet L 3 = some (.int (i32 pl)) → jGet L 4 = some (.int (i32 s)) → jGet L 5 = some (.int (i32 ix)) → Wk Gx Ax → Fr [9, 10, 11, 12, 13, 14, 15, 16, 17, 18, 31] [15, 16, 17, 18, 19, 20, 21, 22, 24, 28] G A Gx Ax → Pf nd A Ax → Gx 10 = at1 → Gx 11 = tk1 → Gx 16 = fk1 → Gx 31 = nd1 → Gx 15 = op1 → Ax 7 (s).toNat = ks → ecn Ax (Gx 31) = ec1 → Gx 9 = ln → ((-2147483648 : Int) ≤ one ∧ one ≤ 2147483647) → ((-2147483648 : Int) ≤ pl ∧ pl ≤ 2147483647) → ((-2147483648 : Int) ≤ s ∧ s ≤ 2147483647) → ((-2147483648 : Int) ≤ ix ∧ ix ≤ 2147483647) → (at0 ≤ at1) → (at1 ≤ le) → (nd ≤ nd1) → (op1 = op0) → (one = nd) → (one ≤ 6998 ∧ one < nd1) → (fk1 = 0) → (nd1 - nd ≤ (2 * at1 - tz tk1) - (2 * at0 - tz tk0)) → (0 ≤ s ∧ s ≤ 201) → (-3000 ≤ pl ∧ pl ≤ 3002) → (SY Vs sb (s)) → (ND Ax (one) (33) (0) (0) (0) (0) (0) (0)) → (wE Ax Vs sb (20) (ix) (one + 1) (nd1)) → (nd1 - nd + 5 * (ec1 - ec) ≤ (2 * at1 - tz tk1) - (2 * at0 - tz tk0) - 5 - tz tk1) → (NdM Ax (nd) (nd1) (sy)) → wj X d jm303 (157, L, [], rV c0 c1 Gx Ax T) (fun o V' => ∃ (G' : Nat → Int) (A' : Nat → Nat → Int) (r : Int) (at2 : Int) (fk2 : Int) (nd2 : Int) (ln2 : Int) (ec2 : Int), V' = rV c0 c1 G' A' T ∧ o = .inl (some (.int (i32 r))) ∧ Wk G' A' ∧ Fr [9, 10, 11, 12, 13, 14, 15, 16, 17, 18, 31] [15, 16, 17, 18, 19, 20, 21, 22, 24, 28] G A G' A' ∧ Pf nd A A' ∧ ((-2147483648 : Int) ≤ r ∧ r ≤ 2147483647) ∧ G' 10 = at2 ∧ G' 16 = fk2 ∧ G' 31 = nd2 ∧ G' 9 = ln2 ∧ ecn A' (G' 31) = ec2 ∧ (at0 ≤ at2) ∧ (at2 ≤ le) ∧ (nd ≤ nd2) ∧ (0 ≤ r) ∧ (r ≤ nd2) ∧ (((1 ≤ fk2) ∧ (ln2 = ln) ∧ (nd2 - nd ≤ 2 * at2 - 2 * at0 + 12)) ∨ ((fk2 = 0) ∧ (ln2 = ln + 1) ∧ (nd2 - nd ≤ 2 * at2 - (2 * at0 - tz tk0) + 0) ∧ (nd ≤ r) ∧ (r < nd2) ∧ (wU A' Vs sb (r) (nd) (nd2)) ∧ (NX A' (r)) ∧ (nd2 - nd + 5 * (ec2 - ec) ≤ 2 * at2 - (2 * at0 - tz tk0) + 0) ∧ (NdM A' (nd) (nd2) (sy))))) := by
  have hF0 : Fr [9, 10, 11, 12, 13, 14, 15, 16, 17, 18, 31] [15, 16, 17, 18, 19, 20, 21, 22, 24, 28] G A G A := Fr_rf
  have hP0 : Pf nd A A := Pf_rf
  have b_ln : (0 : Int) ≤ ln ∧ ln ≤ 3000 := e_ln ▸ hW.1 9
  have b_le : (0 : Int) ≤ le ∧ le ≤ 3000 := e_le ▸ hW.2 4 _
  have b_at0 : (0 : Int) ≤ at0 ∧ at0 ≤ 3002 := e_at0 ▸ hW.1 10
  have b_fk : (0 : Int) ≤ fk ∧ fk ≤ 6 := e_fk ▸ hW.1 16
  have b_op0 : (-2147483648 : Int) ≤ op0 ∧ op0 ≤ 2147483647 := e_op0 ▸ hW.1 15
  have b_nd : (0 : Int) ≤ nd ∧ nd ≤ 6999 := e_nd ▸ hW.1 31
  have z_tk0 := tz_f tk0
  have b_tk0 : (0 : Int) ≤ tk0 ∧ tk0 ≤ 5 := e_tk0 ▸ hW.1 11
  have b_li : (0 : Int) ≤ li ∧ li ≤ 3000 := e_li ▸ hW.1 3
  have b_sy : (0 : Int) ≤ sy ∧ sy ≤ 202 := e_sy ▸ hW.1 19
  intro L Gx Ax one pl s ix at1 tk1 fk1 nd1 op1 ks ec1 gL_0 gL_6 gL_7 gL_8 gL_1 gL_3 gL_4 gL_5 hWx hFx hPx ex_at1 ex_tk1 ex_fk1 ex_nd1 ex_op1 ex_ks ex_ec1 fx_9 rx_one rx_pl rx_s rx_ix iv_0 iv_1 iv_2 iv_3 iv_4 iv_5 iv_6 iv_7 iv_8 iv_9 iv_10 iv_11 iv_12 iv_13 iv_14
  have b_at1 : (0 : Int) ≤ at1 ∧ at1 ≤ 3002 := ex_at1 ▸ hWx.1 10
  have z_tk1 := tz_f tk1
  have b_tk1 : (0 : Int) ≤ tk1 ∧ tk1 ≤ 5 := ex_tk1 ▸ hWx.1 11
  have b_fk1 : (0 : Int) ≤ fk1 ∧ fk1 ≤ 6 := ex_fk1 ▸ hWx.1 16
  have b_nd1 : (0 : Int) ≤ nd1 ∧ nd1 ≤ 6999 := ex_nd1 ▸ hWx.1 31
  have b_op1 : (-2147483648 : Int) ≤ op1 ∧ op1 ≤ 2147483647 := ex_op1 ▸ hWx.1 15
  have b_ks : (0 : Int) ≤ ks ∧ ks ≤ 14 := ex_ks ▸ hWx.2 7 _
  refine jx_ld (pc' := 159) (l' := L) (st' := [.int (i32 (0))]) rfl (jl_iload gL_7) ?_
  refine jx_if_eq (pc' := 162) (tg := 189) rfl rfl rfl (by decide) (by decide) (fun h1165 => ?_) (fun h1165 => ?_)
  · have _q := h1165
    refine jx_ld (pc' := 191) (l' := L) (st' := [.int (i32 (1))]) rfl (jl_iload gL_6) ?_
    refine jx_if_eq (pc' := 194) (tg := 202) rfl rfl rfl (by decide) (by decide) (fun h1166 => ?_) (fun h1166 => ?_)
    · have _q := h1166
      exact absurd h1166 (by omega)
    · have _q := h1166
      refine jx_ld (pc' := 196) (l' := L) (st' := [.int (i32 (ks))]) rfl (jl_iload gL_8) ?_
      refine jx_st (pc' := 199) (as := [.int (i32 (ks))]) (st := []) rfl rfl ⟨rfl, Nat.le_of_ble_eq_true rfl⟩ rfl rfl rfl (c_isArray (dd := d) (hd := by omega) (k := ks)   (h_k := ⟨(Int.le_trans (by decide : (-2147483648 : Int) ≤ 0) b_ks.1), (Int.le_trans b_ks.2 (by decide : (14 : Int) ≤ 2147483647))⟩)  ) (fun o V' hq => ?_)
      obtain ⟨r1167, rfl, rfl, b1168, q1169⟩ := hq
      refine .inr ⟨_, rfl, ?_⟩
      rcases q1169 with ⟨rfl, a1170⟩ | rfl
      · have _q : True := trivial
        refine jx_go (tg := 207) rfl rfl ?_
        refine jx_ld (pc' := 209) (l' := jSto1 L 9 (.int (i32 (1)))) (st' := []) rfl rfl ?_
        obtain ⟨L1171, eL1171⟩ : ∃ q, q = jSto1 L 9 (.int (i32 (1))) := ⟨_, rfl⟩
        rw [← eL1171]
        have gL1171_0 : jGet L1171 0 = some (.ref 66) := eL1171 ▸ jg_ne (by decide) gL_0 rfl
        have gL1171_6 : jGet L1171 6 = some (.int (i32 (1))) := eL1171 ▸ jg_ne (by decide) gL_6 rfl
        have gL1171_7 : jGet L1171 7 = some (.int (i32 (0))) := eL1171 ▸ jg_ne (by decide) gL_7 rfl
        have gL1171_8 : jGet L1171 8 = some (.int (i32 (ks))) := eL1171 ▸ jg_ne (by decide) gL_8 rfl
        have gL1171_1 : jGet L1171 1 = some (.int (i32 (one))) := eL1171 ▸ jg_ne (by decide) gL_1 rfl
        have gL1171_3 : jGet L1171 3 = some (.int (i32 (pl))) := eL1171 ▸ jg_ne (by decide) gL_3 rfl
        have gL1171_4 : jGet L1171 4 = some (.int (i32 (s))) := eL1171 ▸ jg_ne (by decide) gL_4 rfl
        have gL1171_5 : jGet L1171 5 = some (.int (i32 (ix))) := eL1171 ▸ jg_ne (by decide) gL_5 rfl
        have gL1171_9 : jGet L1171 9 = some (.int (i32 (1))) := eL1171 ▸ jg_eq
        refine jx_ld (pc' := 211) (l' := L1171) (st' := [.int (i32 (1))]) rfl (jl_iload gL1171_9) ?_
        refine jx_if_ne (pc' := 214) (tg := 222) rfl rfl rfl (by decide) (by decide) (fun h1172 => ?_) (fun h1172 => ?_)
        · have _q := h1172
          have z1173 := tz_f (tk1)
          exact c_readGuard_w_at_222_1_0 (X := X) (d := d) (Vs := Vs) (sb := sb) (c0 := c0) (c1 := c1) (G := G) (A := A) (T := T) (ln := ln) (le := le) (at0 := at0) (fk := fk) (op0 := op0) (nd := nd) (tk0 := tk0) (li := li) (ec := ec) (sy := sy) (hd := hd) (hW := hW) (e_ln := e_ln) (e_le := e_le) (e_at0 := e_at0) (e_fk := e_fk) (e_op0 := e_op0) (e_nd := e_nd) (e_tk0 := e_tk0) (e_li := e_li) (e_ec := e_ec) (e_sy := e_sy) (i_SV := i_SV) (p_0 := p_0) (p_1 := p_1) (p_2 := p_2) (p_3 := p_3) (p_4 := p_4) L1171 Gx Ax (one) (s) (ix) (at1) (tk1) (fk1) (nd1) (op1) (ks) (ec1) gL1171_0 gL1171_6 gL1171_7 gL1171_1 gL1171_4 gL1171_5 hWx hFx hPx ((ex_at1)) ((ex_tk1)) ((ex_fk1)) ((ex_nd1)) ((ex_op1)) ((ex_ks)) (ex_ec1) ((fx_9)) (by omega) (by omega) (by omega) (by omega) (by omega) (by omega) (by omega) (by omega) (by omega) (by omega) (by omega) (by omega) (iv_10) (iv_11) (a1170) (iv_12) (by omega) (iv_14)
        · have _q := h1172
          exact absurd h1172 (by omega)
      · have _q : True := trivial
        refine jx_go (tg := 207) rfl rfl ?_
        refine jx_ld (pc' := 209) (l' := jSto1 L 9 (.int (i32 (0)))) (st' := []) rfl rfl ?_
        obtain ⟨L1174, eL1174⟩ : ∃ q, q = jSto1 L 9 (.int (i32 (0))) := ⟨_, rfl⟩
        rw [← eL1174]
        have gL1174_0 : jGet L1174 0 = some (.ref 66) := eL1174 ▸ jg_ne (by decide) gL_0 rfl
        have gL1174_6 : jGet L1174 6 = some (.int (i32 (1))) := eL1174 ▸ jg_ne (by decide) gL_6 rfl
        have gL1174_7 : jGet L1174 7 = some (.int (i32 (0))) := eL1174 ▸ jg_ne (by decide) gL_7 rfl
        have gL1174_8 : jGet L1174 8 = some (.int (i32 (ks))) := eL1174 ▸ jg_ne (by decide) gL_8 rfl
        have gL1174_1 : jGet L1174 1 = some (.int (i32 (one))) := eL1174 ▸ jg_ne (by decide) gL_1 rfl
        have gL1174_3 : jGet L1174 3 = some (.int (i32 (pl))) := eL1174 ▸ jg_ne (by decide) gL_3 rfl
        have gL1174_4 : jGet L1174 4 = some (.int (i32 (s))) := eL1174 ▸ jg_ne (by decide) gL_4 rfl
        have gL1174_5 : jGet L1174 5 = some (.int (i32 (ix))) := eL1174 ▸ jg_ne (by decide) gL_5 rfl
        have gL1174_9 : jGet L1174 9 = some (.int (i32 (0))) := eL1174 ▸ jg_eq
        refine jx_ld (pc' := 211) (l' := L1174) (st' := [.int (i32 (0))]) rfl (jl_iload gL1174_9) ?_
        refine jx_if_ne (pc' := 214) (tg := 222) rfl rfl rfl (by decide) (by decide) (fun h1175 => ?_) (fun h1175 => ?_)
        · have _q := h1175
          exact absurd h1175 (by omega)
        · have _q := h1175
          refine jx_ld (pc' := 215) (l' := L1174) (st' := [.ref 66]) rfl (jl_aloadn gL1174_0) ?_
          refine jx_ar (pc' := 216) (st' := [.int (i32 (4)), .ref 66]) rfl rfl rfl rfl ?_
          refine jx_ld (pc' := 217) (l' := L1174) (st' := [.int (i32 (pl)), .int (i32 (4)), .ref 66]) rfl (jl_iloadn gL1174_3) ?_
          refine jx_vr (pc' := 220) (as := [.int (i32 (4)), .int (i32 (pl))]) (st := []) rfl rfl rfl rfl ⟨rfl, rfl, Nat.le_of_ble_eq_true rfl⟩ rfl rfl (c_fail (dd := d) (hd := by omega) (hW := hWx) (kind := 4) (place := pl) (fk := fk1) (e_fk := show Gx 16 = fk1 from (ex_fk1))  (h_kind := ⟨(by decide), (by decide)⟩) (h_place := ⟨(Int.le_trans (by decide : (-2147483648 : Int) ≤ -2147483648) rx_pl.1), (Int.le_trans rx_pl.2 (by decide : (2147483647 : Int) ≤ 2147483647))⟩)  (p_0 := by omega) (p_1 := by omega)) (fun o V' hq => ?_)
          obtain ⟨G1176, A1177, fk2_1178, rfl, rfl, hW1179, hF1180, e1181, p1182, -⟩ := hq
          have hF1184 := Fr_tr hFx hF1180 (Fr_sub (by decide)) (Fr_sub (by decide))
          have hP1185 := Pf_f hPx hF1180 (by decide)
          have sf1186 : ND A1177 (one) (33) (0) (0) (0) (0) (0) (0) := ND_ag (by omega) (Ag_fr hF1180 (by decide)) iv_11
          have sf1187 : wE A1177 Vs sb (20) (ix) (one + 1) (nd1) := wE_ag (by omega) (Sg_fr hF1180 (by decide)) (Ag_fr hF1180 (by decide)) iv_12
          have sf1188 : NdM A1177 (nd) (nd1) (sy) := NdM_f hF1180 (by decide) iv_14
          have ec1189 : ecn A1177 (G1176 31) = ec1 := (ecn_f (hF1180.2 15 rfl) (hF1180.1 31 rfl)).trans ex_ec1
          have bfk2_1178 : (0 : Int) ≤ fk2_1178 ∧ fk2_1178 ≤ 6 := e1181 ▸ hW1179.1 16
          refine .inl ⟨rfl, ?_⟩
          refine jx_ar (pc' := 221) (st' := [.int (i32 (0))]) rfl rfl rfl rfl ?_
          refine jx_rt (v := some (.int (i32 (0)))) rfl rfl rfl rfl rfl rfl ?_
          exact ⟨_, _, _, at1, fk2_1178, nd1, ln, ec1, rfl, rfl, hW1179, hF1184, hP1185, by omega, ((hF1180.1 10 rfl).trans (ex_at1)), (e1181), ((hF1180.1 31 rfl).trans (ex_nd1)), ((hF1180.1 9 rfl).trans (fx_9)), ec1189, by omega, by omega, by omega, by omega, by omega, by first | exact Or.inl (⟨by omega, by omega, by omega⟩)⟩
  · have _q := h1165
    exact absurd h1165 (by omega)
set_option maxRecDepth 20000 in
set_option maxHeartbeats 4000000 in
theorem c_readGuard_w_at_157_0_1 {X : jX} {d : Nat} {Vs : Nat → Prop} {sb : Int} {c0 c1 : jC} {G : Nat → Int} {A : Nat → Nat → Int} {T : jH} {ln le at0 fk op0 nd tk0 li ec sy : Int} (hd : 71 ≤ d + 1) (hW : Wk G A) (e_ln : G 9 = ln) (e_le : A 4 (ln).toNat = le) (e_at0 : G 10 = at0) (e_fk : G 16 = fk) (e_op0 : G 15 = op0) (e_nd : G 31 = nd) (e_tk0 : G 11 = tk0) (e_li : G 3 = li) (e_ec : ecn A (G 31) = ec) (e_sy : G 19 = sy) (i_SV : SV Vs sb G A) (p_0 : 0 ≤ op0 ∧ op0 ≤ 8) (p_1 : fk = 0) (p_2 : nd ≤ 2 * at0 - tz tk0 + 42) (p_3 : at0 ≤ le) (p_4 : ln < li) : ∀ (L : jL) (Gx : Nat → Int) (Ax : Nat → Nat → Int) (one pl s at1 tk1 fk1 nd1 op1 ks ec1 : Int), jGet L 0 = some (.ref 66) → jGet L 6 = some (.int (i32 (0))) → jGet L 7 = some (.int (i32 (1))) → jGet L 8 = some (.int (i32 (ks))) → jGet L 5 = some (.int (i32 (0))) → jGet L 1 = some (.int (i32 one)) → jGet L 3 = some (.int (i32 pl)) → jGet L 4 = some (.int (i32 s)) → Wk Gx Ax → Fr [9, 10, 11, 12, 13, 14, 15, 16, 17, 18, 31] [15, 16, 17, 18, 19, 20, 21, 22, 24, 28] G A Gx Ax → Pf nd A Ax → Gx 10 = at1 → Gx 11 = tk1 → Gx 16 = fk1 → Gx 31 = nd1 → Gx 15 = op1 → Ax 7 (s).toNat = ks → ecn Ax (Gx 31) = ec1 → Gx 9 = ln → ((-2147483648 : Int) ≤ one ∧ one ≤ 2147483647) → ((-2147483648 : Int) ≤ pl ∧ pl ≤ 2147483647) → ((-2147483648 : Int) ≤ s ∧ s ≤ 2147483647) → (at0 ≤ at1) → (at1 ≤ le) → (nd ≤ nd1) → (op1 = op0) → (one = nd) → (one ≤ 6998 ∧ one < nd1) → (fk1 = 0) → (nd1 - nd ≤ (2 * at1 - tz tk1) - (2 * at0 - tz tk0)) → (0 ≤ s ∧ s ≤ 201) → (-3000 ≤ pl ∧ pl ≤ 3002) → (SY Vs sb (s)) → (ND Ax (one) (33) (0) (0) (0) (0) (0) (0)) → (tz tk1 = 1) → (nd1 - nd + 5 * (ec1 - ec) ≤ (2 * at1 - tz tk1) - (2 * at0 - tz tk0) - tz tk1) → (NdM Ax (nd) (nd1) (sy)) → wj X d jm303 (157, L, [], rV c0 c1 Gx Ax T) (fun o V' => ∃ (G' : Nat → Int) (A' : Nat → Nat → Int) (r : Int) (at2 : Int) (fk2 : Int) (nd2 : Int) (ln2 : Int) (ec2 : Int), V' = rV c0 c1 G' A' T ∧ o = .inl (some (.int (i32 r))) ∧ Wk G' A' ∧ Fr [9, 10, 11, 12, 13, 14, 15, 16, 17, 18, 31] [15, 16, 17, 18, 19, 20, 21, 22, 24, 28] G A G' A' ∧ Pf nd A A' ∧ ((-2147483648 : Int) ≤ r ∧ r ≤ 2147483647) ∧ G' 10 = at2 ∧ G' 16 = fk2 ∧ G' 31 = nd2 ∧ G' 9 = ln2 ∧ ecn A' (G' 31) = ec2 ∧ (at0 ≤ at2) ∧ (at2 ≤ le) ∧ (nd ≤ nd2) ∧ (0 ≤ r) ∧ (r ≤ nd2) ∧ (((1 ≤ fk2) ∧ (ln2 = ln) ∧ (nd2 - nd ≤ 2 * at2 - 2 * at0 + 12)) ∨ ((fk2 = 0) ∧ (ln2 = ln + 1) ∧ (nd2 - nd ≤ 2 * at2 - (2 * at0 - tz tk0) + 0) ∧ (nd ≤ r) ∧ (r < nd2) ∧ (wU A' Vs sb (r) (nd) (nd2)) ∧ (NX A' (r)) ∧ (nd2 - nd + 5 * (ec2 - ec) ≤ 2 * at2 - (2 * at0 - tz tk0) + 0) ∧ (NdM A' (nd) (nd2) (sy))))) := by
  have hF0 : Fr [9, 10, 11, 12, 13, 14, 15, 16, 17, 18, 31] [15, 16, 17, 18, 19, 20, 21, 22, 24, 28] G A G A := Fr_rf
  have hP0 : Pf nd A A := Pf_rf
  have b_ln : (0 : Int) ≤ ln ∧ ln ≤ 3000 := e_ln ▸ hW.1 9
  have b_le : (0 : Int) ≤ le ∧ le ≤ 3000 := e_le ▸ hW.2 4 _
  have b_at0 : (0 : Int) ≤ at0 ∧ at0 ≤ 3002 := e_at0 ▸ hW.1 10
  have b_fk : (0 : Int) ≤ fk ∧ fk ≤ 6 := e_fk ▸ hW.1 16
  have b_op0 : (-2147483648 : Int) ≤ op0 ∧ op0 ≤ 2147483647 := e_op0 ▸ hW.1 15
  have b_nd : (0 : Int) ≤ nd ∧ nd ≤ 6999 := e_nd ▸ hW.1 31
  have z_tk0 := tz_f tk0
  have b_tk0 : (0 : Int) ≤ tk0 ∧ tk0 ≤ 5 := e_tk0 ▸ hW.1 11
  have b_li : (0 : Int) ≤ li ∧ li ≤ 3000 := e_li ▸ hW.1 3
  have b_sy : (0 : Int) ≤ sy ∧ sy ≤ 202 := e_sy ▸ hW.1 19
  intro L Gx Ax one pl s at1 tk1 fk1 nd1 op1 ks ec1 gL_0 gL_6 gL_7 gL_8 gL_5 gL_1 gL_3 gL_4 hWx hFx hPx ex_at1 ex_tk1 ex_fk1 ex_nd1 ex_op1 ex_ks ex_ec1 fx_9 rx_one rx_pl rx_s iv_0 iv_1 iv_2 iv_3 iv_4 iv_5 iv_6 iv_7 iv_8 iv_9 iv_10 iv_11 iv_12 iv_13 iv_14
  have b_at1 : (0 : Int) ≤ at1 ∧ at1 ≤ 3002 := ex_at1 ▸ hWx.1 10
  have z_tk1 := tz_f tk1
  have b_tk1 : (0 : Int) ≤ tk1 ∧ tk1 ≤ 5 := ex_tk1 ▸ hWx.1 11
  have b_fk1 : (0 : Int) ≤ fk1 ∧ fk1 ≤ 6 := ex_fk1 ▸ hWx.1 16
  have b_nd1 : (0 : Int) ≤ nd1 ∧ nd1 ≤ 6999 := ex_nd1 ▸ hWx.1 31
  have b_op1 : (-2147483648 : Int) ≤ op1 ∧ op1 ≤ 2147483647 := ex_op1 ▸ hWx.1 15
  have b_ks : (0 : Int) ≤ ks ∧ ks ≤ 14 := ex_ks ▸ hWx.2 7 _
  refine jx_ld (pc' := 159) (l' := L) (st' := [.int (i32 (1))]) rfl (jl_iload gL_7) ?_
  refine jx_if_eq (pc' := 162) (tg := 189) rfl rfl rfl (by decide) (by decide) (fun h1190 => ?_) (fun h1190 => ?_)
  · have _q := h1190
    exact absurd h1190 (by omega)
  · have _q := h1190
    refine jx_ld (pc' := 164) (l' := L) (st' := [.int (i32 (0))]) rfl (jl_iload gL_6) ?_
    refine jx_if_eq (pc' := 167) (tg := 181) rfl rfl rfl (by decide) (by decide) (fun h1191 => ?_) (fun h1191 => ?_)
    · have _q := h1191
      refine jx_ld (pc' := 183) (l' := L) (st' := [.int (i32 (ks))]) rfl (jl_iload gL_8) ?_
      refine jx_st (pc' := 186) (as := [.int (i32 (ks))]) (st := []) rfl rfl ⟨rfl, Nat.le_of_ble_eq_true rfl⟩ rfl rfl rfl (c_isChannel (dd := d) (hd := by omega) (k := ks)   (h_k := ⟨(Int.le_trans (by decide : (-2147483648 : Int) ≤ 0) b_ks.1), (Int.le_trans b_ks.2 (by decide : (14 : Int) ≤ 2147483647))⟩)  ) (fun o V' hq => ?_)
      obtain ⟨r1192, rfl, rfl, b1193, q1194⟩ := hq
      refine .inr ⟨_, rfl, ?_⟩
      rcases q1194 with ⟨rfl, a1195⟩ | rfl
      · have _q : True := trivial
        refine jx_go (tg := 207) rfl rfl ?_
        refine jx_ld (pc' := 209) (l' := jSto1 L 9 (.int (i32 (1)))) (st' := []) rfl rfl ?_
        obtain ⟨L1196, eL1196⟩ : ∃ q, q = jSto1 L 9 (.int (i32 (1))) := ⟨_, rfl⟩
        rw [← eL1196]
        have gL1196_0 : jGet L1196 0 = some (.ref 66) := eL1196 ▸ jg_ne (by decide) gL_0 rfl
        have gL1196_6 : jGet L1196 6 = some (.int (i32 (0))) := eL1196 ▸ jg_ne (by decide) gL_6 rfl
        have gL1196_7 : jGet L1196 7 = some (.int (i32 (1))) := eL1196 ▸ jg_ne (by decide) gL_7 rfl
        have gL1196_8 : jGet L1196 8 = some (.int (i32 (ks))) := eL1196 ▸ jg_ne (by decide) gL_8 rfl
        have gL1196_5 : jGet L1196 5 = some (.int (i32 (0))) := eL1196 ▸ jg_ne (by decide) gL_5 rfl
        have gL1196_1 : jGet L1196 1 = some (.int (i32 (one))) := eL1196 ▸ jg_ne (by decide) gL_1 rfl
        have gL1196_3 : jGet L1196 3 = some (.int (i32 (pl))) := eL1196 ▸ jg_ne (by decide) gL_3 rfl
        have gL1196_4 : jGet L1196 4 = some (.int (i32 (s))) := eL1196 ▸ jg_ne (by decide) gL_4 rfl
        have gL1196_9 : jGet L1196 9 = some (.int (i32 (1))) := eL1196 ▸ jg_eq
        refine jx_ld (pc' := 211) (l' := L1196) (st' := [.int (i32 (1))]) rfl (jl_iload gL1196_9) ?_
        refine jx_if_ne (pc' := 214) (tg := 222) rfl rfl rfl (by decide) (by decide) (fun h1197 => ?_) (fun h1197 => ?_)
        · have _q := h1197
          have z1198 := tz_f (tk1)
          exact c_readGuard_w_at_222_0_1 (X := X) (d := d) (Vs := Vs) (sb := sb) (c0 := c0) (c1 := c1) (G := G) (A := A) (T := T) (ln := ln) (le := le) (at0 := at0) (fk := fk) (op0 := op0) (nd := nd) (tk0 := tk0) (li := li) (ec := ec) (sy := sy) (hd := hd) (hW := hW) (e_ln := e_ln) (e_le := e_le) (e_at0 := e_at0) (e_fk := e_fk) (e_op0 := e_op0) (e_nd := e_nd) (e_tk0 := e_tk0) (e_li := e_li) (e_ec := e_ec) (e_sy := e_sy) (i_SV := i_SV) (p_0 := p_0) (p_1 := p_1) (p_2 := p_2) (p_3 := p_3) (p_4 := p_4) L1196 Gx Ax (one) (s) (at1) (tk1) (fk1) (nd1) (op1) (ks) (ec1) gL1196_0 gL1196_6 gL1196_7 gL1196_5 gL1196_1 gL1196_4 hWx hFx hPx ((ex_at1)) ((ex_tk1)) ((ex_fk1)) ((ex_nd1)) ((ex_op1)) ((ex_ks)) (ex_ec1) ((fx_9)) (by omega) (by omega) (by omega) (by omega) (by omega) (by omega) (by omega) (by omega) (by omega) (by omega) (by omega) (iv_10) (iv_11) (by omega) (a1195) (by omega) (iv_14)
        · have _q := h1197
          exact absurd h1197 (by omega)
      · have _q : True := trivial
        refine jx_go (tg := 207) rfl rfl ?_
        refine jx_ld (pc' := 209) (l' := jSto1 L 9 (.int (i32 (0)))) (st' := []) rfl rfl ?_
        obtain ⟨L1199, eL1199⟩ : ∃ q, q = jSto1 L 9 (.int (i32 (0))) := ⟨_, rfl⟩
        rw [← eL1199]
        have gL1199_0 : jGet L1199 0 = some (.ref 66) := eL1199 ▸ jg_ne (by decide) gL_0 rfl
        have gL1199_6 : jGet L1199 6 = some (.int (i32 (0))) := eL1199 ▸ jg_ne (by decide) gL_6 rfl
        have gL1199_7 : jGet L1199 7 = some (.int (i32 (1))) := eL1199 ▸ jg_ne (by decide) gL_7 rfl
        have gL1199_8 : jGet L1199 8 = some (.int (i32 (ks))) := eL1199 ▸ jg_ne (by decide) gL_8 rfl
        have gL1199_5 : jGet L1199 5 = some (.int (i32 (0))) := eL1199 ▸ jg_ne (by decide) gL_5 rfl
        have gL1199_1 : jGet L1199 1 = some (.int (i32 (one))) := eL1199 ▸ jg_ne (by decide) gL_1 rfl
        have gL1199_3 : jGet L1199 3 = some (.int (i32 (pl))) := eL1199 ▸ jg_ne (by decide) gL_3 rfl
        have gL1199_4 : jGet L1199 4 = some (.int (i32 (s))) := eL1199 ▸ jg_ne (by decide) gL_4 rfl
        have gL1199_9 : jGet L1199 9 = some (.int (i32 (0))) := eL1199 ▸ jg_eq
        refine jx_ld (pc' := 211) (l' := L1199) (st' := [.int (i32 (0))]) rfl (jl_iload gL1199_9) ?_
        refine jx_if_ne (pc' := 214) (tg := 222) rfl rfl rfl (by decide) (by decide) (fun h1200 => ?_) (fun h1200 => ?_)
        · have _q := h1200
          exact absurd h1200 (by omega)
        · have _q := h1200
          refine jx_ld (pc' := 215) (l' := L1199) (st' := [.ref 66]) rfl (jl_aloadn gL1199_0) ?_
          refine jx_ar (pc' := 216) (st' := [.int (i32 (4)), .ref 66]) rfl rfl rfl rfl ?_
          refine jx_ld (pc' := 217) (l' := L1199) (st' := [.int (i32 (pl)), .int (i32 (4)), .ref 66]) rfl (jl_iloadn gL1199_3) ?_
          refine jx_vr (pc' := 220) (as := [.int (i32 (4)), .int (i32 (pl))]) (st := []) rfl rfl rfl rfl ⟨rfl, rfl, Nat.le_of_ble_eq_true rfl⟩ rfl rfl (c_fail (dd := d) (hd := by omega) (hW := hWx) (kind := 4) (place := pl) (fk := fk1) (e_fk := show Gx 16 = fk1 from (ex_fk1))  (h_kind := ⟨(by decide), (by decide)⟩) (h_place := ⟨(Int.le_trans (by decide : (-2147483648 : Int) ≤ -2147483648) rx_pl.1), (Int.le_trans rx_pl.2 (by decide : (2147483647 : Int) ≤ 2147483647))⟩)  (p_0 := by omega) (p_1 := by omega)) (fun o V' hq => ?_)
          obtain ⟨G1201, A1202, fk2_1203, rfl, rfl, hW1204, hF1205, e1206, p1207, -⟩ := hq
          have hF1209 := Fr_tr hFx hF1205 (Fr_sub (by decide)) (Fr_sub (by decide))
          have hP1210 := Pf_f hPx hF1205 (by decide)
          have sf1211 : ND A1202 (one) (33) (0) (0) (0) (0) (0) (0) := ND_ag (by omega) (Ag_fr hF1205 (by decide)) iv_11
          have sf1212 : NdM A1202 (nd) (nd1) (sy) := NdM_f hF1205 (by decide) iv_14
          have ec1213 : ecn A1202 (G1201 31) = ec1 := (ecn_f (hF1205.2 15 rfl) (hF1205.1 31 rfl)).trans ex_ec1
          have bfk2_1203 : (0 : Int) ≤ fk2_1203 ∧ fk2_1203 ≤ 6 := e1206 ▸ hW1204.1 16
          refine .inl ⟨rfl, ?_⟩
          refine jx_ar (pc' := 221) (st' := [.int (i32 (0))]) rfl rfl rfl rfl ?_
          refine jx_rt (v := some (.int (i32 (0)))) rfl rfl rfl rfl rfl rfl ?_
          exact ⟨_, _, _, at1, fk2_1203, nd1, ln, ec1, rfl, rfl, hW1204, hF1209, hP1210, by omega, ((hF1205.1 10 rfl).trans (ex_at1)), (e1206), ((hF1205.1 31 rfl).trans (ex_nd1)), ((hF1205.1 9 rfl).trans (fx_9)), ec1213, by omega, by omega, by omega, by omega, by omega, by first | exact Or.inl (⟨by omega, by omega, by omega⟩)⟩
    · have _q := h1191
      exact absurd h1191 (by omega)
set_option maxRecDepth 20000 in
set_option maxHeartbeats 4000000 in
theorem c_readGuard_w_at_157_0_0 {X : jX} {d : Nat} {Vs : Nat → Prop} {sb : Int} {c0 c1 : jC} {G : Nat → Int} {A : Nat → Nat → Int} {T : jH} {ln le at0 fk op0 nd tk0 li ec sy : Int} (hd : 71 ≤ d + 1) (hW : Wk G A) (e_ln : G 9 = ln) (e_le : A 4 (ln).toNat = le) (e_at0 : G 10 = at0) (e_fk : G 16 = fk) (e_op0 : G 15 = op0) (e_nd : G 31 = nd) (e_tk0 : G 11 = tk0) (e_li : G 3 = li) (e_ec : ecn A (G 31) = ec) (e_sy : G 19 = sy) (i_SV : SV Vs sb G A) (p_0 : 0 ≤ op0 ∧ op0 ≤ 8) (p_1 : fk = 0) (p_2 : nd ≤ 2 * at0 - tz tk0 + 42) (p_3 : at0 ≤ le) (p_4 : ln < li) : ∀ (L : jL) (Gx : Nat → Int) (Ax : Nat → Nat → Int) (one pl s at1 tk1 fk1 nd1 op1 ks ec1 : Int), jGet L 0 = some (.ref 66) → jGet L 6 = some (.int (i32 (0))) → jGet L 7 = some (.int (i32 (0))) → jGet L 8 = some (.int (i32 (ks))) → jGet L 5 = some (.int (i32 (0))) → jGet L 1 = some (.int (i32 one)) → jGet L 3 = some (.int (i32 pl)) → jGet L 4 = some (.int (i32 s)) → Wk Gx Ax → Fr [9, 10, 11, 12, 13, 14, 15, 16, 17, 18, 31] [15, 16, 17, 18, 19, 20, 21, 22, 24, 28] G A Gx Ax → Pf nd A Ax → Gx 10 = at1 → Gx 11 = tk1 → Gx 16 = fk1 → Gx 31 = nd1 → Gx 15 = op1 → Ax 7 (s).toNat = ks → ecn Ax (Gx 31) = ec1 → Gx 9 = ln → ((-2147483648 : Int) ≤ one ∧ one ≤ 2147483647) → ((-2147483648 : Int) ≤ pl ∧ pl ≤ 2147483647) → ((-2147483648 : Int) ≤ s ∧ s ≤ 2147483647) → (at0 ≤ at1) → (at1 ≤ le) → (nd ≤ nd1) → (op1 = op0) → (one = nd) → (one ≤ 6998 ∧ one < nd1) → (fk1 = 0) → (nd1 - nd ≤ (2 * at1 - tz tk1) - (2 * at0 - tz tk0)) → (0 ≤ s ∧ s ≤ 201) → (-3000 ≤ pl ∧ pl ≤ 3002) → (SY Vs sb (s)) → (ND Ax (one) (33) (0) (0) (0) (0) (0) (0)) → (nd1 - nd + 5 * (ec1 - ec) ≤ (2 * at1 - tz tk1) - (2 * at0 - tz tk0) - tz tk1) → (NdM Ax (nd) (nd1) (sy)) → wj X d jm303 (157, L, [], rV c0 c1 Gx Ax T) (fun o V' => ∃ (G' : Nat → Int) (A' : Nat → Nat → Int) (r : Int) (at2 : Int) (fk2 : Int) (nd2 : Int) (ln2 : Int) (ec2 : Int), V' = rV c0 c1 G' A' T ∧ o = .inl (some (.int (i32 r))) ∧ Wk G' A' ∧ Fr [9, 10, 11, 12, 13, 14, 15, 16, 17, 18, 31] [15, 16, 17, 18, 19, 20, 21, 22, 24, 28] G A G' A' ∧ Pf nd A A' ∧ ((-2147483648 : Int) ≤ r ∧ r ≤ 2147483647) ∧ G' 10 = at2 ∧ G' 16 = fk2 ∧ G' 31 = nd2 ∧ G' 9 = ln2 ∧ ecn A' (G' 31) = ec2 ∧ (at0 ≤ at2) ∧ (at2 ≤ le) ∧ (nd ≤ nd2) ∧ (0 ≤ r) ∧ (r ≤ nd2) ∧ (((1 ≤ fk2) ∧ (ln2 = ln) ∧ (nd2 - nd ≤ 2 * at2 - 2 * at0 + 12)) ∨ ((fk2 = 0) ∧ (ln2 = ln + 1) ∧ (nd2 - nd ≤ 2 * at2 - (2 * at0 - tz tk0) + 0) ∧ (nd ≤ r) ∧ (r < nd2) ∧ (wU A' Vs sb (r) (nd) (nd2)) ∧ (NX A' (r)) ∧ (nd2 - nd + 5 * (ec2 - ec) ≤ 2 * at2 - (2 * at0 - tz tk0) + 0) ∧ (NdM A' (nd) (nd2) (sy))))) := by
  have hF0 : Fr [9, 10, 11, 12, 13, 14, 15, 16, 17, 18, 31] [15, 16, 17, 18, 19, 20, 21, 22, 24, 28] G A G A := Fr_rf
  have hP0 : Pf nd A A := Pf_rf
  have b_ln : (0 : Int) ≤ ln ∧ ln ≤ 3000 := e_ln ▸ hW.1 9
  have b_le : (0 : Int) ≤ le ∧ le ≤ 3000 := e_le ▸ hW.2 4 _
  have b_at0 : (0 : Int) ≤ at0 ∧ at0 ≤ 3002 := e_at0 ▸ hW.1 10
  have b_fk : (0 : Int) ≤ fk ∧ fk ≤ 6 := e_fk ▸ hW.1 16
  have b_op0 : (-2147483648 : Int) ≤ op0 ∧ op0 ≤ 2147483647 := e_op0 ▸ hW.1 15
  have b_nd : (0 : Int) ≤ nd ∧ nd ≤ 6999 := e_nd ▸ hW.1 31
  have z_tk0 := tz_f tk0
  have b_tk0 : (0 : Int) ≤ tk0 ∧ tk0 ≤ 5 := e_tk0 ▸ hW.1 11
  have b_li : (0 : Int) ≤ li ∧ li ≤ 3000 := e_li ▸ hW.1 3
  have b_sy : (0 : Int) ≤ sy ∧ sy ≤ 202 := e_sy ▸ hW.1 19
  intro L Gx Ax one pl s at1 tk1 fk1 nd1 op1 ks ec1 gL_0 gL_6 gL_7 gL_8 gL_5 gL_1 gL_3 gL_4 hWx hFx hPx ex_at1 ex_tk1 ex_fk1 ex_nd1 ex_op1 ex_ks ex_ec1 fx_9 rx_one rx_pl rx_s iv_0 iv_1 iv_2 iv_3 iv_4 iv_5 iv_6 iv_7 iv_8 iv_9 iv_10 iv_11 iv_12 iv_13
  have b_at1 : (0 : Int) ≤ at1 ∧ at1 ≤ 3002 := ex_at1 ▸ hWx.1 10
  have z_tk1 := tz_f tk1
  have b_tk1 : (0 : Int) ≤ tk1 ∧ tk1 ≤ 5 := ex_tk1 ▸ hWx.1 11
  have b_fk1 : (0 : Int) ≤ fk1 ∧ fk1 ≤ 6 := ex_fk1 ▸ hWx.1 16
  have b_nd1 : (0 : Int) ≤ nd1 ∧ nd1 ≤ 6999 := ex_nd1 ▸ hWx.1 31
  have b_op1 : (-2147483648 : Int) ≤ op1 ∧ op1 ≤ 2147483647 := ex_op1 ▸ hWx.1 15
  have b_ks : (0 : Int) ≤ ks ∧ ks ≤ 14 := ex_ks ▸ hWx.2 7 _
  refine jx_ld (pc' := 159) (l' := L) (st' := [.int (i32 (0))]) rfl (jl_iload gL_7) ?_
  refine jx_if_eq (pc' := 162) (tg := 189) rfl rfl rfl (by decide) (by decide) (fun h1214 => ?_) (fun h1214 => ?_)
  · have _q := h1214
    refine jx_ld (pc' := 191) (l' := L) (st' := [.int (i32 (0))]) rfl (jl_iload gL_6) ?_
    refine jx_if_eq (pc' := 194) (tg := 202) rfl rfl rfl (by decide) (by decide) (fun h1215 => ?_) (fun h1215 => ?_)
    · have _q := h1215
      refine jx_ld (pc' := 204) (l' := L) (st' := [.int (i32 (ks))]) rfl (jl_iload gL_8) ?_
      refine jx_st (pc' := 207) (as := [.int (i32 (ks))]) (st := []) rfl rfl ⟨rfl, Nat.le_of_ble_eq_true rfl⟩ rfl rfl rfl (c_isValue (dd := d) (hd := by omega) (k := ks)   (h_k := ⟨(Int.le_trans (by decide : (-2147483648 : Int) ≤ 0) b_ks.1), (Int.le_trans b_ks.2 (by decide : (14 : Int) ≤ 2147483647))⟩)  ) (fun o V' hq => ?_)
      obtain ⟨r1216, rfl, rfl, b1217, q1218⟩ := hq
      refine .inr ⟨_, rfl, ?_⟩
      rcases q1218 with ⟨rfl, a1219⟩ | rfl
      · have _q : True := trivial
        refine jx_ld (pc' := 209) (l' := jSto1 L 9 (.int (i32 (1)))) (st' := []) rfl rfl ?_
        obtain ⟨L1220, eL1220⟩ : ∃ q, q = jSto1 L 9 (.int (i32 (1))) := ⟨_, rfl⟩
        rw [← eL1220]
        have gL1220_0 : jGet L1220 0 = some (.ref 66) := eL1220 ▸ jg_ne (by decide) gL_0 rfl
        have gL1220_6 : jGet L1220 6 = some (.int (i32 (0))) := eL1220 ▸ jg_ne (by decide) gL_6 rfl
        have gL1220_7 : jGet L1220 7 = some (.int (i32 (0))) := eL1220 ▸ jg_ne (by decide) gL_7 rfl
        have gL1220_8 : jGet L1220 8 = some (.int (i32 (ks))) := eL1220 ▸ jg_ne (by decide) gL_8 rfl
        have gL1220_5 : jGet L1220 5 = some (.int (i32 (0))) := eL1220 ▸ jg_ne (by decide) gL_5 rfl
        have gL1220_1 : jGet L1220 1 = some (.int (i32 (one))) := eL1220 ▸ jg_ne (by decide) gL_1 rfl
        have gL1220_3 : jGet L1220 3 = some (.int (i32 (pl))) := eL1220 ▸ jg_ne (by decide) gL_3 rfl
        have gL1220_4 : jGet L1220 4 = some (.int (i32 (s))) := eL1220 ▸ jg_ne (by decide) gL_4 rfl
        have gL1220_9 : jGet L1220 9 = some (.int (i32 (1))) := eL1220 ▸ jg_eq
        refine jx_ld (pc' := 211) (l' := L1220) (st' := [.int (i32 (1))]) rfl (jl_iload gL1220_9) ?_
        refine jx_if_ne (pc' := 214) (tg := 222) rfl rfl rfl (by decide) (by decide) (fun h1221 => ?_) (fun h1221 => ?_)
        · have _q := h1221
          have z1222 := tz_f (tk1)
          exact c_readGuard_w_at_222_0_0 (X := X) (d := d) (Vs := Vs) (sb := sb) (c0 := c0) (c1 := c1) (G := G) (A := A) (T := T) (ln := ln) (le := le) (at0 := at0) (fk := fk) (op0 := op0) (nd := nd) (tk0 := tk0) (li := li) (ec := ec) (sy := sy) (hd := hd) (hW := hW) (e_ln := e_ln) (e_le := e_le) (e_at0 := e_at0) (e_fk := e_fk) (e_op0 := e_op0) (e_nd := e_nd) (e_tk0 := e_tk0) (e_li := e_li) (e_ec := e_ec) (e_sy := e_sy) (i_SV := i_SV) (p_0 := p_0) (p_1 := p_1) (p_2 := p_2) (p_3 := p_3) (p_4 := p_4) L1220 Gx Ax (one) (s) (at1) (tk1) (fk1) (nd1) (op1) (ks) (ec1) gL1220_0 gL1220_6 gL1220_7 gL1220_5 gL1220_1 gL1220_4 hWx hFx hPx ((ex_at1)) ((ex_tk1)) ((ex_fk1)) ((ex_nd1)) ((ex_op1)) ((ex_ks)) (ex_ec1) ((fx_9)) (by omega) (by omega) (by omega) (by omega) (by omega) (by omega) (by omega) (by omega) (by omega) (by omega) (by omega) (iv_10) (iv_11) (a1219) (by omega) (iv_13)
        · have _q := h1221
          exact absurd h1221 (by omega)
      · have _q : True := trivial
        refine jx_ld (pc' := 209) (l' := jSto1 L 9 (.int (i32 (0)))) (st' := []) rfl rfl ?_
        obtain ⟨L1223, eL1223⟩ : ∃ q, q = jSto1 L 9 (.int (i32 (0))) := ⟨_, rfl⟩
        rw [← eL1223]
        have gL1223_0 : jGet L1223 0 = some (.ref 66) := eL1223 ▸ jg_ne (by decide) gL_0 rfl
        have gL1223_6 : jGet L1223 6 = some (.int (i32 (0))) := eL1223 ▸ jg_ne (by decide) gL_6 rfl
        have gL1223_7 : jGet L1223 7 = some (.int (i32 (0))) := eL1223 ▸ jg_ne (by decide) gL_7 rfl
        have gL1223_8 : jGet L1223 8 = some (.int (i32 (ks))) := eL1223 ▸ jg_ne (by decide) gL_8 rfl
        have gL1223_5 : jGet L1223 5 = some (.int (i32 (0))) := eL1223 ▸ jg_ne (by decide) gL_5 rfl
        have gL1223_1 : jGet L1223 1 = some (.int (i32 (one))) := eL1223 ▸ jg_ne (by decide) gL_1 rfl
        have gL1223_3 : jGet L1223 3 = some (.int (i32 (pl))) := eL1223 ▸ jg_ne (by decide) gL_3 rfl
        have gL1223_4 : jGet L1223 4 = some (.int (i32 (s))) := eL1223 ▸ jg_ne (by decide) gL_4 rfl
        have gL1223_9 : jGet L1223 9 = some (.int (i32 (0))) := eL1223 ▸ jg_eq
        refine jx_ld (pc' := 211) (l' := L1223) (st' := [.int (i32 (0))]) rfl (jl_iload gL1223_9) ?_
        refine jx_if_ne (pc' := 214) (tg := 222) rfl rfl rfl (by decide) (by decide) (fun h1224 => ?_) (fun h1224 => ?_)
        · have _q := h1224
          exact absurd h1224 (by omega)
        · have _q := h1224
          refine jx_ld (pc' := 215) (l' := L1223) (st' := [.ref 66]) rfl (jl_aloadn gL1223_0) ?_
          refine jx_ar (pc' := 216) (st' := [.int (i32 (4)), .ref 66]) rfl rfl rfl rfl ?_
          refine jx_ld (pc' := 217) (l' := L1223) (st' := [.int (i32 (pl)), .int (i32 (4)), .ref 66]) rfl (jl_iloadn gL1223_3) ?_
          refine jx_vr (pc' := 220) (as := [.int (i32 (4)), .int (i32 (pl))]) (st := []) rfl rfl rfl rfl ⟨rfl, rfl, Nat.le_of_ble_eq_true rfl⟩ rfl rfl (c_fail (dd := d) (hd := by omega) (hW := hWx) (kind := 4) (place := pl) (fk := fk1) (e_fk := show Gx 16 = fk1 from (ex_fk1))  (h_kind := ⟨(by decide), (by decide)⟩) (h_place := ⟨(Int.le_trans (by decide : (-2147483648 : Int) ≤ -2147483648) rx_pl.1), (Int.le_trans rx_pl.2 (by decide : (2147483647 : Int) ≤ 2147483647))⟩)  (p_0 := by omega) (p_1 := by omega)) (fun o V' hq => ?_)
          obtain ⟨G1225, A1226, fk2_1227, rfl, rfl, hW1228, hF1229, e1230, p1231, -⟩ := hq
          have hF1233 := Fr_tr hFx hF1229 (Fr_sub (by decide)) (Fr_sub (by decide))
          have hP1234 := Pf_f hPx hF1229 (by decide)
          have sf1235 : ND A1226 (one) (33) (0) (0) (0) (0) (0) (0) := ND_ag (by omega) (Ag_fr hF1229 (by decide)) iv_11
          have sf1236 : NdM A1226 (nd) (nd1) (sy) := NdM_f hF1229 (by decide) iv_13
          have ec1237 : ecn A1226 (G1225 31) = ec1 := (ecn_f (hF1229.2 15 rfl) (hF1229.1 31 rfl)).trans ex_ec1
          have bfk2_1227 : (0 : Int) ≤ fk2_1227 ∧ fk2_1227 ≤ 6 := e1230 ▸ hW1228.1 16
          refine .inl ⟨rfl, ?_⟩
          refine jx_ar (pc' := 221) (st' := [.int (i32 (0))]) rfl rfl rfl rfl ?_
          refine jx_rt (v := some (.int (i32 (0)))) rfl rfl rfl rfl rfl rfl ?_
          exact ⟨_, _, _, at1, fk2_1227, nd1, ln, ec1, rfl, rfl, hW1228, hF1233, hP1234, by omega, ((hF1229.1 10 rfl).trans (ex_at1)), (e1230), ((hF1229.1 31 rfl).trans (ex_nd1)), ((hF1229.1 9 rfl).trans (fx_9)), ec1237, by omega, by omega, by omega, by omega, by omega, by first | exact Or.inl (⟨by omega, by omega, by omega⟩)⟩
    · have _q := h1215
      exact absurd h1215 (by omega)
  · have _q := h1214
    exact absurd h1214 (by omega)
set_option maxRecDepth 20000 in
set_option maxHeartbeats 4000000 in
theorem c_readGuard_w_at_108_1 {X : jX} {d : Nat} {Vs : Nat → Prop} {sb : Int} {c0 c1 : jC} {G : Nat → Int} {A : Nat → Nat → Int} {T : jH} {ln le at0 fk op0 nd tk0 li ec sy : Int} (hd : 71 ≤ d + 1) (hW : Wk G A) (e_ln : G 9 = ln) (e_le : A 4 (ln).toNat = le) (e_at0 : G 10 = at0) (e_fk : G 16 = fk) (e_op0 : G 15 = op0) (e_nd : G 31 = nd) (e_tk0 : G 11 = tk0) (e_li : G 3 = li) (e_ec : ecn A (G 31) = ec) (e_sy : G 19 = sy) (i_SV : SV Vs sb G A) (p_0 : 0 ≤ op0 ∧ op0 ≤ 8) (p_1 : fk = 0) (p_2 : nd ≤ 2 * at0 - tz tk0 + 42) (p_3 : at0 ≤ le) (p_4 : ln < li) : ∀ (L : jL) (Gx : Nat → Int) (Ax : Nat → Nat → Int) (one pl s ix at1 tk1 fk1 nd1 op1 ks ec1 : Int), jGet L 0 = some (.ref 66) → jGet L 6 = some (.int (i32 (1))) → jGet L 1 = some (.int (i32 one)) → jGet L 3 = some (.int (i32 pl)) → jGet L 4 = some (.int (i32 s)) → jGet L 5 = some (.int (i32 ix)) → Wk Gx Ax → Fr [9, 10, 11, 12, 13, 14, 15, 16, 17, 18, 31] [15, 16, 17, 18, 19, 20, 21, 22, 24, 28] G A Gx Ax → Pf nd A Ax → Gx 10 = at1 → Gx 11 = tk1 → Gx 16 = fk1 → Gx 31 = nd1 → Gx 15 = op1 → Ax 7 (s).toNat = ks → ecn Ax (Gx 31) = ec1 → Gx 9 = ln → ((-2147483648 : Int) ≤ one ∧ one ≤ 2147483647) → ((-2147483648 : Int) ≤ pl ∧ pl ≤ 2147483647) → ((-2147483648 : Int) ≤ s ∧ s ≤ 2147483647) → ((-2147483648 : Int) ≤ ix ∧ ix ≤ 2147483647) → (at0 ≤ at1) → (at1 ≤ le) → (nd ≤ nd1) → (op1 = op0) → (one = nd) → (one ≤ 6998 ∧ one < nd1) → (fk1 = 0) → (nd1 - nd ≤ (2 * at1 - tz tk1) - (2 * at0 - tz tk0)) → (0 ≤ s ∧ s ≤ 201) → (-3000 ≤ pl ∧ pl ≤ 3002) → (SY Vs sb (s)) → (ND Ax (one) (33) (0) (0) (0) (0) (0) (0)) → (wE Ax Vs sb (20) (ix) (one + 1) (nd1)) → (nd1 - nd + 5 * (ec1 - ec) ≤ (2 * at1 - tz tk1) - (2 * at0 - tz tk0) - 5 - tz tk1) → (NdM Ax (nd) (nd1) (sy)) → wj X d jm303 (108, L, [], rV c0 c1 Gx Ax T) (fun o V' => ∃ (G' : Nat → Int) (A' : Nat → Nat → Int) (r : Int) (at2 : Int) (fk2 : Int) (nd2 : Int) (ln2 : Int) (ec2 : Int), V' = rV c0 c1 G' A' T ∧ o = .inl (some (.int (i32 r))) ∧ Wk G' A' ∧ Fr [9, 10, 11, 12, 13, 14, 15, 16, 17, 18, 31] [15, 16, 17, 18, 19, 20, 21, 22, 24, 28] G A G' A' ∧ Pf nd A A' ∧ ((-2147483648 : Int) ≤ r ∧ r ≤ 2147483647) ∧ G' 10 = at2 ∧ G' 16 = fk2 ∧ G' 31 = nd2 ∧ G' 9 = ln2 ∧ ecn A' (G' 31) = ec2 ∧ (at0 ≤ at2) ∧ (at2 ≤ le) ∧ (nd ≤ nd2) ∧ (0 ≤ r) ∧ (r ≤ nd2) ∧ (((1 ≤ fk2) ∧ (ln2 = ln) ∧ (nd2 - nd ≤ 2 * at2 - 2 * at0 + 12)) ∨ ((fk2 = 0) ∧ (ln2 = ln + 1) ∧ (nd2 - nd ≤ 2 * at2 - (2 * at0 - tz tk0) + 0) ∧ (nd ≤ r) ∧ (r < nd2) ∧ (wU A' Vs sb (r) (nd) (nd2)) ∧ (NX A' (r)) ∧ (nd2 - nd + 5 * (ec2 - ec) ≤ 2 * at2 - (2 * at0 - tz tk0) + 0) ∧ (NdM A' (nd) (nd2) (sy))))) := by
  have hF0 : Fr [9, 10, 11, 12, 13, 14, 15, 16, 17, 18, 31] [15, 16, 17, 18, 19, 20, 21, 22, 24, 28] G A G A := Fr_rf
  have hP0 : Pf nd A A := Pf_rf
  have b_ln : (0 : Int) ≤ ln ∧ ln ≤ 3000 := e_ln ▸ hW.1 9
  have b_le : (0 : Int) ≤ le ∧ le ≤ 3000 := e_le ▸ hW.2 4 _
  have b_at0 : (0 : Int) ≤ at0 ∧ at0 ≤ 3002 := e_at0 ▸ hW.1 10
  have b_fk : (0 : Int) ≤ fk ∧ fk ≤ 6 := e_fk ▸ hW.1 16
  have b_op0 : (-2147483648 : Int) ≤ op0 ∧ op0 ≤ 2147483647 := e_op0 ▸ hW.1 15
  have b_nd : (0 : Int) ≤ nd ∧ nd ≤ 6999 := e_nd ▸ hW.1 31
  have z_tk0 := tz_f tk0
  have b_tk0 : (0 : Int) ≤ tk0 ∧ tk0 ≤ 5 := e_tk0 ▸ hW.1 11
  have b_li : (0 : Int) ≤ li ∧ li ≤ 3000 := e_li ▸ hW.1 3
  have b_sy : (0 : Int) ≤ sy ∧ sy ≤ 202 := e_sy ▸ hW.1 19
  intro L Gx Ax one pl s ix at1 tk1 fk1 nd1 op1 ks ec1 gL_0 gL_6 gL_1 gL_3 gL_4 gL_5 hWx hFx hPx ex_at1 ex_tk1 ex_fk1 ex_nd1 ex_op1 ex_ks ex_ec1 fx_9 rx_one rx_pl rx_s rx_ix iv_0 iv_1 iv_2 iv_3 iv_4 iv_5 iv_6 iv_7 iv_8 iv_9 iv_10 iv_11 iv_12 iv_13 iv_14
  have b_at1 : (0 : Int) ≤ at1 ∧ at1 ≤ 3002 := ex_at1 ▸ hWx.1 10
  have z_tk1 := tz_f tk1
  have b_tk1 : (0 : Int) ≤ tk1 ∧ tk1 ≤ 5 := ex_tk1 ▸ hWx.1 11
  have b_fk1 : (0 : Int) ≤ fk1 ∧ fk1 ≤ 6 := ex_fk1 ▸ hWx.1 16
  have b_nd1 : (0 : Int) ≤ nd1 ∧ nd1 ≤ 6999 := ex_nd1 ▸ hWx.1 31
  have b_op1 : (-2147483648 : Int) ≤ op1 ∧ op1 ≤ 2147483647 := ex_op1 ▸ hWx.1 15
  have b_ks : (0 : Int) ≤ ks ∧ ks ≤ 14 := ex_ks ▸ hWx.2 7 _
  refine jx_ld (pc' := 109) (l' := L) (st' := [.ref 66]) rfl (jl_aloadn gL_0) ?_
  refine jx_ar (pc' := 111) (st' := [.int (i32 (63)), .ref 66]) rfl rfl rfl rfl ?_
  have b1238 : (-2147483648 : Int) ≤ Gx 13 ∧ Gx 13 ≤ 2147483647 := hWx.1 13
  refine jx_vr (pc' := 114) (as := [.int (i32 (63))]) (st := []) rfl rfl rfl rfl ⟨rfl, rfl, Nat.le_of_ble_eq_true rfl⟩ rfl rfl (c_is (dd := d) (hd := by omega) (hW := hWx) (k := 63) (tk := tk1) (e_tk := show Gx 11 = tk1 from (ex_tk1)) (tn := Gx 13) (e_tn := show Gx 13 = Gx 13 from rfl)  (h_k := ⟨(by decide), (by decide)⟩)  ) (fun o V' hq => ?_)
  obtain ⟨r1239, rfl, rfl, b1240, q1241⟩ := hq
  refine .inr ⟨_, rfl, ?_⟩
  rcases q1241 with ⟨rfl, a1242, a1243, a1244⟩ | rfl
  · have _q : True := trivial
    refine jx_ld (pc' := 116) (l' := jSto1 L 7 (.int (i32 (1)))) (st' := []) rfl rfl ?_
    obtain ⟨L1245, eL1245⟩ : ∃ q, q = jSto1 L 7 (.int (i32 (1))) := ⟨_, rfl⟩
    rw [← eL1245]
    have gL1245_0 : jGet L1245 0 = some (.ref 66) := eL1245 ▸ jg_ne (by decide) gL_0 rfl
    have gL1245_6 : jGet L1245 6 = some (.int (i32 (1))) := eL1245 ▸ jg_ne (by decide) gL_6 rfl
    have gL1245_1 : jGet L1245 1 = some (.int (i32 (one))) := eL1245 ▸ jg_ne (by decide) gL_1 rfl
    have gL1245_3 : jGet L1245 3 = some (.int (i32 (pl))) := eL1245 ▸ jg_ne (by decide) gL_3 rfl
    have gL1245_4 : jGet L1245 4 = some (.int (i32 (s))) := eL1245 ▸ jg_ne (by decide) gL_4 rfl
    have gL1245_5 : jGet L1245 5 = some (.int (i32 (ix))) := eL1245 ▸ jg_ne (by decide) gL_5 rfl
    have gL1245_7 : jGet L1245 7 = some (.int (i32 (1))) := eL1245 ▸ jg_eq
    refine jx_ld (pc' := 117) (l' := L1245) (st' := [.ref 66]) rfl (jl_aloadn gL1245_0) ?_
    refine jr_get (pc' := 120) (i := 21) (v := .ref 74) rfl rfl (by decide) rfl rfl ?_
    refine jx_ld (pc' := 122) (l' := L1245) (st' := [.int (i32 (s)), .ref 74]) rfl (jl_iload gL1245_4) ?_
    refine jr_ldv (pc' := 123) (i := 7) (m := 260) (z := s) (y := ks) rfl (by decide) rfl (by decide) (by omega) (by omega) rfl (show Ax 7 (s).toNat = ks from (ex_ks)) ?_
    refine jx_ld (pc' := 125) (l' := jSto1 L1245 8 (.int (i32 (ks)))) (st' := []) rfl rfl ?_
    obtain ⟨L1246, eL1246⟩ : ∃ q, q = jSto1 L1245 8 (.int (i32 (ks))) := ⟨_, rfl⟩
    rw [← eL1246]
    have gL1246_0 : jGet L1246 0 = some (.ref 66) := eL1246 ▸ jg_ne (by decide) gL1245_0 rfl
    have gL1246_6 : jGet L1246 6 = some (.int (i32 (1))) := eL1246 ▸ jg_ne (by decide) gL1245_6 rfl
    have gL1246_1 : jGet L1246 1 = some (.int (i32 (one))) := eL1246 ▸ jg_ne (by decide) gL1245_1 rfl
    have gL1246_3 : jGet L1246 3 = some (.int (i32 (pl))) := eL1246 ▸ jg_ne (by decide) gL1245_3 rfl
    have gL1246_4 : jGet L1246 4 = some (.int (i32 (s))) := eL1246 ▸ jg_ne (by decide) gL1245_4 rfl
    have gL1246_5 : jGet L1246 5 = some (.int (i32 (ix))) := eL1246 ▸ jg_ne (by decide) gL1245_5 rfl
    have gL1246_7 : jGet L1246 7 = some (.int (i32 (1))) := eL1246 ▸ jg_ne (by decide) gL1245_7 rfl
    have gL1246_8 : jGet L1246 8 = some (.int (i32 (ks))) := eL1246 ▸ jg_eq
    refine jx_ld (pc' := 127) (l' := L1246) (st' := [.int (i32 (1))]) rfl (jl_iload gL1246_7) ?_
    refine jx_if_ne (pc' := 130) (tg := 157) rfl rfl rfl (by decide) (by decide) (fun h1247 => ?_) (fun h1247 => ?_)
    · have _q := h1247
      have z1248 := tz_f (tk1)
      exact c_readGuard_w_at_157_1_1 (X := X) (d := d) (Vs := Vs) (sb := sb) (c0 := c0) (c1 := c1) (G := G) (A := A) (T := T) (ln := ln) (le := le) (at0 := at0) (fk := fk) (op0 := op0) (nd := nd) (tk0 := tk0) (li := li) (ec := ec) (sy := sy) (hd := hd) (hW := hW) (e_ln := e_ln) (e_le := e_le) (e_at0 := e_at0) (e_fk := e_fk) (e_op0 := e_op0) (e_nd := e_nd) (e_tk0 := e_tk0) (e_li := e_li) (e_ec := e_ec) (e_sy := e_sy) (i_SV := i_SV) (p_0 := p_0) (p_1 := p_1) (p_2 := p_2) (p_3 := p_3) (p_4 := p_4) L1246 Gx Ax (one) (pl) (s) (ix) (at1) (tk1) (fk1) (nd1) (op1) (ks) (ec1) gL1246_0 gL1246_6 gL1246_7 gL1246_8 gL1246_1 gL1246_3 gL1246_4 gL1246_5 hWx hFx hPx ((ex_at1)) ((ex_tk1)) ((ex_fk1)) ((ex_nd1)) ((ex_op1)) ((ex_ks)) (ex_ec1) ((fx_9)) (by omega) (by omega) (by omega) (by omega) (by omega) (by omega) (by omega) (by omega) (by omega) (by omega) (by omega) (by omega) (by omega) (by omega) (iv_10) (iv_11) (by omega) (iv_12) (by omega) (iv_14)
    · have _q := h1247
      exact absurd h1247 (by omega)
  · have _q : True := trivial
    refine jx_ld (pc' := 116) (l' := jSto1 L 7 (.int (i32 (0)))) (st' := []) rfl rfl ?_
    obtain ⟨L1249, eL1249⟩ : ∃ q, q = jSto1 L 7 (.int (i32 (0))) := ⟨_, rfl⟩
    rw [← eL1249]
    have gL1249_0 : jGet L1249 0 = some (.ref 66) := eL1249 ▸ jg_ne (by decide) gL_0 rfl
    have gL1249_6 : jGet L1249 6 = some (.int (i32 (1))) := eL1249 ▸ jg_ne (by decide) gL_6 rfl
    have gL1249_1 : jGet L1249 1 = some (.int (i32 (one))) := eL1249 ▸ jg_ne (by decide) gL_1 rfl
    have gL1249_3 : jGet L1249 3 = some (.int (i32 (pl))) := eL1249 ▸ jg_ne (by decide) gL_3 rfl
    have gL1249_4 : jGet L1249 4 = some (.int (i32 (s))) := eL1249 ▸ jg_ne (by decide) gL_4 rfl
    have gL1249_5 : jGet L1249 5 = some (.int (i32 (ix))) := eL1249 ▸ jg_ne (by decide) gL_5 rfl
    have gL1249_7 : jGet L1249 7 = some (.int (i32 (0))) := eL1249 ▸ jg_eq
    refine jx_ld (pc' := 117) (l' := L1249) (st' := [.ref 66]) rfl (jl_aloadn gL1249_0) ?_
    refine jr_get (pc' := 120) (i := 21) (v := .ref 74) rfl rfl (by decide) rfl rfl ?_
    refine jx_ld (pc' := 122) (l' := L1249) (st' := [.int (i32 (s)), .ref 74]) rfl (jl_iload gL1249_4) ?_
    refine jr_ldv (pc' := 123) (i := 7) (m := 260) (z := s) (y := ks) rfl (by decide) rfl (by decide) (by omega) (by omega) rfl (show Ax 7 (s).toNat = ks from (ex_ks)) ?_
    refine jx_ld (pc' := 125) (l' := jSto1 L1249 8 (.int (i32 (ks)))) (st' := []) rfl rfl ?_
    obtain ⟨L1250, eL1250⟩ : ∃ q, q = jSto1 L1249 8 (.int (i32 (ks))) := ⟨_, rfl⟩
    rw [← eL1250]
    have gL1250_0 : jGet L1250 0 = some (.ref 66) := eL1250 ▸ jg_ne (by decide) gL1249_0 rfl
    have gL1250_6 : jGet L1250 6 = some (.int (i32 (1))) := eL1250 ▸ jg_ne (by decide) gL1249_6 rfl
    have gL1250_1 : jGet L1250 1 = some (.int (i32 (one))) := eL1250 ▸ jg_ne (by decide) gL1249_1 rfl
    have gL1250_3 : jGet L1250 3 = some (.int (i32 (pl))) := eL1250 ▸ jg_ne (by decide) gL1249_3 rfl
    have gL1250_4 : jGet L1250 4 = some (.int (i32 (s))) := eL1250 ▸ jg_ne (by decide) gL1249_4 rfl
    have gL1250_5 : jGet L1250 5 = some (.int (i32 (ix))) := eL1250 ▸ jg_ne (by decide) gL1249_5 rfl
    have gL1250_7 : jGet L1250 7 = some (.int (i32 (0))) := eL1250 ▸ jg_ne (by decide) gL1249_7 rfl
    have gL1250_8 : jGet L1250 8 = some (.int (i32 (ks))) := eL1250 ▸ jg_eq
    refine jx_ld (pc' := 127) (l' := L1250) (st' := [.int (i32 (0))]) rfl (jl_iload gL1250_7) ?_
    refine jx_if_ne (pc' := 130) (tg := 157) rfl rfl rfl (by decide) (by decide) (fun h1251 => ?_) (fun h1251 => ?_)
    · have _q := h1251
      exact absurd h1251 (by omega)
    · have _q := h1251
      refine jx_ld (pc' := 131) (l' := L1250) (st' := [.ref 66]) rfl (jl_aloadn gL1250_0) ?_
      refine jx_ar (pc' := 133) (st' := [.int (i32 (38)), .ref 66]) rfl rfl rfl rfl ?_
      refine jx_vr (pc' := 136) (as := [.int (i32 (38))]) (st := []) rfl rfl rfl rfl ⟨rfl, rfl, Nat.le_of_ble_eq_true rfl⟩ rfl rfl (c_is (dd := d) (hd := by omega) (hW := hWx) (k := 38) (tk := tk1) (e_tk := show Gx 11 = tk1 from (ex_tk1)) (tn := Gx 13) (e_tn := show Gx 13 = Gx 13 from rfl)  (h_k := ⟨(by decide), (by decide)⟩)  ) (fun o V' hq => ?_)
      obtain ⟨r1252, rfl, rfl, b1253, q1254⟩ := hq
      refine .inr ⟨_, rfl, ?_⟩
      rcases q1254 with ⟨rfl, a1255, a1256, a1257⟩ | rfl
      · have _q : True := trivial
        refine jx_if_ne (pc' := 139) (tg := 157) rfl rfl rfl (by decide) (by decide) (fun h1258 => ?_) (fun h1258 => ?_)
        · have _q := h1258
          have z1259 := tz_f (tk1)
          exact c_readGuard_w_at_157_1_0 (X := X) (d := d) (Vs := Vs) (sb := sb) (c0 := c0) (c1 := c1) (G := G) (A := A) (T := T) (ln := ln) (le := le) (at0 := at0) (fk := fk) (op0 := op0) (nd := nd) (tk0 := tk0) (li := li) (ec := ec) (sy := sy) (hd := hd) (hW := hW) (e_ln := e_ln) (e_le := e_le) (e_at0 := e_at0) (e_fk := e_fk) (e_op0 := e_op0) (e_nd := e_nd) (e_tk0 := e_tk0) (e_li := e_li) (e_ec := e_ec) (e_sy := e_sy) (i_SV := i_SV) (p_0 := p_0) (p_1 := p_1) (p_2 := p_2) (p_3 := p_3) (p_4 := p_4) L1250 Gx Ax (one) (pl) (s) (ix) (at1) (tk1) (fk1) (nd1) (op1) (ks) (ec1) gL1250_0 gL1250_6 gL1250_7 gL1250_8 gL1250_1 gL1250_3 gL1250_4 gL1250_5 hWx hFx hPx ((ex_at1)) ((ex_tk1)) ((ex_fk1)) ((ex_nd1)) ((ex_op1)) ((ex_ks)) (ex_ec1) ((fx_9)) (by omega) (by omega) (by omega) (by omega) (by omega) (by omega) (by omega) (by omega) (by omega) (by omega) (by omega) (by omega) (by omega) (by omega) (iv_10) (iv_11) (iv_12) (by omega) (iv_14)
        · have _q := h1258
          exact absurd h1258 (by omega)
      · have _q : True := trivial
        refine jx_if_ne (pc' := 139) (tg := 157) rfl rfl rfl (by decide) (by decide) (fun h1260 => ?_) (fun h1260 => ?_)
        · have _q := h1260
          exact absurd h1260 (by omega)
        · have _q := h1260
          refine jx_ld (pc' := 140) (l' := L1250) (st' := [.ref 66]) rfl (jl_aloadn gL1250_0) ?_
          refine jx_vr (pc' := 143) (as := []) (st := []) rfl rfl rfl rfl ⟨rfl, rfl, Nat.le_of_ble_eq_true rfl⟩ rfl rfl (c_operationAt (dd := d) (hd := by omega) (hW := hWx)  (tk := tk1) (e_tk := show Gx 11 = tk1 from (ex_tk1)) (tn := Gx 13) (e_tn := show Gx 13 = Gx 13 from rfl)    ) (fun o V' hq => ?_)
          obtain ⟨r1261, rfl, rfl, b1262, q1263⟩ := hq
          refine .inr ⟨_, rfl, ?_⟩
          rcases q1263 with rfl | a1264
          · have _q : True := trivial
            refine jx_if_ne (pc' := 146) (tg := 157) rfl rfl rfl (by decide) (by decide) (fun h1265 => ?_) (fun h1265 => ?_)
            · have _q := h1265
              exact absurd h1265 (by omega)
            · have _q := h1265
              refine jx_ld (pc' := 147) (l' := L1250) (st' := [.ref 66]) rfl (jl_aloadn gL1250_0) ?_
              refine jx_ar (pc' := 148) (st' := [.int (i32 (1)), .ref 66]) rfl rfl rfl rfl ?_
              refine jx_ld (pc' := 149) (l' := L1250) (st' := [.ref 66, .int (i32 (1)), .ref 66]) rfl (jl_aloadn gL1250_0) ?_
              have b1266 : (-3000 : Int) ≤ Gx 12 ∧ Gx 12 ≤ 3002 := hWx.1 12
              refine jr_get (pc' := 152) (i := 12) (v := .int (i32 (Gx 12))) rfl rfl (by decide) rfl rfl ?_
              refine jx_vr (pc' := 155) (as := [.int (i32 (1)), .int (i32 (Gx 12))]) (st := []) rfl rfl rfl rfl ⟨rfl, rfl, Nat.le_of_ble_eq_true rfl⟩ rfl rfl (c_fail (dd := d) (hd := by omega) (hW := hWx) (kind := 1) (place := Gx 12) (fk := fk1) (e_fk := show Gx 16 = fk1 from (ex_fk1))  (h_kind := ⟨(by decide), (by decide)⟩) (h_place := ⟨(Int.le_trans (by decide : (-2147483648 : Int) ≤ -3000) b1266.1), (Int.le_trans b1266.2 (by decide : (3002 : Int) ≤ 2147483647))⟩)  (p_0 := by omega) (p_1 := by omega)) (fun o V' hq => ?_)
              obtain ⟨G1267, A1268, fk2_1269, rfl, rfl, hW1270, hF1271, e1272, p1273, -⟩ := hq
              have hF1275 := Fr_tr hFx hF1271 (Fr_sub (by decide)) (Fr_sub (by decide))
              have hP1276 := Pf_f hPx hF1271 (by decide)
              have sf1277 : ND A1268 (one) (33) (0) (0) (0) (0) (0) (0) := ND_ag (by omega) (Ag_fr hF1271 (by decide)) iv_11
              have sf1278 : wE A1268 Vs sb (20) (ix) (one + 1) (nd1) := wE_ag (by omega) (Sg_fr hF1271 (by decide)) (Ag_fr hF1271 (by decide)) iv_12
              have sf1279 : NdM A1268 (nd) (nd1) (sy) := NdM_f hF1271 (by decide) iv_14
              have ec1280 : ecn A1268 (G1267 31) = ec1 := (ecn_f (hF1271.2 15 rfl) (hF1271.1 31 rfl)).trans ex_ec1
              have bfk2_1269 : (0 : Int) ≤ fk2_1269 ∧ fk2_1269 ≤ 6 := e1272 ▸ hW1270.1 16
              refine .inl ⟨rfl, ?_⟩
              refine jx_ar (pc' := 156) (st' := [.int (i32 (0))]) rfl rfl rfl rfl ?_
              refine jx_rt (v := some (.int (i32 (0)))) rfl rfl rfl rfl rfl rfl ?_
              exact ⟨_, _, _, at1, fk2_1269, nd1, ln, ec1, rfl, rfl, hW1270, hF1275, hP1276, by omega, ((hF1271.1 10 rfl).trans (ex_at1)), (e1272), ((hF1271.1 31 rfl).trans (ex_nd1)), ((hF1271.1 9 rfl).trans (fx_9)), ec1280, by omega, by omega, by omega, by omega, by omega, by first | exact Or.inl (⟨by omega, by omega, by omega⟩)⟩
          · have _q : True := trivial
            refine jx_if_ne (pc' := 146) (tg := 157) rfl rfl rfl (Int.le_trans (by decide : (-2147483648 : Int) ≤ -2147483648) b1262.1) (Int.le_trans b1262.2 (by decide : (2147483647 : Int) ≤ 2147483647)) (fun h1281 => ?_) (fun h1281 => ?_)
            · have _q := h1281
              have z1282 := tz_f (tk1)
              exact c_readGuard_w_at_157_1_0 (X := X) (d := d) (Vs := Vs) (sb := sb) (c0 := c0) (c1 := c1) (G := G) (A := A) (T := T) (ln := ln) (le := le) (at0 := at0) (fk := fk) (op0 := op0) (nd := nd) (tk0 := tk0) (li := li) (ec := ec) (sy := sy) (hd := hd) (hW := hW) (e_ln := e_ln) (e_le := e_le) (e_at0 := e_at0) (e_fk := e_fk) (e_op0 := e_op0) (e_nd := e_nd) (e_tk0 := e_tk0) (e_li := e_li) (e_ec := e_ec) (e_sy := e_sy) (i_SV := i_SV) (p_0 := p_0) (p_1 := p_1) (p_2 := p_2) (p_3 := p_3) (p_4 := p_4) L1250 Gx Ax (one) (pl) (s) (ix) (at1) (tk1) (fk1) (nd1) (op1) (ks) (ec1) gL1250_0 gL1250_6 gL1250_7 gL1250_8 gL1250_1 gL1250_3 gL1250_4 gL1250_5 hWx hFx hPx ((ex_at1)) ((ex_tk1)) ((ex_fk1)) ((ex_nd1)) ((ex_op1)) ((ex_ks)) (ex_ec1) ((fx_9)) (by omega) (by omega) (by omega) (by omega) (by omega) (by omega) (by omega) (by omega) (by omega) (by omega) (by omega) (by omega) (by omega) (by omega) (iv_10) (iv_11) (iv_12) (by omega) (iv_14)
            · have _q := h1281
              refine jx_ld (pc' := 147) (l' := L1250) (st' := [.ref 66]) rfl (jl_aloadn gL1250_0) ?_
              refine jx_ar (pc' := 148) (st' := [.int (i32 (1)), .ref 66]) rfl rfl rfl rfl ?_
              refine jx_ld (pc' := 149) (l' := L1250) (st' := [.ref 66, .int (i32 (1)), .ref 66]) rfl (jl_aloadn gL1250_0) ?_
              have b1283 : (-3000 : Int) ≤ Gx 12 ∧ Gx 12 ≤ 3002 := hWx.1 12
              refine jr_get (pc' := 152) (i := 12) (v := .int (i32 (Gx 12))) rfl rfl (by decide) rfl rfl ?_
              refine jx_vr (pc' := 155) (as := [.int (i32 (1)), .int (i32 (Gx 12))]) (st := []) rfl rfl rfl rfl ⟨rfl, rfl, Nat.le_of_ble_eq_true rfl⟩ rfl rfl (c_fail (dd := d) (hd := by omega) (hW := hWx) (kind := 1) (place := Gx 12) (fk := fk1) (e_fk := show Gx 16 = fk1 from (ex_fk1))  (h_kind := ⟨(by decide), (by decide)⟩) (h_place := ⟨(Int.le_trans (by decide : (-2147483648 : Int) ≤ -3000) b1283.1), (Int.le_trans b1283.2 (by decide : (3002 : Int) ≤ 2147483647))⟩)  (p_0 := by omega) (p_1 := by omega)) (fun o V' hq => ?_)
              obtain ⟨G1284, A1285, fk2_1286, rfl, rfl, hW1287, hF1288, e1289, p1290, -⟩ := hq
              have hF1292 := Fr_tr hFx hF1288 (Fr_sub (by decide)) (Fr_sub (by decide))
              have hP1293 := Pf_f hPx hF1288 (by decide)
              have sf1294 : ND A1285 (one) (33) (0) (0) (0) (0) (0) (0) := ND_ag (by omega) (Ag_fr hF1288 (by decide)) iv_11
              have sf1295 : wE A1285 Vs sb (20) (ix) (one + 1) (nd1) := wE_ag (by omega) (Sg_fr hF1288 (by decide)) (Ag_fr hF1288 (by decide)) iv_12
              have sf1296 : NdM A1285 (nd) (nd1) (sy) := NdM_f hF1288 (by decide) iv_14
              have ec1297 : ecn A1285 (G1284 31) = ec1 := (ecn_f (hF1288.2 15 rfl) (hF1288.1 31 rfl)).trans ex_ec1
              have bfk2_1286 : (0 : Int) ≤ fk2_1286 ∧ fk2_1286 ≤ 6 := e1289 ▸ hW1287.1 16
              refine .inl ⟨rfl, ?_⟩
              refine jx_ar (pc' := 156) (st' := [.int (i32 (0))]) rfl rfl rfl rfl ?_
              refine jx_rt (v := some (.int (i32 (0)))) rfl rfl rfl rfl rfl rfl ?_
              exact ⟨_, _, _, at1, fk2_1286, nd1, ln, ec1, rfl, rfl, hW1287, hF1292, hP1293, by omega, ((hF1288.1 10 rfl).trans (ex_at1)), (e1289), ((hF1288.1 31 rfl).trans (ex_nd1)), ((hF1288.1 9 rfl).trans (fx_9)), ec1297, by omega, by omega, by omega, by omega, by omega, by first | exact Or.inl (⟨by omega, by omega, by omega⟩)⟩
set_option maxRecDepth 20000 in
set_option maxHeartbeats 4000000 in
theorem c_readGuard_w_at_108_0 {X : jX} {d : Nat} {Vs : Nat → Prop} {sb : Int} {c0 c1 : jC} {G : Nat → Int} {A : Nat → Nat → Int} {T : jH} {ln le at0 fk op0 nd tk0 li ec sy : Int} (hd : 71 ≤ d + 1) (hW : Wk G A) (e_ln : G 9 = ln) (e_le : A 4 (ln).toNat = le) (e_at0 : G 10 = at0) (e_fk : G 16 = fk) (e_op0 : G 15 = op0) (e_nd : G 31 = nd) (e_tk0 : G 11 = tk0) (e_li : G 3 = li) (e_ec : ecn A (G 31) = ec) (e_sy : G 19 = sy) (i_SV : SV Vs sb G A) (p_0 : 0 ≤ op0 ∧ op0 ≤ 8) (p_1 : fk = 0) (p_2 : nd ≤ 2 * at0 - tz tk0 + 42) (p_3 : at0 ≤ le) (p_4 : ln < li) : ∀ (L : jL) (Gx : Nat → Int) (Ax : Nat → Nat → Int) (one pl s at1 tk1 fk1 nd1 op1 ks ec1 : Int), jGet L 0 = some (.ref 66) → jGet L 6 = some (.int (i32 (0))) → jGet L 5 = some (.int (i32 (0))) → jGet L 1 = some (.int (i32 one)) → jGet L 3 = some (.int (i32 pl)) → jGet L 4 = some (.int (i32 s)) → Wk Gx Ax → Fr [9, 10, 11, 12, 13, 14, 15, 16, 17, 18, 31] [15, 16, 17, 18, 19, 20, 21, 22, 24, 28] G A Gx Ax → Pf nd A Ax → Gx 10 = at1 → Gx 11 = tk1 → Gx 16 = fk1 → Gx 31 = nd1 → Gx 15 = op1 → Ax 7 (s).toNat = ks → ecn Ax (Gx 31) = ec1 → Gx 9 = ln → ((-2147483648 : Int) ≤ one ∧ one ≤ 2147483647) → ((-2147483648 : Int) ≤ pl ∧ pl ≤ 2147483647) → ((-2147483648 : Int) ≤ s ∧ s ≤ 2147483647) → (at0 ≤ at1) → (at1 ≤ le) → (nd ≤ nd1) → (op1 = op0) → (one = nd) → (one ≤ 6998 ∧ one < nd1) → (fk1 = 0) → (nd1 - nd ≤ (2 * at1 - tz tk1) - (2 * at0 - tz tk0)) → (0 ≤ s ∧ s ≤ 201) → (-3000 ≤ pl ∧ pl ≤ 3002) → (SY Vs sb (s)) → (ND Ax (one) (33) (0) (0) (0) (0) (0) (0)) → (nd1 - nd + 5 * (ec1 - ec) ≤ (2 * at1 - tz tk1) - (2 * at0 - tz tk0) - tz tk1) → (NdM Ax (nd) (nd1) (sy)) → wj X d jm303 (108, L, [], rV c0 c1 Gx Ax T) (fun o V' => ∃ (G' : Nat → Int) (A' : Nat → Nat → Int) (r : Int) (at2 : Int) (fk2 : Int) (nd2 : Int) (ln2 : Int) (ec2 : Int), V' = rV c0 c1 G' A' T ∧ o = .inl (some (.int (i32 r))) ∧ Wk G' A' ∧ Fr [9, 10, 11, 12, 13, 14, 15, 16, 17, 18, 31] [15, 16, 17, 18, 19, 20, 21, 22, 24, 28] G A G' A' ∧ Pf nd A A' ∧ ((-2147483648 : Int) ≤ r ∧ r ≤ 2147483647) ∧ G' 10 = at2 ∧ G' 16 = fk2 ∧ G' 31 = nd2 ∧ G' 9 = ln2 ∧ ecn A' (G' 31) = ec2 ∧ (at0 ≤ at2) ∧ (at2 ≤ le) ∧ (nd ≤ nd2) ∧ (0 ≤ r) ∧ (r ≤ nd2) ∧ (((1 ≤ fk2) ∧ (ln2 = ln) ∧ (nd2 - nd ≤ 2 * at2 - 2 * at0 + 12)) ∨ ((fk2 = 0) ∧ (ln2 = ln + 1) ∧ (nd2 - nd ≤ 2 * at2 - (2 * at0 - tz tk0) + 0) ∧ (nd ≤ r) ∧ (r < nd2) ∧ (wU A' Vs sb (r) (nd) (nd2)) ∧ (NX A' (r)) ∧ (nd2 - nd + 5 * (ec2 - ec) ≤ 2 * at2 - (2 * at0 - tz tk0) + 0) ∧ (NdM A' (nd) (nd2) (sy))))) := by
  have hF0 : Fr [9, 10, 11, 12, 13, 14, 15, 16, 17, 18, 31] [15, 16, 17, 18, 19, 20, 21, 22, 24, 28] G A G A := Fr_rf
  have hP0 : Pf nd A A := Pf_rf
  have b_ln : (0 : Int) ≤ ln ∧ ln ≤ 3000 := e_ln ▸ hW.1 9
  have b_le : (0 : Int) ≤ le ∧ le ≤ 3000 := e_le ▸ hW.2 4 _
  have b_at0 : (0 : Int) ≤ at0 ∧ at0 ≤ 3002 := e_at0 ▸ hW.1 10
  have b_fk : (0 : Int) ≤ fk ∧ fk ≤ 6 := e_fk ▸ hW.1 16
  have b_op0 : (-2147483648 : Int) ≤ op0 ∧ op0 ≤ 2147483647 := e_op0 ▸ hW.1 15
  have b_nd : (0 : Int) ≤ nd ∧ nd ≤ 6999 := e_nd ▸ hW.1 31
  have z_tk0 := tz_f tk0
  have b_tk0 : (0 : Int) ≤ tk0 ∧ tk0 ≤ 5 := e_tk0 ▸ hW.1 11
  have b_li : (0 : Int) ≤ li ∧ li ≤ 3000 := e_li ▸ hW.1 3
  have b_sy : (0 : Int) ≤ sy ∧ sy ≤ 202 := e_sy ▸ hW.1 19
  intro L Gx Ax one pl s at1 tk1 fk1 nd1 op1 ks ec1 gL_0 gL_6 gL_5 gL_1 gL_3 gL_4 hWx hFx hPx ex_at1 ex_tk1 ex_fk1 ex_nd1 ex_op1 ex_ks ex_ec1 fx_9 rx_one rx_pl rx_s iv_0 iv_1 iv_2 iv_3 iv_4 iv_5 iv_6 iv_7 iv_8 iv_9 iv_10 iv_11 iv_12 iv_13
  have b_at1 : (0 : Int) ≤ at1 ∧ at1 ≤ 3002 := ex_at1 ▸ hWx.1 10
  have z_tk1 := tz_f tk1
  have b_tk1 : (0 : Int) ≤ tk1 ∧ tk1 ≤ 5 := ex_tk1 ▸ hWx.1 11
  have b_fk1 : (0 : Int) ≤ fk1 ∧ fk1 ≤ 6 := ex_fk1 ▸ hWx.1 16
  have b_nd1 : (0 : Int) ≤ nd1 ∧ nd1 ≤ 6999 := ex_nd1 ▸ hWx.1 31
  have b_op1 : (-2147483648 : Int) ≤ op1 ∧ op1 ≤ 2147483647 := ex_op1 ▸ hWx.1 15
  have b_ks : (0 : Int) ≤ ks ∧ ks ≤ 14 := ex_ks ▸ hWx.2 7 _
  refine jx_ld (pc' := 109) (l' := L) (st' := [.ref 66]) rfl (jl_aloadn gL_0) ?_
  refine jx_ar (pc' := 111) (st' := [.int (i32 (63)), .ref 66]) rfl rfl rfl rfl ?_
  have b1298 : (-2147483648 : Int) ≤ Gx 13 ∧ Gx 13 ≤ 2147483647 := hWx.1 13
  refine jx_vr (pc' := 114) (as := [.int (i32 (63))]) (st := []) rfl rfl rfl rfl ⟨rfl, rfl, Nat.le_of_ble_eq_true rfl⟩ rfl rfl (c_is (dd := d) (hd := by omega) (hW := hWx) (k := 63) (tk := tk1) (e_tk := show Gx 11 = tk1 from (ex_tk1)) (tn := Gx 13) (e_tn := show Gx 13 = Gx 13 from rfl)  (h_k := ⟨(by decide), (by decide)⟩)  ) (fun o V' hq => ?_)
  obtain ⟨r1299, rfl, rfl, b1300, q1301⟩ := hq
  refine .inr ⟨_, rfl, ?_⟩
  rcases q1301 with ⟨rfl, a1302, a1303, a1304⟩ | rfl
  · have _q : True := trivial
    refine jx_ld (pc' := 116) (l' := jSto1 L 7 (.int (i32 (1)))) (st' := []) rfl rfl ?_
    obtain ⟨L1305, eL1305⟩ : ∃ q, q = jSto1 L 7 (.int (i32 (1))) := ⟨_, rfl⟩
    rw [← eL1305]
    have gL1305_0 : jGet L1305 0 = some (.ref 66) := eL1305 ▸ jg_ne (by decide) gL_0 rfl
    have gL1305_6 : jGet L1305 6 = some (.int (i32 (0))) := eL1305 ▸ jg_ne (by decide) gL_6 rfl
    have gL1305_5 : jGet L1305 5 = some (.int (i32 (0))) := eL1305 ▸ jg_ne (by decide) gL_5 rfl
    have gL1305_1 : jGet L1305 1 = some (.int (i32 (one))) := eL1305 ▸ jg_ne (by decide) gL_1 rfl
    have gL1305_3 : jGet L1305 3 = some (.int (i32 (pl))) := eL1305 ▸ jg_ne (by decide) gL_3 rfl
    have gL1305_4 : jGet L1305 4 = some (.int (i32 (s))) := eL1305 ▸ jg_ne (by decide) gL_4 rfl
    have gL1305_7 : jGet L1305 7 = some (.int (i32 (1))) := eL1305 ▸ jg_eq
    refine jx_ld (pc' := 117) (l' := L1305) (st' := [.ref 66]) rfl (jl_aloadn gL1305_0) ?_
    refine jr_get (pc' := 120) (i := 21) (v := .ref 74) rfl rfl (by decide) rfl rfl ?_
    refine jx_ld (pc' := 122) (l' := L1305) (st' := [.int (i32 (s)), .ref 74]) rfl (jl_iload gL1305_4) ?_
    refine jr_ldv (pc' := 123) (i := 7) (m := 260) (z := s) (y := ks) rfl (by decide) rfl (by decide) (by omega) (by omega) rfl (show Ax 7 (s).toNat = ks from (ex_ks)) ?_
    refine jx_ld (pc' := 125) (l' := jSto1 L1305 8 (.int (i32 (ks)))) (st' := []) rfl rfl ?_
    obtain ⟨L1306, eL1306⟩ : ∃ q, q = jSto1 L1305 8 (.int (i32 (ks))) := ⟨_, rfl⟩
    rw [← eL1306]
    have gL1306_0 : jGet L1306 0 = some (.ref 66) := eL1306 ▸ jg_ne (by decide) gL1305_0 rfl
    have gL1306_6 : jGet L1306 6 = some (.int (i32 (0))) := eL1306 ▸ jg_ne (by decide) gL1305_6 rfl
    have gL1306_5 : jGet L1306 5 = some (.int (i32 (0))) := eL1306 ▸ jg_ne (by decide) gL1305_5 rfl
    have gL1306_1 : jGet L1306 1 = some (.int (i32 (one))) := eL1306 ▸ jg_ne (by decide) gL1305_1 rfl
    have gL1306_3 : jGet L1306 3 = some (.int (i32 (pl))) := eL1306 ▸ jg_ne (by decide) gL1305_3 rfl
    have gL1306_4 : jGet L1306 4 = some (.int (i32 (s))) := eL1306 ▸ jg_ne (by decide) gL1305_4 rfl
    have gL1306_7 : jGet L1306 7 = some (.int (i32 (1))) := eL1306 ▸ jg_ne (by decide) gL1305_7 rfl
    have gL1306_8 : jGet L1306 8 = some (.int (i32 (ks))) := eL1306 ▸ jg_eq
    refine jx_ld (pc' := 127) (l' := L1306) (st' := [.int (i32 (1))]) rfl (jl_iload gL1306_7) ?_
    refine jx_if_ne (pc' := 130) (tg := 157) rfl rfl rfl (by decide) (by decide) (fun h1307 => ?_) (fun h1307 => ?_)
    · have _q := h1307
      have z1308 := tz_f (tk1)
      exact c_readGuard_w_at_157_0_1 (X := X) (d := d) (Vs := Vs) (sb := sb) (c0 := c0) (c1 := c1) (G := G) (A := A) (T := T) (ln := ln) (le := le) (at0 := at0) (fk := fk) (op0 := op0) (nd := nd) (tk0 := tk0) (li := li) (ec := ec) (sy := sy) (hd := hd) (hW := hW) (e_ln := e_ln) (e_le := e_le) (e_at0 := e_at0) (e_fk := e_fk) (e_op0 := e_op0) (e_nd := e_nd) (e_tk0 := e_tk0) (e_li := e_li) (e_ec := e_ec) (e_sy := e_sy) (i_SV := i_SV) (p_0 := p_0) (p_1 := p_1) (p_2 := p_2) (p_3 := p_3) (p_4 := p_4) L1306 Gx Ax (one) (pl) (s) (at1) (tk1) (fk1) (nd1) (op1) (ks) (ec1) gL1306_0 gL1306_6 gL1306_7 gL1306_8 gL1306_5 gL1306_1 gL1306_3 gL1306_4 hWx hFx hPx ((ex_at1)) ((ex_tk1)) ((ex_fk1)) ((ex_nd1)) ((ex_op1)) ((ex_ks)) (ex_ec1) ((fx_9)) (by omega) (by omega) (by omega) (by omega) (by omega) (by omega) (by omega) (by omega) (by omega) (by omega) (by omega) (by omega) (by omega) (iv_10) (iv_11) (by omega) (by omega) (iv_13)
    · have _q := h1307
      exact absurd h1307 (by omega)
  · have _q : True := trivial
    refine jx_ld (pc' := 116) (l' := jSto1 L 7 (.int (i32 (0)))) (st' := []) rfl rfl ?_
    obtain ⟨L1309, eL1309⟩ : ∃ q, q = jSto1 L 7 (.int (i32 (0))) := ⟨_, rfl⟩
    rw [← eL1309]
    have gL1309_0 : jGet L1309 0 = some (.ref 66) := eL1309 ▸ jg_ne (by decide) gL_0 rfl
    have gL1309_6 : jGet L1309 6 = some (.int (i32 (0))) := eL1309 ▸ jg_ne (by decide) gL_6 rfl
    have gL1309_5 : jGet L1309 5 = some (.int (i32 (0))) := eL1309 ▸ jg_ne (by decide) gL_5 rfl
    have gL1309_1 : jGet L1309 1 = some (.int (i32 (one))) := eL1309 ▸ jg_ne (by decide) gL_1 rfl
    have gL1309_3 : jGet L1309 3 = some (.int (i32 (pl))) := eL1309 ▸ jg_ne (by decide) gL_3 rfl
    have gL1309_4 : jGet L1309 4 = some (.int (i32 (s))) := eL1309 ▸ jg_ne (by decide) gL_4 rfl
    have gL1309_7 : jGet L1309 7 = some (.int (i32 (0))) := eL1309 ▸ jg_eq
    refine jx_ld (pc' := 117) (l' := L1309) (st' := [.ref 66]) rfl (jl_aloadn gL1309_0) ?_
    refine jr_get (pc' := 120) (i := 21) (v := .ref 74) rfl rfl (by decide) rfl rfl ?_
    refine jx_ld (pc' := 122) (l' := L1309) (st' := [.int (i32 (s)), .ref 74]) rfl (jl_iload gL1309_4) ?_
    refine jr_ldv (pc' := 123) (i := 7) (m := 260) (z := s) (y := ks) rfl (by decide) rfl (by decide) (by omega) (by omega) rfl (show Ax 7 (s).toNat = ks from (ex_ks)) ?_
    refine jx_ld (pc' := 125) (l' := jSto1 L1309 8 (.int (i32 (ks)))) (st' := []) rfl rfl ?_
    obtain ⟨L1310, eL1310⟩ : ∃ q, q = jSto1 L1309 8 (.int (i32 (ks))) := ⟨_, rfl⟩
    rw [← eL1310]
    have gL1310_0 : jGet L1310 0 = some (.ref 66) := eL1310 ▸ jg_ne (by decide) gL1309_0 rfl
    have gL1310_6 : jGet L1310 6 = some (.int (i32 (0))) := eL1310 ▸ jg_ne (by decide) gL1309_6 rfl
    have gL1310_5 : jGet L1310 5 = some (.int (i32 (0))) := eL1310 ▸ jg_ne (by decide) gL1309_5 rfl
    have gL1310_1 : jGet L1310 1 = some (.int (i32 (one))) := eL1310 ▸ jg_ne (by decide) gL1309_1 rfl
    have gL1310_3 : jGet L1310 3 = some (.int (i32 (pl))) := eL1310 ▸ jg_ne (by decide) gL1309_3 rfl
    have gL1310_4 : jGet L1310 4 = some (.int (i32 (s))) := eL1310 ▸ jg_ne (by decide) gL1309_4 rfl
    have gL1310_7 : jGet L1310 7 = some (.int (i32 (0))) := eL1310 ▸ jg_ne (by decide) gL1309_7 rfl
    have gL1310_8 : jGet L1310 8 = some (.int (i32 (ks))) := eL1310 ▸ jg_eq
    refine jx_ld (pc' := 127) (l' := L1310) (st' := [.int (i32 (0))]) rfl (jl_iload gL1310_7) ?_
    refine jx_if_ne (pc' := 130) (tg := 157) rfl rfl rfl (by decide) (by decide) (fun h1311 => ?_) (fun h1311 => ?_)
    · have _q := h1311
      exact absurd h1311 (by omega)
    · have _q := h1311
      refine jx_ld (pc' := 131) (l' := L1310) (st' := [.ref 66]) rfl (jl_aloadn gL1310_0) ?_
      refine jx_ar (pc' := 133) (st' := [.int (i32 (38)), .ref 66]) rfl rfl rfl rfl ?_
      refine jx_vr (pc' := 136) (as := [.int (i32 (38))]) (st := []) rfl rfl rfl rfl ⟨rfl, rfl, Nat.le_of_ble_eq_true rfl⟩ rfl rfl (c_is (dd := d) (hd := by omega) (hW := hWx) (k := 38) (tk := tk1) (e_tk := show Gx 11 = tk1 from (ex_tk1)) (tn := Gx 13) (e_tn := show Gx 13 = Gx 13 from rfl)  (h_k := ⟨(by decide), (by decide)⟩)  ) (fun o V' hq => ?_)
      obtain ⟨r1312, rfl, rfl, b1313, q1314⟩ := hq
      refine .inr ⟨_, rfl, ?_⟩
      rcases q1314 with ⟨rfl, a1315, a1316, a1317⟩ | rfl
      · have _q : True := trivial
        refine jx_if_ne (pc' := 139) (tg := 157) rfl rfl rfl (by decide) (by decide) (fun h1318 => ?_) (fun h1318 => ?_)
        · have _q := h1318
          have z1319 := tz_f (tk1)
          exact c_readGuard_w_at_157_0_0 (X := X) (d := d) (Vs := Vs) (sb := sb) (c0 := c0) (c1 := c1) (G := G) (A := A) (T := T) (ln := ln) (le := le) (at0 := at0) (fk := fk) (op0 := op0) (nd := nd) (tk0 := tk0) (li := li) (ec := ec) (sy := sy) (hd := hd) (hW := hW) (e_ln := e_ln) (e_le := e_le) (e_at0 := e_at0) (e_fk := e_fk) (e_op0 := e_op0) (e_nd := e_nd) (e_tk0 := e_tk0) (e_li := e_li) (e_ec := e_ec) (e_sy := e_sy) (i_SV := i_SV) (p_0 := p_0) (p_1 := p_1) (p_2 := p_2) (p_3 := p_3) (p_4 := p_4) L1310 Gx Ax (one) (pl) (s) (at1) (tk1) (fk1) (nd1) (op1) (ks) (ec1) gL1310_0 gL1310_6 gL1310_7 gL1310_8 gL1310_5 gL1310_1 gL1310_3 gL1310_4 hWx hFx hPx ((ex_at1)) ((ex_tk1)) ((ex_fk1)) ((ex_nd1)) ((ex_op1)) ((ex_ks)) (ex_ec1) ((fx_9)) (by omega) (by omega) (by omega) (by omega) (by omega) (by omega) (by omega) (by omega) (by omega) (by omega) (by omega) (by omega) (by omega) (iv_10) (iv_11) (by omega) (iv_13)
        · have _q := h1318
          exact absurd h1318 (by omega)
      · have _q : True := trivial
        refine jx_if_ne (pc' := 139) (tg := 157) rfl rfl rfl (by decide) (by decide) (fun h1320 => ?_) (fun h1320 => ?_)
        · have _q := h1320
          exact absurd h1320 (by omega)
        · have _q := h1320
          refine jx_ld (pc' := 140) (l' := L1310) (st' := [.ref 66]) rfl (jl_aloadn gL1310_0) ?_
          refine jx_vr (pc' := 143) (as := []) (st := []) rfl rfl rfl rfl ⟨rfl, rfl, Nat.le_of_ble_eq_true rfl⟩ rfl rfl (c_operationAt (dd := d) (hd := by omega) (hW := hWx)  (tk := tk1) (e_tk := show Gx 11 = tk1 from (ex_tk1)) (tn := Gx 13) (e_tn := show Gx 13 = Gx 13 from rfl)    ) (fun o V' hq => ?_)
          obtain ⟨r1321, rfl, rfl, b1322, q1323⟩ := hq
          refine .inr ⟨_, rfl, ?_⟩
          rcases q1323 with rfl | a1324
          · have _q : True := trivial
            refine jx_if_ne (pc' := 146) (tg := 157) rfl rfl rfl (by decide) (by decide) (fun h1325 => ?_) (fun h1325 => ?_)
            · have _q := h1325
              exact absurd h1325 (by omega)
            · have _q := h1325
              refine jx_ld (pc' := 147) (l' := L1310) (st' := [.ref 66]) rfl (jl_aloadn gL1310_0) ?_
              refine jx_ar (pc' := 148) (st' := [.int (i32 (1)), .ref 66]) rfl rfl rfl rfl ?_
              refine jx_ld (pc' := 149) (l' := L1310) (st' := [.ref 66, .int (i32 (1)), .ref 66]) rfl (jl_aloadn gL1310_0) ?_
              have b1326 : (-3000 : Int) ≤ Gx 12 ∧ Gx 12 ≤ 3002 := hWx.1 12
              refine jr_get (pc' := 152) (i := 12) (v := .int (i32 (Gx 12))) rfl rfl (by decide) rfl rfl ?_
              refine jx_vr (pc' := 155) (as := [.int (i32 (1)), .int (i32 (Gx 12))]) (st := []) rfl rfl rfl rfl ⟨rfl, rfl, Nat.le_of_ble_eq_true rfl⟩ rfl rfl (c_fail (dd := d) (hd := by omega) (hW := hWx) (kind := 1) (place := Gx 12) (fk := fk1) (e_fk := show Gx 16 = fk1 from (ex_fk1))  (h_kind := ⟨(by decide), (by decide)⟩) (h_place := ⟨(Int.le_trans (by decide : (-2147483648 : Int) ≤ -3000) b1326.1), (Int.le_trans b1326.2 (by decide : (3002 : Int) ≤ 2147483647))⟩)  (p_0 := by omega) (p_1 := by omega)) (fun o V' hq => ?_)
              obtain ⟨G1327, A1328, fk2_1329, rfl, rfl, hW1330, hF1331, e1332, p1333, -⟩ := hq
              have hF1335 := Fr_tr hFx hF1331 (Fr_sub (by decide)) (Fr_sub (by decide))
              have hP1336 := Pf_f hPx hF1331 (by decide)
              have sf1337 : ND A1328 (one) (33) (0) (0) (0) (0) (0) (0) := ND_ag (by omega) (Ag_fr hF1331 (by decide)) iv_11
              have sf1338 : NdM A1328 (nd) (nd1) (sy) := NdM_f hF1331 (by decide) iv_13
              have ec1339 : ecn A1328 (G1327 31) = ec1 := (ecn_f (hF1331.2 15 rfl) (hF1331.1 31 rfl)).trans ex_ec1
              have bfk2_1329 : (0 : Int) ≤ fk2_1329 ∧ fk2_1329 ≤ 6 := e1332 ▸ hW1330.1 16
              refine .inl ⟨rfl, ?_⟩
              refine jx_ar (pc' := 156) (st' := [.int (i32 (0))]) rfl rfl rfl rfl ?_
              refine jx_rt (v := some (.int (i32 (0)))) rfl rfl rfl rfl rfl rfl ?_
              exact ⟨_, _, _, at1, fk2_1329, nd1, ln, ec1, rfl, rfl, hW1330, hF1335, hP1336, by omega, ((hF1331.1 10 rfl).trans (ex_at1)), (e1332), ((hF1331.1 31 rfl).trans (ex_nd1)), ((hF1331.1 9 rfl).trans (fx_9)), ec1339, by omega, by omega, by omega, by omega, by omega, by first | exact Or.inl (⟨by omega, by omega, by omega⟩)⟩
          · have _q : True := trivial
            refine jx_if_ne (pc' := 146) (tg := 157) rfl rfl rfl (Int.le_trans (by decide : (-2147483648 : Int) ≤ -2147483648) b1322.1) (Int.le_trans b1322.2 (by decide : (2147483647 : Int) ≤ 2147483647)) (fun h1340 => ?_) (fun h1340 => ?_)
            · have _q := h1340
              have z1341 := tz_f (tk1)
              exact c_readGuard_w_at_157_0_0 (X := X) (d := d) (Vs := Vs) (sb := sb) (c0 := c0) (c1 := c1) (G := G) (A := A) (T := T) (ln := ln) (le := le) (at0 := at0) (fk := fk) (op0 := op0) (nd := nd) (tk0 := tk0) (li := li) (ec := ec) (sy := sy) (hd := hd) (hW := hW) (e_ln := e_ln) (e_le := e_le) (e_at0 := e_at0) (e_fk := e_fk) (e_op0 := e_op0) (e_nd := e_nd) (e_tk0 := e_tk0) (e_li := e_li) (e_ec := e_ec) (e_sy := e_sy) (i_SV := i_SV) (p_0 := p_0) (p_1 := p_1) (p_2 := p_2) (p_3 := p_3) (p_4 := p_4) L1310 Gx Ax (one) (pl) (s) (at1) (tk1) (fk1) (nd1) (op1) (ks) (ec1) gL1310_0 gL1310_6 gL1310_7 gL1310_8 gL1310_5 gL1310_1 gL1310_3 gL1310_4 hWx hFx hPx ((ex_at1)) ((ex_tk1)) ((ex_fk1)) ((ex_nd1)) ((ex_op1)) ((ex_ks)) (ex_ec1) ((fx_9)) (by omega) (by omega) (by omega) (by omega) (by omega) (by omega) (by omega) (by omega) (by omega) (by omega) (by omega) (by omega) (by omega) (iv_10) (iv_11) (by omega) (iv_13)
            · have _q := h1340
              refine jx_ld (pc' := 147) (l' := L1310) (st' := [.ref 66]) rfl (jl_aloadn gL1310_0) ?_
              refine jx_ar (pc' := 148) (st' := [.int (i32 (1)), .ref 66]) rfl rfl rfl rfl ?_
              refine jx_ld (pc' := 149) (l' := L1310) (st' := [.ref 66, .int (i32 (1)), .ref 66]) rfl (jl_aloadn gL1310_0) ?_
              have b1342 : (-3000 : Int) ≤ Gx 12 ∧ Gx 12 ≤ 3002 := hWx.1 12
              refine jr_get (pc' := 152) (i := 12) (v := .int (i32 (Gx 12))) rfl rfl (by decide) rfl rfl ?_
              refine jx_vr (pc' := 155) (as := [.int (i32 (1)), .int (i32 (Gx 12))]) (st := []) rfl rfl rfl rfl ⟨rfl, rfl, Nat.le_of_ble_eq_true rfl⟩ rfl rfl (c_fail (dd := d) (hd := by omega) (hW := hWx) (kind := 1) (place := Gx 12) (fk := fk1) (e_fk := show Gx 16 = fk1 from (ex_fk1))  (h_kind := ⟨(by decide), (by decide)⟩) (h_place := ⟨(Int.le_trans (by decide : (-2147483648 : Int) ≤ -3000) b1342.1), (Int.le_trans b1342.2 (by decide : (3002 : Int) ≤ 2147483647))⟩)  (p_0 := by omega) (p_1 := by omega)) (fun o V' hq => ?_)
              obtain ⟨G1343, A1344, fk2_1345, rfl, rfl, hW1346, hF1347, e1348, p1349, -⟩ := hq
              have hF1351 := Fr_tr hFx hF1347 (Fr_sub (by decide)) (Fr_sub (by decide))
              have hP1352 := Pf_f hPx hF1347 (by decide)
              have sf1353 : ND A1344 (one) (33) (0) (0) (0) (0) (0) (0) := ND_ag (by omega) (Ag_fr hF1347 (by decide)) iv_11
              have sf1354 : NdM A1344 (nd) (nd1) (sy) := NdM_f hF1347 (by decide) iv_13
              have ec1355 : ecn A1344 (G1343 31) = ec1 := (ecn_f (hF1347.2 15 rfl) (hF1347.1 31 rfl)).trans ex_ec1
              have bfk2_1345 : (0 : Int) ≤ fk2_1345 ∧ fk2_1345 ≤ 6 := e1348 ▸ hW1346.1 16
              refine .inl ⟨rfl, ?_⟩
              refine jx_ar (pc' := 156) (st' := [.int (i32 (0))]) rfl rfl rfl rfl ?_
              refine jx_rt (v := some (.int (i32 (0)))) rfl rfl rfl rfl rfl rfl ?_
              exact ⟨_, _, _, at1, fk2_1345, nd1, ln, ec1, rfl, rfl, hW1346, hF1351, hP1352, by omega, ((hF1347.1 10 rfl).trans (ex_at1)), (e1348), ((hF1347.1 31 rfl).trans (ex_nd1)), ((hF1347.1 9 rfl).trans (fx_9)), ec1355, by omega, by omega, by omega, by omega, by omega, by first | exact Or.inl (⟨by omega, by omega, by omega⟩)⟩
set_option maxRecDepth 20000 in
set_option maxHeartbeats 4000000 in
theorem c_readGuard_w {X : jX} {dd : Nat} {Vs : Nat → Prop} {sb : Int} {c0 c1 : jC} {G : Nat → Int} {A : Nat → Nat → Int} {T : jH} {ln le at0 fk op0 nd tk0 li ec sy : Int} (hd : 71 ≤ dd) (hW : Wk G A) (e_ln : G 9 = ln) (e_le : A 4 (ln).toNat = le) (e_at0 : G 10 = at0) (e_fk : G 16 = fk) (e_op0 : G 15 = op0) (e_nd : G 31 = nd) (e_tk0 : G 11 = tk0) (e_li : G 3 = li) (e_ec : ecn A (G 31) = ec) (e_sy : G 19 = sy) (i_SV : SV Vs sb G A) (p_0 : 0 ≤ op0 ∧ op0 ≤ 8) (p_1 : fk = 0) (p_2 : nd ≤ 2 * at0 - tz tk0 + 42) (p_3 : at0 ≤ le) (p_4 : ln < li) : wk X dd 303 [.ref 66] (rV c0 c1 G A T) (fun o V' => ∃ (G' : Nat → Int) (A' : Nat → Nat → Int) (r : Int) (at2 : Int) (fk2 : Int) (nd2 : Int) (ln2 : Int) (ec2 : Int), V' = rV c0 c1 G' A' T ∧ o = .inl (some (.int (i32 r))) ∧ Wk G' A' ∧ Fr [9, 10, 11, 12, 13, 14, 15, 16, 17, 18, 31] [15, 16, 17, 18, 19, 20, 21, 22, 24, 28] G A G' A' ∧ Pf nd A A' ∧ ((-2147483648 : Int) ≤ r ∧ r ≤ 2147483647) ∧ G' 10 = at2 ∧ G' 16 = fk2 ∧ G' 31 = nd2 ∧ G' 9 = ln2 ∧ ecn A' (G' 31) = ec2 ∧ (at0 ≤ at2) ∧ (at2 ≤ le) ∧ (nd ≤ nd2) ∧ (0 ≤ r) ∧ (r ≤ nd2) ∧ (((1 ≤ fk2) ∧ (ln2 = ln) ∧ (nd2 - nd ≤ 2 * at2 - 2 * at0 + 12)) ∨ ((fk2 = 0) ∧ (ln2 = ln + 1) ∧ (nd2 - nd ≤ 2 * at2 - (2 * at0 - tz tk0) + 0) ∧ (nd ≤ r) ∧ (r < nd2) ∧ (wU A' Vs sb (r) (nd) (nd2)) ∧ (NX A' (r)) ∧ (nd2 - nd + 5 * (ec2 - ec) ≤ 2 * at2 - (2 * at0 - tz tk0) + 0) ∧ (NdM A' (nd) (nd2) (sy))))) := by
  obtain ⟨d, rfl⟩ : ∃ d, dd = d + 1 := ⟨dd - 1, by omega⟩
  refine wk_of (e := jm303) rfl (Nat.le_of_ble_eq_true rfl) ?_
  show wj X d jm303 (0, [(0, .ref 66)], [], rV c0 c1 G A T) _
  have hF0 : Fr [9, 10, 11, 12, 13, 14, 15, 16, 17, 18, 31] [15, 16, 17, 18, 19, 20, 21, 22, 24, 28] G A G A := Fr_rf
  have hP0 : Pf nd A A := Pf_rf
  have b_ln : (0 : Int) ≤ ln ∧ ln ≤ 3000 := e_ln ▸ hW.1 9
  have b_le : (0 : Int) ≤ le ∧ le ≤ 3000 := e_le ▸ hW.2 4 _
  have b_at0 : (0 : Int) ≤ at0 ∧ at0 ≤ 3002 := e_at0 ▸ hW.1 10
  have b_fk : (0 : Int) ≤ fk ∧ fk ≤ 6 := e_fk ▸ hW.1 16
  have b_op0 : (-2147483648 : Int) ≤ op0 ∧ op0 ≤ 2147483647 := e_op0 ▸ hW.1 15
  have b_nd : (0 : Int) ≤ nd ∧ nd ≤ 6999 := e_nd ▸ hW.1 31
  have z_tk0 := tz_f tk0
  have b_tk0 : (0 : Int) ≤ tk0 ∧ tk0 ≤ 5 := e_tk0 ▸ hW.1 11
  have b_li : (0 : Int) ≤ li ∧ li ≤ 3000 := e_li ▸ hW.1 3
  have b_sy : (0 : Int) ≤ sy ∧ sy ≤ 202 := e_sy ▸ hW.1 19
  refine jx_ld (pc' := 1) (l' := [(0, .ref 66)]) (st' := [.ref 66]) rfl (jl_aloadn rfl) ?_
  refine jx_ar (pc' := 3) (st' := [.int (i32 (33)), .ref 66]) rfl rfl rfl rfl ?_
  refine jx_ar (pc' := 4) (st' := [.int (i32 (0)), .int (i32 (33)), .ref 66]) rfl rfl rfl rfl ?_
  refine jx_ar (pc' := 5) (st' := [.int (i32 (0)), .int (i32 (0)), .int (i32 (33)), .ref 66]) rfl rfl rfl rfl ?_
  refine jx_ar (pc' := 6) (st' := [.int (i32 (0)), .int (i32 (0)), .int (i32 (0)), .int (i32 (33)), .ref 66]) rfl rfl rfl rfl ?_
  refine jx_ar (pc' := 7) (st' := [.int (i32 (0)), .int (i32 (0)), .int (i32 (0)), .int (i32 (0)), .int (i32 (33)), .ref 66]) rfl rfl rfl rfl ?_
  refine jx_vr (pc' := 10) (as := [.int (i32 (33)), .int (i32 (0)), .int (i32 (0)), .int (i32 (0)), .int (i32 (0))]) (st := []) rfl rfl rfl rfl ⟨rfl, rfl, Nat.le_of_ble_eq_true rfl⟩ rfl rfl (c_node_l (dd := d) (hd := by omega) (hW := hW) (kind := 33) (a := 0) (b := 0) (c := 0) (e := 0) (nd := nd) (e_nd := show G 31 = nd from (e_nd)) (ec := ec) (e_ec := show ecn A (G 31) = ec from e_ec) (sy := sy) (e_sy := show G 19 = sy from (e_sy)) (ln := ln) (e_ln := show G 9 = ln from (e_ln)) (li := li) (e_li := show G 3 = li from (e_li))  (h_kind := ⟨(by decide), (by decide)⟩) (h_a := ⟨(by decide), (by decide)⟩) (h_b := ⟨(by decide), (by decide)⟩) (h_c := ⟨(by decide), (by decide)⟩) (h_e := ⟨(by decide), (by decide)⟩)  (p_0 := by omega) (p_1 := by omega) (p_2 := by omega) (p_3 := by omega)) (fun o V' hq => ?_)
  obtain ⟨G1356, A1357, nd2_1358, ec2_1359, rfl, rfl, hW1360, hF1361, hQ1362, e1363, e1364, p1365, p1366, p1367, p1368, -⟩ := hq
  have hF1370 := Fr_tr hF0 hF1361 (Fr_sub (by decide)) (Fr_sub (by decide))
  have hP1371 := Pf_tr hP0 hQ1362 (by omega)
  have bnd2_1358 : (0 : Int) ≤ nd2_1358 ∧ nd2_1358 ≤ 6999 := e1363 ▸ hW1360.1 31
  refine .inr ⟨_, rfl, ?_⟩
  refine jx_ld (pc' := 11) (l' := jSto1 [(0, .ref 66)] 1 (.int (i32 (nd)))) (st' := []) rfl rfl ?_
  obtain ⟨L1372, eL1372⟩ : ∃ q, q = jSto1 [(0, .ref 66)] 1 (.int (i32 (nd))) := ⟨_, rfl⟩
  rw [← eL1372]
  have gL1372_0 : jGet L1372 0 = some (.ref 66) := eL1372 ▸ jg_ne (by decide) (rfl : jGet [(0, .ref 66)] 0 = some (.ref 66)) rfl
  have gL1372_1 : jGet L1372 1 = some (.int (i32 (nd))) := eL1372 ▸ jg_eq
  refine jx_ar (pc' := 12) (st' := [.int (i32 (0))]) rfl rfl rfl rfl ?_
  refine jx_ld (pc' := 13) (l' := jSto1 L1372 2 (.int (i32 (0)))) (st' := []) rfl rfl ?_
  obtain ⟨L1373, eL1373⟩ : ∃ q, q = jSto1 L1372 2 (.int (i32 (0))) := ⟨_, rfl⟩
  rw [← eL1373]
  have gL1373_0 : jGet L1373 0 = some (.ref 66) := eL1373 ▸ jg_ne (by decide) gL1372_0 rfl
  have gL1373_1 : jGet L1373 1 = some (.int (i32 (nd))) := eL1373 ▸ jg_ne (by decide) gL1372_1 rfl
  have gL1373_2 : jGet L1373 2 = some (.int (i32 (0))) := eL1373 ▸ jg_eq
  refine jx_ld (pc' := 14) (l' := L1373) (st' := [.ref 66]) rfl (jl_aloadn gL1373_0) ?_
  have z1374 := tz_f (tk0)
  refine jr_get (pc' := 17) (i := 11) (v := .int (i32 (tk0))) rfl rfl (by decide) (rFv_eq (by decide) (show G1356 11 = tk0 from ((hF1361.1 11 rfl).trans (e_tk0)))) rfl ?_
  refine jx_ar (pc' := 18) (st' := [.int (i32 (1)), .int (i32 (tk0))]) rfl rfl rfl rfl ?_
  refine jx_icmp_ne (pc' := 21) (tg := 288) rfl rfl rfl (Int.le_trans (by decide : (-2147483648 : Int) ≤ 0) b_tk0.1) (Int.le_trans b_tk0.2 (by decide : (5 : Int) ≤ 2147483647)) (by decide) (by decide) (fun h1375 => ?_) (fun h1375 => ?_)
  · have _q := h1375
    refine jx_ld (pc' := 289) (l' := L1373) (st' := [.ref 66]) rfl (jl_aloadn gL1373_0) ?_
    refine jx_vr (pc' := 292) (as := []) (st := []) rfl rfl rfl rfl ⟨rfl, rfl, Nat.le_of_ble_eq_true rfl⟩ rfl rfl (REw_all X 9 (dd := d) (hd := by omega) (hW := hW1360)  (ln := ln) (e_ln := show G1356 9 = ln from ((hF1361.1 9 rfl).trans (e_ln))) (le := le) (e_le := show A1357 4 (ln).toNat = le from (congrFun (hF1361.2 4 rfl) _).trans (e_le)) (at0 := at0) (e_at0 := show G1356 10 = at0 from ((hF1361.1 10 rfl).trans (e_at0))) (fk := fk) (e_fk := show G1356 16 = fk from ((hF1361.1 16 rfl).trans (e_fk))) (op0 := op0) (e_op0 := show G1356 15 = op0 from ((hF1361.1 15 rfl).trans (e_op0))) (nd := nd2_1358) (e_nd := show G1356 31 = nd2_1358 from (e1363)) (tk0 := tk0) (e_tk0 := show G1356 11 = tk0 from ((hF1361.1 11 rfl).trans (e_tk0))) (ec := ec2_1359) (e_ec := show ecn A1357 (G1356 31) = ec2_1359 from e1364) (sy := sy) (e_sy := show G1356 19 = sy from ((hF1361.1 19 rfl).trans (e_sy))) (i_SV := (SV_ext ((hF1361.1 29 rfl)) ((hF1361.2 14 rfl)) i_SV))   (p_0 := by omega) (p_1 := by omega) (p_2 := by omega) (p_3 := by omega) (p_4 := by omega) (p_5 := by omega)) (fun o V' hq => ?_)
    obtain ⟨G1376, A1377, r1378, at2_1379, fk2_1380, op2_1381, nd2_1382, tk2_1383, ec2_1384, rfl, rfl, hW1385, hF1386, hQ1387, b1388, e1389, e1390, e1391, e1392, e1393, e1394, p1395, p1396, p1397, p1398, p1399, p1400, q1401⟩ := hq
    have hF1402 := Fr_tr hF1370 hF1386 (Fr_sub (by decide)) (Fr_sub (by decide))
    have hP1403 := Pf_tr hP1371 hQ1387 (by omega)
    have sf1404 : ND A1377 (nd) (33) (0) (0) (0) (0) (0) (0) := ND_ag (by omega) (Ag_pf hQ1387 (by omega)) p1367
    have sf1405 : NdM A1377 (nd) (nd + 1) (sy) := NdM_pf hQ1387 (by omega) (by omega) p1368
    have bat2_1379 : (0 : Int) ≤ at2_1379 ∧ at2_1379 ≤ 3002 := e1389 ▸ hW1385.1 10
    have bfk2_1380 : (0 : Int) ≤ fk2_1380 ∧ fk2_1380 ≤ 6 := e1390 ▸ hW1385.1 16
    have bop2_1381 : (-2147483648 : Int) ≤ op2_1381 ∧ op2_1381 ≤ 2147483647 := e1391 ▸ hW1385.1 15
    have bnd2_1382 : (0 : Int) ≤ nd2_1382 ∧ nd2_1382 ≤ 6999 := e1392 ▸ hW1385.1 31
    have ztk2_1383 := tz_b tk2_1383
    have btk2_1383 : (0 : Int) ≤ tk2_1383 ∧ tk2_1383 ≤ 5 := e1393 ▸ hW1385.1 11
    refine .inr ⟨_, rfl, ?_⟩
    rcases q1401 with ⟨a1406, a1407, a1408, a1409, a1410, a1411⟩ | ⟨a1412, a1413, a1414⟩ | ⟨a1415, a1416, a1417, a1418, a1419, a1420, a1421⟩
    · have _q : True := trivial
      exfalso
      omega
    · have _q : True := trivial
      refine jx_ld (pc' := 293) (l' := jSto1 L1373 2 (.int (i32 (r1378)))) (st' := []) rfl rfl ?_
      obtain ⟨L1422, eL1422⟩ : ∃ q, q = jSto1 L1373 2 (.int (i32 (r1378))) := ⟨_, rfl⟩
      rw [← eL1422]
      have gL1422_0 : jGet L1422 0 = some (.ref 66) := eL1422 ▸ jg_ne (by decide) gL1373_0 rfl
      have gL1422_1 : jGet L1422 1 = some (.int (i32 (nd))) := eL1422 ▸ jg_ne (by decide) gL1373_1 rfl
      have gL1422_2 : jGet L1422 2 = some (.int (i32 (r1378))) := eL1422 ▸ jg_eq
      have z1423 := tz_f (tk2_1383)
      exact c_readGuard_w_at_293p (X := X) (d := d) (Vs := Vs) (sb := sb) (c0 := c0) (c1 := c1) (G := G) (A := A) (T := T) (ln := ln) (le := le) (at0 := at0) (fk := fk) (op0 := op0) (nd := nd) (tk0 := tk0) (li := li) (ec := ec) (sy := sy) (hd := hd) (hW := hW) (e_ln := e_ln) (e_le := e_le) (e_at0 := e_at0) (e_fk := e_fk) (e_op0 := e_op0) (e_nd := e_nd) (e_tk0 := e_tk0) (e_li := e_li) (e_ec := e_ec) (e_sy := e_sy) (i_SV := i_SV) (p_0 := p_0) (p_1 := p_1) (p_2 := p_2) (p_3 := p_3) (p_4 := p_4) L1422 G1376 A1377 (nd) (r1378) (at2_1379) (tk2_1383) (fk2_1380) (nd2_1382) (op2_1381) (ec2_1384) gL1422_0 gL1422_1 gL1422_2 hW1385 hF1402 hP1403 ((e1389)) ((e1393)) ((e1390)) ((e1392)) ((e1391)) (e1394) (((hF1386.1 9 rfl).trans ((hF1361.1 9 rfl).trans (e_ln)))) (by omega) (by omega) (by omega) (by omega) (by omega) (by omega) (by omega) (by omega) (by omega) (by omega)
    · have _q : True := trivial
      refine jx_ld (pc' := 293) (l' := jSto1 L1373 2 (.int (i32 (r1378)))) (st' := []) rfl rfl ?_
      obtain ⟨L1424, eL1424⟩ : ∃ q, q = jSto1 L1373 2 (.int (i32 (r1378))) := ⟨_, rfl⟩
      rw [← eL1424]
      have gL1424_0 : jGet L1424 0 = some (.ref 66) := eL1424 ▸ jg_ne (by decide) gL1373_0 rfl
      have gL1424_1 : jGet L1424 1 = some (.int (i32 (nd))) := eL1424 ▸ jg_ne (by decide) gL1373_1 rfl
      have gL1424_2 : jGet L1424 2 = some (.int (i32 (r1378))) := eL1424 ▸ jg_eq
      have z1425 := tz_f (tk2_1383)
      exact c_readGuard_w_at_293 (X := X) (d := d) (Vs := Vs) (sb := sb) (c0 := c0) (c1 := c1) (G := G) (A := A) (T := T) (ln := ln) (le := le) (at0 := at0) (fk := fk) (op0 := op0) (nd := nd) (tk0 := tk0) (li := li) (ec := ec) (sy := sy) (hd := hd) (hW := hW) (e_ln := e_ln) (e_le := e_le) (e_at0 := e_at0) (e_fk := e_fk) (e_op0 := e_op0) (e_nd := e_nd) (e_tk0 := e_tk0) (e_li := e_li) (e_ec := e_ec) (e_sy := e_sy) (i_SV := i_SV) (p_0 := p_0) (p_1 := p_1) (p_2 := p_2) (p_3 := p_3) (p_4 := p_4) L1424 G1376 A1377 (nd) (r1378) (at2_1379) (tk2_1383) (fk2_1380) (nd2_1382) (op2_1381) (ec2_1384) gL1424_0 gL1424_1 gL1424_2 hW1385 hF1402 hP1403 ((e1389)) ((e1393)) ((e1390)) ((e1392)) ((e1391)) (e1394) (((hF1386.1 9 rfl).trans ((hF1361.1 9 rfl).trans (e_ln)))) (by omega) (by omega) (by omega) (by omega) (by omega) (by omega) (by omega) (by omega) (by omega) (by omega) (by omega) (sf1404) ((wE_mono (by omega) (by omega) (by omega) a1418)) (by omega) ((NdM_w (NdM_app (sy := sy) sf1405 a1420 (by omega) (by omega) (by omega)) (by omega) (by omega) (by omega)))
  · have _q := h1375
    refine jx_ld (pc' := 22) (l' := L1373) (st' := [.ref 66]) rfl (jl_aloadn gL1373_0) ?_
    have b1426 : (-3000 : Int) ≤ G 12 ∧ G 12 ≤ 3002 := hW.1 12
    refine jr_get (pc' := 25) (i := 12) (v := .int (i32 (G 12))) rfl rfl (by decide) (rFv_eq (by decide) (show G1356 12 = G 12 from (hF1361.1 12 rfl))) rfl ?_
    refine jx_ld (pc' := 26) (l' := jSto1 L1373 3 (.int (i32 (G 12)))) (st' := []) rfl rfl ?_
    obtain ⟨L1427, eL1427⟩ : ∃ q, q = jSto1 L1373 3 (.int (i32 (G 12))) := ⟨_, rfl⟩
    rw [← eL1427]
    have gL1427_0 : jGet L1427 0 = some (.ref 66) := eL1427 ▸ jg_ne (by decide) gL1373_0 rfl
    have gL1427_1 : jGet L1427 1 = some (.int (i32 (nd))) := eL1427 ▸ jg_ne (by decide) gL1373_1 rfl
    have gL1427_2 : jGet L1427 2 = some (.int (i32 (0))) := eL1427 ▸ jg_ne (by decide) gL1373_2 rfl
    have gL1427_3 : jGet L1427 3 = some (.int (i32 (G 12))) := eL1427 ▸ jg_eq
    refine jx_ld (pc' := 27) (l' := L1427) (st' := [.ref 66]) rfl (jl_aloadn gL1427_0) ?_
    refine jx_vr (pc' := 30) (as := []) (st := []) rfl rfl rfl rfl ⟨rfl, rfl, Nat.le_of_ble_eq_true rfl⟩ rfl rfl (c_lookUp (dd := d) (hd := by omega) (hW := hW1360)  (fk := fk) (e_fk := show G1356 16 = fk from ((hF1361.1 16 rfl).trans (e_fk))) (i_SV := (SV_ext ((hF1361.1 29 rfl)) ((hF1361.2 14 rfl)) i_SV))   ) (fun o V' hq => ?_)
    obtain ⟨G1428, A1429, r1430, fk2_1431, rfl, rfl, hW1432, hF1433, b1434, e1435, q1436⟩ := hq
    have hF1437 := Fr_tr hF1370 hF1433 (Fr_sub (by decide)) (Fr_sub (by decide))
    have hP1438 := Pf_f hP1371 hF1433 (by decide)
    have sf1439 : ND A1429 (nd) (33) (0) (0) (0) (0) (0) (0) := ND_ag (by omega) (Ag_fr hF1433 (by decide)) p1367
    have sf1440 : NdM A1429 (nd) (nd + 1) (sy) := NdM_f hF1433 (by decide) p1368
    have ec1441 : ecn A1429 (G1428 31) = ec2_1359 := (ecn_f (hF1433.2 15 rfl) (hF1433.1 31 rfl)).trans e1364
    have bfk2_1431 : (0 : Int) ≤ fk2_1431 ∧ fk2_1431 ≤ 6 := e1435 ▸ hW1432.1 16
    refine .inr ⟨_, rfl, ?_⟩
    rcases q1436 with ⟨a1442, a1443⟩ | ⟨a1444, a1445, a1446, a1447⟩
    · have _q : True := trivial
      refine jx_ld (pc' := 32) (l' := jSto1 L1427 4 (.int (i32 (r1430)))) (st' := []) rfl rfl ?_
      obtain ⟨L1448, eL1448⟩ : ∃ q, q = jSto1 L1427 4 (.int (i32 (r1430))) := ⟨_, rfl⟩
      rw [← eL1448]
      have gL1448_0 : jGet L1448 0 = some (.ref 66) := eL1448 ▸ jg_ne (by decide) gL1427_0 rfl
      have gL1448_1 : jGet L1448 1 = some (.int (i32 (nd))) := eL1448 ▸ jg_ne (by decide) gL1427_1 rfl
      have gL1448_2 : jGet L1448 2 = some (.int (i32 (0))) := eL1448 ▸ jg_ne (by decide) gL1427_2 rfl
      have gL1448_3 : jGet L1448 3 = some (.int (i32 (G 12))) := eL1448 ▸ jg_ne (by decide) gL1427_3 rfl
      have gL1448_4 : jGet L1448 4 = some (.int (i32 (r1430))) := eL1448 ▸ jg_eq
      refine jx_ld (pc' := 33) (l' := L1448) (st' := [.ref 66]) rfl (jl_aloadn gL1448_0) ?_
      refine jx_vr (pc' := 36) (as := []) (st := []) rfl rfl rfl rfl ⟨rfl, rfl, Nat.le_of_ble_eq_true rfl⟩ rfl rfl (c_bad (dd := d) (hd := by omega) (hW := hW1432)  (fk := fk2_1431) (e_fk := show G1428 16 = fk2_1431 from (e1435))    ) (fun o V' hq => ?_)
      obtain ⟨r1449, rfl, rfl, b1450, q1451⟩ := hq
      refine .inr ⟨_, rfl, ?_⟩
      rcases q1451 with ⟨rfl, a1452⟩ | ⟨rfl, a1453⟩
      · have _q : True := trivial
        refine jx_if_eq (pc' := 39) (tg := 41) rfl rfl rfl (by decide) (by decide) (fun h1454 => ?_) (fun h1454 => ?_)
        · have _q := h1454
          exact absurd h1454 (by omega)
        · have _q := h1454
          refine jx_ar (pc' := 40) (st' := [.int (i32 (0))]) rfl rfl rfl rfl ?_
          refine jx_rt (v := some (.int (i32 (0)))) rfl rfl rfl rfl rfl rfl ?_
          exact ⟨_, _, _, at0, fk2_1431, nd2_1358, ln, ec2_1359, rfl, rfl, hW1432, hF1437, hP1438, by omega, ((hF1433.1 10 rfl).trans ((hF1361.1 10 rfl).trans (e_at0))), (e1435), ((hF1433.1 31 rfl).trans (e1363)), ((hF1433.1 9 rfl).trans ((hF1361.1 9 rfl).trans (e_ln))), ec1441, by omega, by omega, by omega, by omega, by omega, by first | exact Or.inl (⟨by omega, by omega, by omega⟩)⟩
      · have _q : True := trivial
        exfalso
        omega
    · have _q : True := trivial
      refine jx_ld (pc' := 32) (l' := jSto1 L1427 4 (.int (i32 (r1430)))) (st' := []) rfl rfl ?_
      obtain ⟨L1455, eL1455⟩ : ∃ q, q = jSto1 L1427 4 (.int (i32 (r1430))) := ⟨_, rfl⟩
      rw [← eL1455]
      have gL1455_0 : jGet L1455 0 = some (.ref 66) := eL1455 ▸ jg_ne (by decide) gL1427_0 rfl
      have gL1455_1 : jGet L1455 1 = some (.int (i32 (nd))) := eL1455 ▸ jg_ne (by decide) gL1427_1 rfl
      have gL1455_2 : jGet L1455 2 = some (.int (i32 (0))) := eL1455 ▸ jg_ne (by decide) gL1427_2 rfl
      have gL1455_3 : jGet L1455 3 = some (.int (i32 (G 12))) := eL1455 ▸ jg_ne (by decide) gL1427_3 rfl
      have gL1455_4 : jGet L1455 4 = some (.int (i32 (r1430))) := eL1455 ▸ jg_eq
      refine jx_ld (pc' := 33) (l' := L1455) (st' := [.ref 66]) rfl (jl_aloadn gL1455_0) ?_
      refine jx_vr (pc' := 36) (as := []) (st := []) rfl rfl rfl rfl ⟨rfl, rfl, Nat.le_of_ble_eq_true rfl⟩ rfl rfl (c_bad (dd := d) (hd := by omega) (hW := hW1432)  (fk := fk2_1431) (e_fk := show G1428 16 = fk2_1431 from (e1435))    ) (fun o V' hq => ?_)
      obtain ⟨r1456, rfl, rfl, b1457, q1458⟩ := hq
      refine .inr ⟨_, rfl, ?_⟩
      rcases q1458 with ⟨rfl, a1459⟩ | ⟨rfl, a1460⟩
      · have _q : True := trivial
        exfalso
        omega
      · have _q : True := trivial
        refine jx_if_eq (pc' := 39) (tg := 41) rfl rfl rfl (by decide) (by decide) (fun h1461 => ?_) (fun h1461 => ?_)
        · have _q := h1461
          refine jx_ld (pc' := 42) (l' := L1455) (st' := [.ref 66]) rfl (jl_aloadn gL1455_0) ?_
          refine jx_vr (pc' := 45) (as := []) (st := []) rfl rfl rfl rfl ⟨rfl, rfl, Nat.le_of_ble_eq_true rfl⟩ rfl rfl (c_next (dd := d) (hd := by omega) (hW := hW1432)  (ln := ln) (e_ln := show G1428 9 = ln from ((hF1433.1 9 rfl).trans ((hF1361.1 9 rfl).trans (e_ln)))) (le := le) (e_le := show A1429 4 (ln).toNat = le from (congrFun ((hF1433.2 4 rfl).trans (hF1361.2 4 rfl)) _).trans (e_le)) (at0 := at0) (e_at0 := show G1428 10 = at0 from ((hF1433.1 10 rfl).trans ((hF1361.1 10 rfl).trans (e_at0))))    (p_0 := by omega)) (fun o V' hq => ?_)
          obtain ⟨G1462, A1463, at2_1464, tk2_1465, rfl, rfl, hW1466, hF1467, e1468, e1469, p1470, p1471, p1472, -⟩ := hq
          have hF1474 := Fr_tr hF1437 hF1467 (Fr_sub (by decide)) (Fr_sub (by decide))
          have hP1475 := Pf_f hP1438 hF1467 (by decide)
          have sf1476 : ND A1463 (nd) (33) (0) (0) (0) (0) (0) (0) := ND_ag (by omega) (Ag_fr hF1467 (by decide)) sf1439
          have sf1477 : NdM A1463 (nd) (nd + 1) (sy) := NdM_f hF1467 (by decide) sf1440
          have ec1478 : ecn A1463 (G1462 31) = ec2_1359 := (ecn_f (hF1467.2 15 rfl) (hF1467.1 31 rfl)).trans ec1441
          have bat2_1464 : (0 : Int) ≤ at2_1464 ∧ at2_1464 ≤ 3002 := e1468 ▸ hW1466.1 10
          have ztk2_1465 := tz_b tk2_1465
          have btk2_1465 : (0 : Int) ≤ tk2_1465 ∧ tk2_1465 ≤ 5 := e1469 ▸ hW1466.1 11
          refine .inl ⟨rfl, ?_⟩
          have pz1479 : at0 + tz tk2_1465 ≤ at2_1464 := by omega
          refine jx_ar (pc' := 46) (st' := [.int (i32 (0))]) rfl rfl rfl rfl ?_
          refine jx_ld (pc' := 48) (l' := jSto1 L1455 5 (.int (i32 (0)))) (st' := []) rfl rfl ?_
          obtain ⟨L1480, eL1480⟩ : ∃ q, q = jSto1 L1455 5 (.int (i32 (0))) := ⟨_, rfl⟩
          rw [← eL1480]
          have gL1480_0 : jGet L1480 0 = some (.ref 66) := eL1480 ▸ jg_ne (by decide) gL1455_0 rfl
          have gL1480_1 : jGet L1480 1 = some (.int (i32 (nd))) := eL1480 ▸ jg_ne (by decide) gL1455_1 rfl
          have gL1480_2 : jGet L1480 2 = some (.int (i32 (0))) := eL1480 ▸ jg_ne (by decide) gL1455_2 rfl
          have gL1480_3 : jGet L1480 3 = some (.int (i32 (G 12))) := eL1480 ▸ jg_ne (by decide) gL1455_3 rfl
          have gL1480_4 : jGet L1480 4 = some (.int (i32 (r1430))) := eL1480 ▸ jg_ne (by decide) gL1455_4 rfl
          have gL1480_5 : jGet L1480 5 = some (.int (i32 (0))) := eL1480 ▸ jg_eq
          refine jx_ld (pc' := 49) (l' := L1480) (st' := [.ref 66]) rfl (jl_aloadn gL1480_0) ?_
          refine jx_ar (pc' := 51) (st' := [.int (i32 (91)), .ref 66]) rfl rfl rfl rfl ?_
          have b1481 : (-2147483648 : Int) ≤ G1462 13 ∧ G1462 13 ≤ 2147483647 := hW1466.1 13
          refine jx_vr (pc' := 54) (as := [.int (i32 (91))]) (st := []) rfl rfl rfl rfl ⟨rfl, rfl, Nat.le_of_ble_eq_true rfl⟩ rfl rfl (c_is (dd := d) (hd := by omega) (hW := hW1466) (k := 91) (tk := tk2_1465) (e_tk := show G1462 11 = tk2_1465 from (e1469)) (tn := G1462 13) (e_tn := show G1462 13 = G1462 13 from rfl)  (h_k := ⟨(by decide), (by decide)⟩)  ) (fun o V' hq => ?_)
          obtain ⟨r1482, rfl, rfl, b1483, q1484⟩ := hq
          refine .inr ⟨_, rfl, ?_⟩
          rcases q1484 with ⟨rfl, a1485, a1486, a1487⟩ | rfl
          · have _q : True := trivial
            refine jx_ld (pc' := 56) (l' := jSto1 L1480 6 (.int (i32 (1)))) (st' := []) rfl rfl ?_
            obtain ⟨L1488, eL1488⟩ : ∃ q, q = jSto1 L1480 6 (.int (i32 (1))) := ⟨_, rfl⟩
            rw [← eL1488]
            have gL1488_0 : jGet L1488 0 = some (.ref 66) := eL1488 ▸ jg_ne (by decide) gL1480_0 rfl
            have gL1488_1 : jGet L1488 1 = some (.int (i32 (nd))) := eL1488 ▸ jg_ne (by decide) gL1480_1 rfl
            have gL1488_2 : jGet L1488 2 = some (.int (i32 (0))) := eL1488 ▸ jg_ne (by decide) gL1480_2 rfl
            have gL1488_3 : jGet L1488 3 = some (.int (i32 (G 12))) := eL1488 ▸ jg_ne (by decide) gL1480_3 rfl
            have gL1488_4 : jGet L1488 4 = some (.int (i32 (r1430))) := eL1488 ▸ jg_ne (by decide) gL1480_4 rfl
            have gL1488_5 : jGet L1488 5 = some (.int (i32 (0))) := eL1488 ▸ jg_ne (by decide) gL1480_5 rfl
            have gL1488_6 : jGet L1488 6 = some (.int (i32 (1))) := eL1488 ▸ jg_eq
            refine jx_ld (pc' := 58) (l' := L1488) (st' := [.int (i32 (1))]) rfl (jl_iload gL1488_6) ?_
            refine jx_if_eq (pc' := 61) (tg := 99) rfl rfl rfl (by decide) (by decide) (fun h1489 => ?_) (fun h1489 => ?_)
            · have _q := h1489
              exact absurd h1489 (by omega)
            · have _q := h1489
              refine jx_ld (pc' := 62) (l' := L1488) (st' := [.ref 66]) rfl (jl_aloadn gL1488_0) ?_
              refine jr_get (pc' := 65) (i := 21) (v := .ref 74) rfl rfl (by decide) rfl rfl ?_
              refine jx_ld (pc' := 67) (l' := L1488) (st' := [.int (i32 (r1430)), .ref 74]) rfl (jl_iload gL1488_4) ?_
              have b1490 : (0 : Int) ≤ A 7 (r1430).toNat ∧ A 7 (r1430).toNat ≤ 14 := hW.2 7 _
              refine jr_ldv (pc' := 68) (i := 7) (m := 260) (z := r1430) (y := A 7 (r1430).toNat) rfl (by decide) rfl (by decide) (by omega) (by omega) rfl (show A1463 7 (r1430).toNat = A 7 (r1430).toNat from (congrFun ((hF1467.2 7 rfl).trans ((hF1433.2 7 rfl).trans (hF1361.2 7 rfl))) _)) ?_
              refine jx_st (pc' := 71) (as := [.int (i32 (A 7 (r1430).toNat))]) (st := []) rfl rfl ⟨rfl, Nat.le_of_ble_eq_true rfl⟩ rfl rfl rfl (c_isArray (dd := d) (hd := by omega) (k := A 7 (r1430).toNat)   (h_k := ⟨(Int.le_trans (by decide : (-2147483648 : Int) ≤ 0) b1490.1), (Int.le_trans b1490.2 (by decide : (14 : Int) ≤ 2147483647))⟩)  ) (fun o V' hq => ?_)
              obtain ⟨r1491, rfl, rfl, b1492, q1493⟩ := hq
              refine .inr ⟨_, rfl, ?_⟩
              rcases q1493 with ⟨rfl, a1494⟩ | rfl
              · have _q : True := trivial
                refine jx_if_ne (pc' := 74) (tg := 93) rfl rfl rfl (by decide) (by decide) (fun h1495 => ?_) (fun h1495 => ?_)
                · have _q := h1495
                  refine jx_ld (pc' := 94) (l' := L1488) (st' := [.ref 66]) rfl (jl_aloadn gL1488_0) ?_
                  refine jx_vr (pc' := 97) (as := []) (st := []) rfl rfl rfl rfl ⟨rfl, rfl, Nat.le_of_ble_eq_true rfl⟩ rfl rfl (c_readIndex_w (dd := d) (k := 9) (hE := REw_all X 9) (hd := by omega) (hW := hW1466)  (ln := ln) (e_ln := show G1462 9 = ln from ((hF1467.1 9 rfl).trans ((hF1433.1 9 rfl).trans ((hF1361.1 9 rfl).trans (e_ln))))) (le := le) (e_le := show A1463 4 (ln).toNat = le from (congrFun ((hF1467.2 4 rfl).trans ((hF1433.2 4 rfl).trans (hF1361.2 4 rfl))) _).trans (e_le)) (at0 := at2_1464) (e_at0 := show G1462 10 = at2_1464 from (e1468)) (fk := fk2_1431) (e_fk := show G1462 16 = fk2_1431 from ((hF1467.1 16 rfl).trans (e1435))) (op0 := op0) (e_op0 := show G1462 15 = op0 from ((hF1467.1 15 rfl).trans ((hF1433.1 15 rfl).trans ((hF1361.1 15 rfl).trans (e_op0))))) (nd := nd2_1358) (e_nd := show G1462 31 = nd2_1358 from ((hF1467.1 31 rfl).trans ((hF1433.1 31 rfl).trans (e1363)))) (tk0 := tk2_1465) (e_tk0 := show G1462 11 = tk2_1465 from (e1469)) (ec := ec2_1359) (e_ec := show ecn A1463 (G1462 31) = ec2_1359 from ec1478) (sy := sy) (e_sy := show G1462 19 = sy from ((hF1467.1 19 rfl).trans ((hF1433.1 19 rfl).trans ((hF1361.1 19 rfl).trans (e_sy))))) (i_SV := (SV_ext (((hF1467.1 29 rfl).trans ((hF1433.1 29 rfl).trans (hF1361.1 29 rfl)))) (((hF1467.2 14 rfl).trans ((hF1433.2 14 rfl).trans (hF1361.2 14 rfl)))) i_SV))   (p_0 := by omega) (p_1 := by omega) (p_2 := by omega) (p_3 := by omega) (p_4 := by omega) (p_5 := by omega) (p_6 := by omega) (p_7 := by omega) (p_8 := by omega)) (fun o V' hq => ?_)
                  obtain ⟨G1496, A1497, r1498, at2_1499, fk2_1500, op2_1501, nd2_1502, tk2_1503, ec2_1504, rfl, rfl, hW1505, hF1506, hQ1507, b1508, e1509, e1510, e1511, e1512, e1513, e1514, p1515, p1516, p1517, p1518, p1519, p1520, q1521⟩ := hq
                  have hF1522 := Fr_tr hF1474 hF1506 (Fr_sub (by decide)) (Fr_sub (by decide))
                  have hP1523 := Pf_tr hP1475 hQ1507 (by omega)
                  have sf1524 : ND A1497 (nd) (33) (0) (0) (0) (0) (0) (0) := ND_ag (by omega) (Ag_pf hQ1507 (by omega)) sf1476
                  have sf1525 : NdM A1497 (nd) (nd + 1) (sy) := NdM_pf hQ1507 (by omega) (by omega) sf1477
                  have bat2_1499 : (0 : Int) ≤ at2_1499 ∧ at2_1499 ≤ 3002 := e1509 ▸ hW1505.1 10
                  have bfk2_1500 : (0 : Int) ≤ fk2_1500 ∧ fk2_1500 ≤ 6 := e1510 ▸ hW1505.1 16
                  have bop2_1501 : (-2147483648 : Int) ≤ op2_1501 ∧ op2_1501 ≤ 2147483647 := e1511 ▸ hW1505.1 15
                  have bnd2_1502 : (0 : Int) ≤ nd2_1502 ∧ nd2_1502 ≤ 6999 := e1512 ▸ hW1505.1 31
                  have ztk2_1503 := tz_b tk2_1503
                  have btk2_1503 : (0 : Int) ≤ tk2_1503 ∧ tk2_1503 ≤ 5 := e1513 ▸ hW1505.1 11
                  refine .inr ⟨_, rfl, ?_⟩
                  rcases q1521 with ⟨a1526, a1527, a1528⟩ | ⟨a1529, a1530, a1531, a1532, a1533, a1534⟩
                  · have _q : True := trivial
                    refine jx_ld (pc' := 99) (l' := jSto1 L1488 5 (.int (i32 (r1498)))) (st' := []) rfl rfl ?_
                    obtain ⟨L1535, eL1535⟩ : ∃ q, q = jSto1 L1488 5 (.int (i32 (r1498))) := ⟨_, rfl⟩
                    rw [← eL1535]
                    have gL1535_0 : jGet L1535 0 = some (.ref 66) := eL1535 ▸ jg_ne (by decide) gL1488_0 rfl
                    have gL1535_1 : jGet L1535 1 = some (.int (i32 (nd))) := eL1535 ▸ jg_ne (by decide) gL1488_1 rfl
                    have gL1535_2 : jGet L1535 2 = some (.int (i32 (0))) := eL1535 ▸ jg_ne (by decide) gL1488_2 rfl
                    have gL1535_3 : jGet L1535 3 = some (.int (i32 (G 12))) := eL1535 ▸ jg_ne (by decide) gL1488_3 rfl
                    have gL1535_4 : jGet L1535 4 = some (.int (i32 (r1430))) := eL1535 ▸ jg_ne (by decide) gL1488_4 rfl
                    have gL1535_6 : jGet L1535 6 = some (.int (i32 (1))) := eL1535 ▸ jg_ne (by decide) gL1488_6 rfl
                    have gL1535_5 : jGet L1535 5 = some (.int (i32 (r1498))) := eL1535 ▸ jg_eq
                    refine jx_ld (pc' := 100) (l' := L1535) (st' := [.ref 66]) rfl (jl_aloadn gL1535_0) ?_
                    refine jx_vr (pc' := 103) (as := []) (st := []) rfl rfl rfl rfl ⟨rfl, rfl, Nat.le_of_ble_eq_true rfl⟩ rfl rfl (c_bad (dd := d) (hd := by omega) (hW := hW1505)  (fk := fk2_1500) (e_fk := show G1496 16 = fk2_1500 from (e1510))    ) (fun o V' hq => ?_)
                    obtain ⟨r1536, rfl, rfl, b1537, q1538⟩ := hq
                    refine .inr ⟨_, rfl, ?_⟩
                    rcases q1538 with ⟨rfl, a1539⟩ | ⟨rfl, a1540⟩
                    · have _q : True := trivial
                      refine jx_if_eq (pc' := 106) (tg := 108) rfl rfl rfl (by decide) (by decide) (fun h1541 => ?_) (fun h1541 => ?_)
                      · have _q := h1541
                        exact absurd h1541 (by omega)
                      · have _q := h1541
                        refine jx_ar (pc' := 107) (st' := [.int (i32 (0))]) rfl rfl rfl rfl ?_
                        refine jx_rt (v := some (.int (i32 (0)))) rfl rfl rfl rfl rfl rfl ?_
                        exact ⟨_, _, _, at2_1499, fk2_1500, nd2_1502, ln, ec2_1504, rfl, rfl, hW1505, hF1522, hP1523, by omega, (e1509), (e1510), (e1512), ((hF1506.1 9 rfl).trans ((hF1467.1 9 rfl).trans ((hF1433.1 9 rfl).trans ((hF1361.1 9 rfl).trans (e_ln))))), e1514, by omega, by omega, by omega, by omega, by omega, by first | exact Or.inl (⟨by omega, by omega, by omega⟩)⟩
                    · have _q : True := trivial
                      exfalso
                      omega
                  · have _q : True := trivial
                    refine jx_ld (pc' := 99) (l' := jSto1 L1488 5 (.int (i32 (r1498)))) (st' := []) rfl rfl ?_
                    obtain ⟨L1542, eL1542⟩ : ∃ q, q = jSto1 L1488 5 (.int (i32 (r1498))) := ⟨_, rfl⟩
                    rw [← eL1542]
                    have gL1542_0 : jGet L1542 0 = some (.ref 66) := eL1542 ▸ jg_ne (by decide) gL1488_0 rfl
                    have gL1542_1 : jGet L1542 1 = some (.int (i32 (nd))) := eL1542 ▸ jg_ne (by decide) gL1488_1 rfl
                    have gL1542_2 : jGet L1542 2 = some (.int (i32 (0))) := eL1542 ▸ jg_ne (by decide) gL1488_2 rfl
                    have gL1542_3 : jGet L1542 3 = some (.int (i32 (G 12))) := eL1542 ▸ jg_ne (by decide) gL1488_3 rfl
                    have gL1542_4 : jGet L1542 4 = some (.int (i32 (r1430))) := eL1542 ▸ jg_ne (by decide) gL1488_4 rfl
                    have gL1542_6 : jGet L1542 6 = some (.int (i32 (1))) := eL1542 ▸ jg_ne (by decide) gL1488_6 rfl
                    have gL1542_5 : jGet L1542 5 = some (.int (i32 (r1498))) := eL1542 ▸ jg_eq
                    refine jx_ld (pc' := 100) (l' := L1542) (st' := [.ref 66]) rfl (jl_aloadn gL1542_0) ?_
                    refine jx_vr (pc' := 103) (as := []) (st := []) rfl rfl rfl rfl ⟨rfl, rfl, Nat.le_of_ble_eq_true rfl⟩ rfl rfl (c_bad (dd := d) (hd := by omega) (hW := hW1505)  (fk := fk2_1500) (e_fk := show G1496 16 = fk2_1500 from (e1510))    ) (fun o V' hq => ?_)
                    obtain ⟨r1543, rfl, rfl, b1544, q1545⟩ := hq
                    refine .inr ⟨_, rfl, ?_⟩
                    rcases q1545 with ⟨rfl, a1546⟩ | ⟨rfl, a1547⟩
                    · have _q : True := trivial
                      exfalso
                      omega
                    · have _q : True := trivial
                      refine jx_if_eq (pc' := 106) (tg := 108) rfl rfl rfl (by decide) (by decide) (fun h1548 => ?_) (fun h1548 => ?_)
                      · have _q := h1548
                        have z1549 := tz_f (tk2_1503)
                        exact c_readGuard_w_at_108_1 (X := X) (d := d) (Vs := Vs) (sb := sb) (c0 := c0) (c1 := c1) (G := G) (A := A) (T := T) (ln := ln) (le := le) (at0 := at0) (fk := fk) (op0 := op0) (nd := nd) (tk0 := tk0) (li := li) (ec := ec) (sy := sy) (hd := hd) (hW := hW) (e_ln := e_ln) (e_le := e_le) (e_at0 := e_at0) (e_fk := e_fk) (e_op0 := e_op0) (e_nd := e_nd) (e_tk0 := e_tk0) (e_li := e_li) (e_ec := e_ec) (e_sy := e_sy) (i_SV := i_SV) (p_0 := p_0) (p_1 := p_1) (p_2 := p_2) (p_3 := p_3) (p_4 := p_4) L1542 G1496 A1497 (nd) (G 12) (r1430) (r1498) (at2_1499) (tk2_1503) (fk2_1500) (nd2_1502) (op2_1501) (A 7 (r1430).toNat) (ec2_1504) gL1542_0 gL1542_6 gL1542_1 gL1542_3 gL1542_4 gL1542_5 hW1505 hF1522 hP1523 ((e1509)) ((e1513)) ((e1510)) ((e1512)) ((e1511)) ((congrFun ((hF1506.2 7 rfl).trans ((hF1467.2 7 rfl).trans ((hF1433.2 7 rfl).trans (hF1361.2 7 rfl)))) _)) (e1514) (((hF1506.1 9 rfl).trans ((hF1467.1 9 rfl).trans ((hF1433.1 9 rfl).trans ((hF1361.1 9 rfl).trans (e_ln)))))) (by omega) (by omega) (by omega) (by omega) (by omega) (by omega) (by omega) (by omega) (by omega) (by omega) (by omega) (by omega) (by omega) (by omega) (a1447) (sf1524) ((wE_mono (by omega) (by omega) (by omega) a1532)) (by omega) ((NdM_w (NdM_app (sy := sy) sf1525 a1534 (by omega) (by omega) (by omega)) (by omega) (by omega) (by omega)))
                      · have _q := h1548
                        exact absurd h1548 (by omega)
                · have _q := h1495
                  exact absurd h1495 (by omega)
              · have _q : True := trivial
                refine jx_if_ne (pc' := 74) (tg := 93) rfl rfl rfl (by decide) (by decide) (fun h1550 => ?_) (fun h1550 => ?_)
                · have _q := h1550
                  exact absurd h1550 (by omega)
                · have _q := h1550
                  refine jx_ld (pc' := 75) (l' := L1488) (st' := [.ref 66]) rfl (jl_aloadn gL1488_0) ?_
                  refine jr_get (pc' := 78) (i := 21) (v := .ref 74) rfl rfl (by decide) rfl rfl ?_
                  refine jx_ld (pc' := 80) (l' := L1488) (st' := [.int (i32 (r1430)), .ref 74]) rfl (jl_iload gL1488_4) ?_
                  refine jr_ldv (pc' := 81) (i := 7) (m := 260) (z := r1430) (y := A 7 (r1430).toNat) rfl (by decide) rfl (by decide) (by omega) (by omega) rfl (show A1463 7 (r1430).toNat = A 7 (r1430).toNat from (congrFun ((hF1467.2 7 rfl).trans ((hF1433.2 7 rfl).trans (hF1361.2 7 rfl))) _)) ?_
                  refine jx_ar (pc' := 82) (st' := [.int (i32 (4)), .int (i32 (A 7 (r1430).toNat))]) rfl rfl rfl rfl ?_
                  refine jx_icmp_eq (pc' := 85) (tg := 93) rfl rfl rfl (Int.le_trans (by decide : (-2147483648 : Int) ≤ 0) b1490.1) (Int.le_trans b1490.2 (by decide : (14 : Int) ≤ 2147483647)) (by decide) (by decide) (fun h1551 => ?_) (fun h1551 => ?_)
                  · have _q := h1551
                    refine jx_ld (pc' := 94) (l' := L1488) (st' := [.ref 66]) rfl (jl_aloadn gL1488_0) ?_
                    refine jx_vr (pc' := 97) (as := []) (st := []) rfl rfl rfl rfl ⟨rfl, rfl, Nat.le_of_ble_eq_true rfl⟩ rfl rfl (c_readIndex_w (dd := d) (k := 9) (hE := REw_all X 9) (hd := by omega) (hW := hW1466)  (ln := ln) (e_ln := show G1462 9 = ln from ((hF1467.1 9 rfl).trans ((hF1433.1 9 rfl).trans ((hF1361.1 9 rfl).trans (e_ln))))) (le := le) (e_le := show A1463 4 (ln).toNat = le from (congrFun ((hF1467.2 4 rfl).trans ((hF1433.2 4 rfl).trans (hF1361.2 4 rfl))) _).trans (e_le)) (at0 := at2_1464) (e_at0 := show G1462 10 = at2_1464 from (e1468)) (fk := fk2_1431) (e_fk := show G1462 16 = fk2_1431 from ((hF1467.1 16 rfl).trans (e1435))) (op0 := op0) (e_op0 := show G1462 15 = op0 from ((hF1467.1 15 rfl).trans ((hF1433.1 15 rfl).trans ((hF1361.1 15 rfl).trans (e_op0))))) (nd := nd2_1358) (e_nd := show G1462 31 = nd2_1358 from ((hF1467.1 31 rfl).trans ((hF1433.1 31 rfl).trans (e1363)))) (tk0 := tk2_1465) (e_tk0 := show G1462 11 = tk2_1465 from (e1469)) (ec := ec2_1359) (e_ec := show ecn A1463 (G1462 31) = ec2_1359 from ec1478) (sy := sy) (e_sy := show G1462 19 = sy from ((hF1467.1 19 rfl).trans ((hF1433.1 19 rfl).trans ((hF1361.1 19 rfl).trans (e_sy))))) (i_SV := (SV_ext (((hF1467.1 29 rfl).trans ((hF1433.1 29 rfl).trans (hF1361.1 29 rfl)))) (((hF1467.2 14 rfl).trans ((hF1433.2 14 rfl).trans (hF1361.2 14 rfl)))) i_SV))   (p_0 := by omega) (p_1 := by omega) (p_2 := by omega) (p_3 := by omega) (p_4 := by omega) (p_5 := by omega) (p_6 := by omega) (p_7 := by omega) (p_8 := by omega)) (fun o V' hq => ?_)
                    obtain ⟨G1552, A1553, r1554, at2_1555, fk2_1556, op2_1557, nd2_1558, tk2_1559, ec2_1560, rfl, rfl, hW1561, hF1562, hQ1563, b1564, e1565, e1566, e1567, e1568, e1569, e1570, p1571, p1572, p1573, p1574, p1575, p1576, q1577⟩ := hq
                    have hF1578 := Fr_tr hF1474 hF1562 (Fr_sub (by decide)) (Fr_sub (by decide))
                    have hP1579 := Pf_tr hP1475 hQ1563 (by omega)
                    have sf1580 : ND A1553 (nd) (33) (0) (0) (0) (0) (0) (0) := ND_ag (by omega) (Ag_pf hQ1563 (by omega)) sf1476
                    have sf1581 : NdM A1553 (nd) (nd + 1) (sy) := NdM_pf hQ1563 (by omega) (by omega) sf1477
                    have bat2_1555 : (0 : Int) ≤ at2_1555 ∧ at2_1555 ≤ 3002 := e1565 ▸ hW1561.1 10
                    have bfk2_1556 : (0 : Int) ≤ fk2_1556 ∧ fk2_1556 ≤ 6 := e1566 ▸ hW1561.1 16
                    have bop2_1557 : (-2147483648 : Int) ≤ op2_1557 ∧ op2_1557 ≤ 2147483647 := e1567 ▸ hW1561.1 15
                    have bnd2_1558 : (0 : Int) ≤ nd2_1558 ∧ nd2_1558 ≤ 6999 := e1568 ▸ hW1561.1 31
                    have ztk2_1559 := tz_b tk2_1559
                    have btk2_1559 : (0 : Int) ≤ tk2_1559 ∧ tk2_1559 ≤ 5 := e1569 ▸ hW1561.1 11
                    refine .inr ⟨_, rfl, ?_⟩
                    rcases q1577 with ⟨a1582, a1583, a1584⟩ | ⟨a1585, a1586, a1587, a1588, a1589, a1590⟩
                    · have _q : True := trivial
                      refine jx_ld (pc' := 99) (l' := jSto1 L1488 5 (.int (i32 (r1554)))) (st' := []) rfl rfl ?_
                      obtain ⟨L1591, eL1591⟩ : ∃ q, q = jSto1 L1488 5 (.int (i32 (r1554))) := ⟨_, rfl⟩
                      rw [← eL1591]
                      have gL1591_0 : jGet L1591 0 = some (.ref 66) := eL1591 ▸ jg_ne (by decide) gL1488_0 rfl
                      have gL1591_1 : jGet L1591 1 = some (.int (i32 (nd))) := eL1591 ▸ jg_ne (by decide) gL1488_1 rfl
                      have gL1591_2 : jGet L1591 2 = some (.int (i32 (0))) := eL1591 ▸ jg_ne (by decide) gL1488_2 rfl
                      have gL1591_3 : jGet L1591 3 = some (.int (i32 (G 12))) := eL1591 ▸ jg_ne (by decide) gL1488_3 rfl
                      have gL1591_4 : jGet L1591 4 = some (.int (i32 (r1430))) := eL1591 ▸ jg_ne (by decide) gL1488_4 rfl
                      have gL1591_6 : jGet L1591 6 = some (.int (i32 (1))) := eL1591 ▸ jg_ne (by decide) gL1488_6 rfl
                      have gL1591_5 : jGet L1591 5 = some (.int (i32 (r1554))) := eL1591 ▸ jg_eq
                      refine jx_ld (pc' := 100) (l' := L1591) (st' := [.ref 66]) rfl (jl_aloadn gL1591_0) ?_
                      refine jx_vr (pc' := 103) (as := []) (st := []) rfl rfl rfl rfl ⟨rfl, rfl, Nat.le_of_ble_eq_true rfl⟩ rfl rfl (c_bad (dd := d) (hd := by omega) (hW := hW1561)  (fk := fk2_1556) (e_fk := show G1552 16 = fk2_1556 from (e1566))    ) (fun o V' hq => ?_)
                      obtain ⟨r1592, rfl, rfl, b1593, q1594⟩ := hq
                      refine .inr ⟨_, rfl, ?_⟩
                      rcases q1594 with ⟨rfl, a1595⟩ | ⟨rfl, a1596⟩
                      · have _q : True := trivial
                        refine jx_if_eq (pc' := 106) (tg := 108) rfl rfl rfl (by decide) (by decide) (fun h1597 => ?_) (fun h1597 => ?_)
                        · have _q := h1597
                          exact absurd h1597 (by omega)
                        · have _q := h1597
                          refine jx_ar (pc' := 107) (st' := [.int (i32 (0))]) rfl rfl rfl rfl ?_
                          refine jx_rt (v := some (.int (i32 (0)))) rfl rfl rfl rfl rfl rfl ?_
                          exact ⟨_, _, _, at2_1555, fk2_1556, nd2_1558, ln, ec2_1560, rfl, rfl, hW1561, hF1578, hP1579, by omega, (e1565), (e1566), (e1568), ((hF1562.1 9 rfl).trans ((hF1467.1 9 rfl).trans ((hF1433.1 9 rfl).trans ((hF1361.1 9 rfl).trans (e_ln))))), e1570, by omega, by omega, by omega, by omega, by omega, by first | exact Or.inl (⟨by omega, by omega, by omega⟩)⟩
                      · have _q : True := trivial
                        exfalso
                        omega
                    · have _q : True := trivial
                      refine jx_ld (pc' := 99) (l' := jSto1 L1488 5 (.int (i32 (r1554)))) (st' := []) rfl rfl ?_
                      obtain ⟨L1598, eL1598⟩ : ∃ q, q = jSto1 L1488 5 (.int (i32 (r1554))) := ⟨_, rfl⟩
                      rw [← eL1598]
                      have gL1598_0 : jGet L1598 0 = some (.ref 66) := eL1598 ▸ jg_ne (by decide) gL1488_0 rfl
                      have gL1598_1 : jGet L1598 1 = some (.int (i32 (nd))) := eL1598 ▸ jg_ne (by decide) gL1488_1 rfl
                      have gL1598_2 : jGet L1598 2 = some (.int (i32 (0))) := eL1598 ▸ jg_ne (by decide) gL1488_2 rfl
                      have gL1598_3 : jGet L1598 3 = some (.int (i32 (G 12))) := eL1598 ▸ jg_ne (by decide) gL1488_3 rfl
                      have gL1598_4 : jGet L1598 4 = some (.int (i32 (r1430))) := eL1598 ▸ jg_ne (by decide) gL1488_4 rfl
                      have gL1598_6 : jGet L1598 6 = some (.int (i32 (1))) := eL1598 ▸ jg_ne (by decide) gL1488_6 rfl
                      have gL1598_5 : jGet L1598 5 = some (.int (i32 (r1554))) := eL1598 ▸ jg_eq
                      refine jx_ld (pc' := 100) (l' := L1598) (st' := [.ref 66]) rfl (jl_aloadn gL1598_0) ?_
                      refine jx_vr (pc' := 103) (as := []) (st := []) rfl rfl rfl rfl ⟨rfl, rfl, Nat.le_of_ble_eq_true rfl⟩ rfl rfl (c_bad (dd := d) (hd := by omega) (hW := hW1561)  (fk := fk2_1556) (e_fk := show G1552 16 = fk2_1556 from (e1566))    ) (fun o V' hq => ?_)
                      obtain ⟨r1599, rfl, rfl, b1600, q1601⟩ := hq
                      refine .inr ⟨_, rfl, ?_⟩
                      rcases q1601 with ⟨rfl, a1602⟩ | ⟨rfl, a1603⟩
                      · have _q : True := trivial
                        exfalso
                        omega
                      · have _q : True := trivial
                        refine jx_if_eq (pc' := 106) (tg := 108) rfl rfl rfl (by decide) (by decide) (fun h1604 => ?_) (fun h1604 => ?_)
                        · have _q := h1604
                          have z1605 := tz_f (tk2_1559)
                          exact c_readGuard_w_at_108_1 (X := X) (d := d) (Vs := Vs) (sb := sb) (c0 := c0) (c1 := c1) (G := G) (A := A) (T := T) (ln := ln) (le := le) (at0 := at0) (fk := fk) (op0 := op0) (nd := nd) (tk0 := tk0) (li := li) (ec := ec) (sy := sy) (hd := hd) (hW := hW) (e_ln := e_ln) (e_le := e_le) (e_at0 := e_at0) (e_fk := e_fk) (e_op0 := e_op0) (e_nd := e_nd) (e_tk0 := e_tk0) (e_li := e_li) (e_ec := e_ec) (e_sy := e_sy) (i_SV := i_SV) (p_0 := p_0) (p_1 := p_1) (p_2 := p_2) (p_3 := p_3) (p_4 := p_4) L1598 G1552 A1553 (nd) (G 12) (r1430) (r1554) (at2_1555) (tk2_1559) (fk2_1556) (nd2_1558) (op2_1557) (A 7 (r1430).toNat) (ec2_1560) gL1598_0 gL1598_6 gL1598_1 gL1598_3 gL1598_4 gL1598_5 hW1561 hF1578 hP1579 ((e1565)) ((e1569)) ((e1566)) ((e1568)) ((e1567)) ((congrFun ((hF1562.2 7 rfl).trans ((hF1467.2 7 rfl).trans ((hF1433.2 7 rfl).trans (hF1361.2 7 rfl)))) _)) (e1570) (((hF1562.1 9 rfl).trans ((hF1467.1 9 rfl).trans ((hF1433.1 9 rfl).trans ((hF1361.1 9 rfl).trans (e_ln)))))) (by omega) (by omega) (by omega) (by omega) (by omega) (by omega) (by omega) (by omega) (by omega) (by omega) (by omega) (by omega) (by omega) (by omega) (a1447) (sf1580) ((wE_mono (by omega) (by omega) (by omega) a1588)) (by omega) ((NdM_w (NdM_app (sy := sy) sf1581 a1590 (by omega) (by omega) (by omega)) (by omega) (by omega) (by omega)))
                        · have _q := h1604
                          exact absurd h1604 (by omega)
                  · have _q := h1551
                    refine jx_ld (pc' := 86) (l' := L1488) (st' := [.ref 66]) rfl (jl_aloadn gL1488_0) ?_
                    refine jx_ar (pc' := 87) (st' := [.int (i32 (4)), .ref 66]) rfl rfl rfl rfl ?_
                    refine jx_ld (pc' := 88) (l' := L1488) (st' := [.int (i32 (G 12)), .int (i32 (4)), .ref 66]) rfl (jl_iloadn gL1488_3) ?_
                    refine jx_vr (pc' := 91) (as := [.int (i32 (4)), .int (i32 (G 12))]) (st := []) rfl rfl rfl rfl ⟨rfl, rfl, Nat.le_of_ble_eq_true rfl⟩ rfl rfl (c_fail (dd := d) (hd := by omega) (hW := hW1466) (kind := 4) (place := G 12) (fk := fk2_1431) (e_fk := show G1462 16 = fk2_1431 from ((hF1467.1 16 rfl).trans (e1435)))  (h_kind := ⟨(by decide), (by decide)⟩) (h_place := ⟨(Int.le_trans (by decide : (-2147483648 : Int) ≤ -3000) b1426.1), (Int.le_trans b1426.2 (by decide : (3002 : Int) ≤ 2147483647))⟩)  (p_0 := by omega) (p_1 := by omega)) (fun o V' hq => ?_)
                    obtain ⟨G1606, A1607, fk2_1608, rfl, rfl, hW1609, hF1610, e1611, p1612, -⟩ := hq
                    have hF1614 := Fr_tr hF1474 hF1610 (Fr_sub (by decide)) (Fr_sub (by decide))
                    have hP1615 := Pf_f hP1475 hF1610 (by decide)
                    have sf1616 : ND A1607 (nd) (33) (0) (0) (0) (0) (0) (0) := ND_ag (by omega) (Ag_fr hF1610 (by decide)) sf1476
                    have sf1617 : NdM A1607 (nd) (nd + 1) (sy) := NdM_f hF1610 (by decide) sf1477
                    have ec1618 : ecn A1607 (G1606 31) = ec2_1359 := (ecn_f (hF1610.2 15 rfl) (hF1610.1 31 rfl)).trans ec1478
                    have bfk2_1608 : (0 : Int) ≤ fk2_1608 ∧ fk2_1608 ≤ 6 := e1611 ▸ hW1609.1 16
                    refine .inl ⟨rfl, ?_⟩
                    refine jx_ar (pc' := 92) (st' := [.int (i32 (0))]) rfl rfl rfl rfl ?_
                    refine jx_rt (v := some (.int (i32 (0)))) rfl rfl rfl rfl rfl rfl ?_
                    exact ⟨_, _, _, at2_1464, fk2_1608, nd2_1358, ln, ec2_1359, rfl, rfl, hW1609, hF1614, hP1615, by omega, ((hF1610.1 10 rfl).trans (e1468)), (e1611), ((hF1610.1 31 rfl).trans ((hF1467.1 31 rfl).trans ((hF1433.1 31 rfl).trans (e1363)))), ((hF1610.1 9 rfl).trans ((hF1467.1 9 rfl).trans ((hF1433.1 9 rfl).trans ((hF1361.1 9 rfl).trans (e_ln))))), ec1618, by omega, by omega, by omega, by omega, by omega, by first | exact Or.inl (⟨by omega, by omega, by omega⟩)⟩
          · have _q : True := trivial
            refine jx_ld (pc' := 56) (l' := jSto1 L1480 6 (.int (i32 (0)))) (st' := []) rfl rfl ?_
            obtain ⟨L1619, eL1619⟩ : ∃ q, q = jSto1 L1480 6 (.int (i32 (0))) := ⟨_, rfl⟩
            rw [← eL1619]
            have gL1619_0 : jGet L1619 0 = some (.ref 66) := eL1619 ▸ jg_ne (by decide) gL1480_0 rfl
            have gL1619_1 : jGet L1619 1 = some (.int (i32 (nd))) := eL1619 ▸ jg_ne (by decide) gL1480_1 rfl
            have gL1619_2 : jGet L1619 2 = some (.int (i32 (0))) := eL1619 ▸ jg_ne (by decide) gL1480_2 rfl
            have gL1619_3 : jGet L1619 3 = some (.int (i32 (G 12))) := eL1619 ▸ jg_ne (by decide) gL1480_3 rfl
            have gL1619_4 : jGet L1619 4 = some (.int (i32 (r1430))) := eL1619 ▸ jg_ne (by decide) gL1480_4 rfl
            have gL1619_5 : jGet L1619 5 = some (.int (i32 (0))) := eL1619 ▸ jg_ne (by decide) gL1480_5 rfl
            have gL1619_6 : jGet L1619 6 = some (.int (i32 (0))) := eL1619 ▸ jg_eq
            refine jx_ld (pc' := 58) (l' := L1619) (st' := [.int (i32 (0))]) rfl (jl_iload gL1619_6) ?_
            refine jx_if_eq (pc' := 61) (tg := 99) rfl rfl rfl (by decide) (by decide) (fun h1620 => ?_) (fun h1620 => ?_)
            · have _q := h1620
              refine jx_ld (pc' := 100) (l' := L1619) (st' := [.ref 66]) rfl (jl_aloadn gL1619_0) ?_
              refine jx_vr (pc' := 103) (as := []) (st := []) rfl rfl rfl rfl ⟨rfl, rfl, Nat.le_of_ble_eq_true rfl⟩ rfl rfl (c_bad (dd := d) (hd := by omega) (hW := hW1466)  (fk := fk2_1431) (e_fk := show G1462 16 = fk2_1431 from ((hF1467.1 16 rfl).trans (e1435)))    ) (fun o V' hq => ?_)
              obtain ⟨r1621, rfl, rfl, b1622, q1623⟩ := hq
              refine .inr ⟨_, rfl, ?_⟩
              rcases q1623 with ⟨rfl, a1624⟩ | ⟨rfl, a1625⟩
              · have _q : True := trivial
                exfalso
                omega
              · have _q : True := trivial
                refine jx_if_eq (pc' := 106) (tg := 108) rfl rfl rfl (by decide) (by decide) (fun h1626 => ?_) (fun h1626 => ?_)
                · have _q := h1626
                  have z1627 := tz_f (tk2_1465)
                  exact c_readGuard_w_at_108_0 (X := X) (d := d) (Vs := Vs) (sb := sb) (c0 := c0) (c1 := c1) (G := G) (A := A) (T := T) (ln := ln) (le := le) (at0 := at0) (fk := fk) (op0 := op0) (nd := nd) (tk0 := tk0) (li := li) (ec := ec) (sy := sy) (hd := hd) (hW := hW) (e_ln := e_ln) (e_le := e_le) (e_at0 := e_at0) (e_fk := e_fk) (e_op0 := e_op0) (e_nd := e_nd) (e_tk0 := e_tk0) (e_li := e_li) (e_ec := e_ec) (e_sy := e_sy) (i_SV := i_SV) (p_0 := p_0) (p_1 := p_1) (p_2 := p_2) (p_3 := p_3) (p_4 := p_4) L1619 G1462 A1463 (nd) (G 12) (r1430) (at2_1464) (tk2_1465) (fk2_1431) (nd2_1358) (op0) (A 7 (r1430).toNat) (ec2_1359) gL1619_0 gL1619_6 gL1619_5 gL1619_1 gL1619_3 gL1619_4 hW1466 hF1474 hP1475 ((e1468)) ((e1469)) (((hF1467.1 16 rfl).trans (e1435))) (((hF1467.1 31 rfl).trans ((hF1433.1 31 rfl).trans (e1363)))) (((hF1467.1 15 rfl).trans ((hF1433.1 15 rfl).trans ((hF1361.1 15 rfl).trans (e_op0))))) ((congrFun ((hF1467.2 7 rfl).trans ((hF1433.2 7 rfl).trans (hF1361.2 7 rfl))) _)) (ec1478) (((hF1467.1 9 rfl).trans ((hF1433.1 9 rfl).trans ((hF1361.1 9 rfl).trans (e_ln))))) (by omega) (by omega) (by omega) (by omega) (by omega) (by omega) (by omega) (by omega) (by omega) (by omega) (by omega) (by omega) (by omega) (a1447) (sf1476) (by omega) ((NdM_w sf1477 (by omega) (by omega) (by omega)))
                · have _q := h1626
                  exact absurd h1626 (by omega)
            · have _q := h1620
              exact absurd h1620 (by omega)
        · have _q := h1461
          exact absurd h1461 (by omega)
