set_option maxRecDepth 20000 in
set_option maxHeartbeats 4000000 in
theorem c_readGuard_at_359p {X : jX} {d : Nat} {Vs : Nat → Prop} {sb : Int} {c0 c1 : jC} {G : Nat → Int} {A : Nat → Nat → Int} {T : jH} {ln le at0 fk op0 nd tk0 li : Int} (hd : 71 ≤ d + 1) (hW : Wk G A) (e_ln : G 9 = ln) (e_le : A 4 (ln).toNat = le) (e_at0 : G 10 = at0) (e_fk : G 16 = fk) (e_op0 : G 15 = op0) (e_nd : G 31 = nd) (e_tk0 : G 11 = tk0) (e_li : G 3 = li) (i_SV : SV Vs sb G A) (p_0 : 0 ≤ op0 ∧ op0 ≤ 8) (p_1 : fk = 0) (p_2 : nd ≤ 2 * at0 - tz tk0 + 42) (p_3 : at0 ≤ le) (p_4 : ln < li) : ∀ (L : jL) (Gx : Nat → Int) (Ax : Nat → Nat → Int) (one at1 tk1 fk1 nd1 op1 : Int), jGet L 0 = some (.ref 66) → jGet L 1 = some (.int (i32 one)) → Wk Gx Ax → Fr [9, 10, 11, 12, 13, 14, 15, 16, 17, 18, 31] [15, 16, 17, 18, 19, 20, 21, 22, 24, 28] G A Gx Ax → Pf nd A Ax → Gx 10 = at1 → Gx 11 = tk1 → Gx 16 = fk1 → Gx 31 = nd1 → Gx 15 = op1 → Gx 9 = ln → ((-2147483648 : Int) ≤ one ∧ one ≤ 2147483647) → (at0 ≤ at1) → (at1 ≤ le) → (nd ≤ nd1) → (op1 = op0) → (one = nd) → (one ≤ 6998 ∧ one < nd1) → (1 ≤ fk1) → (nd1 - nd ≤ (2 * at1 - tz tk1) - (2 * at0 - tz tk0) + 6) → wj X d jm303 (359, L, [], rV c0 c1 Gx Ax T) (fun o V' => ∃ (G' : Nat → Int) (A' : Nat → Nat → Int) (r : Int) (at2 : Int) (fk2 : Int) (nd2 : Int) (ln2 : Int), V' = rV c0 c1 G' A' T ∧ o = .inl (some (.int (i32 r))) ∧ Wk G' A' ∧ Fr [9, 10, 11, 12, 13, 14, 15, 16, 17, 18, 31] [15, 16, 17, 18, 19, 20, 21, 22, 24, 28] G A G' A' ∧ Pf nd A A' ∧ ((-2147483648 : Int) ≤ r ∧ r ≤ 2147483647) ∧ G' 10 = at2 ∧ G' 16 = fk2 ∧ G' 31 = nd2 ∧ G' 9 = ln2 ∧ (at0 ≤ at2) ∧ (at2 ≤ le) ∧ (nd ≤ nd2) ∧ (0 ≤ r) ∧ (r ≤ nd2) ∧ (((1 ≤ fk2) ∧ (ln2 = ln) ∧ (nd2 - nd ≤ 2 * at2 - 2 * at0 + 12)) ∨ ((fk2 = 0) ∧ (ln2 = ln + 1) ∧ (nd2 - nd ≤ 2 * at2 - (2 * at0 - tz tk0) + 0) ∧ (nd ≤ r) ∧ (r < nd2) ∧ (wU A' Vs sb (r) (nd) (nd2)) ∧ (NX A' (r))))) := by
  have hF0 : Fr [9, 10, 11, 12, 13, 14, 15, 16, 17, 18, 31] [15, 16, 17, 18, 19, 20, 21, 22, 24, 28] G A G A := Fr_rf
  have hP0 : Pf nd A A := Pf_rf
  have b_ln : (0 : Int) ≤ ln ∧ ln ≤ 3000 := e_ln ▸ hW.1 9
  have b_le : (0 : Int) ≤ le ∧ le ≤ 3000 := e_le ▸ hW.2 4 _
  have b_at0 : (0 : Int) ≤ at0 ∧ at0 ≤ 3002 := e_at0 ▸ hW.1 10
  have b_fk : (0 : Int) ≤ fk ∧ fk ≤ 6 := e_fk ▸ hW.1 16
  have b_op0 : (-2147483648 : Int) ≤ op0 ∧ op0 ≤ 2147483647 := e_op0 ▸ hW.1 15
  have b_nd : (0 : Int) ≤ nd ∧ nd ≤ 6999 := e_nd ▸ hW.1 31
  have z_tk0 := tz_f tk0
  have b_tk0 : (0 : Int) ≤ tk0 ∧ tk0 ≤ 5 := e_tk0 ▸ hW.1 11
  have b_li : (0 : Int) ≤ li ∧ li ≤ 3000 := e_li ▸ hW.1 3
  intro L Gx Ax one at1 tk1 fk1 nd1 op1 gL_0 gL_1 hWx hFx hPx ex_at1 ex_tk1 ex_fk1 ex_nd1 ex_op1 fx_9 rx_one iv_0 iv_1 iv_2 iv_3 iv_4 iv_5 iv_6 iv_7
  have b_at1 : (0 : Int) ≤ at1 ∧ at1 ≤ 3002 := ex_at1 ▸ hWx.1 10
  have z_tk1 := tz_f tk1
  have b_tk1 : (0 : Int) ≤ tk1 ∧ tk1 ≤ 5 := ex_tk1 ▸ hWx.1 11
  have b_fk1 : (0 : Int) ≤ fk1 ∧ fk1 ≤ 6 := ex_fk1 ▸ hWx.1 16
  have b_nd1 : (0 : Int) ≤ nd1 ∧ nd1 ≤ 6999 := ex_nd1 ▸ hWx.1 31
  have b_op1 : (-2147483648 : Int) ≤ op1 ∧ op1 ≤ 2147483647 := ex_op1 ▸ hWx.1 15
  refine jx_ld (pc' := 360) (l' := L) (st' := [.ref 66]) rfl (jl_aloadn gL_0) ?_
  refine jx_vr (pc' := 363) (as := []) (st := []) rfl rfl rfl rfl ⟨rfl, rfl, Nat.le_of_ble_eq_true rfl⟩ rfl rfl (c_endLine (dd := d) (hd := by omega) (hW := hWx)  (ln := ln) (e_ln := show Gx 9 = ln from (fx_9)) (li := li) (e_li := show Gx 3 = li from ((hFx.1 3 rfl).trans (e_li))) (fk := fk1) (e_fk := show Gx 16 = fk1 from (ex_fk1)) (tk0 := tk1) (e_tk0 := show Gx 11 = tk1 from (ex_tk1))    (p_0 := by omega)) (fun o V' hq => ?_)
  obtain ⟨G1, A2, ln2_3, fk2_4, rfl, rfl, hW5, hF6, e7, e8, q9⟩ := hq
  have hF10 := Fr_tr hFx hF6 (Fr_sub (by decide)) (Fr_sub (by decide))
  have hP11 := Pf_f hPx hF6 (by decide)
  have bln2_3 : (0 : Int) ≤ ln2_3 ∧ ln2_3 ≤ 3000 := e7 ▸ hW5.1 9
  have bfk2_4 : (0 : Int) ≤ fk2_4 ∧ fk2_4 ≤ 6 := e8 ▸ hW5.1 16
  refine .inl ⟨rfl, ?_⟩
  rcases q9 with ⟨a12, a13, a14, a15, a16⟩ | ⟨a17, a18⟩
  · have _q : True := trivial
    exfalso
    omega
  · have _q : True := trivial
    refine jx_ld (pc' := 364) (l' := L) (st' := [.int (i32 (one))]) rfl (jl_iloadn gL_1) ?_
    refine jx_rt (v := some (.int (i32 (one)))) rfl rfl rfl rfl rfl rfl ?_
    exact ⟨_, _, _, at1, fk2_4, nd1, ln2_3, rfl, rfl, hW5, hF10, hP11, by omega, ((hF6.1 10 rfl).trans (ex_at1)), (e8), ((hF6.1 31 rfl).trans (ex_nd1)), (e7), by omega, by omega, by omega, by omega, by omega, by first | exact Or.inl (⟨by omega, by omega, by omega⟩)⟩
set_option maxRecDepth 20000 in
set_option maxHeartbeats 4000000 in
theorem c_readGuard_at_348p {X : jX} {d : Nat} {Vs : Nat → Prop} {sb : Int} {c0 c1 : jC} {G : Nat → Int} {A : Nat → Nat → Int} {T : jH} {ln le at0 fk op0 nd tk0 li : Int} (hd : 71 ≤ d + 1) (hW : Wk G A) (e_ln : G 9 = ln) (e_le : A 4 (ln).toNat = le) (e_at0 : G 10 = at0) (e_fk : G 16 = fk) (e_op0 : G 15 = op0) (e_nd : G 31 = nd) (e_tk0 : G 11 = tk0) (e_li : G 3 = li) (i_SV : SV Vs sb G A) (p_0 : 0 ≤ op0 ∧ op0 ≤ 8) (p_1 : fk = 0) (p_2 : nd ≤ 2 * at0 - tz tk0 + 42) (p_3 : at0 ≤ le) (p_4 : ln < li) : ∀ (L : jL) (Gx : Nat → Int) (Ax : Nat → Nat → Int) (one at1 tk1 fk1 nd1 op1 : Int), jGet L 0 = some (.ref 66) → jGet L 1 = some (.int (i32 one)) → Wk Gx Ax → Fr [9, 10, 11, 12, 13, 14, 15, 16, 17, 18, 31] [15, 16, 17, 18, 19, 20, 21, 22, 24, 28] G A Gx Ax → Pf nd A Ax → Gx 10 = at1 → Gx 11 = tk1 → Gx 16 = fk1 → Gx 31 = nd1 → Gx 15 = op1 → Gx 9 = ln → ((-2147483648 : Int) ≤ one ∧ one ≤ 2147483647) → (at0 ≤ at1) → (at1 ≤ le) → (nd ≤ nd1) → (op1 = op0) → (one = nd) → (one ≤ 6998 ∧ one < nd1) → (1 ≤ fk1) → (nd1 - nd ≤ (2 * at1 - tz tk1) - (2 * at0 - tz tk0) + 6) → wj X d jm303 (348, L, [], rV c0 c1 Gx Ax T) (fun o V' => ∃ (G' : Nat → Int) (A' : Nat → Nat → Int) (r : Int) (at2 : Int) (fk2 : Int) (nd2 : Int) (ln2 : Int), V' = rV c0 c1 G' A' T ∧ o = .inl (some (.int (i32 r))) ∧ Wk G' A' ∧ Fr [9, 10, 11, 12, 13, 14, 15, 16, 17, 18, 31] [15, 16, 17, 18, 19, 20, 21, 22, 24, 28] G A G' A' ∧ Pf nd A A' ∧ ((-2147483648 : Int) ≤ r ∧ r ≤ 2147483647) ∧ G' 10 = at2 ∧ G' 16 = fk2 ∧ G' 31 = nd2 ∧ G' 9 = ln2 ∧ (at0 ≤ at2) ∧ (at2 ≤ le) ∧ (nd ≤ nd2) ∧ (0 ≤ r) ∧ (r ≤ nd2) ∧ (((1 ≤ fk2) ∧ (ln2 = ln) ∧ (nd2 - nd ≤ 2 * at2 - 2 * at0 + 12)) ∨ ((fk2 = 0) ∧ (ln2 = ln + 1) ∧ (nd2 - nd ≤ 2 * at2 - (2 * at0 - tz tk0) + 0) ∧ (nd ≤ r) ∧ (r < nd2) ∧ (wU A' Vs sb (r) (nd) (nd2)) ∧ (NX A' (r))))) := by
  have hF0 : Fr [9, 10, 11, 12, 13, 14, 15, 16, 17, 18, 31] [15, 16, 17, 18, 19, 20, 21, 22, 24, 28] G A G A := Fr_rf
  have hP0 : Pf nd A A := Pf_rf
  have b_ln : (0 : Int) ≤ ln ∧ ln ≤ 3000 := e_ln ▸ hW.1 9
  have b_le : (0 : Int) ≤ le ∧ le ≤ 3000 := e_le ▸ hW.2 4 _
  have b_at0 : (0 : Int) ≤ at0 ∧ at0 ≤ 3002 := e_at0 ▸ hW.1 10
  have b_fk : (0 : Int) ≤ fk ∧ fk ≤ 6 := e_fk ▸ hW.1 16
  have b_op0 : (-2147483648 : Int) ≤ op0 ∧ op0 ≤ 2147483647 := e_op0 ▸ hW.1 15
  have b_nd : (0 : Int) ≤ nd ∧ nd ≤ 6999 := e_nd ▸ hW.1 31
  have z_tk0 := tz_f tk0
  have b_tk0 : (0 : Int) ≤ tk0 ∧ tk0 ≤ 5 := e_tk0 ▸ hW.1 11
  have b_li : (0 : Int) ≤ li ∧ li ≤ 3000 := e_li ▸ hW.1 3
  intro L Gx Ax one at1 tk1 fk1 nd1 op1 gL_0 gL_1 hWx hFx hPx ex_at1 ex_tk1 ex_fk1 ex_nd1 ex_op1 fx_9 rx_one iv_0 iv_1 iv_2 iv_3 iv_4 iv_5 iv_6 iv_7
  have b_at1 : (0 : Int) ≤ at1 ∧ at1 ≤ 3002 := ex_at1 ▸ hWx.1 10
  have z_tk1 := tz_f tk1
  have b_tk1 : (0 : Int) ≤ tk1 ∧ tk1 ≤ 5 := ex_tk1 ▸ hWx.1 11
  have b_fk1 : (0 : Int) ≤ fk1 ∧ fk1 ≤ 6 := ex_fk1 ▸ hWx.1 16
  have b_nd1 : (0 : Int) ≤ nd1 ∧ nd1 ≤ 6999 := ex_nd1 ▸ hWx.1 31
  have b_op1 : (-2147483648 : Int) ≤ op1 ∧ op1 ≤ 2147483647 := ex_op1 ▸ hWx.1 15
  refine jx_ld (pc' := 349) (l' := L) (st' := [.ref 66]) rfl (jl_aloadn gL_0) ?_
  refine jr_get (pc' := 352) (i := 36) (v := .ref 86) rfl rfl (by decide) rfl rfl ?_
  refine jx_ld (pc' := 353) (l' := L) (st' := [.int (i32 (one)), .ref 86]) rfl (jl_iloadn gL_1) ?_
  refine jx_ld (pc' := 354) (l' := L) (st' := [.ref 66, .int (i32 (one)), .ref 86]) rfl (jl_aloadn gL_0) ?_
  refine jx_ar (pc' := 355) (st' := [.int (i32 (0)), .ref 66, .int (i32 (one)), .ref 86]) rfl rfl rfl rfl ?_
  refine jx_vr (pc' := 358) (as := [.int (i32 (0))]) (st := [.int (i32 (one)), .ref 86]) rfl rfl rfl rfl ⟨rfl, rfl, Nat.le_of_ble_eq_true rfl⟩ rfl rfl (c_readReference (dd := d) (hd := by omega) (hW := hWx) (ch := 0) (ln := ln) (e_ln := show Gx 9 = ln from (fx_9)) (le := le) (e_le := show Ax 4 (ln).toNat = le from (congrFun (hFx.2 4 rfl) _).trans (e_le)) (at0 := at1) (e_at0 := show Gx 10 = at1 from (ex_at1)) (fk := fk1) (e_fk := show Gx 16 = fk1 from (ex_fk1)) (op0 := op1) (e_op0 := show Gx 15 = op1 from (ex_op1)) (nd := nd1) (e_nd := show Gx 31 = nd1 from (ex_nd1)) (tk0 := tk1) (e_tk0 := show Gx 11 = tk1 from (ex_tk1)) (i_SV := (SV_ext ((hFx.1 29 rfl)) ((hFx.2 14 rfl)) i_SV)) (h_ch := ⟨(by decide), (by decide)⟩)  (p_0 := by omega) (p_1 := by omega) (p_2 := by omega) (p_3 := by omega) (p_4 := by omega)) (fun o V' hq => ?_)
  obtain ⟨G19, A20, r21, at2_22, fk2_23, op2_24, nd2_25, tk2_26, rfl, rfl, hW27, hF28, hQ29, b30, e31, e32, e33, e34, e35, p36, p37, p38, p39, p40, p41, q42⟩ := hq
  have hF43 := Fr_tr hFx hF28 (Fr_sub (by decide)) (Fr_sub (by decide))
  have hP44 := Pf_tr hPx hQ29 (by omega)
  have bat2_22 : (0 : Int) ≤ at2_22 ∧ at2_22 ≤ 3002 := e31 ▸ hW27.1 10
  have bfk2_23 : (0 : Int) ≤ fk2_23 ∧ fk2_23 ≤ 6 := e32 ▸ hW27.1 16
  have bop2_24 : (-2147483648 : Int) ≤ op2_24 ∧ op2_24 ≤ 2147483647 := e33 ▸ hW27.1 15
  have bnd2_25 : (0 : Int) ≤ nd2_25 ∧ nd2_25 ≤ 6999 := e34 ▸ hW27.1 31
  have ztk2_26 := tz_b tk2_26
  have btk2_26 : (0 : Int) ≤ tk2_26 ∧ tk2_26 ≤ 5 := e35 ▸ hW27.1 11
  refine .inr ⟨_, rfl, ?_⟩
  rcases q42 with ⟨a45, a46, a47, a48, a49, a50⟩ | ⟨a51, a52, a53⟩ | ⟨a54, a55, a56, a57⟩
  · have _q : True := trivial
    refine jr_st (pc' := 359) (i := 19) (m := 7000) (z := one) (y := r21) rfl (by decide) rfl (by decide) (by omega) (by omega) rfl ?_
    have hW59 : Wk G19 (uA A20 19 (one).toNat (r21)) := Wk_a hW27 (show (-2147483648 : Int) ≤ r21 by omega) (show r21 ≤ (2147483647 : Int) by omega)
    have hF60 := Fr_a (z := r21) (k := 19) (n := (one).toNat) hF43 (by decide)
    obtain ⟨A58, eA58⟩ : ∃ q, q = uA A20 19 (one).toNat (r21) := ⟨_, rfl⟩
    rw [← eA58]
    rw [← eA58] at hW59 hF60
    have q61 : A58 19 (one).toNat = r21 := by rw [eA58]; exact uA_eq
    have hP62 : Pf nd A A58 := eA58 ▸ Pf_a hP44 (z := one) (by omega) (by omega)
    have z63 := tz_f (tk2_26)
    exact c_readGuard_at_359p (X := X) (d := d) (Vs := Vs) (sb := sb) (c0 := c0) (c1 := c1) (G := G) (A := A) (T := T) (ln := ln) (le := le) (at0 := at0) (fk := fk) (op0 := op0) (nd := nd) (tk0 := tk0) (li := li) (hd := hd) (hW := hW) (e_ln := e_ln) (e_le := e_le) (e_at0 := e_at0) (e_fk := e_fk) (e_op0 := e_op0) (e_nd := e_nd) (e_tk0 := e_tk0) (e_li := e_li) (i_SV := i_SV) (p_0 := p_0) (p_1 := p_1) (p_2 := p_2) (p_3 := p_3) (p_4 := p_4) L G19 A58 (one) (at2_22) (tk2_26) (fk2_23) (nd2_25) (op2_24) gL_0 gL_1 hW59 hF60 hP62 ((e31)) ((e35)) ((e32)) ((e34)) ((e33)) (((hF28.1 9 rfl).trans (fx_9))) (by omega) (by omega) (by omega) (by omega) (by omega) (by omega) (by omega) (by omega) (by omega)
  · have _q : True := trivial
    exfalso
    omega
  · have _q : True := trivial
    exfalso
    omega
set_option maxRecDepth 20000 in
set_option maxHeartbeats 4000000 in
theorem c_readGuard_at_338p {X : jX} {d : Nat} {Vs : Nat → Prop} {sb : Int} {c0 c1 : jC} {G : Nat → Int} {A : Nat → Nat → Int} {T : jH} {ln le at0 fk op0 nd tk0 li : Int} (hd : 71 ≤ d + 1) (hW : Wk G A) (e_ln : G 9 = ln) (e_le : A 4 (ln).toNat = le) (e_at0 : G 10 = at0) (e_fk : G 16 = fk) (e_op0 : G 15 = op0) (e_nd : G 31 = nd) (e_tk0 : G 11 = tk0) (e_li : G 3 = li) (i_SV : SV Vs sb G A) (p_0 : 0 ≤ op0 ∧ op0 ≤ 8) (p_1 : fk = 0) (p_2 : nd ≤ 2 * at0 - tz tk0 + 42) (p_3 : at0 ≤ le) (p_4 : ln < li) : ∀ (L : jL) (Gx : Nat → Int) (Ax : Nat → Nat → Int) (one at1 tk1 fk1 nd1 op1 : Int), jGet L 0 = some (.ref 66) → jGet L 1 = some (.int (i32 one)) → Wk Gx Ax → Fr [9, 10, 11, 12, 13, 14, 15, 16, 17, 18, 31] [15, 16, 17, 18, 19, 20, 21, 22, 24, 28] G A Gx Ax → Pf nd A Ax → Gx 10 = at1 → Gx 11 = tk1 → Gx 16 = fk1 → Gx 31 = nd1 → Gx 15 = op1 → Gx 9 = ln → ((-2147483648 : Int) ≤ one ∧ one ≤ 2147483647) → (at0 ≤ at1) → (at1 ≤ le) → (nd ≤ nd1) → (op1 = op0) → (one = nd) → (one ≤ 6998 ∧ one < nd1) → (1 ≤ fk1) → (nd1 - nd ≤ (2 * at1 - tz tk1) - (2 * at0 - tz tk0) + 6) → wj X d jm303 (338, L, [], rV c0 c1 Gx Ax T) (fun o V' => ∃ (G' : Nat → Int) (A' : Nat → Nat → Int) (r : Int) (at2 : Int) (fk2 : Int) (nd2 : Int) (ln2 : Int), V' = rV c0 c1 G' A' T ∧ o = .inl (some (.int (i32 r))) ∧ Wk G' A' ∧ Fr [9, 10, 11, 12, 13, 14, 15, 16, 17, 18, 31] [15, 16, 17, 18, 19, 20, 21, 22, 24, 28] G A G' A' ∧ Pf nd A A' ∧ ((-2147483648 : Int) ≤ r ∧ r ≤ 2147483647) ∧ G' 10 = at2 ∧ G' 16 = fk2 ∧ G' 31 = nd2 ∧ G' 9 = ln2 ∧ (at0 ≤ at2) ∧ (at2 ≤ le) ∧ (nd ≤ nd2) ∧ (0 ≤ r) ∧ (r ≤ nd2) ∧ (((1 ≤ fk2) ∧ (ln2 = ln) ∧ (nd2 - nd ≤ 2 * at2 - 2 * at0 + 12)) ∨ ((fk2 = 0) ∧ (ln2 = ln + 1) ∧ (nd2 - nd ≤ 2 * at2 - (2 * at0 - tz tk0) + 0) ∧ (nd ≤ r) ∧ (r < nd2) ∧ (wU A' Vs sb (r) (nd) (nd2)) ∧ (NX A' (r))))) := by
  have hF0 : Fr [9, 10, 11, 12, 13, 14, 15, 16, 17, 18, 31] [15, 16, 17, 18, 19, 20, 21, 22, 24, 28] G A G A := Fr_rf
  have hP0 : Pf nd A A := Pf_rf
  have b_ln : (0 : Int) ≤ ln ∧ ln ≤ 3000 := e_ln ▸ hW.1 9
  have b_le : (0 : Int) ≤ le ∧ le ≤ 3000 := e_le ▸ hW.2 4 _
  have b_at0 : (0 : Int) ≤ at0 ∧ at0 ≤ 3002 := e_at0 ▸ hW.1 10
  have b_fk : (0 : Int) ≤ fk ∧ fk ≤ 6 := e_fk ▸ hW.1 16
  have b_op0 : (-2147483648 : Int) ≤ op0 ∧ op0 ≤ 2147483647 := e_op0 ▸ hW.1 15
  have b_nd : (0 : Int) ≤ nd ∧ nd ≤ 6999 := e_nd ▸ hW.1 31
  have z_tk0 := tz_f tk0
  have b_tk0 : (0 : Int) ≤ tk0 ∧ tk0 ≤ 5 := e_tk0 ▸ hW.1 11
  have b_li : (0 : Int) ≤ li ∧ li ≤ 3000 := e_li ▸ hW.1 3
  intro L Gx Ax one at1 tk1 fk1 nd1 op1 gL_0 gL_1 hWx hFx hPx ex_at1 ex_tk1 ex_fk1 ex_nd1 ex_op1 fx_9 rx_one iv_0 iv_1 iv_2 iv_3 iv_4 iv_5 iv_6 iv_7
  have b_at1 : (0 : Int) ≤ at1 ∧ at1 ≤ 3002 := ex_at1 ▸ hWx.1 10
  have z_tk1 := tz_f tk1
  have b_tk1 : (0 : Int) ≤ tk1 ∧ tk1 ≤ 5 := ex_tk1 ▸ hWx.1 11
  have b_fk1 : (0 : Int) ≤ fk1 ∧ fk1 ≤ 6 := ex_fk1 ▸ hWx.1 16
  have b_nd1 : (0 : Int) ≤ nd1 ∧ nd1 ≤ 6999 := ex_nd1 ▸ hWx.1 31
  have b_op1 : (-2147483648 : Int) ≤ op1 ∧ op1 ≤ 2147483647 := ex_op1 ▸ hWx.1 15
  refine jx_ld (pc' := 339) (l' := L) (st' := [.ref 66]) rfl (jl_aloadn gL_0) ?_
  refine jx_ld (pc' := 340) (l' := L) (st' := [.ref 66, .ref 66]) rfl (jl_aloadn gL_0) ?_
  refine jx_ar (pc' := 342) (st' := [.int (i32 (63)), .ref 66, .ref 66]) rfl rfl rfl rfl ?_
  have b64 : (-2147483648 : Int) ≤ Gx 13 ∧ Gx 13 ≤ 2147483647 := hWx.1 13
  refine jx_vr (pc' := 345) (as := [.int (i32 (63))]) (st := [.ref 66]) rfl rfl rfl rfl ⟨rfl, rfl, Nat.le_of_ble_eq_true rfl⟩ rfl rfl (c_is (dd := d) (hd := by omega) (hW := hWx) (k := 63) (tk := tk1) (e_tk := show Gx 11 = tk1 from (ex_tk1)) (tn := Gx 13) (e_tn := show Gx 13 = Gx 13 from rfl)  (h_k := ⟨(by decide), (by decide)⟩)  ) (fun o V' hq => ?_)
  obtain ⟨r65, rfl, rfl, b66, q67⟩ := hq
  refine .inr ⟨_, rfl, ?_⟩
  rcases q67 with ⟨rfl, a68, a69, a70⟩ | rfl
  · have _q : True := trivial
    refine jx_vr (pc' := 348) (as := [.int (i32 (1))]) (st := []) rfl rfl rfl rfl ⟨rfl, rfl, Nat.le_of_ble_eq_true rfl⟩ rfl rfl (c_need (dd := d) (hd := by omega) (hW := hWx) (g := 1) (ln := ln) (e_ln := show Gx 9 = ln from (fx_9)) (le := le) (e_le := show Ax 4 (ln).toNat = le from (congrFun (hFx.2 4 rfl) _).trans (e_le)) (at0 := at1) (e_at0 := show Gx 10 = at1 from (ex_at1)) (fk := fk1) (e_fk := show Gx 16 = fk1 from (ex_fk1)) (tk0 := tk1) (e_tk0 := show Gx 11 = tk1 from (ex_tk1))  (h_g := ⟨(by decide), (by decide)⟩)  (p_0 := by omega)) (fun o V' hq => ?_)
    obtain ⟨G71, A72, at2_73, tk2_74, fk2_75, rfl, rfl, hW76, hF77, e78, e79, e80, p81, p82, q83⟩ := hq
    have hF84 := Fr_tr hFx hF77 (Fr_sub (by decide)) (Fr_sub (by decide))
    have hP85 := Pf_f hPx hF77 (by decide)
    have bat2_73 : (0 : Int) ≤ at2_73 ∧ at2_73 ≤ 3002 := e78 ▸ hW76.1 10
    have ztk2_74 := tz_b tk2_74
    have btk2_74 : (0 : Int) ≤ tk2_74 ∧ tk2_74 ≤ 5 := e79 ▸ hW76.1 11
    have bfk2_75 : (0 : Int) ≤ fk2_75 ∧ fk2_75 ≤ 6 := e80 ▸ hW76.1 16
    refine .inl ⟨rfl, ?_⟩
    rcases q83 with ⟨a86, a87, a88, a89⟩ | ⟨a90, a91, a92, a93⟩
    · have _q : True := trivial
      have z94 := tz_f (tk2_74)
      exact c_readGuard_at_348p (X := X) (d := d) (Vs := Vs) (sb := sb) (c0 := c0) (c1 := c1) (G := G) (A := A) (T := T) (ln := ln) (le := le) (at0 := at0) (fk := fk) (op0 := op0) (nd := nd) (tk0 := tk0) (li := li) (hd := hd) (hW := hW) (e_ln := e_ln) (e_le := e_le) (e_at0 := e_at0) (e_fk := e_fk) (e_op0 := e_op0) (e_nd := e_nd) (e_tk0 := e_tk0) (e_li := e_li) (i_SV := i_SV) (p_0 := p_0) (p_1 := p_1) (p_2 := p_2) (p_3 := p_3) (p_4 := p_4) L G71 A72 (one) (at2_73) (tk2_74) (fk2_75) (nd1) (op1) gL_0 gL_1 hW76 hF84 hP85 ((e78)) ((e79)) ((e80)) (((hF77.1 31 rfl).trans (ex_nd1))) (((hF77.1 15 rfl).trans (ex_op1))) (((hF77.1 9 rfl).trans (fx_9))) (by omega) (by omega) (by omega) (by omega) (by omega) (by omega) (by omega) (by omega) (by omega)
    · have _q : True := trivial
      exfalso
      omega
  · have _q : True := trivial
    refine jx_vr (pc' := 348) (as := [.int (i32 (0))]) (st := []) rfl rfl rfl rfl ⟨rfl, rfl, Nat.le_of_ble_eq_true rfl⟩ rfl rfl (c_need (dd := d) (hd := by omega) (hW := hWx) (g := 0) (ln := ln) (e_ln := show Gx 9 = ln from (fx_9)) (le := le) (e_le := show Ax 4 (ln).toNat = le from (congrFun (hFx.2 4 rfl) _).trans (e_le)) (at0 := at1) (e_at0 := show Gx 10 = at1 from (ex_at1)) (fk := fk1) (e_fk := show Gx 16 = fk1 from (ex_fk1)) (tk0 := tk1) (e_tk0 := show Gx 11 = tk1 from (ex_tk1))  (h_g := ⟨(by decide), (by decide)⟩)  (p_0 := by omega)) (fun o V' hq => ?_)
    obtain ⟨G95, A96, at2_97, tk2_98, fk2_99, rfl, rfl, hW100, hF101, e102, e103, e104, p105, p106, q107⟩ := hq
    have hF108 := Fr_tr hFx hF101 (Fr_sub (by decide)) (Fr_sub (by decide))
    have hP109 := Pf_f hPx hF101 (by decide)
    have bat2_97 : (0 : Int) ≤ at2_97 ∧ at2_97 ≤ 3002 := e102 ▸ hW100.1 10
    have ztk2_98 := tz_b tk2_98
    have btk2_98 : (0 : Int) ≤ tk2_98 ∧ tk2_98 ≤ 5 := e103 ▸ hW100.1 11
    have bfk2_99 : (0 : Int) ≤ fk2_99 ∧ fk2_99 ≤ 6 := e104 ▸ hW100.1 16
    refine .inl ⟨rfl, ?_⟩
    rcases q107 with ⟨a110, a111, a112, a113⟩ | ⟨a114, a115, a116, a117⟩
    · have _q : True := trivial
      have z118 := tz_f (tk2_98)
      exact c_readGuard_at_348p (X := X) (d := d) (Vs := Vs) (sb := sb) (c0 := c0) (c1 := c1) (G := G) (A := A) (T := T) (ln := ln) (le := le) (at0 := at0) (fk := fk) (op0 := op0) (nd := nd) (tk0 := tk0) (li := li) (hd := hd) (hW := hW) (e_ln := e_ln) (e_le := e_le) (e_at0 := e_at0) (e_fk := e_fk) (e_op0 := e_op0) (e_nd := e_nd) (e_tk0 := e_tk0) (e_li := e_li) (i_SV := i_SV) (p_0 := p_0) (p_1 := p_1) (p_2 := p_2) (p_3 := p_3) (p_4 := p_4) L G95 A96 (one) (at2_97) (tk2_98) (fk2_99) (nd1) (op1) gL_0 gL_1 hW100 hF108 hP109 ((e102)) ((e103)) ((e104)) (((hF101.1 31 rfl).trans (ex_nd1))) (((hF101.1 15 rfl).trans (ex_op1))) (((hF101.1 9 rfl).trans (fx_9))) (by omega) (by omega) (by omega) (by omega) (by omega) (by omega) (by omega) (by omega) (by omega)
    · have _q : True := trivial
      exfalso
      omega
set_option maxRecDepth 20000 in
set_option maxHeartbeats 4000000 in
theorem c_readGuard_at_327p {X : jX} {d : Nat} {Vs : Nat → Prop} {sb : Int} {c0 c1 : jC} {G : Nat → Int} {A : Nat → Nat → Int} {T : jH} {ln le at0 fk op0 nd tk0 li : Int} (hd : 71 ≤ d + 1) (hW : Wk G A) (e_ln : G 9 = ln) (e_le : A 4 (ln).toNat = le) (e_at0 : G 10 = at0) (e_fk : G 16 = fk) (e_op0 : G 15 = op0) (e_nd : G 31 = nd) (e_tk0 : G 11 = tk0) (e_li : G 3 = li) (i_SV : SV Vs sb G A) (p_0 : 0 ≤ op0 ∧ op0 ≤ 8) (p_1 : fk = 0) (p_2 : nd ≤ 2 * at0 - tz tk0 + 42) (p_3 : at0 ≤ le) (p_4 : ln < li) : ∀ (L : jL) (Gx : Nat → Int) (Ax : Nat → Nat → Int) (one at1 tk1 fk1 nd1 op1 : Int), jGet L 0 = some (.ref 66) → jGet L 1 = some (.int (i32 one)) → Wk Gx Ax → Fr [9, 10, 11, 12, 13, 14, 15, 16, 17, 18, 31] [15, 16, 17, 18, 19, 20, 21, 22, 24, 28] G A Gx Ax → Pf nd A Ax → Gx 10 = at1 → Gx 11 = tk1 → Gx 16 = fk1 → Gx 31 = nd1 → Gx 15 = op1 → Gx 9 = ln → ((-2147483648 : Int) ≤ one ∧ one ≤ 2147483647) → (at0 ≤ at1) → (at1 ≤ le) → (nd ≤ nd1) → (op1 = op0) → (one = nd) → (one ≤ 6998 ∧ one < nd1) → (1 ≤ fk1) → (nd1 - nd ≤ (2 * at1 - tz tk1) - (2 * at0 - tz tk0) + 6) → wj X d jm303 (327, L, [], rV c0 c1 Gx Ax T) (fun o V' => ∃ (G' : Nat → Int) (A' : Nat → Nat → Int) (r : Int) (at2 : Int) (fk2 : Int) (nd2 : Int) (ln2 : Int), V' = rV c0 c1 G' A' T ∧ o = .inl (some (.int (i32 r))) ∧ Wk G' A' ∧ Fr [9, 10, 11, 12, 13, 14, 15, 16, 17, 18, 31] [15, 16, 17, 18, 19, 20, 21, 22, 24, 28] G A G' A' ∧ Pf nd A A' ∧ ((-2147483648 : Int) ≤ r ∧ r ≤ 2147483647) ∧ G' 10 = at2 ∧ G' 16 = fk2 ∧ G' 31 = nd2 ∧ G' 9 = ln2 ∧ (at0 ≤ at2) ∧ (at2 ≤ le) ∧ (nd ≤ nd2) ∧ (0 ≤ r) ∧ (r ≤ nd2) ∧ (((1 ≤ fk2) ∧ (ln2 = ln) ∧ (nd2 - nd ≤ 2 * at2 - 2 * at0 + 12)) ∨ ((fk2 = 0) ∧ (ln2 = ln + 1) ∧ (nd2 - nd ≤ 2 * at2 - (2 * at0 - tz tk0) + 0) ∧ (nd ≤ r) ∧ (r < nd2) ∧ (wU A' Vs sb (r) (nd) (nd2)) ∧ (NX A' (r))))) := by
  have hF0 : Fr [9, 10, 11, 12, 13, 14, 15, 16, 17, 18, 31] [15, 16, 17, 18, 19, 20, 21, 22, 24, 28] G A G A := Fr_rf
  have hP0 : Pf nd A A := Pf_rf
  have b_ln : (0 : Int) ≤ ln ∧ ln ≤ 3000 := e_ln ▸ hW.1 9
  have b_le : (0 : Int) ≤ le ∧ le ≤ 3000 := e_le ▸ hW.2 4 _
  have b_at0 : (0 : Int) ≤ at0 ∧ at0 ≤ 3002 := e_at0 ▸ hW.1 10
  have b_fk : (0 : Int) ≤ fk ∧ fk ≤ 6 := e_fk ▸ hW.1 16
  have b_op0 : (-2147483648 : Int) ≤ op0 ∧ op0 ≤ 2147483647 := e_op0 ▸ hW.1 15
  have b_nd : (0 : Int) ≤ nd ∧ nd ≤ 6999 := e_nd ▸ hW.1 31
  have z_tk0 := tz_f tk0
  have b_tk0 : (0 : Int) ≤ tk0 ∧ tk0 ≤ 5 := e_tk0 ▸ hW.1 11
  have b_li : (0 : Int) ≤ li ∧ li ≤ 3000 := e_li ▸ hW.1 3
  intro L Gx Ax one at1 tk1 fk1 nd1 op1 gL_0 gL_1 hWx hFx hPx ex_at1 ex_tk1 ex_fk1 ex_nd1 ex_op1 fx_9 rx_one iv_0 iv_1 iv_2 iv_3 iv_4 iv_5 iv_6 iv_7
  have b_at1 : (0 : Int) ≤ at1 ∧ at1 ≤ 3002 := ex_at1 ▸ hWx.1 10
  have z_tk1 := tz_f tk1
  have b_tk1 : (0 : Int) ≤ tk1 ∧ tk1 ≤ 5 := ex_tk1 ▸ hWx.1 11
  have b_fk1 : (0 : Int) ≤ fk1 ∧ fk1 ≤ 6 := ex_fk1 ▸ hWx.1 16
  have b_nd1 : (0 : Int) ≤ nd1 ∧ nd1 ≤ 6999 := ex_nd1 ▸ hWx.1 31
  have b_op1 : (-2147483648 : Int) ≤ op1 ∧ op1 ≤ 2147483647 := ex_op1 ▸ hWx.1 15
  refine jx_ld (pc' := 328) (l' := L) (st' := [.ref 66]) rfl (jl_aloadn gL_0) ?_
  refine jr_get (pc' := 331) (i := 35) (v := .ref 85) rfl rfl (by decide) rfl rfl ?_
  refine jx_ld (pc' := 332) (l' := L) (st' := [.int (i32 (one)), .ref 85]) rfl (jl_iloadn gL_1) ?_
  refine jx_ld (pc' := 333) (l' := L) (st' := [.ref 66, .int (i32 (one)), .ref 85]) rfl (jl_aloadn gL_0) ?_
  refine jx_ar (pc' := 334) (st' := [.int (i32 (1)), .ref 66, .int (i32 (one)), .ref 85]) rfl rfl rfl rfl ?_
  refine jx_vr (pc' := 337) (as := [.int (i32 (1))]) (st := [.int (i32 (one)), .ref 85]) rfl rfl rfl rfl ⟨rfl, rfl, Nat.le_of_ble_eq_true rfl⟩ rfl rfl (c_readReference (dd := d) (hd := by omega) (hW := hWx) (ch := 1) (ln := ln) (e_ln := show Gx 9 = ln from (fx_9)) (le := le) (e_le := show Ax 4 (ln).toNat = le from (congrFun (hFx.2 4 rfl) _).trans (e_le)) (at0 := at1) (e_at0 := show Gx 10 = at1 from (ex_at1)) (fk := fk1) (e_fk := show Gx 16 = fk1 from (ex_fk1)) (op0 := op1) (e_op0 := show Gx 15 = op1 from (ex_op1)) (nd := nd1) (e_nd := show Gx 31 = nd1 from (ex_nd1)) (tk0 := tk1) (e_tk0 := show Gx 11 = tk1 from (ex_tk1)) (i_SV := (SV_ext ((hFx.1 29 rfl)) ((hFx.2 14 rfl)) i_SV)) (h_ch := ⟨(by decide), (by decide)⟩)  (p_0 := by omega) (p_1 := by omega) (p_2 := by omega) (p_3 := by omega) (p_4 := by omega)) (fun o V' hq => ?_)
  obtain ⟨G119, A120, r121, at2_122, fk2_123, op2_124, nd2_125, tk2_126, rfl, rfl, hW127, hF128, hQ129, b130, e131, e132, e133, e134, e135, p136, p137, p138, p139, p140, p141, q142⟩ := hq
  have hF143 := Fr_tr hFx hF128 (Fr_sub (by decide)) (Fr_sub (by decide))
  have hP144 := Pf_tr hPx hQ129 (by omega)
  have bat2_122 : (0 : Int) ≤ at2_122 ∧ at2_122 ≤ 3002 := e131 ▸ hW127.1 10
  have bfk2_123 : (0 : Int) ≤ fk2_123 ∧ fk2_123 ≤ 6 := e132 ▸ hW127.1 16
  have bop2_124 : (-2147483648 : Int) ≤ op2_124 ∧ op2_124 ≤ 2147483647 := e133 ▸ hW127.1 15
  have bnd2_125 : (0 : Int) ≤ nd2_125 ∧ nd2_125 ≤ 6999 := e134 ▸ hW127.1 31
  have ztk2_126 := tz_b tk2_126
  have btk2_126 : (0 : Int) ≤ tk2_126 ∧ tk2_126 ≤ 5 := e135 ▸ hW127.1 11
  refine .inr ⟨_, rfl, ?_⟩
  rcases q142 with ⟨a145, a146, a147, a148, a149, a150⟩ | ⟨a151, a152, a153⟩ | ⟨a154, a155, a156, a157⟩
  · have _q : True := trivial
    refine jr_st (pc' := 338) (i := 18) (m := 7000) (z := one) (y := r121) rfl (by decide) rfl (by decide) (by omega) (by omega) rfl ?_
    have hW159 : Wk G119 (uA A120 18 (one).toNat (r121)) := Wk_a hW127 (show (-2147483648 : Int) ≤ r121 by omega) (show r121 ≤ (2147483647 : Int) by omega)
    have hF160 := Fr_a (z := r121) (k := 18) (n := (one).toNat) hF143 (by decide)
    obtain ⟨A158, eA158⟩ : ∃ q, q = uA A120 18 (one).toNat (r121) := ⟨_, rfl⟩
    rw [← eA158]
    rw [← eA158] at hW159 hF160
    have q161 : A158 18 (one).toNat = r121 := by rw [eA158]; exact uA_eq
    have hP162 : Pf nd A A158 := eA158 ▸ Pf_a hP144 (z := one) (by omega) (by omega)
    have z163 := tz_f (tk2_126)
    exact c_readGuard_at_338p (X := X) (d := d) (Vs := Vs) (sb := sb) (c0 := c0) (c1 := c1) (G := G) (A := A) (T := T) (ln := ln) (le := le) (at0 := at0) (fk := fk) (op0 := op0) (nd := nd) (tk0 := tk0) (li := li) (hd := hd) (hW := hW) (e_ln := e_ln) (e_le := e_le) (e_at0 := e_at0) (e_fk := e_fk) (e_op0 := e_op0) (e_nd := e_nd) (e_tk0 := e_tk0) (e_li := e_li) (i_SV := i_SV) (p_0 := p_0) (p_1 := p_1) (p_2 := p_2) (p_3 := p_3) (p_4 := p_4) L G119 A158 (one) (at2_122) (tk2_126) (fk2_123) (nd2_125) (op2_124) gL_0 gL_1 hW159 hF160 hP162 ((e131)) ((e135)) ((e132)) ((e134)) ((e133)) (((hF128.1 9 rfl).trans (fx_9))) (by omega) (by omega) (by omega) (by omega) (by omega) (by omega) (by omega) (by omega) (by omega)
  · have _q : True := trivial
    exfalso
    omega
  · have _q : True := trivial
    exfalso
    omega
set_option maxRecDepth 20000 in
set_option maxHeartbeats 4000000 in
theorem c_readGuard_at_310p {X : jX} {d : Nat} {Vs : Nat → Prop} {sb : Int} {c0 c1 : jC} {G : Nat → Int} {A : Nat → Nat → Int} {T : jH} {ln le at0 fk op0 nd tk0 li : Int} (hd : 71 ≤ d + 1) (hW : Wk G A) (e_ln : G 9 = ln) (e_le : A 4 (ln).toNat = le) (e_at0 : G 10 = at0) (e_fk : G 16 = fk) (e_op0 : G 15 = op0) (e_nd : G 31 = nd) (e_tk0 : G 11 = tk0) (e_li : G 3 = li) (i_SV : SV Vs sb G A) (p_0 : 0 ≤ op0 ∧ op0 ≤ 8) (p_1 : fk = 0) (p_2 : nd ≤ 2 * at0 - tz tk0 + 42) (p_3 : at0 ≤ le) (p_4 : ln < li) : ∀ (L : jL) (Gx : Nat → Int) (Ax : Nat → Nat → Int) (one at1 tk1 fk1 nd1 op1 : Int), jGet L 0 = some (.ref 66) → jGet L 1 = some (.int (i32 one)) → Wk Gx Ax → Fr [9, 10, 11, 12, 13, 14, 15, 16, 17, 18, 31] [15, 16, 17, 18, 19, 20, 21, 22, 24, 28] G A Gx Ax → Pf nd A Ax → Gx 10 = at1 → Gx 11 = tk1 → Gx 16 = fk1 → Gx 31 = nd1 → Gx 15 = op1 → Gx 9 = ln → ((-2147483648 : Int) ≤ one ∧ one ≤ 2147483647) → (at0 ≤ at1) → (at1 ≤ le) → (nd ≤ nd1) → (op1 = op0) → (one = nd) → (one ≤ 6998 ∧ one < nd1) → (1 ≤ fk1) → (nd1 - nd ≤ (2 * at1 - tz tk1) - (2 * at0 - tz tk0) + 6) → wj X d jm303 (310, L, [], rV c0 c1 Gx Ax T) (fun o V' => ∃ (G' : Nat → Int) (A' : Nat → Nat → Int) (r : Int) (at2 : Int) (fk2 : Int) (nd2 : Int) (ln2 : Int), V' = rV c0 c1 G' A' T ∧ o = .inl (some (.int (i32 r))) ∧ Wk G' A' ∧ Fr [9, 10, 11, 12, 13, 14, 15, 16, 17, 18, 31] [15, 16, 17, 18, 19, 20, 21, 22, 24, 28] G A G' A' ∧ Pf nd A A' ∧ ((-2147483648 : Int) ≤ r ∧ r ≤ 2147483647) ∧ G' 10 = at2 ∧ G' 16 = fk2 ∧ G' 31 = nd2 ∧ G' 9 = ln2 ∧ (at0 ≤ at2) ∧ (at2 ≤ le) ∧ (nd ≤ nd2) ∧ (0 ≤ r) ∧ (r ≤ nd2) ∧ (((1 ≤ fk2) ∧ (ln2 = ln) ∧ (nd2 - nd ≤ 2 * at2 - 2 * at0 + 12)) ∨ ((fk2 = 0) ∧ (ln2 = ln + 1) ∧ (nd2 - nd ≤ 2 * at2 - (2 * at0 - tz tk0) + 0) ∧ (nd ≤ r) ∧ (r < nd2) ∧ (wU A' Vs sb (r) (nd) (nd2)) ∧ (NX A' (r))))) := by
  have hF0 : Fr [9, 10, 11, 12, 13, 14, 15, 16, 17, 18, 31] [15, 16, 17, 18, 19, 20, 21, 22, 24, 28] G A G A := Fr_rf
  have hP0 : Pf nd A A := Pf_rf
  have b_ln : (0 : Int) ≤ ln ∧ ln ≤ 3000 := e_ln ▸ hW.1 9
  have b_le : (0 : Int) ≤ le ∧ le ≤ 3000 := e_le ▸ hW.2 4 _
  have b_at0 : (0 : Int) ≤ at0 ∧ at0 ≤ 3002 := e_at0 ▸ hW.1 10
  have b_fk : (0 : Int) ≤ fk ∧ fk ≤ 6 := e_fk ▸ hW.1 16
  have b_op0 : (-2147483648 : Int) ≤ op0 ∧ op0 ≤ 2147483647 := e_op0 ▸ hW.1 15
  have b_nd : (0 : Int) ≤ nd ∧ nd ≤ 6999 := e_nd ▸ hW.1 31
  have z_tk0 := tz_f tk0
  have b_tk0 : (0 : Int) ≤ tk0 ∧ tk0 ≤ 5 := e_tk0 ▸ hW.1 11
  have b_li : (0 : Int) ≤ li ∧ li ≤ 3000 := e_li ▸ hW.1 3
  intro L Gx Ax one at1 tk1 fk1 nd1 op1 gL_0 gL_1 hWx hFx hPx ex_at1 ex_tk1 ex_fk1 ex_nd1 ex_op1 fx_9 rx_one iv_0 iv_1 iv_2 iv_3 iv_4 iv_5 iv_6 iv_7
  have b_at1 : (0 : Int) ≤ at1 ∧ at1 ≤ 3002 := ex_at1 ▸ hWx.1 10
  have z_tk1 := tz_f tk1
  have b_tk1 : (0 : Int) ≤ tk1 ∧ tk1 ≤ 5 := ex_tk1 ▸ hWx.1 11
  have b_fk1 : (0 : Int) ≤ fk1 ∧ fk1 ≤ 6 := ex_fk1 ▸ hWx.1 16
  have b_nd1 : (0 : Int) ≤ nd1 ∧ nd1 ≤ 6999 := ex_nd1 ▸ hWx.1 31
  have b_op1 : (-2147483648 : Int) ≤ op1 ∧ op1 ≤ 2147483647 := ex_op1 ▸ hWx.1 15
  refine jx_ld (pc' := 311) (l' := L) (st' := [.ref 66]) rfl (jl_aloadn gL_0) ?_
  refine jx_ar (pc' := 313) (st' := [.int (i32 (7)), .ref 66]) rfl rfl rfl rfl ?_
  have b164 : (-2147483648 : Int) ≤ Gx 13 ∧ Gx 13 ≤ 2147483647 := hWx.1 13
  refine jx_vr (pc' := 316) (as := [.int (i32 (7))]) (st := []) rfl rfl rfl rfl ⟨rfl, rfl, Nat.le_of_ble_eq_true rfl⟩ rfl rfl (c_isKey (dd := d) (hd := by omega) (hW := hWx) (k := 7) (tk := tk1) (e_tk := show Gx 11 = tk1 from (ex_tk1)) (tn := Gx 13) (e_tn := show Gx 13 = Gx 13 from rfl)  (h_k := ⟨(by decide), (by decide)⟩)  ) (fun o V' hq => ?_)
  obtain ⟨r165, rfl, rfl, b166, q167⟩ := hq
  refine .inr ⟨_, rfl, ?_⟩
  rcases q167 with ⟨rfl, a168, a169, a170⟩ | rfl
  · have _q : True := trivial
    refine jx_if_eq (pc' := 319) (tg := 327) rfl rfl rfl (by decide) (by decide) (fun h171 => ?_) (fun h171 => ?_)
    · have _q := h171
      exact absurd h171 (by omega)
    · have _q := h171
      refine jx_ld (pc' := 320) (l' := L) (st' := [.ref 66]) rfl (jl_aloadn gL_0) ?_
      refine jx_ar (pc' := 321) (st' := [.int (i32 (1)), .ref 66]) rfl rfl rfl rfl ?_
      refine jx_vr (pc' := 324) (as := [.int (i32 (1))]) (st := []) rfl rfl rfl rfl ⟨rfl, rfl, Nat.le_of_ble_eq_true rfl⟩ rfl rfl (c_need (dd := d) (hd := by omega) (hW := hWx) (g := 1) (ln := ln) (e_ln := show Gx 9 = ln from (fx_9)) (le := le) (e_le := show Ax 4 (ln).toNat = le from (congrFun (hFx.2 4 rfl) _).trans (e_le)) (at0 := at1) (e_at0 := show Gx 10 = at1 from (ex_at1)) (fk := fk1) (e_fk := show Gx 16 = fk1 from (ex_fk1)) (tk0 := tk1) (e_tk0 := show Gx 11 = tk1 from (ex_tk1))  (h_g := ⟨(by decide), (by decide)⟩)  (p_0 := by omega)) (fun o V' hq => ?_)
      obtain ⟨G172, A173, at2_174, tk2_175, fk2_176, rfl, rfl, hW177, hF178, e179, e180, e181, p182, p183, q184⟩ := hq
      have hF185 := Fr_tr hFx hF178 (Fr_sub (by decide)) (Fr_sub (by decide))
      have hP186 := Pf_f hPx hF178 (by decide)
      have bat2_174 : (0 : Int) ≤ at2_174 ∧ at2_174 ≤ 3002 := e179 ▸ hW177.1 10
      have ztk2_175 := tz_b tk2_175
      have btk2_175 : (0 : Int) ≤ tk2_175 ∧ tk2_175 ≤ 5 := e180 ▸ hW177.1 11
      have bfk2_176 : (0 : Int) ≤ fk2_176 ∧ fk2_176 ≤ 6 := e181 ▸ hW177.1 16
      refine .inl ⟨rfl, ?_⟩
      rcases q184 with ⟨a187, a188, a189, a190⟩ | ⟨a191, a192, a193, a194⟩
      · have _q : True := trivial
        refine jx_go (tg := 359) rfl rfl ?_
        have z195 := tz_f (tk2_175)
        exact c_readGuard_at_359p (X := X) (d := d) (Vs := Vs) (sb := sb) (c0 := c0) (c1 := c1) (G := G) (A := A) (T := T) (ln := ln) (le := le) (at0 := at0) (fk := fk) (op0 := op0) (nd := nd) (tk0 := tk0) (li := li) (hd := hd) (hW := hW) (e_ln := e_ln) (e_le := e_le) (e_at0 := e_at0) (e_fk := e_fk) (e_op0 := e_op0) (e_nd := e_nd) (e_tk0 := e_tk0) (e_li := e_li) (i_SV := i_SV) (p_0 := p_0) (p_1 := p_1) (p_2 := p_2) (p_3 := p_3) (p_4 := p_4) L G172 A173 (one) (at2_174) (tk2_175) (fk2_176) (nd1) (op1) gL_0 gL_1 hW177 hF185 hP186 ((e179)) ((e180)) ((e181)) (((hF178.1 31 rfl).trans (ex_nd1))) (((hF178.1 15 rfl).trans (ex_op1))) (((hF178.1 9 rfl).trans (fx_9))) (by omega) (by omega) (by omega) (by omega) (by omega) (by omega) (by omega) (by omega) (by omega)
      · have _q : True := trivial
        exfalso
        omega
  · have _q : True := trivial
    refine jx_if_eq (pc' := 319) (tg := 327) rfl rfl rfl (by decide) (by decide) (fun h196 => ?_) (fun h196 => ?_)
    · have _q := h196
      have z197 := tz_f (tk1)
      exact c_readGuard_at_327p (X := X) (d := d) (Vs := Vs) (sb := sb) (c0 := c0) (c1 := c1) (G := G) (A := A) (T := T) (ln := ln) (le := le) (at0 := at0) (fk := fk) (op0 := op0) (nd := nd) (tk0 := tk0) (li := li) (hd := hd) (hW := hW) (e_ln := e_ln) (e_le := e_le) (e_at0 := e_at0) (e_fk := e_fk) (e_op0 := e_op0) (e_nd := e_nd) (e_tk0 := e_tk0) (e_li := e_li) (i_SV := i_SV) (p_0 := p_0) (p_1 := p_1) (p_2 := p_2) (p_3 := p_3) (p_4 := p_4) L Gx Ax (one) (at1) (tk1) (fk1) (nd1) (op1) gL_0 gL_1 hWx hFx hPx ((ex_at1)) ((ex_tk1)) ((ex_fk1)) ((ex_nd1)) ((ex_op1)) ((fx_9)) (by omega) (by omega) (by omega) (by omega) (by omega) (by omega) (by omega) (by omega) (by omega)
    · have _q := h196
      exact absurd h196 (by omega)
set_option maxRecDepth 20000 in
set_option maxHeartbeats 4000000 in
theorem c_readGuard_at_293 {X : jX} {d : Nat} {Vs : Nat → Prop} {sb : Int} {c0 c1 : jC} {G : Nat → Int} {A : Nat → Nat → Int} {T : jH} {ln le at0 fk op0 nd tk0 li : Int} (hd : 71 ≤ d + 1) (hW : Wk G A) (e_ln : G 9 = ln) (e_le : A 4 (ln).toNat = le) (e_at0 : G 10 = at0) (e_fk : G 16 = fk) (e_op0 : G 15 = op0) (e_nd : G 31 = nd) (e_tk0 : G 11 = tk0) (e_li : G 3 = li) (i_SV : SV Vs sb G A) (p_0 : 0 ≤ op0 ∧ op0 ≤ 8) (p_1 : fk = 0) (p_2 : nd ≤ 2 * at0 - tz tk0 + 42) (p_3 : at0 ≤ le) (p_4 : ln < li) : ∀ (L : jL) (Gx : Nat → Int) (Ax : Nat → Nat → Int) (one e at1 tk1 fk1 nd1 op1 : Int), jGet L 0 = some (.ref 66) → jGet L 1 = some (.int (i32 one)) → jGet L 2 = some (.int (i32 e)) → Wk Gx Ax → Fr [9, 10, 11, 12, 13, 14, 15, 16, 17, 18, 31] [15, 16, 17, 18, 19, 20, 21, 22, 24, 28] G A Gx Ax → Pf nd A Ax → Gx 10 = at1 → Gx 11 = tk1 → Gx 16 = fk1 → Gx 31 = nd1 → Gx 15 = op1 → Gx 9 = ln → ((-2147483648 : Int) ≤ one ∧ one ≤ 2147483647) → ((-2147483648 : Int) ≤ e ∧ e ≤ 2147483647) → (at0 ≤ at1) → (at1 ≤ le) → (nd ≤ nd1) → (op1 = op0) → (one = nd) → (one ≤ 6998 ∧ one < nd1) → (fk1 = 0) → (nd1 - nd ≤ (2 * at1 - tz tk1) - (2 * at0 - tz tk0) + 1) → (0 ≤ e ∧ e ≤ nd1) → (ND Ax (one) (33) (0) (0) (0) (0) (0) (0)) → (wE Ax Vs sb (22) (e) (one + 1) (nd1)) → wj X d jm303 (293, L, [], rV c0 c1 Gx Ax T) (fun o V' => ∃ (G' : Nat → Int) (A' : Nat → Nat → Int) (r : Int) (at2 : Int) (fk2 : Int) (nd2 : Int) (ln2 : Int), V' = rV c0 c1 G' A' T ∧ o = .inl (some (.int (i32 r))) ∧ Wk G' A' ∧ Fr [9, 10, 11, 12, 13, 14, 15, 16, 17, 18, 31] [15, 16, 17, 18, 19, 20, 21, 22, 24, 28] G A G' A' ∧ Pf nd A A' ∧ ((-2147483648 : Int) ≤ r ∧ r ≤ 2147483647) ∧ G' 10 = at2 ∧ G' 16 = fk2 ∧ G' 31 = nd2 ∧ G' 9 = ln2 ∧ (at0 ≤ at2) ∧ (at2 ≤ le) ∧ (nd ≤ nd2) ∧ (0 ≤ r) ∧ (r ≤ nd2) ∧ (((1 ≤ fk2) ∧ (ln2 = ln) ∧ (nd2 - nd ≤ 2 * at2 - 2 * at0 + 12)) ∨ ((fk2 = 0) ∧ (ln2 = ln + 1) ∧ (nd2 - nd ≤ 2 * at2 - (2 * at0 - tz tk0) + 0) ∧ (nd ≤ r) ∧ (r < nd2) ∧ (wU A' Vs sb (r) (nd) (nd2)) ∧ (NX A' (r))))) := by
  have hF0 : Fr [9, 10, 11, 12, 13, 14, 15, 16, 17, 18, 31] [15, 16, 17, 18, 19, 20, 21, 22, 24, 28] G A G A := Fr_rf
  have hP0 : Pf nd A A := Pf_rf
  have b_ln : (0 : Int) ≤ ln ∧ ln ≤ 3000 := e_ln ▸ hW.1 9
  have b_le : (0 : Int) ≤ le ∧ le ≤ 3000 := e_le ▸ hW.2 4 _
  have b_at0 : (0 : Int) ≤ at0 ∧ at0 ≤ 3002 := e_at0 ▸ hW.1 10
  have b_fk : (0 : Int) ≤ fk ∧ fk ≤ 6 := e_fk ▸ hW.1 16
  have b_op0 : (-2147483648 : Int) ≤ op0 ∧ op0 ≤ 2147483647 := e_op0 ▸ hW.1 15
  have b_nd : (0 : Int) ≤ nd ∧ nd ≤ 6999 := e_nd ▸ hW.1 31
  have z_tk0 := tz_f tk0
  have b_tk0 : (0 : Int) ≤ tk0 ∧ tk0 ≤ 5 := e_tk0 ▸ hW.1 11
  have b_li : (0 : Int) ≤ li ∧ li ≤ 3000 := e_li ▸ hW.1 3
  intro L Gx Ax one e at1 tk1 fk1 nd1 op1 gL_0 gL_1 gL_2 hWx hFx hPx ex_at1 ex_tk1 ex_fk1 ex_nd1 ex_op1 fx_9 rx_one rx_e iv_0 iv_1 iv_2 iv_3 iv_4 iv_5 iv_6 iv_7 iv_8 iv_9 iv_10
  have b_at1 : (0 : Int) ≤ at1 ∧ at1 ≤ 3002 := ex_at1 ▸ hWx.1 10
  have z_tk1 := tz_f tk1
  have b_tk1 : (0 : Int) ≤ tk1 ∧ tk1 ≤ 5 := ex_tk1 ▸ hWx.1 11
  have b_fk1 : (0 : Int) ≤ fk1 ∧ fk1 ≤ 6 := ex_fk1 ▸ hWx.1 16
  have b_nd1 : (0 : Int) ≤ nd1 ∧ nd1 ≤ 6999 := ex_nd1 ▸ hWx.1 31
  have b_op1 : (-2147483648 : Int) ≤ op1 ∧ op1 ≤ 2147483647 := ex_op1 ▸ hWx.1 15
  refine jx_ld (pc' := 294) (l' := L) (st' := [.ref 66]) rfl (jl_aloadn gL_0) ?_
  refine jr_get (pc' := 297) (i := 34) (v := .ref 84) rfl rfl (by decide) rfl rfl ?_
  refine jx_ld (pc' := 298) (l' := L) (st' := [.int (i32 (one)), .ref 84]) rfl (jl_iloadn gL_1) ?_
  refine jx_ld (pc' := 299) (l' := L) (st' := [.int (i32 (e)), .int (i32 (one)), .ref 84]) rfl (jl_iloadn gL_2) ?_
  refine jr_st (pc' := 300) (i := 17) (m := 7000) (z := one) (y := e) rfl (by decide) rfl (by decide) (by omega) (by omega) rfl ?_
  have hW199 : Wk Gx (uA Ax 17 (one).toNat (e)) := Wk_a hWx (show (-2147483648 : Int) ≤ e by omega) (show e ≤ (2147483647 : Int) by omega)
  have hF200 := Fr_a (z := e) (k := 17) (n := (one).toNat) hFx (by decide)
  obtain ⟨A198, eA198⟩ : ∃ q, q = uA Ax 17 (one).toNat (e) := ⟨_, rfl⟩
  rw [← eA198]
  rw [← eA198] at hW199 hF200
  have q201 : A198 17 (one).toNat = e := by rw [eA198]; exact uA_eq
  have hP202 : Pf nd A A198 := eA198 ▸ Pf_a hPx (z := one) (by omega) (by omega)
  have sf203 : ND A198 (one) (33) (e) (0) (0) (0) (0) (0) := ND_a eA198 iv_9
  have sf204 : wE A198 Vs sb (22) (e) (one + 1) (nd1) := wE_ag (by omega) (Sg_ne eA198 rfl) (Ag_st eA198 (by omega) (by omega)) iv_10
  refine jx_ld (pc' := 301) (l' := L) (st' := [.ref 66]) rfl (jl_aloadn gL_0) ?_
  refine jx_ld (pc' := 302) (l' := L) (st' := [.ref 66, .ref 66]) rfl (jl_aloadn gL_0) ?_
  refine jx_ar (pc' := 304) (st' := [.int (i32 (38)), .ref 66, .ref 66]) rfl rfl rfl rfl ?_
  have b205 : (-2147483648 : Int) ≤ Gx 13 ∧ Gx 13 ≤ 2147483647 := hWx.1 13
  refine jx_vr (pc' := 307) (as := [.int (i32 (38))]) (st := [.ref 66]) rfl rfl rfl rfl ⟨rfl, rfl, Nat.le_of_ble_eq_true rfl⟩ rfl rfl (c_is (dd := d) (hd := by omega) (hW := hW199) (k := 38) (tk := tk1) (e_tk := show Gx 11 = tk1 from (ex_tk1)) (tn := Gx 13) (e_tn := show Gx 13 = Gx 13 from rfl)  (h_k := ⟨(by decide), (by decide)⟩)  ) (fun o V' hq => ?_)
  obtain ⟨r206, rfl, rfl, b207, q208⟩ := hq
  refine .inr ⟨_, rfl, ?_⟩
  rcases q208 with ⟨rfl, a209, a210, a211⟩ | rfl
  · have _q : True := trivial
    refine jx_vr (pc' := 310) (as := [.int (i32 (1))]) (st := []) rfl rfl rfl rfl ⟨rfl, rfl, Nat.le_of_ble_eq_true rfl⟩ rfl rfl (c_need (dd := d) (hd := by omega) (hW := hW199) (g := 1) (ln := ln) (e_ln := show Gx 9 = ln from (fx_9)) (le := le) (e_le := show A198 4 (ln).toNat = le from (congrFun (((congrFun eA198 4).trans (uA_ne (by decide))).trans (hFx.2 4 rfl)) _).trans (e_le)) (at0 := at1) (e_at0 := show Gx 10 = at1 from (ex_at1)) (fk := fk1) (e_fk := show Gx 16 = fk1 from (ex_fk1)) (tk0 := tk1) (e_tk0 := show Gx 11 = tk1 from (ex_tk1))  (h_g := ⟨(by decide), (by decide)⟩)  (p_0 := by omega)) (fun o V' hq => ?_)
    obtain ⟨G212, A213, at2_214, tk2_215, fk2_216, rfl, rfl, hW217, hF218, e219, e220, e221, p222, p223, q224⟩ := hq
    have hF225 := Fr_tr hF200 hF218 (Fr_sub (by decide)) (Fr_sub (by decide))
    have hP226 := Pf_f hP202 hF218 (by decide)
    have sf227 : ND A213 (one) (33) (e) (0) (0) (0) (0) (0) := ND_ag (by omega) (Ag_fr hF218 (by decide)) sf203
    have sf228 : wE A213 Vs sb (22) (e) (one + 1) (nd1) := wE_ag (by omega) (Sg_fr hF218 (by decide)) (Ag_fr hF218 (by decide)) sf204
    have bat2_214 : (0 : Int) ≤ at2_214 ∧ at2_214 ≤ 3002 := e219 ▸ hW217.1 10
    have ztk2_215 := tz_b tk2_215
    have btk2_215 : (0 : Int) ≤ tk2_215 ∧ tk2_215 ≤ 5 := e220 ▸ hW217.1 11
    have bfk2_216 : (0 : Int) ≤ fk2_216 ∧ fk2_216 ≤ 6 := e221 ▸ hW217.1 16
    refine .inl ⟨rfl, ?_⟩
    rcases q224 with ⟨a229, a230, a231, a232⟩ | ⟨a233, a234, a235, a236⟩
    · have _q : True := trivial
      have z237 := tz_f (tk2_215)
      exact c_readGuard_at_310p (X := X) (d := d) (Vs := Vs) (sb := sb) (c0 := c0) (c1 := c1) (G := G) (A := A) (T := T) (ln := ln) (le := le) (at0 := at0) (fk := fk) (op0 := op0) (nd := nd) (tk0 := tk0) (li := li) (hd := hd) (hW := hW) (e_ln := e_ln) (e_le := e_le) (e_at0 := e_at0) (e_fk := e_fk) (e_op0 := e_op0) (e_nd := e_nd) (e_tk0 := e_tk0) (e_li := e_li) (i_SV := i_SV) (p_0 := p_0) (p_1 := p_1) (p_2 := p_2) (p_3 := p_3) (p_4 := p_4) L G212 A213 (one) (at2_214) (tk2_215) (fk2_216) (nd1) (op1) gL_0 gL_1 hW217 hF225 hP226 ((e219)) ((e220)) ((e221)) (((hF218.1 31 rfl).trans (ex_nd1))) (((hF218.1 15 rfl).trans (ex_op1))) (((hF218.1 9 rfl).trans (fx_9))) (by omega) (by omega) (by omega) (by omega) (by omega) (by omega) (by omega) (by omega) (by omega)
    · have _q : True := trivial
      refine jx_ld (pc' := 311) (l' := L) (st' := [.ref 66]) rfl (jl_aloadn gL_0) ?_
      refine jx_ar (pc' := 313) (st' := [.int (i32 (7)), .ref 66]) rfl rfl rfl rfl ?_
      have b238 : (-2147483648 : Int) ≤ G212 13 ∧ G212 13 ≤ 2147483647 := hW217.1 13
      refine jx_vr (pc' := 316) (as := [.int (i32 (7))]) (st := []) rfl rfl rfl rfl ⟨rfl, rfl, Nat.le_of_ble_eq_true rfl⟩ rfl rfl (c_isKey (dd := d) (hd := by omega) (hW := hW217) (k := 7) (tk := tk2_215) (e_tk := show G212 11 = tk2_215 from (e220)) (tn := G212 13) (e_tn := show G212 13 = G212 13 from rfl)  (h_k := ⟨(by decide), (by decide)⟩)  ) (fun o V' hq => ?_)
      obtain ⟨r239, rfl, rfl, b240, q241⟩ := hq
      refine .inr ⟨_, rfl, ?_⟩
      rcases q241 with ⟨rfl, a242, a243, a244⟩ | rfl
      · have _q : True := trivial
        refine jx_if_eq (pc' := 319) (tg := 327) rfl rfl rfl (by decide) (by decide) (fun h245 => ?_) (fun h245 => ?_)
        · have _q := h245
          exact absurd h245 (by omega)
        · have _q := h245
          refine jx_ld (pc' := 320) (l' := L) (st' := [.ref 66]) rfl (jl_aloadn gL_0) ?_
          refine jx_ar (pc' := 321) (st' := [.int (i32 (1)), .ref 66]) rfl rfl rfl rfl ?_
          refine jx_vr (pc' := 324) (as := [.int (i32 (1))]) (st := []) rfl rfl rfl rfl ⟨rfl, rfl, Nat.le_of_ble_eq_true rfl⟩ rfl rfl (c_need (dd := d) (hd := by omega) (hW := hW217) (g := 1) (ln := ln) (e_ln := show G212 9 = ln from ((hF218.1 9 rfl).trans (fx_9))) (le := le) (e_le := show A213 4 (ln).toNat = le from (congrFun ((hF218.2 4 rfl).trans (((congrFun eA198 4).trans (uA_ne (by decide))).trans (hFx.2 4 rfl))) _).trans (e_le)) (at0 := at2_214) (e_at0 := show G212 10 = at2_214 from (e219)) (fk := fk2_216) (e_fk := show G212 16 = fk2_216 from (e221)) (tk0 := tk2_215) (e_tk0 := show G212 11 = tk2_215 from (e220))  (h_g := ⟨(by decide), (by decide)⟩)  (p_0 := by omega)) (fun o V' hq => ?_)
          obtain ⟨G246, A247, at2_248, tk2_249, fk2_250, rfl, rfl, hW251, hF252, e253, e254, e255, p256, p257, q258⟩ := hq
          have hF259 := Fr_tr hF225 hF252 (Fr_sub (by decide)) (Fr_sub (by decide))
          have hP260 := Pf_f hP226 hF252 (by decide)
          have sf261 : ND A247 (one) (33) (e) (0) (0) (0) (0) (0) := ND_ag (by omega) (Ag_fr hF252 (by decide)) sf227
          have sf262 : wE A247 Vs sb (22) (e) (one + 1) (nd1) := wE_ag (by omega) (Sg_fr hF252 (by decide)) (Ag_fr hF252 (by decide)) sf228
          have bat2_248 : (0 : Int) ≤ at2_248 ∧ at2_248 ≤ 3002 := e253 ▸ hW251.1 10
          have ztk2_249 := tz_b tk2_249
          have btk2_249 : (0 : Int) ≤ tk2_249 ∧ tk2_249 ≤ 5 := e254 ▸ hW251.1 11
          have bfk2_250 : (0 : Int) ≤ fk2_250 ∧ fk2_250 ≤ 6 := e255 ▸ hW251.1 16
          refine .inl ⟨rfl, ?_⟩
          rcases q258 with ⟨a263, a264, a265, a266⟩ | ⟨a267, a268, a269, a270⟩
          · have _q : True := trivial
            refine jx_go (tg := 359) rfl rfl ?_
            have z271 := tz_f (tk2_249)
            exact c_readGuard_at_359p (X := X) (d := d) (Vs := Vs) (sb := sb) (c0 := c0) (c1 := c1) (G := G) (A := A) (T := T) (ln := ln) (le := le) (at0 := at0) (fk := fk) (op0 := op0) (nd := nd) (tk0 := tk0) (li := li) (hd := hd) (hW := hW) (e_ln := e_ln) (e_le := e_le) (e_at0 := e_at0) (e_fk := e_fk) (e_op0 := e_op0) (e_nd := e_nd) (e_tk0 := e_tk0) (e_li := e_li) (i_SV := i_SV) (p_0 := p_0) (p_1 := p_1) (p_2 := p_2) (p_3 := p_3) (p_4 := p_4) L G246 A247 (one) (at2_248) (tk2_249) (fk2_250) (nd1) (op1) gL_0 gL_1 hW251 hF259 hP260 ((e253)) ((e254)) ((e255)) (((hF252.1 31 rfl).trans ((hF218.1 31 rfl).trans (ex_nd1)))) (((hF252.1 15 rfl).trans ((hF218.1 15 rfl).trans (ex_op1)))) (((hF252.1 9 rfl).trans ((hF218.1 9 rfl).trans (fx_9)))) (by omega) (by omega) (by omega) (by omega) (by omega) (by omega) (by omega) (by omega) (by omega)
          · have _q : True := trivial
            refine jx_go (tg := 359) rfl rfl ?_
            refine jx_ld (pc' := 360) (l' := L) (st' := [.ref 66]) rfl (jl_aloadn gL_0) ?_
            refine jx_vr (pc' := 363) (as := []) (st := []) rfl rfl rfl rfl ⟨rfl, rfl, Nat.le_of_ble_eq_true rfl⟩ rfl rfl (c_endLine (dd := d) (hd := by omega) (hW := hW251)  (ln := ln) (e_ln := show G246 9 = ln from ((hF252.1 9 rfl).trans ((hF218.1 9 rfl).trans (fx_9)))) (li := li) (e_li := show G246 3 = li from ((hF252.1 3 rfl).trans ((hF218.1 3 rfl).trans ((hFx.1 3 rfl).trans (e_li))))) (fk := fk2_250) (e_fk := show G246 16 = fk2_250 from (e255)) (tk0 := tk2_249) (e_tk0 := show G246 11 = tk2_249 from (e254))    (p_0 := by omega)) (fun o V' hq => ?_)
            obtain ⟨G272, A273, ln2_274, fk2_275, rfl, rfl, hW276, hF277, e278, e279, q280⟩ := hq
            have hF281 := Fr_tr hF259 hF277 (Fr_sub (by decide)) (Fr_sub (by decide))
            have hP282 := Pf_f hP260 hF277 (by decide)
            have sf283 : ND A273 (one) (33) (e) (0) (0) (0) (0) (0) := ND_ag (by omega) (Ag_fr hF277 (by decide)) sf261
            have sf284 : wE A273 Vs sb (22) (e) (one + 1) (nd1) := wE_ag (by omega) (Sg_fr hF277 (by decide)) (Ag_fr hF277 (by decide)) sf262
            have bln2_274 : (0 : Int) ≤ ln2_274 ∧ ln2_274 ≤ 3000 := e278 ▸ hW276.1 9
            have bfk2_275 : (0 : Int) ≤ fk2_275 ∧ fk2_275 ≤ 6 := e279 ▸ hW276.1 16
            refine .inl ⟨rfl, ?_⟩
            rcases q280 with ⟨a285, a286, a287, a288, a289⟩ | ⟨a290, a291⟩
            · have _q : True := trivial
              refine jx_ld (pc' := 364) (l' := L) (st' := [.int (i32 (one))]) rfl (jl_iloadn gL_1) ?_
              refine jx_rt (v := some (.int (i32 (one)))) rfl rfl rfl rfl rfl rfl ?_
              exact ⟨_, _, _, at2_248, fk2_275, nd1, ln2_274, rfl, rfl, hW276, hF281, hP282, by omega, ((hF277.1 10 rfl).trans (e253)), (e279), ((hF277.1 31 rfl).trans ((hF252.1 31 rfl).trans ((hF218.1 31 rfl).trans (ex_nd1)))), (e278), by omega, by omega, by omega, by omega, by omega, by first | exact Or.inr ((⟨by omega, by omega, by omega, by omega, by omega, (wU_sk sf283 (by omega) (by omega) (wE_mono (by omega) (by omega) (by omega) sf284)), (NX_nd sf283)⟩))⟩
            · have _q : True := trivial
              refine jx_ld (pc' := 364) (l' := L) (st' := [.int (i32 (one))]) rfl (jl_iloadn gL_1) ?_
              refine jx_rt (v := some (.int (i32 (one)))) rfl rfl rfl rfl rfl rfl ?_
              exact ⟨_, _, _, at2_248, fk2_275, nd1, ln2_274, rfl, rfl, hW276, hF281, hP282, by omega, ((hF277.1 10 rfl).trans (e253)), (e279), ((hF277.1 31 rfl).trans ((hF252.1 31 rfl).trans ((hF218.1 31 rfl).trans (ex_nd1)))), (e278), by omega, by omega, by omega, by omega, by omega, by first | exact Or.inl (⟨by omega, by omega, by omega⟩)⟩
      · have _q : True := trivial
        refine jx_if_eq (pc' := 319) (tg := 327) rfl rfl rfl (by decide) (by decide) (fun h292 => ?_) (fun h292 => ?_)
        · have _q := h292
          refine jx_ld (pc' := 328) (l' := L) (st' := [.ref 66]) rfl (jl_aloadn gL_0) ?_
          refine jr_get (pc' := 331) (i := 35) (v := .ref 85) rfl rfl (by decide) rfl rfl ?_
          refine jx_ld (pc' := 332) (l' := L) (st' := [.int (i32 (one)), .ref 85]) rfl (jl_iloadn gL_1) ?_
          refine jx_ld (pc' := 333) (l' := L) (st' := [.ref 66, .int (i32 (one)), .ref 85]) rfl (jl_aloadn gL_0) ?_
          refine jx_ar (pc' := 334) (st' := [.int (i32 (1)), .ref 66, .int (i32 (one)), .ref 85]) rfl rfl rfl rfl ?_
          refine jx_vr (pc' := 337) (as := [.int (i32 (1))]) (st := [.int (i32 (one)), .ref 85]) rfl rfl rfl rfl ⟨rfl, rfl, Nat.le_of_ble_eq_true rfl⟩ rfl rfl (c_readReference (dd := d) (hd := by omega) (hW := hW217) (ch := 1) (ln := ln) (e_ln := show G212 9 = ln from ((hF218.1 9 rfl).trans (fx_9))) (le := le) (e_le := show A213 4 (ln).toNat = le from (congrFun ((hF218.2 4 rfl).trans (((congrFun eA198 4).trans (uA_ne (by decide))).trans (hFx.2 4 rfl))) _).trans (e_le)) (at0 := at2_214) (e_at0 := show G212 10 = at2_214 from (e219)) (fk := fk2_216) (e_fk := show G212 16 = fk2_216 from (e221)) (op0 := op1) (e_op0 := show G212 15 = op1 from ((hF218.1 15 rfl).trans (ex_op1))) (nd := nd1) (e_nd := show G212 31 = nd1 from ((hF218.1 31 rfl).trans (ex_nd1))) (tk0 := tk2_215) (e_tk0 := show G212 11 = tk2_215 from (e220)) (i_SV := (SV_ext (((hF218.1 29 rfl).trans (hFx.1 29 rfl))) (((hF218.2 14 rfl).trans (((congrFun eA198 14).trans (uA_ne (by decide))).trans (hFx.2 14 rfl)))) i_SV)) (h_ch := ⟨(by decide), (by decide)⟩)  (p_0 := by omega) (p_1 := by omega) (p_2 := by omega) (p_3 := by omega) (p_4 := by omega)) (fun o V' hq => ?_)
          obtain ⟨G293, A294, r295, at2_296, fk2_297, op2_298, nd2_299, tk2_300, rfl, rfl, hW301, hF302, hQ303, b304, e305, e306, e307, e308, e309, p310, p311, p312, p313, p314, p315, q316⟩ := hq
          have hF317 := Fr_tr hF225 hF302 (Fr_sub (by decide)) (Fr_sub (by decide))
          have k318 : A294 17 (one).toNat = e := (hQ303 17 _ rfl (by omega)).trans (show A213 17 (one).toNat = e from (congrFun (hF218.2 17 rfl) _).trans (q201))
          have hP319 := Pf_tr hP226 hQ303 (by omega)
          have sf320 : ND A294 (one) (33) (e) (0) (0) (0) (0) (0) := ND_ag (by omega) (Ag_pf hQ303 (by omega)) sf227
          have sf321 : wE A294 Vs sb (22) (e) (one + 1) (nd1) := wE_ag (by omega) (Sg_fr hF302 (by decide)) (Ag_pf hQ303 (by omega)) sf228
          have bat2_296 : (0 : Int) ≤ at2_296 ∧ at2_296 ≤ 3002 := e305 ▸ hW301.1 10
          have bfk2_297 : (0 : Int) ≤ fk2_297 ∧ fk2_297 ≤ 6 := e306 ▸ hW301.1 16
          have bop2_298 : (-2147483648 : Int) ≤ op2_298 ∧ op2_298 ≤ 2147483647 := e307 ▸ hW301.1 15
          have bnd2_299 : (0 : Int) ≤ nd2_299 ∧ nd2_299 ≤ 6999 := e308 ▸ hW301.1 31
          have ztk2_300 := tz_b tk2_300
          have btk2_300 : (0 : Int) ≤ tk2_300 ∧ tk2_300 ≤ 5 := e309 ▸ hW301.1 11
          refine .inr ⟨_, rfl, ?_⟩
          rcases q316 with ⟨a322, a323, a324, a325, a326, a327⟩ | ⟨a328, a329, a330⟩ | ⟨a331, a332, a333, a334⟩
          · have _q : True := trivial
            exfalso
            omega
          · have _q : True := trivial
            refine jr_st (pc' := 338) (i := 18) (m := 7000) (z := one) (y := r295) rfl (by decide) rfl (by decide) (by omega) (by omega) rfl ?_
            have hW336 : Wk G293 (uA A294 18 (one).toNat (r295)) := Wk_a hW301 (show (-2147483648 : Int) ≤ r295 by omega) (show r295 ≤ (2147483647 : Int) by omega)
            have hF337 := Fr_a (z := r295) (k := 18) (n := (one).toNat) hF317 (by decide)
            obtain ⟨A335, eA335⟩ : ∃ q, q = uA A294 18 (one).toNat (r295) := ⟨_, rfl⟩
            rw [← eA335]
            rw [← eA335] at hW336 hF337
            have q338 : A335 18 (one).toNat = r295 := by rw [eA335]; exact uA_eq
            have hP339 : Pf nd A A335 := eA335 ▸ Pf_a hP319 (z := one) (by omega) (by omega)
            have sf340 : ND A335 (one) (33) (e) (r295) (0) (0) (0) (0) := ND_b eA335 sf320
            have sf341 : wE A335 Vs sb (22) (e) (one + 1) (nd1) := wE_ag (by omega) (Sg_ne eA335 rfl) (Ag_st eA335 (by omega) (by omega)) sf321
            have z342 := tz_f (tk2_300)
            exact c_readGuard_at_338p (X := X) (d := d) (Vs := Vs) (sb := sb) (c0 := c0) (c1 := c1) (G := G) (A := A) (T := T) (ln := ln) (le := le) (at0 := at0) (fk := fk) (op0 := op0) (nd := nd) (tk0 := tk0) (li := li) (hd := hd) (hW := hW) (e_ln := e_ln) (e_le := e_le) (e_at0 := e_at0) (e_fk := e_fk) (e_op0 := e_op0) (e_nd := e_nd) (e_tk0 := e_tk0) (e_li := e_li) (i_SV := i_SV) (p_0 := p_0) (p_1 := p_1) (p_2 := p_2) (p_3 := p_3) (p_4 := p_4) L G293 A335 (one) (at2_296) (tk2_300) (fk2_297) (nd2_299) (op2_298) gL_0 gL_1 hW336 hF337 hP339 ((e305)) ((e309)) ((e306)) ((e308)) ((e307)) (((hF302.1 9 rfl).trans ((hF218.1 9 rfl).trans (fx_9)))) (by omega) (by omega) (by omega) (by omega) (by omega) (by omega) (by omega) (by omega) (by omega)
          · have _q : True := trivial
            refine jr_st (pc' := 338) (i := 18) (m := 7000) (z := one) (y := r295) rfl (by decide) rfl (by decide) (by omega) (by omega) rfl ?_
            have hW344 : Wk G293 (uA A294 18 (one).toNat (r295)) := Wk_a hW301 (show (-2147483648 : Int) ≤ r295 by omega) (show r295 ≤ (2147483647 : Int) by omega)
            have hF345 := Fr_a (z := r295) (k := 18) (n := (one).toNat) hF317 (by decide)
            obtain ⟨A343, eA343⟩ : ∃ q, q = uA A294 18 (one).toNat (r295) := ⟨_, rfl⟩
            rw [← eA343]
            rw [← eA343] at hW344 hF345
            have q346 : A343 18 (one).toNat = r295 := by rw [eA343]; exact uA_eq
            have hP347 : Pf nd A A343 := eA343 ▸ Pf_a hP319 (z := one) (by omega) (by omega)
            have sf348 : ND A343 (one) (33) (e) (r295) (0) (0) (0) (0) := ND_b eA343 sf320
            have sf349 : wE A343 Vs sb (22) (e) (one + 1) (nd1) := wE_ag (by omega) (Sg_ne eA343 rfl) (Ag_st eA343 (by omega) (by omega)) sf321
            have sf350 : wR A343 Vs sb (20) (1) (r295) (nd1) (nd2_299) := wR_ag (by omega) (Sg_ne eA343 rfl) (Ag_st eA343 (by omega) (by omega)) a334
            refine jx_ld (pc' := 339) (l' := L) (st' := [.ref 66]) rfl (jl_aloadn gL_0) ?_
            refine jx_ld (pc' := 340) (l' := L) (st' := [.ref 66, .ref 66]) rfl (jl_aloadn gL_0) ?_
            refine jx_ar (pc' := 342) (st' := [.int (i32 (63)), .ref 66, .ref 66]) rfl rfl rfl rfl ?_
            have b351 : (-2147483648 : Int) ≤ G293 13 ∧ G293 13 ≤ 2147483647 := hW301.1 13
            refine jx_vr (pc' := 345) (as := [.int (i32 (63))]) (st := [.ref 66]) rfl rfl rfl rfl ⟨rfl, rfl, Nat.le_of_ble_eq_true rfl⟩ rfl rfl (c_is (dd := d) (hd := by omega) (hW := hW344) (k := 63) (tk := tk2_300) (e_tk := show G293 11 = tk2_300 from (e309)) (tn := G293 13) (e_tn := show G293 13 = G293 13 from rfl)  (h_k := ⟨(by decide), (by decide)⟩)  ) (fun o V' hq => ?_)
            obtain ⟨r352, rfl, rfl, b353, q354⟩ := hq
            refine .inr ⟨_, rfl, ?_⟩
            rcases q354 with ⟨rfl, a355, a356, a357⟩ | rfl
            · have _q : True := trivial
              refine jx_vr (pc' := 348) (as := [.int (i32 (1))]) (st := []) rfl rfl rfl rfl ⟨rfl, rfl, Nat.le_of_ble_eq_true rfl⟩ rfl rfl (c_need (dd := d) (hd := by omega) (hW := hW344) (g := 1) (ln := ln) (e_ln := show G293 9 = ln from ((hF302.1 9 rfl).trans ((hF218.1 9 rfl).trans (fx_9)))) (le := le) (e_le := show A343 4 (ln).toNat = le from (congrFun (((congrFun eA343 4).trans (uA_ne (by decide))).trans ((hF302.2 4 rfl).trans ((hF218.2 4 rfl).trans (((congrFun eA198 4).trans (uA_ne (by decide))).trans (hFx.2 4 rfl))))) _).trans (e_le)) (at0 := at2_296) (e_at0 := show G293 10 = at2_296 from (e305)) (fk := fk2_297) (e_fk := show G293 16 = fk2_297 from (e306)) (tk0 := tk2_300) (e_tk0 := show G293 11 = tk2_300 from (e309))  (h_g := ⟨(by decide), (by decide)⟩)  (p_0 := by omega)) (fun o V' hq => ?_)
              obtain ⟨G358, A359, at2_360, tk2_361, fk2_362, rfl, rfl, hW363, hF364, e365, e366, e367, p368, p369, q370⟩ := hq
              have hF371 := Fr_tr hF345 hF364 (Fr_sub (by decide)) (Fr_sub (by decide))
              have hP372 := Pf_f hP347 hF364 (by decide)
              have sf373 : ND A359 (one) (33) (e) (r295) (0) (0) (0) (0) := ND_ag (by omega) (Ag_fr hF364 (by decide)) sf348
              have sf374 : wE A359 Vs sb (22) (e) (one + 1) (nd1) := wE_ag (by omega) (Sg_fr hF364 (by decide)) (Ag_fr hF364 (by decide)) sf349
              have sf375 : wR A359 Vs sb (20) (1) (r295) (nd1) (nd2_299) := wR_ag (by omega) (Sg_fr hF364 (by decide)) (Ag_fr hF364 (by decide)) sf350
              have bat2_360 : (0 : Int) ≤ at2_360 ∧ at2_360 ≤ 3002 := e365 ▸ hW363.1 10
              have ztk2_361 := tz_b tk2_361
              have btk2_361 : (0 : Int) ≤ tk2_361 ∧ tk2_361 ≤ 5 := e366 ▸ hW363.1 11
              have bfk2_362 : (0 : Int) ≤ fk2_362 ∧ fk2_362 ≤ 6 := e367 ▸ hW363.1 16
              refine .inl ⟨rfl, ?_⟩
              rcases q370 with ⟨a376, a377, a378, a379⟩ | ⟨a380, a381, a382, a383⟩
              · have _q : True := trivial
                have z384 := tz_f (tk2_361)
                exact c_readGuard_at_348p (X := X) (d := d) (Vs := Vs) (sb := sb) (c0 := c0) (c1 := c1) (G := G) (A := A) (T := T) (ln := ln) (le := le) (at0 := at0) (fk := fk) (op0 := op0) (nd := nd) (tk0 := tk0) (li := li) (hd := hd) (hW := hW) (e_ln := e_ln) (e_le := e_le) (e_at0 := e_at0) (e_fk := e_fk) (e_op0 := e_op0) (e_nd := e_nd) (e_tk0 := e_tk0) (e_li := e_li) (i_SV := i_SV) (p_0 := p_0) (p_1 := p_1) (p_2 := p_2) (p_3 := p_3) (p_4 := p_4) L G358 A359 (one) (at2_360) (tk2_361) (fk2_362) (nd2_299) (op2_298) gL_0 gL_1 hW363 hF371 hP372 ((e365)) ((e366)) ((e367)) (((hF364.1 31 rfl).trans (e308))) (((hF364.1 15 rfl).trans (e307))) (((hF364.1 9 rfl).trans ((hF302.1 9 rfl).trans ((hF218.1 9 rfl).trans (fx_9))))) (by omega) (by omega) (by omega) (by omega) (by omega) (by omega) (by omega) (by omega) (by omega)
              · have _q : True := trivial
                refine jx_ld (pc' := 349) (l' := L) (st' := [.ref 66]) rfl (jl_aloadn gL_0) ?_
                refine jr_get (pc' := 352) (i := 36) (v := .ref 86) rfl rfl (by decide) rfl rfl ?_
                refine jx_ld (pc' := 353) (l' := L) (st' := [.int (i32 (one)), .ref 86]) rfl (jl_iloadn gL_1) ?_
                refine jx_ld (pc' := 354) (l' := L) (st' := [.ref 66, .int (i32 (one)), .ref 86]) rfl (jl_aloadn gL_0) ?_
                refine jx_ar (pc' := 355) (st' := [.int (i32 (0)), .ref 66, .int (i32 (one)), .ref 86]) rfl rfl rfl rfl ?_
                refine jx_vr (pc' := 358) (as := [.int (i32 (0))]) (st := [.int (i32 (one)), .ref 86]) rfl rfl rfl rfl ⟨rfl, rfl, Nat.le_of_ble_eq_true rfl⟩ rfl rfl (c_readReference (dd := d) (hd := by omega) (hW := hW363) (ch := 0) (ln := ln) (e_ln := show G358 9 = ln from ((hF364.1 9 rfl).trans ((hF302.1 9 rfl).trans ((hF218.1 9 rfl).trans (fx_9))))) (le := le) (e_le := show A359 4 (ln).toNat = le from (congrFun ((hF364.2 4 rfl).trans (((congrFun eA343 4).trans (uA_ne (by decide))).trans ((hF302.2 4 rfl).trans ((hF218.2 4 rfl).trans (((congrFun eA198 4).trans (uA_ne (by decide))).trans (hFx.2 4 rfl)))))) _).trans (e_le)) (at0 := at2_360) (e_at0 := show G358 10 = at2_360 from (e365)) (fk := fk2_362) (e_fk := show G358 16 = fk2_362 from (e367)) (op0 := op2_298) (e_op0 := show G358 15 = op2_298 from ((hF364.1 15 rfl).trans (e307))) (nd := nd2_299) (e_nd := show G358 31 = nd2_299 from ((hF364.1 31 rfl).trans (e308))) (tk0 := tk2_361) (e_tk0 := show G358 11 = tk2_361 from (e366)) (i_SV := (SV_ext (((hF364.1 29 rfl).trans ((hF302.1 29 rfl).trans ((hF218.1 29 rfl).trans (hFx.1 29 rfl))))) (((hF364.2 14 rfl).trans (((congrFun eA343 14).trans (uA_ne (by decide))).trans ((hF302.2 14 rfl).trans ((hF218.2 14 rfl).trans (((congrFun eA198 14).trans (uA_ne (by decide))).trans (hFx.2 14 rfl))))))) i_SV)) (h_ch := ⟨(by decide), (by decide)⟩)  (p_0 := by omega) (p_1 := by omega) (p_2 := by omega) (p_3 := by omega) (p_4 := by omega)) (fun o V' hq => ?_)
                obtain ⟨G385, A386, r387, at2_388, fk2_389, op2_390, nd2_391, tk2_392, rfl, rfl, hW393, hF394, hQ395, b396, e397, e398, e399, e400, e401, p402, p403, p404, p405, p406, p407, q408⟩ := hq
                have hF409 := Fr_tr hF371 hF394 (Fr_sub (by decide)) (Fr_sub (by decide))
                have k410 : A386 17 (one).toNat = e := (hQ395 17 _ rfl (by omega)).trans (show A359 17 (one).toNat = e from (congrFun ((hF364.2 17 rfl).trans ((congrFun eA343 17).trans (uA_ne (by decide)))) _).trans (k318))
                have k411 : A386 18 (one).toNat = r295 := (hQ395 18 _ rfl (by omega)).trans (show A359 18 (one).toNat = r295 from (congrFun (hF364.2 18 rfl) _).trans (q346))
                have hP412 := Pf_tr hP372 hQ395 (by omega)
                have sf413 : ND A386 (one) (33) (e) (r295) (0) (0) (0) (0) := ND_ag (by omega) (Ag_pf hQ395 (by omega)) sf373
                have sf414 : wE A386 Vs sb (22) (e) (one + 1) (nd1) := wE_ag (by omega) (Sg_fr hF394 (by decide)) (Ag_pf hQ395 (by omega)) sf374
                have sf415 : wR A386 Vs sb (20) (1) (r295) (nd1) (nd2_299) := wR_ag (by omega) (Sg_fr hF394 (by decide)) (Ag_pf hQ395 (by omega)) sf375
                have bat2_388 : (0 : Int) ≤ at2_388 ∧ at2_388 ≤ 3002 := e397 ▸ hW393.1 10
                have bfk2_389 : (0 : Int) ≤ fk2_389 ∧ fk2_389 ≤ 6 := e398 ▸ hW393.1 16
                have bop2_390 : (-2147483648 : Int) ≤ op2_390 ∧ op2_390 ≤ 2147483647 := e399 ▸ hW393.1 15
                have bnd2_391 : (0 : Int) ≤ nd2_391 ∧ nd2_391 ≤ 6999 := e400 ▸ hW393.1 31
                have ztk2_392 := tz_b tk2_392
                have btk2_392 : (0 : Int) ≤ tk2_392 ∧ tk2_392 ≤ 5 := e401 ▸ hW393.1 11
                refine .inr ⟨_, rfl, ?_⟩
                rcases q408 with ⟨a416, a417, a418, a419, a420, a421⟩ | ⟨a422, a423, a424⟩ | ⟨a425, a426, a427, a428⟩
                · have _q : True := trivial
                  exfalso
                  omega
                · have _q : True := trivial
                  refine jr_st (pc' := 359) (i := 19) (m := 7000) (z := one) (y := r387) rfl (by decide) rfl (by decide) (by omega) (by omega) rfl ?_
                  have hW430 : Wk G385 (uA A386 19 (one).toNat (r387)) := Wk_a hW393 (show (-2147483648 : Int) ≤ r387 by omega) (show r387 ≤ (2147483647 : Int) by omega)
                  have hF431 := Fr_a (z := r387) (k := 19) (n := (one).toNat) hF409 (by decide)
                  obtain ⟨A429, eA429⟩ : ∃ q, q = uA A386 19 (one).toNat (r387) := ⟨_, rfl⟩
                  rw [← eA429]
                  rw [← eA429] at hW430 hF431
                  have q432 : A429 19 (one).toNat = r387 := by rw [eA429]; exact uA_eq
                  have hP433 : Pf nd A A429 := eA429 ▸ Pf_a hP412 (z := one) (by omega) (by omega)
                  have sf434 : ND A429 (one) (33) (e) (r295) (r387) (0) (0) (0) := ND_c eA429 sf413
                  have sf435 : wE A429 Vs sb (22) (e) (one + 1) (nd1) := wE_ag (by omega) (Sg_ne eA429 rfl) (Ag_st eA429 (by omega) (by omega)) sf414
                  have sf436 : wR A429 Vs sb (20) (1) (r295) (nd1) (nd2_299) := wR_ag (by omega) (Sg_ne eA429 rfl) (Ag_st eA429 (by omega) (by omega)) sf415
                  have z437 := tz_f (tk2_392)
                  exact c_readGuard_at_359p (X := X) (d := d) (Vs := Vs) (sb := sb) (c0 := c0) (c1 := c1) (G := G) (A := A) (T := T) (ln := ln) (le := le) (at0 := at0) (fk := fk) (op0 := op0) (nd := nd) (tk0 := tk0) (li := li) (hd := hd) (hW := hW) (e_ln := e_ln) (e_le := e_le) (e_at0 := e_at0) (e_fk := e_fk) (e_op0 := e_op0) (e_nd := e_nd) (e_tk0 := e_tk0) (e_li := e_li) (i_SV := i_SV) (p_0 := p_0) (p_1 := p_1) (p_2 := p_2) (p_3 := p_3) (p_4 := p_4) L G385 A429 (one) (at2_388) (tk2_392) (fk2_389) (nd2_391) (op2_390) gL_0 gL_1 hW430 hF431 hP433 ((e397)) ((e401)) ((e398)) ((e400)) ((e399)) (((hF394.1 9 rfl).trans ((hF364.1 9 rfl).trans ((hF302.1 9 rfl).trans ((hF218.1 9 rfl).trans (fx_9)))))) (by omega) (by omega) (by omega) (by omega) (by omega) (by omega) (by omega) (by omega) (by omega)
                · have _q : True := trivial
                  refine jr_st (pc' := 359) (i := 19) (m := 7000) (z := one) (y := r387) rfl (by decide) rfl (by decide) (by omega) (by omega) rfl ?_
                  have hW439 : Wk G385 (uA A386 19 (one).toNat (r387)) := Wk_a hW393 (show (-2147483648 : Int) ≤ r387 by omega) (show r387 ≤ (2147483647 : Int) by omega)
                  have hF440 := Fr_a (z := r387) (k := 19) (n := (one).toNat) hF409 (by decide)
                  obtain ⟨A438, eA438⟩ : ∃ q, q = uA A386 19 (one).toNat (r387) := ⟨_, rfl⟩
                  rw [← eA438]
                  rw [← eA438] at hW439 hF440
                  have q441 : A438 19 (one).toNat = r387 := by rw [eA438]; exact uA_eq
                  have hP442 : Pf nd A A438 := eA438 ▸ Pf_a hP412 (z := one) (by omega) (by omega)
                  have sf443 : ND A438 (one) (33) (e) (r295) (r387) (0) (0) (0) := ND_c eA438 sf413
                  have sf444 : wE A438 Vs sb (22) (e) (one + 1) (nd1) := wE_ag (by omega) (Sg_ne eA438 rfl) (Ag_st eA438 (by omega) (by omega)) sf414
                  have sf445 : wR A438 Vs sb (20) (1) (r295) (nd1) (nd2_299) := wR_ag (by omega) (Sg_ne eA438 rfl) (Ag_st eA438 (by omega) (by omega)) sf415
                  have sf446 : wR A438 Vs sb (20) (0) (r387) (nd2_299) (nd2_391) := wR_ag (by omega) (Sg_ne eA438 rfl) (Ag_st eA438 (by omega) (by omega)) a428
                  refine jx_ld (pc' := 360) (l' := L) (st' := [.ref 66]) rfl (jl_aloadn gL_0) ?_
                  refine jx_vr (pc' := 363) (as := []) (st := []) rfl rfl rfl rfl ⟨rfl, rfl, Nat.le_of_ble_eq_true rfl⟩ rfl rfl (c_endLine (dd := d) (hd := by omega) (hW := hW439)  (ln := ln) (e_ln := show G385 9 = ln from ((hF394.1 9 rfl).trans ((hF364.1 9 rfl).trans ((hF302.1 9 rfl).trans ((hF218.1 9 rfl).trans (fx_9)))))) (li := li) (e_li := show G385 3 = li from ((hF394.1 3 rfl).trans ((hF364.1 3 rfl).trans ((hF302.1 3 rfl).trans ((hF218.1 3 rfl).trans ((hFx.1 3 rfl).trans (e_li))))))) (fk := fk2_389) (e_fk := show G385 16 = fk2_389 from (e398)) (tk0 := tk2_392) (e_tk0 := show G385 11 = tk2_392 from (e401))    (p_0 := by omega)) (fun o V' hq => ?_)
                  obtain ⟨G447, A448, ln2_449, fk2_450, rfl, rfl, hW451, hF452, e453, e454, q455⟩ := hq
                  have hF456 := Fr_tr hF440 hF452 (Fr_sub (by decide)) (Fr_sub (by decide))
                  have hP457 := Pf_f hP442 hF452 (by decide)
                  have sf458 : ND A448 (one) (33) (e) (r295) (r387) (0) (0) (0) := ND_ag (by omega) (Ag_fr hF452 (by decide)) sf443
                  have sf459 : wE A448 Vs sb (22) (e) (one + 1) (nd1) := wE_ag (by omega) (Sg_fr hF452 (by decide)) (Ag_fr hF452 (by decide)) sf444
                  have sf460 : wR A448 Vs sb (20) (1) (r295) (nd1) (nd2_299) := wR_ag (by omega) (Sg_fr hF452 (by decide)) (Ag_fr hF452 (by decide)) sf445
                  have sf461 : wR A448 Vs sb (20) (0) (r387) (nd2_299) (nd2_391) := wR_ag (by omega) (Sg_fr hF452 (by decide)) (Ag_fr hF452 (by decide)) sf446
                  have bln2_449 : (0 : Int) ≤ ln2_449 ∧ ln2_449 ≤ 3000 := e453 ▸ hW451.1 9
                  have bfk2_450 : (0 : Int) ≤ fk2_450 ∧ fk2_450 ≤ 6 := e454 ▸ hW451.1 16
                  refine .inl ⟨rfl, ?_⟩
                  rcases q455 with ⟨a462, a463, a464, a465, a466⟩ | ⟨a467, a468⟩
                  · have _q : True := trivial
                    refine jx_ld (pc' := 364) (l' := L) (st' := [.int (i32 (one))]) rfl (jl_iloadn gL_1) ?_
                    refine jx_rt (v := some (.int (i32 (one)))) rfl rfl rfl rfl rfl rfl ?_
                    exact ⟨_, _, _, at2_388, fk2_450, nd2_391, ln2_449, rfl, rfl, hW451, hF456, hP457, by omega, ((hF452.1 10 rfl).trans (e397)), (e454), ((hF452.1 31 rfl).trans (e400)), (e453), by omega, by omega, by omega, by omega, by omega, by first | exact Or.inr ((⟨by omega, by omega, by omega, by omega, by omega, (wU_bo (m := nd1) (k := nd2_299) sf458 (by omega) (by omega) (by omega) (by omega) (by omega) (wE_mono (by omega) (by omega) (by omega) sf459) (wR_mono (by omega) (by omega) (by omega) sf460) (wR_mono (by omega) (by omega) (by omega) sf461)), (NX_nd sf458)⟩))⟩
                  · have _q : True := trivial
                    refine jx_ld (pc' := 364) (l' := L) (st' := [.int (i32 (one))]) rfl (jl_iloadn gL_1) ?_
                    refine jx_rt (v := some (.int (i32 (one)))) rfl rfl rfl rfl rfl rfl ?_
                    exact ⟨_, _, _, at2_388, fk2_450, nd2_391, ln2_449, rfl, rfl, hW451, hF456, hP457, by omega, ((hF452.1 10 rfl).trans (e397)), (e454), ((hF452.1 31 rfl).trans (e400)), (e453), by omega, by omega, by omega, by omega, by omega, by first | exact Or.inl (⟨by omega, by omega, by omega⟩)⟩
            · have _q : True := trivial
              refine jx_vr (pc' := 348) (as := [.int (i32 (0))]) (st := []) rfl rfl rfl rfl ⟨rfl, rfl, Nat.le_of_ble_eq_true rfl⟩ rfl rfl (c_need (dd := d) (hd := by omega) (hW := hW344) (g := 0) (ln := ln) (e_ln := show G293 9 = ln from ((hF302.1 9 rfl).trans ((hF218.1 9 rfl).trans (fx_9)))) (le := le) (e_le := show A343 4 (ln).toNat = le from (congrFun (((congrFun eA343 4).trans (uA_ne (by decide))).trans ((hF302.2 4 rfl).trans ((hF218.2 4 rfl).trans (((congrFun eA198 4).trans (uA_ne (by decide))).trans (hFx.2 4 rfl))))) _).trans (e_le)) (at0 := at2_296) (e_at0 := show G293 10 = at2_296 from (e305)) (fk := fk2_297) (e_fk := show G293 16 = fk2_297 from (e306)) (tk0 := tk2_300) (e_tk0 := show G293 11 = tk2_300 from (e309))  (h_g := ⟨(by decide), (by decide)⟩)  (p_0 := by omega)) (fun o V' hq => ?_)
              obtain ⟨G469, A470, at2_471, tk2_472, fk2_473, rfl, rfl, hW474, hF475, e476, e477, e478, p479, p480, q481⟩ := hq
              have hF482 := Fr_tr hF345 hF475 (Fr_sub (by decide)) (Fr_sub (by decide))
              have hP483 := Pf_f hP347 hF475 (by decide)
              have sf484 : ND A470 (one) (33) (e) (r295) (0) (0) (0) (0) := ND_ag (by omega) (Ag_fr hF475 (by decide)) sf348
              have sf485 : wE A470 Vs sb (22) (e) (one + 1) (nd1) := wE_ag (by omega) (Sg_fr hF475 (by decide)) (Ag_fr hF475 (by decide)) sf349
              have sf486 : wR A470 Vs sb (20) (1) (r295) (nd1) (nd2_299) := wR_ag (by omega) (Sg_fr hF475 (by decide)) (Ag_fr hF475 (by decide)) sf350
              have bat2_471 : (0 : Int) ≤ at2_471 ∧ at2_471 ≤ 3002 := e476 ▸ hW474.1 10
              have ztk2_472 := tz_b tk2_472
              have btk2_472 : (0 : Int) ≤ tk2_472 ∧ tk2_472 ≤ 5 := e477 ▸ hW474.1 11
              have bfk2_473 : (0 : Int) ≤ fk2_473 ∧ fk2_473 ≤ 6 := e478 ▸ hW474.1 16
              refine .inl ⟨rfl, ?_⟩
              rcases q481 with ⟨a487, a488, a489, a490⟩ | ⟨a491, a492, a493, a494⟩
              · have _q : True := trivial
                have z495 := tz_f (tk2_472)
                exact c_readGuard_at_348p (X := X) (d := d) (Vs := Vs) (sb := sb) (c0 := c0) (c1 := c1) (G := G) (A := A) (T := T) (ln := ln) (le := le) (at0 := at0) (fk := fk) (op0 := op0) (nd := nd) (tk0 := tk0) (li := li) (hd := hd) (hW := hW) (e_ln := e_ln) (e_le := e_le) (e_at0 := e_at0) (e_fk := e_fk) (e_op0 := e_op0) (e_nd := e_nd) (e_tk0 := e_tk0) (e_li := e_li) (i_SV := i_SV) (p_0 := p_0) (p_1 := p_1) (p_2 := p_2) (p_3 := p_3) (p_4 := p_4) L G469 A470 (one) (at2_471) (tk2_472) (fk2_473) (nd2_299) (op2_298) gL_0 gL_1 hW474 hF482 hP483 ((e476)) ((e477)) ((e478)) (((hF475.1 31 rfl).trans (e308))) (((hF475.1 15 rfl).trans (e307))) (((hF475.1 9 rfl).trans ((hF302.1 9 rfl).trans ((hF218.1 9 rfl).trans (fx_9))))) (by omega) (by omega) (by omega) (by omega) (by omega) (by omega) (by omega) (by omega) (by omega)
              · have _q : True := trivial
                exfalso
                omega
        · have _q := h292
          exact absurd h292 (by omega)
  · have _q : True := trivial
    refine jx_vr (pc' := 310) (as := [.int (i32 (0))]) (st := []) rfl rfl rfl rfl ⟨rfl, rfl, Nat.le_of_ble_eq_true rfl⟩ rfl rfl (c_need (dd := d) (hd := by omega) (hW := hW199) (g := 0) (ln := ln) (e_ln := show Gx 9 = ln from (fx_9)) (le := le) (e_le := show A198 4 (ln).toNat = le from (congrFun (((congrFun eA198 4).trans (uA_ne (by decide))).trans (hFx.2 4 rfl)) _).trans (e_le)) (at0 := at1) (e_at0 := show Gx 10 = at1 from (ex_at1)) (fk := fk1) (e_fk := show Gx 16 = fk1 from (ex_fk1)) (tk0 := tk1) (e_tk0 := show Gx 11 = tk1 from (ex_tk1))  (h_g := ⟨(by decide), (by decide)⟩)  (p_0 := by omega)) (fun o V' hq => ?_)
    obtain ⟨G496, A497, at2_498, tk2_499, fk2_500, rfl, rfl, hW501, hF502, e503, e504, e505, p506, p507, q508⟩ := hq
    have hF509 := Fr_tr hF200 hF502 (Fr_sub (by decide)) (Fr_sub (by decide))
    have hP510 := Pf_f hP202 hF502 (by decide)
    have sf511 : ND A497 (one) (33) (e) (0) (0) (0) (0) (0) := ND_ag (by omega) (Ag_fr hF502 (by decide)) sf203
    have sf512 : wE A497 Vs sb (22) (e) (one + 1) (nd1) := wE_ag (by omega) (Sg_fr hF502 (by decide)) (Ag_fr hF502 (by decide)) sf204
    have bat2_498 : (0 : Int) ≤ at2_498 ∧ at2_498 ≤ 3002 := e503 ▸ hW501.1 10
    have ztk2_499 := tz_b tk2_499
    have btk2_499 : (0 : Int) ≤ tk2_499 ∧ tk2_499 ≤ 5 := e504 ▸ hW501.1 11
    have bfk2_500 : (0 : Int) ≤ fk2_500 ∧ fk2_500 ≤ 6 := e505 ▸ hW501.1 16
    refine .inl ⟨rfl, ?_⟩
    rcases q508 with ⟨a513, a514, a515, a516⟩ | ⟨a517, a518, a519, a520⟩
    · have _q : True := trivial
      have z521 := tz_f (tk2_499)
      exact c_readGuard_at_310p (X := X) (d := d) (Vs := Vs) (sb := sb) (c0 := c0) (c1 := c1) (G := G) (A := A) (T := T) (ln := ln) (le := le) (at0 := at0) (fk := fk) (op0 := op0) (nd := nd) (tk0 := tk0) (li := li) (hd := hd) (hW := hW) (e_ln := e_ln) (e_le := e_le) (e_at0 := e_at0) (e_fk := e_fk) (e_op0 := e_op0) (e_nd := e_nd) (e_tk0 := e_tk0) (e_li := e_li) (i_SV := i_SV) (p_0 := p_0) (p_1 := p_1) (p_2 := p_2) (p_3 := p_3) (p_4 := p_4) L G496 A497 (one) (at2_498) (tk2_499) (fk2_500) (nd1) (op1) gL_0 gL_1 hW501 hF509 hP510 ((e503)) ((e504)) ((e505)) (((hF502.1 31 rfl).trans (ex_nd1))) (((hF502.1 15 rfl).trans (ex_op1))) (((hF502.1 9 rfl).trans (fx_9))) (by omega) (by omega) (by omega) (by omega) (by omega) (by omega) (by omega) (by omega) (by omega)
    · have _q : True := trivial
      exfalso
      omega
set_option maxRecDepth 20000 in
set_option maxHeartbeats 4000000 in
theorem c_readGuard_at_293p {X : jX} {d : Nat} {Vs : Nat → Prop} {sb : Int} {c0 c1 : jC} {G : Nat → Int} {A : Nat → Nat → Int} {T : jH} {ln le at0 fk op0 nd tk0 li : Int} (hd : 71 ≤ d + 1) (hW : Wk G A) (e_ln : G 9 = ln) (e_le : A 4 (ln).toNat = le) (e_at0 : G 10 = at0) (e_fk : G 16 = fk) (e_op0 : G 15 = op0) (e_nd : G 31 = nd) (e_tk0 : G 11 = tk0) (e_li : G 3 = li) (i_SV : SV Vs sb G A) (p_0 : 0 ≤ op0 ∧ op0 ≤ 8) (p_1 : fk = 0) (p_2 : nd ≤ 2 * at0 - tz tk0 + 42) (p_3 : at0 ≤ le) (p_4 : ln < li) : ∀ (L : jL) (Gx : Nat → Int) (Ax : Nat → Nat → Int) (one e at1 tk1 fk1 nd1 op1 : Int), jGet L 0 = some (.ref 66) → jGet L 1 = some (.int (i32 one)) → jGet L 2 = some (.int (i32 e)) → Wk Gx Ax → Fr [9, 10, 11, 12, 13, 14, 15, 16, 17, 18, 31] [15, 16, 17, 18, 19, 20, 21, 22, 24, 28] G A Gx Ax → Pf nd A Ax → Gx 10 = at1 → Gx 11 = tk1 → Gx 16 = fk1 → Gx 31 = nd1 → Gx 15 = op1 → Gx 9 = ln → ((-2147483648 : Int) ≤ one ∧ one ≤ 2147483647) → ((-2147483648 : Int) ≤ e ∧ e ≤ 2147483647) → (at0 ≤ at1) → (at1 ≤ le) → (nd ≤ nd1) → (op1 = op0) → (one = nd) → (one ≤ 6998 ∧ one < nd1) → (1 ≤ fk1) → (nd1 - nd ≤ (2 * at1 - tz tk1) - (2 * at0 - tz tk0) + 5) → wj X d jm303 (293, L, [], rV c0 c1 Gx Ax T) (fun o V' => ∃ (G' : Nat → Int) (A' : Nat → Nat → Int) (r : Int) (at2 : Int) (fk2 : Int) (nd2 : Int) (ln2 : Int), V' = rV c0 c1 G' A' T ∧ o = .inl (some (.int (i32 r))) ∧ Wk G' A' ∧ Fr [9, 10, 11, 12, 13, 14, 15, 16, 17, 18, 31] [15, 16, 17, 18, 19, 20, 21, 22, 24, 28] G A G' A' ∧ Pf nd A A' ∧ ((-2147483648 : Int) ≤ r ∧ r ≤ 2147483647) ∧ G' 10 = at2 ∧ G' 16 = fk2 ∧ G' 31 = nd2 ∧ G' 9 = ln2 ∧ (at0 ≤ at2) ∧ (at2 ≤ le) ∧ (nd ≤ nd2) ∧ (0 ≤ r) ∧ (r ≤ nd2) ∧ (((1 ≤ fk2) ∧ (ln2 = ln) ∧ (nd2 - nd ≤ 2 * at2 - 2 * at0 + 12)) ∨ ((fk2 = 0) ∧ (ln2 = ln + 1) ∧ (nd2 - nd ≤ 2 * at2 - (2 * at0 - tz tk0) + 0) ∧ (nd ≤ r) ∧ (r < nd2) ∧ (wU A' Vs sb (r) (nd) (nd2)) ∧ (NX A' (r))))) := by
  have hF0 : Fr [9, 10, 11, 12, 13, 14, 15, 16, 17, 18, 31] [15, 16, 17, 18, 19, 20, 21, 22, 24, 28] G A G A := Fr_rf
  have hP0 : Pf nd A A := Pf_rf
  have b_ln : (0 : Int) ≤ ln ∧ ln ≤ 3000 := e_ln ▸ hW.1 9
  have b_le : (0 : Int) ≤ le ∧ le ≤ 3000 := e_le ▸ hW.2 4 _
  have b_at0 : (0 : Int) ≤ at0 ∧ at0 ≤ 3002 := e_at0 ▸ hW.1 10
  have b_fk : (0 : Int) ≤ fk ∧ fk ≤ 6 := e_fk ▸ hW.1 16
  have b_op0 : (-2147483648 : Int) ≤ op0 ∧ op0 ≤ 2147483647 := e_op0 ▸ hW.1 15
  have b_nd : (0 : Int) ≤ nd ∧ nd ≤ 6999 := e_nd ▸ hW.1 31
  have z_tk0 := tz_f tk0
  have b_tk0 : (0 : Int) ≤ tk0 ∧ tk0 ≤ 5 := e_tk0 ▸ hW.1 11
  have b_li : (0 : Int) ≤ li ∧ li ≤ 3000 := e_li ▸ hW.1 3
  intro L Gx Ax one e at1 tk1 fk1 nd1 op1 gL_0 gL_1 gL_2 hWx hFx hPx ex_at1 ex_tk1 ex_fk1 ex_nd1 ex_op1 fx_9 rx_one rx_e iv_0 iv_1 iv_2 iv_3 iv_4 iv_5 iv_6 iv_7
  have b_at1 : (0 : Int) ≤ at1 ∧ at1 ≤ 3002 := ex_at1 ▸ hWx.1 10
  have z_tk1 := tz_f tk1
  have b_tk1 : (0 : Int) ≤ tk1 ∧ tk1 ≤ 5 := ex_tk1 ▸ hWx.1 11
  have b_fk1 : (0 : Int) ≤ fk1 ∧ fk1 ≤ 6 := ex_fk1 ▸ hWx.1 16
  have b_nd1 : (0 : Int) ≤ nd1 ∧ nd1 ≤ 6999 := ex_nd1 ▸ hWx.1 31
  have b_op1 : (-2147483648 : Int) ≤ op1 ∧ op1 ≤ 2147483647 := ex_op1 ▸ hWx.1 15
  refine jx_ld (pc' := 294) (l' := L) (st' := [.ref 66]) rfl (jl_aloadn gL_0) ?_
  refine jr_get (pc' := 297) (i := 34) (v := .ref 84) rfl rfl (by decide) rfl rfl ?_
  refine jx_ld (pc' := 298) (l' := L) (st' := [.int (i32 (one)), .ref 84]) rfl (jl_iloadn gL_1) ?_
  refine jx_ld (pc' := 299) (l' := L) (st' := [.int (i32 (e)), .int (i32 (one)), .ref 84]) rfl (jl_iloadn gL_2) ?_
  refine jr_st (pc' := 300) (i := 17) (m := 7000) (z := one) (y := e) rfl (by decide) rfl (by decide) (by omega) (by omega) rfl ?_
  have hW523 : Wk Gx (uA Ax 17 (one).toNat (e)) := Wk_a hWx (show (-2147483648 : Int) ≤ e by omega) (show e ≤ (2147483647 : Int) by omega)
  have hF524 := Fr_a (z := e) (k := 17) (n := (one).toNat) hFx (by decide)
  obtain ⟨A522, eA522⟩ : ∃ q, q = uA Ax 17 (one).toNat (e) := ⟨_, rfl⟩
  rw [← eA522]
  rw [← eA522] at hW523 hF524
  have q525 : A522 17 (one).toNat = e := by rw [eA522]; exact uA_eq
  have hP526 : Pf nd A A522 := eA522 ▸ Pf_a hPx (z := one) (by omega) (by omega)
  refine jx_ld (pc' := 301) (l' := L) (st' := [.ref 66]) rfl (jl_aloadn gL_0) ?_
  refine jx_ld (pc' := 302) (l' := L) (st' := [.ref 66, .ref 66]) rfl (jl_aloadn gL_0) ?_
  refine jx_ar (pc' := 304) (st' := [.int (i32 (38)), .ref 66, .ref 66]) rfl rfl rfl rfl ?_
  have b527 : (-2147483648 : Int) ≤ Gx 13 ∧ Gx 13 ≤ 2147483647 := hWx.1 13
  refine jx_vr (pc' := 307) (as := [.int (i32 (38))]) (st := [.ref 66]) rfl rfl rfl rfl ⟨rfl, rfl, Nat.le_of_ble_eq_true rfl⟩ rfl rfl (c_is (dd := d) (hd := by omega) (hW := hW523) (k := 38) (tk := tk1) (e_tk := show Gx 11 = tk1 from (ex_tk1)) (tn := Gx 13) (e_tn := show Gx 13 = Gx 13 from rfl)  (h_k := ⟨(by decide), (by decide)⟩)  ) (fun o V' hq => ?_)
  obtain ⟨r528, rfl, rfl, b529, q530⟩ := hq
  refine .inr ⟨_, rfl, ?_⟩
  rcases q530 with ⟨rfl, a531, a532, a533⟩ | rfl
  · have _q : True := trivial
    refine jx_vr (pc' := 310) (as := [.int (i32 (1))]) (st := []) rfl rfl rfl rfl ⟨rfl, rfl, Nat.le_of_ble_eq_true rfl⟩ rfl rfl (c_need (dd := d) (hd := by omega) (hW := hW523) (g := 1) (ln := ln) (e_ln := show Gx 9 = ln from (fx_9)) (le := le) (e_le := show A522 4 (ln).toNat = le from (congrFun (((congrFun eA522 4).trans (uA_ne (by decide))).trans (hFx.2 4 rfl)) _).trans (e_le)) (at0 := at1) (e_at0 := show Gx 10 = at1 from (ex_at1)) (fk := fk1) (e_fk := show Gx 16 = fk1 from (ex_fk1)) (tk0 := tk1) (e_tk0 := show Gx 11 = tk1 from (ex_tk1))  (h_g := ⟨(by decide), (by decide)⟩)  (p_0 := by omega)) (fun o V' hq => ?_)
    obtain ⟨G534, A535, at2_536, tk2_537, fk2_538, rfl, rfl, hW539, hF540, e541, e542, e543, p544, p545, q546⟩ := hq
    have hF547 := Fr_tr hF524 hF540 (Fr_sub (by decide)) (Fr_sub (by decide))
    have hP548 := Pf_f hP526 hF540 (by decide)
    have bat2_536 : (0 : Int) ≤ at2_536 ∧ at2_536 ≤ 3002 := e541 ▸ hW539.1 10
    have ztk2_537 := tz_b tk2_537
    have btk2_537 : (0 : Int) ≤ tk2_537 ∧ tk2_537 ≤ 5 := e542 ▸ hW539.1 11
    have bfk2_538 : (0 : Int) ≤ fk2_538 ∧ fk2_538 ≤ 6 := e543 ▸ hW539.1 16
    refine .inl ⟨rfl, ?_⟩
    rcases q546 with ⟨a549, a550, a551, a552⟩ | ⟨a553, a554, a555, a556⟩
    · have _q : True := trivial
      have z557 := tz_f (tk2_537)
      exact c_readGuard_at_310p (X := X) (d := d) (Vs := Vs) (sb := sb) (c0 := c0) (c1 := c1) (G := G) (A := A) (T := T) (ln := ln) (le := le) (at0 := at0) (fk := fk) (op0 := op0) (nd := nd) (tk0 := tk0) (li := li) (hd := hd) (hW := hW) (e_ln := e_ln) (e_le := e_le) (e_at0 := e_at0) (e_fk := e_fk) (e_op0 := e_op0) (e_nd := e_nd) (e_tk0 := e_tk0) (e_li := e_li) (i_SV := i_SV) (p_0 := p_0) (p_1 := p_1) (p_2 := p_2) (p_3 := p_3) (p_4 := p_4) L G534 A535 (one) (at2_536) (tk2_537) (fk2_538) (nd1) (op1) gL_0 gL_1 hW539 hF547 hP548 ((e541)) ((e542)) ((e543)) (((hF540.1 31 rfl).trans (ex_nd1))) (((hF540.1 15 rfl).trans (ex_op1))) (((hF540.1 9 rfl).trans (fx_9))) (by omega) (by omega) (by omega) (by omega) (by omega) (by omega) (by omega) (by omega) (by omega)
    · have _q : True := trivial
      exfalso
      omega
  · have _q : True := trivial
    refine jx_vr (pc' := 310) (as := [.int (i32 (0))]) (st := []) rfl rfl rfl rfl ⟨rfl, rfl, Nat.le_of_ble_eq_true rfl⟩ rfl rfl (c_need (dd := d) (hd := by omega) (hW := hW523) (g := 0) (ln := ln) (e_ln := show Gx 9 = ln from (fx_9)) (le := le) (e_le := show A522 4 (ln).toNat = le from (congrFun (((congrFun eA522 4).trans (uA_ne (by decide))).trans (hFx.2 4 rfl)) _).trans (e_le)) (at0 := at1) (e_at0 := show Gx 10 = at1 from (ex_at1)) (fk := fk1) (e_fk := show Gx 16 = fk1 from (ex_fk1)) (tk0 := tk1) (e_tk0 := show Gx 11 = tk1 from (ex_tk1))  (h_g := ⟨(by decide), (by decide)⟩)  (p_0 := by omega)) (fun o V' hq => ?_)
    obtain ⟨G558, A559, at2_560, tk2_561, fk2_562, rfl, rfl, hW563, hF564, e565, e566, e567, p568, p569, q570⟩ := hq
    have hF571 := Fr_tr hF524 hF564 (Fr_sub (by decide)) (Fr_sub (by decide))
    have hP572 := Pf_f hP526 hF564 (by decide)
    have bat2_560 : (0 : Int) ≤ at2_560 ∧ at2_560 ≤ 3002 := e565 ▸ hW563.1 10
    have ztk2_561 := tz_b tk2_561
    have btk2_561 : (0 : Int) ≤ tk2_561 ∧ tk2_561 ≤ 5 := e566 ▸ hW563.1 11
    have bfk2_562 : (0 : Int) ≤ fk2_562 ∧ fk2_562 ≤ 6 := e567 ▸ hW563.1 16
    refine .inl ⟨rfl, ?_⟩
    rcases q570 with ⟨a573, a574, a575, a576⟩ | ⟨a577, a578, a579, a580⟩
    · have _q : True := trivial
      have z581 := tz_f (tk2_561)
      exact c_readGuard_at_310p (X := X) (d := d) (Vs := Vs) (sb := sb) (c0 := c0) (c1 := c1) (G := G) (A := A) (T := T) (ln := ln) (le := le) (at0 := at0) (fk := fk) (op0 := op0) (nd := nd) (tk0 := tk0) (li := li) (hd := hd) (hW := hW) (e_ln := e_ln) (e_le := e_le) (e_at0 := e_at0) (e_fk := e_fk) (e_op0 := e_op0) (e_nd := e_nd) (e_tk0 := e_tk0) (e_li := e_li) (i_SV := i_SV) (p_0 := p_0) (p_1 := p_1) (p_2 := p_2) (p_3 := p_3) (p_4 := p_4) L G558 A559 (one) (at2_560) (tk2_561) (fk2_562) (nd1) (op1) gL_0 gL_1 hW563 hF571 hP572 ((e565)) ((e566)) ((e567)) (((hF564.1 31 rfl).trans (ex_nd1))) (((hF564.1 15 rfl).trans (ex_op1))) (((hF564.1 9 rfl).trans (fx_9))) (by omega) (by omega) (by omega) (by omega) (by omega) (by omega) (by omega) (by omega) (by omega)
    · have _q : True := trivial
      exfalso
      omega
set_option maxRecDepth 20000 in
set_option maxHeartbeats 4000000 in
theorem c_readGuard_at_222_1_1 {X : jX} {d : Nat} {Vs : Nat → Prop} {sb : Int} {c0 c1 : jC} {G : Nat → Int} {A : Nat → Nat → Int} {T : jH} {ln le at0 fk op0 nd tk0 li : Int} (hd : 71 ≤ d + 1) (hW : Wk G A) (e_ln : G 9 = ln) (e_le : A 4 (ln).toNat = le) (e_at0 : G 10 = at0) (e_fk : G 16 = fk) (e_op0 : G 15 = op0) (e_nd : G 31 = nd) (e_tk0 : G 11 = tk0) (e_li : G 3 = li) (i_SV : SV Vs sb G A) (p_0 : 0 ≤ op0 ∧ op0 ≤ 8) (p_1 : fk = 0) (p_2 : nd ≤ 2 * at0 - tz tk0 + 42) (p_3 : at0 ≤ le) (p_4 : ln < li) : ∀ (L : jL) (Gx : Nat → Int) (Ax : Nat → Nat → Int) (one s ix at1 tk1 fk1 nd1 op1 ks : Int), jGet L 0 = some (.ref 66) → jGet L 6 = some (.int (i32 (1))) → jGet L 7 = some (.int (i32 (1))) → jGet L 1 = some (.int (i32 one)) → jGet L 4 = some (.int (i32 s)) → jGet L 5 = some (.int (i32 ix)) → Wk Gx Ax → Fr [9, 10, 11, 12, 13, 14, 15, 16, 17, 18, 31] [15, 16, 17, 18, 19, 20, 21, 22, 24, 28] G A Gx Ax → Pf nd A Ax → Gx 10 = at1 → Gx 11 = tk1 → Gx 16 = fk1 → Gx 31 = nd1 → Gx 15 = op1 → Ax 7 (s).toNat = ks → Gx 9 = ln → ((-2147483648 : Int) ≤ one ∧ one ≤ 2147483647) → ((-2147483648 : Int) ≤ s ∧ s ≤ 2147483647) → ((-2147483648 : Int) ≤ ix ∧ ix ≤ 2147483647) → (at0 ≤ at1) → (at1 ≤ le) → (nd ≤ nd1) → (op1 = op0) → (one = nd) → (one ≤ 6998 ∧ one < nd1) → (fk1 = 0) → (nd1 - nd ≤ (2 * at1 - tz tk1) - (2 * at0 - tz tk0)) → (0 ≤ s ∧ s ≤ 201) → (SY Vs sb (s)) → (ND Ax (one) (33) (0) (0) (0) (0) (0) (0)) → (tz tk1 = 1) → (ks = 4) → (wE Ax Vs sb (20) (ix) (one + 1) (nd1)) → wj X d jm303 (222, L, [], rV c0 c1 Gx Ax T) (fun o V' => ∃ (G' : Nat → Int) (A' : Nat → Nat → Int) (r : Int) (at2 : Int) (fk2 : Int) (nd2 : Int) (ln2 : Int), V' = rV c0 c1 G' A' T ∧ o = .inl (some (.int (i32 r))) ∧ Wk G' A' ∧ Fr [9, 10, 11, 12, 13, 14, 15, 16, 17, 18, 31] [15, 16, 17, 18, 19, 20, 21, 22, 24, 28] G A G' A' ∧ Pf nd A A' ∧ ((-2147483648 : Int) ≤ r ∧ r ≤ 2147483647) ∧ G' 10 = at2 ∧ G' 16 = fk2 ∧ G' 31 = nd2 ∧ G' 9 = ln2 ∧ (at0 ≤ at2) ∧ (at2 ≤ le) ∧ (nd ≤ nd2) ∧ (0 ≤ r) ∧ (r ≤ nd2) ∧ (((1 ≤ fk2) ∧ (ln2 = ln) ∧ (nd2 - nd ≤ 2 * at2 - 2 * at0 + 12)) ∨ ((fk2 = 0) ∧ (ln2 = ln + 1) ∧ (nd2 - nd ≤ 2 * at2 - (2 * at0 - tz tk0) + 0) ∧ (nd ≤ r) ∧ (r < nd2) ∧ (wU A' Vs sb (r) (nd) (nd2)) ∧ (NX A' (r))))) := by
  have hF0 : Fr [9, 10, 11, 12, 13, 14, 15, 16, 17, 18, 31] [15, 16, 17, 18, 19, 20, 21, 22, 24, 28] G A G A := Fr_rf
  have hP0 : Pf nd A A := Pf_rf
  have b_ln : (0 : Int) ≤ ln ∧ ln ≤ 3000 := e_ln ▸ hW.1 9
  have b_le : (0 : Int) ≤ le ∧ le ≤ 3000 := e_le ▸ hW.2 4 _
  have b_at0 : (0 : Int) ≤ at0 ∧ at0 ≤ 3002 := e_at0 ▸ hW.1 10
  have b_fk : (0 : Int) ≤ fk ∧ fk ≤ 6 := e_fk ▸ hW.1 16
  have b_op0 : (-2147483648 : Int) ≤ op0 ∧ op0 ≤ 2147483647 := e_op0 ▸ hW.1 15
  have b_nd : (0 : Int) ≤ nd ∧ nd ≤ 6999 := e_nd ▸ hW.1 31
  have z_tk0 := tz_f tk0
  have b_tk0 : (0 : Int) ≤ tk0 ∧ tk0 ≤ 5 := e_tk0 ▸ hW.1 11
  have b_li : (0 : Int) ≤ li ∧ li ≤ 3000 := e_li ▸ hW.1 3
  intro L Gx Ax one s ix at1 tk1 fk1 nd1 op1 ks gL_0 gL_6 gL_7 gL_1 gL_4 gL_5 hWx hFx hPx ex_at1 ex_tk1 ex_fk1 ex_nd1 ex_op1 ex_ks fx_9 rx_one rx_s rx_ix iv_0 iv_1 iv_2 iv_3 iv_4 iv_5 iv_6 iv_7 iv_8 iv_9 iv_10 iv_11 iv_12 iv_13
  have b_at1 : (0 : Int) ≤ at1 ∧ at1 ≤ 3002 := ex_at1 ▸ hWx.1 10
  have z_tk1 := tz_f tk1
  have b_tk1 : (0 : Int) ≤ tk1 ∧ tk1 ≤ 5 := ex_tk1 ▸ hWx.1 11
  have b_fk1 : (0 : Int) ≤ fk1 ∧ fk1 ≤ 6 := ex_fk1 ▸ hWx.1 16
  have b_nd1 : (0 : Int) ≤ nd1 ∧ nd1 ≤ 6999 := ex_nd1 ▸ hWx.1 31
  have b_op1 : (-2147483648 : Int) ≤ op1 ∧ op1 ≤ 2147483647 := ex_op1 ▸ hWx.1 15
  have b_ks : (0 : Int) ≤ ks ∧ ks ≤ 14 := ex_ks ▸ hWx.2 7 _
  refine jx_ld (pc' := 223) (l' := L) (st' := [.ref 66]) rfl (jl_aloadn gL_0) ?_
  refine jx_ld (pc' := 225) (l' := L) (st' := [.int (i32 (1)), .ref 66]) rfl (jl_iload gL_6) ?_
  refine jx_if_eq (pc' := 228) (tg := 232) rfl rfl rfl (by decide) (by decide) (fun h582 => ?_) (fun h582 => ?_)
  · have _q := h582
    exact absurd h582 (by omega)
  · have _q := h582
    refine jx_ar (pc' := 229) (st' := [.int (i32 (3)), .ref 66]) rfl rfl rfl rfl ?_
    refine jx_go (tg := 233) rfl rfl ?_
    refine jx_ld (pc' := 235) (l' := L) (st' := [.int (i32 (s)), .int (i32 (3)), .ref 66]) rfl (jl_iload gL_4) ?_
    refine jx_ld (pc' := 237) (l' := L) (st' := [.int (i32 (ix)), .int (i32 (s)), .int (i32 (3)), .ref 66]) rfl (jl_iload gL_5) ?_
    refine jx_ar (pc' := 238) (st' := [.int (i32 (0)), .int (i32 (ix)), .int (i32 (s)), .int (i32 (3)), .ref 66]) rfl rfl rfl rfl ?_
    refine jx_ar (pc' := 239) (st' := [.int (i32 (0)), .int (i32 (0)), .int (i32 (ix)), .int (i32 (s)), .int (i32 (3)), .ref 66]) rfl rfl rfl rfl ?_
    refine jx_vr (pc' := 242) (as := [.int (i32 (3)), .int (i32 (s)), .int (i32 (ix)), .int (i32 (0)), .int (i32 (0))]) (st := []) rfl rfl rfl rfl ⟨rfl, rfl, Nat.le_of_ble_eq_true rfl⟩ rfl rfl (c_node (dd := d) (hd := by omega) (hW := hWx) (kind := 3) (a := s) (b := ix) (c := 0) (e := 0) (nd := nd1) (e_nd := show Gx 31 = nd1 from (ex_nd1))  (h_kind := ⟨(by decide), (by decide)⟩) (h_a := ⟨(Int.le_trans (by decide : (-2147483648 : Int) ≤ -2147483648) rx_s.1), (Int.le_trans rx_s.2 (by decide : (2147483647 : Int) ≤ 2147483647))⟩) (h_b := ⟨(Int.le_trans (by decide : (-2147483648 : Int) ≤ -2147483648) rx_ix.1), (Int.le_trans rx_ix.2 (by decide : (2147483647 : Int) ≤ 2147483647))⟩) (h_c := ⟨(by decide), (by decide)⟩) (h_e := ⟨(by decide), (by decide)⟩)  (p_0 := by omega) (p_1 := by omega)) (fun o V' hq => ?_)
    obtain ⟨G583, A584, nd2_585, rfl, rfl, hW586, hF587, hQ588, e589, p590, p591, -⟩ := hq
    have hF593 := Fr_tr hFx hF587 (Fr_sub (by decide)) (Fr_sub (by decide))
    have hP594 := Pf_tr hPx hQ588 (by omega)
    have sf595 : ND A584 (one) (33) (0) (0) (0) (0) (0) (0) := ND_ag (by omega) (Ag_pf hQ588 (by omega)) iv_10
    have sf596 : wE A584 Vs sb (20) (ix) (one + 1) (nd1) := wE_ag (by omega) (Sg_fr hF587 (by decide)) (Ag_pf hQ588 (by omega)) iv_13
    have bnd2_585 : (0 : Int) ≤ nd2_585 ∧ nd2_585 ≤ 6999 := e589 ▸ hW586.1 31
    refine .inr ⟨_, rfl, ?_⟩
    refine jx_ld (pc' := 244) (l' := jSto1 L 10 (.int (i32 (nd1)))) (st' := []) rfl rfl ?_
    obtain ⟨L597, eL597⟩ : ∃ q, q = jSto1 L 10 (.int (i32 (nd1))) := ⟨_, rfl⟩
    rw [← eL597]
    have gL597_0 : jGet L597 0 = some (.ref 66) := eL597 ▸ jg_ne (by decide) gL_0 rfl
    have gL597_6 : jGet L597 6 = some (.int (i32 (1))) := eL597 ▸ jg_ne (by decide) gL_6 rfl
    have gL597_7 : jGet L597 7 = some (.int (i32 (1))) := eL597 ▸ jg_ne (by decide) gL_7 rfl
    have gL597_1 : jGet L597 1 = some (.int (i32 (one))) := eL597 ▸ jg_ne (by decide) gL_1 rfl
    have gL597_4 : jGet L597 4 = some (.int (i32 (s))) := eL597 ▸ jg_ne (by decide) gL_4 rfl
    have gL597_5 : jGet L597 5 = some (.int (i32 (ix))) := eL597 ▸ jg_ne (by decide) gL_5 rfl
    have gL597_10 : jGet L597 10 = some (.int (i32 (nd1))) := eL597 ▸ jg_eq
    refine jx_ld (pc' := 246) (l' := L597) (st' := [.int (i32 (1))]) rfl (jl_iload gL597_7) ?_
    refine jx_if_eq (pc' := 249) (tg := 278) rfl rfl rfl (by decide) (by decide) (fun h598 => ?_) (fun h598 => ?_)
    · have _q := h598
      exact absurd h598 (by omega)
    · have _q := h598
      refine jx_ld (pc' := 250) (l' := L597) (st' := [.ref 66]) rfl (jl_aloadn gL597_0) ?_
      refine jr_get (pc' := 253) (i := 35) (v := .ref 85) rfl rfl (by decide) rfl rfl ?_
      refine jx_ld (pc' := 254) (l' := L597) (st' := [.int (i32 (one)), .ref 85]) rfl (jl_iloadn gL597_1) ?_
      refine jx_ld (pc' := 256) (l' := L597) (st' := [.int (i32 (nd1)), .int (i32 (one)), .ref 85]) rfl (jl_iload gL597_10) ?_
      refine jr_st (pc' := 257) (i := 18) (m := 7000) (z := one) (y := nd1) rfl (by decide) rfl (by decide) (by omega) (by omega) rfl ?_
      have hW600 : Wk G583 (uA A584 18 (one).toNat (nd1)) := Wk_a hW586 (show (-2147483648 : Int) ≤ nd1 by omega) (show nd1 ≤ (2147483647 : Int) by omega)
      have hF601 := Fr_a (z := nd1) (k := 18) (n := (one).toNat) hF593 (by decide)
      obtain ⟨A599, eA599⟩ : ∃ q, q = uA A584 18 (one).toNat (nd1) := ⟨_, rfl⟩
      rw [← eA599]
      rw [← eA599] at hW600 hF601
      have q602 : A599 18 (one).toNat = nd1 := by rw [eA599]; exact uA_eq
      have hP603 : Pf nd A A599 := eA599 ▸ Pf_a hP594 (z := one) (by omega) (by omega)
      have sf604 : ND A599 (one) (33) (0) (nd1) (0) (0) (0) (0) := ND_b eA599 sf595
      have sf605 : wE A599 Vs sb (20) (ix) (one + 1) (nd1) := wE_ag (by omega) (Sg_ne eA599 rfl) (Ag_st eA599 (by omega) (by omega)) sf596
      have sf606 : ND A599 (nd1) (3) (s) (ix) (0) (0) (0) (0) := ND_ag (by omega) (Ag_st eA599 (by omega) (by omega)) p591
      refine jx_ld (pc' := 258) (l' := L597) (st' := [.ref 66]) rfl (jl_aloadn gL597_0) ?_
      refine jx_vr (pc' := 261) (as := []) (st := []) rfl rfl rfl rfl ⟨rfl, rfl, Nat.le_of_ble_eq_true rfl⟩ rfl rfl (c_next (dd := d) (hd := by omega) (hW := hW600)  (ln := ln) (e_ln := show G583 9 = ln from ((hF587.1 9 rfl).trans (fx_9))) (le := le) (e_le := show A599 4 (ln).toNat = le from (congrFun (((congrFun eA599 4).trans (uA_ne (by decide))).trans ((hF587.2 4 rfl).trans (hFx.2 4 rfl))) _).trans (e_le)) (at0 := at1) (e_at0 := show G583 10 = at1 from ((hF587.1 10 rfl).trans (ex_at1)))    (p_0 := by omega)) (fun o V' hq => ?_)
      obtain ⟨G607, A608, at2_609, tk2_610, rfl, rfl, hW611, hF612, e613, e614, p615, p616, p617, -⟩ := hq
      have hF619 := Fr_tr hF601 hF612 (Fr_sub (by decide)) (Fr_sub (by decide))
      have hP620 := Pf_f hP603 hF612 (by decide)
      have sf621 : ND A608 (one) (33) (0) (nd1) (0) (0) (0) (0) := ND_ag (by omega) (Ag_fr hF612 (by decide)) sf604
      have sf622 : wE A608 Vs sb (20) (ix) (one + 1) (nd1) := wE_ag (by omega) (Sg_fr hF612 (by decide)) (Ag_fr hF612 (by decide)) sf605
      have sf623 : ND A608 (nd1) (3) (s) (ix) (0) (0) (0) (0) := ND_ag (by omega) (Ag_fr hF612 (by decide)) sf606
      have bat2_609 : (0 : Int) ≤ at2_609 ∧ at2_609 ≤ 3002 := e613 ▸ hW611.1 10
      have ztk2_610 := tz_b tk2_610
      have btk2_610 : (0 : Int) ≤ tk2_610 ∧ tk2_610 ≤ 5 := e614 ▸ hW611.1 11
      refine .inl ⟨rfl, ?_⟩
      refine jx_ld (pc' := 262) (l' := L597) (st' := [.ref 66]) rfl (jl_aloadn gL597_0) ?_
      refine jr_get (pc' := 265) (i := 36) (v := .ref 86) rfl rfl (by decide) rfl rfl ?_
      refine jx_ld (pc' := 266) (l' := L597) (st' := [.int (i32 (one)), .ref 86]) rfl (jl_iloadn gL597_1) ?_
      refine jx_ld (pc' := 267) (l' := L597) (st' := [.ref 66, .int (i32 (one)), .ref 86]) rfl (jl_aloadn gL597_0) ?_
      refine jx_ar (pc' := 268) (st' := [.int (i32 (0)), .ref 66, .int (i32 (one)), .ref 86]) rfl rfl rfl rfl ?_
      refine jx_vr (pc' := 271) (as := [.int (i32 (0))]) (st := [.int (i32 (one)), .ref 86]) rfl rfl rfl rfl ⟨rfl, rfl, Nat.le_of_ble_eq_true rfl⟩ rfl rfl (c_readReference (dd := d) (hd := by omega) (hW := hW611) (ch := 0) (ln := ln) (e_ln := show G607 9 = ln from ((hF612.1 9 rfl).trans ((hF587.1 9 rfl).trans (fx_9)))) (le := le) (e_le := show A608 4 (ln).toNat = le from (congrFun ((hF612.2 4 rfl).trans (((congrFun eA599 4).trans (uA_ne (by decide))).trans ((hF587.2 4 rfl).trans (hFx.2 4 rfl)))) _).trans (e_le)) (at0 := at2_609) (e_at0 := show G607 10 = at2_609 from (e613)) (fk := fk1) (e_fk := show G607 16 = fk1 from ((hF612.1 16 rfl).trans ((hF587.1 16 rfl).trans (ex_fk1)))) (op0 := op1) (e_op0 := show G607 15 = op1 from ((hF612.1 15 rfl).trans ((hF587.1 15 rfl).trans (ex_op1)))) (nd := nd2_585) (e_nd := show G607 31 = nd2_585 from ((hF612.1 31 rfl).trans (e589))) (tk0 := tk2_610) (e_tk0 := show G607 11 = tk2_610 from (e614)) (i_SV := (SV_ext (((hF612.1 29 rfl).trans ((hF587.1 29 rfl).trans (hFx.1 29 rfl)))) (((hF612.2 14 rfl).trans (((congrFun eA599 14).trans (uA_ne (by decide))).trans ((hF587.2 14 rfl).trans (hFx.2 14 rfl))))) i_SV)) (h_ch := ⟨(by decide), (by decide)⟩)  (p_0 := by omega) (p_1 := by omega) (p_2 := by omega) (p_3 := by omega) (p_4 := by omega)) (fun o V' hq => ?_)
      obtain ⟨G624, A625, r626, at2_627, fk2_628, op2_629, nd2_630, tk2_631, rfl, rfl, hW632, hF633, hQ634, b635, e636, e637, e638, e639, e640, p641, p642, p643, p644, p645, p646, q647⟩ := hq
      have hF648 := Fr_tr hF619 hF633 (Fr_sub (by decide)) (Fr_sub (by decide))
      have k649 : A625 18 (one).toNat = nd1 := (hQ634 18 _ rfl (by omega)).trans (show A608 18 (one).toNat = nd1 from (congrFun (hF612.2 18 rfl) _).trans (q602))
      have hP650 := Pf_tr hP620 hQ634 (by omega)
      have sf651 : ND A625 (one) (33) (0) (nd1) (0) (0) (0) (0) := ND_ag (by omega) (Ag_pf hQ634 (by omega)) sf621
      have sf652 : wE A625 Vs sb (20) (ix) (one + 1) (nd1) := wE_ag (by omega) (Sg_fr hF633 (by decide)) (Ag_pf hQ634 (by omega)) sf622
      have sf653 : ND A625 (nd1) (3) (s) (ix) (0) (0) (0) (0) := ND_ag (by omega) (Ag_pf hQ634 (by omega)) sf623
      have bat2_627 : (0 : Int) ≤ at2_627 ∧ at2_627 ≤ 3002 := e636 ▸ hW632.1 10
      have bfk2_628 : (0 : Int) ≤ fk2_628 ∧ fk2_628 ≤ 6 := e637 ▸ hW632.1 16
      have bop2_629 : (-2147483648 : Int) ≤ op2_629 ∧ op2_629 ≤ 2147483647 := e638 ▸ hW632.1 15
      have bnd2_630 : (0 : Int) ≤ nd2_630 ∧ nd2_630 ≤ 6999 := e639 ▸ hW632.1 31
      have ztk2_631 := tz_b tk2_631
      have btk2_631 : (0 : Int) ≤ tk2_631 ∧ tk2_631 ≤ 5 := e640 ▸ hW632.1 11
      refine .inr ⟨_, rfl, ?_⟩
      rcases q647 with ⟨a654, a655, a656, a657, a658, a659⟩ | ⟨a660, a661, a662⟩ | ⟨a663, a664, a665, a666⟩
      · have _q : True := trivial
        exfalso
        omega
      · have _q : True := trivial
        refine jr_st (pc' := 272) (i := 19) (m := 7000) (z := one) (y := r626) rfl (by decide) rfl (by decide) (by omega) (by omega) rfl ?_
        have hW668 : Wk G624 (uA A625 19 (one).toNat (r626)) := Wk_a hW632 (show (-2147483648 : Int) ≤ r626 by omega) (show r626 ≤ (2147483647 : Int) by omega)
        have hF669 := Fr_a (z := r626) (k := 19) (n := (one).toNat) hF648 (by decide)
        obtain ⟨A667, eA667⟩ : ∃ q, q = uA A625 19 (one).toNat (r626) := ⟨_, rfl⟩
        rw [← eA667]
        rw [← eA667] at hW668 hF669
        have q670 : A667 19 (one).toNat = r626 := by rw [eA667]; exact uA_eq
        have hP671 : Pf nd A A667 := eA667 ▸ Pf_a hP650 (z := one) (by omega) (by omega)
        have sf672 : ND A667 (one) (33) (0) (nd1) (r626) (0) (0) (0) := ND_c eA667 sf651
        have sf673 : wE A667 Vs sb (20) (ix) (one + 1) (nd1) := wE_ag (by omega) (Sg_ne eA667 rfl) (Ag_st eA667 (by omega) (by omega)) sf652
        have sf674 : ND A667 (nd1) (3) (s) (ix) (0) (0) (0) (0) := ND_ag (by omega) (Ag_st eA667 (by omega) (by omega)) sf653
        refine jx_ld (pc' := 273) (l' := L597) (st' := [.ref 66]) rfl (jl_aloadn gL597_0) ?_
        refine jx_vr (pc' := 276) (as := []) (st := []) rfl rfl rfl rfl ⟨rfl, rfl, Nat.le_of_ble_eq_true rfl⟩ rfl rfl (c_endLine (dd := d) (hd := by omega) (hW := hW668)  (ln := ln) (e_ln := show G624 9 = ln from ((hF633.1 9 rfl).trans ((hF612.1 9 rfl).trans ((hF587.1 9 rfl).trans (fx_9))))) (li := li) (e_li := show G624 3 = li from ((hF633.1 3 rfl).trans ((hF612.1 3 rfl).trans ((hF587.1 3 rfl).trans ((hFx.1 3 rfl).trans (e_li)))))) (fk := fk2_628) (e_fk := show G624 16 = fk2_628 from (e637)) (tk0 := tk2_631) (e_tk0 := show G624 11 = tk2_631 from (e640))    (p_0 := by omega)) (fun o V' hq => ?_)
        obtain ⟨G675, A676, ln2_677, fk2_678, rfl, rfl, hW679, hF680, e681, e682, q683⟩ := hq
        have hF684 := Fr_tr hF669 hF680 (Fr_sub (by decide)) (Fr_sub (by decide))
        have hP685 := Pf_f hP671 hF680 (by decide)
        have sf686 : ND A676 (one) (33) (0) (nd1) (r626) (0) (0) (0) := ND_ag (by omega) (Ag_fr hF680 (by decide)) sf672
        have sf687 : wE A676 Vs sb (20) (ix) (one + 1) (nd1) := wE_ag (by omega) (Sg_fr hF680 (by decide)) (Ag_fr hF680 (by decide)) sf673
        have sf688 : ND A676 (nd1) (3) (s) (ix) (0) (0) (0) (0) := ND_ag (by omega) (Ag_fr hF680 (by decide)) sf674
        have bln2_677 : (0 : Int) ≤ ln2_677 ∧ ln2_677 ≤ 3000 := e681 ▸ hW679.1 9
        have bfk2_678 : (0 : Int) ≤ fk2_678 ∧ fk2_678 ≤ 6 := e682 ▸ hW679.1 16
        refine .inl ⟨rfl, ?_⟩
        rcases q683 with ⟨a689, a690, a691, a692, a693⟩ | ⟨a694, a695⟩
        · have _q : True := trivial
          exfalso
          omega
        · have _q : True := trivial
          refine jx_ld (pc' := 277) (l' := L597) (st' := [.int (i32 (one))]) rfl (jl_iloadn gL597_1) ?_
          refine jx_rt (v := some (.int (i32 (one)))) rfl rfl rfl rfl rfl rfl ?_
          exact ⟨_, _, _, at2_627, fk2_678, nd2_630, ln2_677, rfl, rfl, hW679, hF684, hP685, by omega, ((hF680.1 10 rfl).trans (e636)), (e682), ((hF680.1 31 rfl).trans (e639)), (e681), by omega, by omega, by omega, by omega, by omega, by first | exact Or.inl (⟨by omega, by omega, by omega⟩)⟩
      · have _q : True := trivial
        refine jr_st (pc' := 272) (i := 19) (m := 7000) (z := one) (y := r626) rfl (by decide) rfl (by decide) (by omega) (by omega) rfl ?_
        have hW697 : Wk G624 (uA A625 19 (one).toNat (r626)) := Wk_a hW632 (show (-2147483648 : Int) ≤ r626 by omega) (show r626 ≤ (2147483647 : Int) by omega)
        have hF698 := Fr_a (z := r626) (k := 19) (n := (one).toNat) hF648 (by decide)
        obtain ⟨A696, eA696⟩ : ∃ q, q = uA A625 19 (one).toNat (r626) := ⟨_, rfl⟩
        rw [← eA696]
        rw [← eA696] at hW697 hF698
        have q699 : A696 19 (one).toNat = r626 := by rw [eA696]; exact uA_eq
        have hP700 : Pf nd A A696 := eA696 ▸ Pf_a hP650 (z := one) (by omega) (by omega)
        have sf701 : ND A696 (one) (33) (0) (nd1) (r626) (0) (0) (0) := ND_c eA696 sf651
        have sf702 : wE A696 Vs sb (20) (ix) (one + 1) (nd1) := wE_ag (by omega) (Sg_ne eA696 rfl) (Ag_st eA696 (by omega) (by omega)) sf652
        have sf703 : ND A696 (nd1) (3) (s) (ix) (0) (0) (0) (0) := ND_ag (by omega) (Ag_st eA696 (by omega) (by omega)) sf653
        have sf704 : wR A696 Vs sb (20) (0) (r626) (nd2_585) (nd2_630) := wR_ag (by omega) (Sg_ne eA696 rfl) (Ag_st eA696 (by omega) (by omega)) a666
        refine jx_ld (pc' := 273) (l' := L597) (st' := [.ref 66]) rfl (jl_aloadn gL597_0) ?_
        refine jx_vr (pc' := 276) (as := []) (st := []) rfl rfl rfl rfl ⟨rfl, rfl, Nat.le_of_ble_eq_true rfl⟩ rfl rfl (c_endLine (dd := d) (hd := by omega) (hW := hW697)  (ln := ln) (e_ln := show G624 9 = ln from ((hF633.1 9 rfl).trans ((hF612.1 9 rfl).trans ((hF587.1 9 rfl).trans (fx_9))))) (li := li) (e_li := show G624 3 = li from ((hF633.1 3 rfl).trans ((hF612.1 3 rfl).trans ((hF587.1 3 rfl).trans ((hFx.1 3 rfl).trans (e_li)))))) (fk := fk2_628) (e_fk := show G624 16 = fk2_628 from (e637)) (tk0 := tk2_631) (e_tk0 := show G624 11 = tk2_631 from (e640))    (p_0 := by omega)) (fun o V' hq => ?_)
        obtain ⟨G705, A706, ln2_707, fk2_708, rfl, rfl, hW709, hF710, e711, e712, q713⟩ := hq
        have hF714 := Fr_tr hF698 hF710 (Fr_sub (by decide)) (Fr_sub (by decide))
        have hP715 := Pf_f hP700 hF710 (by decide)
        have sf716 : ND A706 (one) (33) (0) (nd1) (r626) (0) (0) (0) := ND_ag (by omega) (Ag_fr hF710 (by decide)) sf701
        have sf717 : wE A706 Vs sb (20) (ix) (one + 1) (nd1) := wE_ag (by omega) (Sg_fr hF710 (by decide)) (Ag_fr hF710 (by decide)) sf702
        have sf718 : ND A706 (nd1) (3) (s) (ix) (0) (0) (0) (0) := ND_ag (by omega) (Ag_fr hF710 (by decide)) sf703
        have sf719 : wR A706 Vs sb (20) (0) (r626) (nd2_585) (nd2_630) := wR_ag (by omega) (Sg_fr hF710 (by decide)) (Ag_fr hF710 (by decide)) sf704
        have bln2_707 : (0 : Int) ≤ ln2_707 ∧ ln2_707 ≤ 3000 := e711 ▸ hW709.1 9
        have bfk2_708 : (0 : Int) ≤ fk2_708 ∧ fk2_708 ≤ 6 := e712 ▸ hW709.1 16
        refine .inl ⟨rfl, ?_⟩
        rcases q713 with ⟨a720, a721, a722, a723, a724⟩ | ⟨a725, a726⟩
        · have _q : True := trivial
          refine jx_ld (pc' := 277) (l' := L597) (st' := [.int (i32 (one))]) rfl (jl_iloadn gL597_1) ?_
          refine jx_rt (v := some (.int (i32 (one)))) rfl rfl rfl rfl rfl rfl ?_
          exact ⟨_, _, _, at2_627, fk2_708, nd2_630, ln2_707, rfl, rfl, hW709, hF714, hP715, by omega, ((hF710.1 10 rfl).trans (e636)), (e712), ((hF710.1 31 rfl).trans (e639)), (e711), by omega, by omega, by omega, by omega, by omega, by first | exact Or.inr ((⟨by omega, by omega, by omega, by omega, by omega, (wU_ch (m := (nd1 + 1)) sf716 (by omega) (by omega) (by omega) (by omega) (wR_elem sf718 (by omega) (by omega) iv_9 (kq (P := kRow (1)) (show A706 7 (s).toNat = ks from (congrFun ((hF710.2 7 rfl).trans (((congrFun eA696 7).trans (uA_ne (by decide))).trans ((hF633.2 7 rfl).trans ((hF612.2 7 rfl).trans (((congrFun eA599 7).trans (uA_ne (by decide))).trans (hF587.2 7 rfl)))))) _).trans (ex_ks)) (by first | exact .inr ⟨by omega, by omega⟩)) (wE_mono (by omega) (by omega) (by omega) sf717)) (wR_mono (by omega) (by omega) (by omega) sf719)), (NX_nd sf716)⟩))⟩
        · have _q : True := trivial
          refine jx_ld (pc' := 277) (l' := L597) (st' := [.int (i32 (one))]) rfl (jl_iloadn gL597_1) ?_
          refine jx_rt (v := some (.int (i32 (one)))) rfl rfl rfl rfl rfl rfl ?_
          exact ⟨_, _, _, at2_627, fk2_708, nd2_630, ln2_707, rfl, rfl, hW709, hF714, hP715, by omega, ((hF710.1 10 rfl).trans (e636)), (e712), ((hF710.1 31 rfl).trans (e639)), (e711), by omega, by omega, by omega, by omega, by omega, by first | exact Or.inl (⟨by omega, by omega, by omega⟩)⟩
set_option maxRecDepth 20000 in
set_option maxHeartbeats 4000000 in
theorem c_readGuard_at_222_1_0 {X : jX} {d : Nat} {Vs : Nat → Prop} {sb : Int} {c0 c1 : jC} {G : Nat → Int} {A : Nat → Nat → Int} {T : jH} {ln le at0 fk op0 nd tk0 li : Int} (hd : 71 ≤ d + 1) (hW : Wk G A) (e_ln : G 9 = ln) (e_le : A 4 (ln).toNat = le) (e_at0 : G 10 = at0) (e_fk : G 16 = fk) (e_op0 : G 15 = op0) (e_nd : G 31 = nd) (e_tk0 : G 11 = tk0) (e_li : G 3 = li) (i_SV : SV Vs sb G A) (p_0 : 0 ≤ op0 ∧ op0 ≤ 8) (p_1 : fk = 0) (p_2 : nd ≤ 2 * at0 - tz tk0 + 42) (p_3 : at0 ≤ le) (p_4 : ln < li) : ∀ (L : jL) (Gx : Nat → Int) (Ax : Nat → Nat → Int) (one s ix at1 tk1 fk1 nd1 op1 ks : Int), jGet L 0 = some (.ref 66) → jGet L 6 = some (.int (i32 (1))) → jGet L 7 = some (.int (i32 (0))) → jGet L 1 = some (.int (i32 one)) → jGet L 4 = some (.int (i32 s)) → jGet L 5 = some (.int (i32 ix)) → Wk Gx Ax → Fr [9, 10, 11, 12, 13, 14, 15, 16, 17, 18, 31] [15, 16, 17, 18, 19, 20, 21, 22, 24, 28] G A Gx Ax → Pf nd A Ax → Gx 10 = at1 → Gx 11 = tk1 → Gx 16 = fk1 → Gx 31 = nd1 → Gx 15 = op1 → Ax 7 (s).toNat = ks → Gx 9 = ln → ((-2147483648 : Int) ≤ one ∧ one ≤ 2147483647) → ((-2147483648 : Int) ≤ s ∧ s ≤ 2147483647) → ((-2147483648 : Int) ≤ ix ∧ ix ≤ 2147483647) → (at0 ≤ at1) → (at1 ≤ le) → (nd ≤ nd1) → (op1 = op0) → (one = nd) → (one ≤ 6998 ∧ one < nd1) → (fk1 = 0) → (nd1 - nd ≤ (2 * at1 - tz tk1) - (2 * at0 - tz tk0)) → (0 ≤ s ∧ s ≤ 201) → (SY Vs sb (s)) → (ND Ax (one) (33) (0) (0) (0) (0) (0) (0)) → (kArr (ks)) → (wE Ax Vs sb (20) (ix) (one + 1) (nd1)) → wj X d jm303 (222, L, [], rV c0 c1 Gx Ax T) (fun o V' => ∃ (G' : Nat → Int) (A' : Nat → Nat → Int) (r : Int) (at2 : Int) (fk2 : Int) (nd2 : Int) (ln2 : Int), V' = rV c0 c1 G' A' T ∧ o = .inl (some (.int (i32 r))) ∧ Wk G' A' ∧ Fr [9, 10, 11, 12, 13, 14, 15, 16, 17, 18, 31] [15, 16, 17, 18, 19, 20, 21, 22, 24, 28] G A G' A' ∧ Pf nd A A' ∧ ((-2147483648 : Int) ≤ r ∧ r ≤ 2147483647) ∧ G' 10 = at2 ∧ G' 16 = fk2 ∧ G' 31 = nd2 ∧ G' 9 = ln2 ∧ (at0 ≤ at2) ∧ (at2 ≤ le) ∧ (nd ≤ nd2) ∧ (0 ≤ r) ∧ (r ≤ nd2) ∧ (((1 ≤ fk2) ∧ (ln2 = ln) ∧ (nd2 - nd ≤ 2 * at2 - 2 * at0 + 12)) ∨ ((fk2 = 0) ∧ (ln2 = ln + 1) ∧ (nd2 - nd ≤ 2 * at2 - (2 * at0 - tz tk0) + 0) ∧ (nd ≤ r) ∧ (r < nd2) ∧ (wU A' Vs sb (r) (nd) (nd2)) ∧ (NX A' (r))))) := by
  have hF0 : Fr [9, 10, 11, 12, 13, 14, 15, 16, 17, 18, 31] [15, 16, 17, 18, 19, 20, 21, 22, 24, 28] G A G A := Fr_rf
  have hP0 : Pf nd A A := Pf_rf
  have b_ln : (0 : Int) ≤ ln ∧ ln ≤ 3000 := e_ln ▸ hW.1 9
  have b_le : (0 : Int) ≤ le ∧ le ≤ 3000 := e_le ▸ hW.2 4 _
  have b_at0 : (0 : Int) ≤ at0 ∧ at0 ≤ 3002 := e_at0 ▸ hW.1 10
  have b_fk : (0 : Int) ≤ fk ∧ fk ≤ 6 := e_fk ▸ hW.1 16
  have b_op0 : (-2147483648 : Int) ≤ op0 ∧ op0 ≤ 2147483647 := e_op0 ▸ hW.1 15
  have b_nd : (0 : Int) ≤ nd ∧ nd ≤ 6999 := e_nd ▸ hW.1 31
  have z_tk0 := tz_f tk0
  have b_tk0 : (0 : Int) ≤ tk0 ∧ tk0 ≤ 5 := e_tk0 ▸ hW.1 11
  have b_li : (0 : Int) ≤ li ∧ li ≤ 3000 := e_li ▸ hW.1 3
  intro L Gx Ax one s ix at1 tk1 fk1 nd1 op1 ks gL_0 gL_6 gL_7 gL_1 gL_4 gL_5 hWx hFx hPx ex_at1 ex_tk1 ex_fk1 ex_nd1 ex_op1 ex_ks fx_9 rx_one rx_s rx_ix iv_0 iv_1 iv_2 iv_3 iv_4 iv_5 iv_6 iv_7 iv_8 iv_9 iv_10 iv_11 iv_12
  have b_at1 : (0 : Int) ≤ at1 ∧ at1 ≤ 3002 := ex_at1 ▸ hWx.1 10
  have z_tk1 := tz_f tk1
  have b_tk1 : (0 : Int) ≤ tk1 ∧ tk1 ≤ 5 := ex_tk1 ▸ hWx.1 11
  have b_fk1 : (0 : Int) ≤ fk1 ∧ fk1 ≤ 6 := ex_fk1 ▸ hWx.1 16
  have b_nd1 : (0 : Int) ≤ nd1 ∧ nd1 ≤ 6999 := ex_nd1 ▸ hWx.1 31
  have b_op1 : (-2147483648 : Int) ≤ op1 ∧ op1 ≤ 2147483647 := ex_op1 ▸ hWx.1 15
  have b_ks : (0 : Int) ≤ ks ∧ ks ≤ 14 := ex_ks ▸ hWx.2 7 _
  refine jx_ld (pc' := 223) (l' := L) (st' := [.ref 66]) rfl (jl_aloadn gL_0) ?_
  refine jx_ld (pc' := 225) (l' := L) (st' := [.int (i32 (1)), .ref 66]) rfl (jl_iload gL_6) ?_
  refine jx_if_eq (pc' := 228) (tg := 232) rfl rfl rfl (by decide) (by decide) (fun h727 => ?_) (fun h727 => ?_)
  · have _q := h727
    exact absurd h727 (by omega)
  · have _q := h727
    refine jx_ar (pc' := 229) (st' := [.int (i32 (3)), .ref 66]) rfl rfl rfl rfl ?_
    refine jx_go (tg := 233) rfl rfl ?_
    refine jx_ld (pc' := 235) (l' := L) (st' := [.int (i32 (s)), .int (i32 (3)), .ref 66]) rfl (jl_iload gL_4) ?_
    refine jx_ld (pc' := 237) (l' := L) (st' := [.int (i32 (ix)), .int (i32 (s)), .int (i32 (3)), .ref 66]) rfl (jl_iload gL_5) ?_
    refine jx_ar (pc' := 238) (st' := [.int (i32 (0)), .int (i32 (ix)), .int (i32 (s)), .int (i32 (3)), .ref 66]) rfl rfl rfl rfl ?_
    refine jx_ar (pc' := 239) (st' := [.int (i32 (0)), .int (i32 (0)), .int (i32 (ix)), .int (i32 (s)), .int (i32 (3)), .ref 66]) rfl rfl rfl rfl ?_
    refine jx_vr (pc' := 242) (as := [.int (i32 (3)), .int (i32 (s)), .int (i32 (ix)), .int (i32 (0)), .int (i32 (0))]) (st := []) rfl rfl rfl rfl ⟨rfl, rfl, Nat.le_of_ble_eq_true rfl⟩ rfl rfl (c_node (dd := d) (hd := by omega) (hW := hWx) (kind := 3) (a := s) (b := ix) (c := 0) (e := 0) (nd := nd1) (e_nd := show Gx 31 = nd1 from (ex_nd1))  (h_kind := ⟨(by decide), (by decide)⟩) (h_a := ⟨(Int.le_trans (by decide : (-2147483648 : Int) ≤ -2147483648) rx_s.1), (Int.le_trans rx_s.2 (by decide : (2147483647 : Int) ≤ 2147483647))⟩) (h_b := ⟨(Int.le_trans (by decide : (-2147483648 : Int) ≤ -2147483648) rx_ix.1), (Int.le_trans rx_ix.2 (by decide : (2147483647 : Int) ≤ 2147483647))⟩) (h_c := ⟨(by decide), (by decide)⟩) (h_e := ⟨(by decide), (by decide)⟩)  (p_0 := by omega) (p_1 := by omega)) (fun o V' hq => ?_)
    obtain ⟨G728, A729, nd2_730, rfl, rfl, hW731, hF732, hQ733, e734, p735, p736, -⟩ := hq
    have hF738 := Fr_tr hFx hF732 (Fr_sub (by decide)) (Fr_sub (by decide))
    have hP739 := Pf_tr hPx hQ733 (by omega)
    have sf740 : ND A729 (one) (33) (0) (0) (0) (0) (0) (0) := ND_ag (by omega) (Ag_pf hQ733 (by omega)) iv_10
    have sf741 : wE A729 Vs sb (20) (ix) (one + 1) (nd1) := wE_ag (by omega) (Sg_fr hF732 (by decide)) (Ag_pf hQ733 (by omega)) iv_12
    have bnd2_730 : (0 : Int) ≤ nd2_730 ∧ nd2_730 ≤ 6999 := e734 ▸ hW731.1 31
    refine .inr ⟨_, rfl, ?_⟩
    refine jx_ld (pc' := 244) (l' := jSto1 L 10 (.int (i32 (nd1)))) (st' := []) rfl rfl ?_
    obtain ⟨L742, eL742⟩ : ∃ q, q = jSto1 L 10 (.int (i32 (nd1))) := ⟨_, rfl⟩
    rw [← eL742]
    have gL742_0 : jGet L742 0 = some (.ref 66) := eL742 ▸ jg_ne (by decide) gL_0 rfl
    have gL742_6 : jGet L742 6 = some (.int (i32 (1))) := eL742 ▸ jg_ne (by decide) gL_6 rfl
    have gL742_7 : jGet L742 7 = some (.int (i32 (0))) := eL742 ▸ jg_ne (by decide) gL_7 rfl
    have gL742_1 : jGet L742 1 = some (.int (i32 (one))) := eL742 ▸ jg_ne (by decide) gL_1 rfl
    have gL742_4 : jGet L742 4 = some (.int (i32 (s))) := eL742 ▸ jg_ne (by decide) gL_4 rfl
    have gL742_5 : jGet L742 5 = some (.int (i32 (ix))) := eL742 ▸ jg_ne (by decide) gL_5 rfl
    have gL742_10 : jGet L742 10 = some (.int (i32 (nd1))) := eL742 ▸ jg_eq
    refine jx_ld (pc' := 246) (l' := L742) (st' := [.int (i32 (0))]) rfl (jl_iload gL742_7) ?_
    refine jx_if_eq (pc' := 249) (tg := 278) rfl rfl rfl (by decide) (by decide) (fun h743 => ?_) (fun h743 => ?_)
    · have _q := h743
      refine jx_ld (pc' := 279) (l' := L742) (st' := [.ref 66]) rfl (jl_aloadn gL742_0) ?_
      refine jx_ld (pc' := 281) (l' := L742) (st' := [.int (i32 (nd1)), .ref 66]) rfl (jl_iload gL742_10) ?_
      refine jx_vr (pc' := 284) (as := [.int (i32 (nd1))]) (st := []) rfl rfl rfl rfl ⟨rfl, rfl, Nat.le_of_ble_eq_true rfl⟩ rfl rfl (c_readRest (dd := d) (k := 9) (hE := RE_all X 9) (hd := by omega) (hW := hW731) (x := nd1) (lo := (one + 1)) (ln := ln) (e_ln := show G728 9 = ln from ((hF732.1 9 rfl).trans (fx_9))) (le := le) (e_le := show A729 4 (ln).toNat = le from (congrFun ((hF732.2 4 rfl).trans (hFx.2 4 rfl)) _).trans (e_le)) (at0 := at1) (e_at0 := show G728 10 = at1 from ((hF732.1 10 rfl).trans (ex_at1))) (fk := fk1) (e_fk := show G728 16 = fk1 from ((hF732.1 16 rfl).trans (ex_fk1))) (op0 := op1) (e_op0 := show G728 15 = op1 from ((hF732.1 15 rfl).trans (ex_op1))) (nd := nd2_730) (e_nd := show G728 31 = nd2_730 from (e734)) (tk0 := tk1) (e_tk0 := show G728 11 = tk1 from ((hF732.1 11 rfl).trans (ex_tk1))) (i_SV := (SV_ext (((hF732.1 29 rfl).trans (hFx.1 29 rfl))) (((hF732.2 14 rfl).trans (hFx.2 14 rfl))) i_SV)) (h_x := ⟨(Int.le_trans (by decide : (-2147483648 : Int) ≤ 0) b_nd1.1), (Int.le_trans b_nd1.2 (by decide : (6999 : Int) ≤ 2147483647))⟩)  (p_0 := by omega) (p_1 := by omega) (p_2 := by omega) (p_3 := by omega) (p_4 := by omega) (p_5 := by omega) (p_6 := by omega) (p_7 := by omega) (p_8 := by omega) (p_9 := (fun _ => (wE_elem p736 (by omega) (by omega) iv_9 (kq (P := kArr) (show A729 7 (s).toNat = ks from (congrFun (hF732.2 7 rfl) _).trans (ex_ks)) iv_11) (wE_mono (by omega) (by omega) (by omega) sf741))))) (fun o V' hq => ?_)
      obtain ⟨G744, A745, r746, at2_747, fk2_748, op2_749, nd2_750, tk2_751, rfl, rfl, hW752, hF753, hQ754, b755, e756, e757, e758, e759, e760, p761, p762, p763, p764, p765, p766, q767⟩ := hq
      have hF768 := Fr_tr hF738 hF753 (Fr_sub (by decide)) (Fr_sub (by decide))
      have hP769 := Pf_tr hP739 hQ754 (by omega)
      have sf770 : ND A745 (one) (33) (0) (0) (0) (0) (0) (0) := ND_ag (by omega) (Ag_pf hQ754 (by omega)) sf740
      have sf771 : wE A745 Vs sb (20) (ix) (one + 1) (nd1) := wE_ag (by omega) (Sg_fr hF753 (by decide)) (Ag_pf hQ754 (by omega)) sf741
      have sf772 : ND A745 (nd1) (3) (s) (ix) (0) (0) (0) (0) := ND_ag (by omega) (Ag_pf hQ754 (by omega)) p736
      have bat2_747 : (0 : Int) ≤ at2_747 ∧ at2_747 ≤ 3002 := e756 ▸ hW752.1 10
      have bfk2_748 : (0 : Int) ≤ fk2_748 ∧ fk2_748 ≤ 6 := e757 ▸ hW752.1 16
      have bop2_749 : (-2147483648 : Int) ≤ op2_749 ∧ op2_749 ≤ 2147483647 := e758 ▸ hW752.1 15
      have bnd2_750 : (0 : Int) ≤ nd2_750 ∧ nd2_750 ≤ 6999 := e759 ▸ hW752.1 31
      have ztk2_751 := tz_b tk2_751
      have btk2_751 : (0 : Int) ≤ tk2_751 ∧ tk2_751 ≤ 5 := e760 ▸ hW752.1 11
      refine .inr ⟨_, rfl, ?_⟩
      rcases q767 with ⟨a773, a774, a775, a776, a777, a778⟩ | ⟨a779, a780, a781⟩ | ⟨a782, a783, a784, a785⟩
      · have _q : True := trivial
        exfalso
        omega
      · have _q : True := trivial
        refine jx_ld (pc' := 285) (l' := jSto1 L742 2 (.int (i32 (r746)))) (st' := []) rfl rfl ?_
        obtain ⟨L786, eL786⟩ : ∃ q, q = jSto1 L742 2 (.int (i32 (r746))) := ⟨_, rfl⟩
        rw [← eL786]
        have gL786_0 : jGet L786 0 = some (.ref 66) := eL786 ▸ jg_ne (by decide) gL742_0 rfl
        have gL786_6 : jGet L786 6 = some (.int (i32 (1))) := eL786 ▸ jg_ne (by decide) gL742_6 rfl
        have gL786_7 : jGet L786 7 = some (.int (i32 (0))) := eL786 ▸ jg_ne (by decide) gL742_7 rfl
        have gL786_1 : jGet L786 1 = some (.int (i32 (one))) := eL786 ▸ jg_ne (by decide) gL742_1 rfl
        have gL786_4 : jGet L786 4 = some (.int (i32 (s))) := eL786 ▸ jg_ne (by decide) gL742_4 rfl
        have gL786_5 : jGet L786 5 = some (.int (i32 (ix))) := eL786 ▸ jg_ne (by decide) gL742_5 rfl
        have gL786_10 : jGet L786 10 = some (.int (i32 (nd1))) := eL786 ▸ jg_ne (by decide) gL742_10 rfl
        have gL786_2 : jGet L786 2 = some (.int (i32 (r746))) := eL786 ▸ jg_eq
        refine jx_go (tg := 293) rfl rfl ?_
        have z787 := tz_f (tk2_751)
        exact c_readGuard_at_293p (X := X) (d := d) (Vs := Vs) (sb := sb) (c0 := c0) (c1 := c1) (G := G) (A := A) (T := T) (ln := ln) (le := le) (at0 := at0) (fk := fk) (op0 := op0) (nd := nd) (tk0 := tk0) (li := li) (hd := hd) (hW := hW) (e_ln := e_ln) (e_le := e_le) (e_at0 := e_at0) (e_fk := e_fk) (e_op0 := e_op0) (e_nd := e_nd) (e_tk0 := e_tk0) (e_li := e_li) (i_SV := i_SV) (p_0 := p_0) (p_1 := p_1) (p_2 := p_2) (p_3 := p_3) (p_4 := p_4) L786 G744 A745 (one) (r746) (at2_747) (tk2_751) (fk2_748) (nd2_750) (op2_749) gL786_0 gL786_1 gL786_2 hW752 hF768 hP769 ((e756)) ((e760)) ((e757)) ((e759)) ((e758)) (((hF753.1 9 rfl).trans ((hF732.1 9 rfl).trans (fx_9)))) (by omega) (by omega) (by omega) (by omega) (by omega) (by omega) (by omega) (by omega) (by omega) (by omega)
      · have _q : True := trivial
        refine jx_ld (pc' := 285) (l' := jSto1 L742 2 (.int (i32 (r746)))) (st' := []) rfl rfl ?_
        obtain ⟨L788, eL788⟩ : ∃ q, q = jSto1 L742 2 (.int (i32 (r746))) := ⟨_, rfl⟩
        rw [← eL788]
        have gL788_0 : jGet L788 0 = some (.ref 66) := eL788 ▸ jg_ne (by decide) gL742_0 rfl
        have gL788_6 : jGet L788 6 = some (.int (i32 (1))) := eL788 ▸ jg_ne (by decide) gL742_6 rfl
        have gL788_7 : jGet L788 7 = some (.int (i32 (0))) := eL788 ▸ jg_ne (by decide) gL742_7 rfl
        have gL788_1 : jGet L788 1 = some (.int (i32 (one))) := eL788 ▸ jg_ne (by decide) gL742_1 rfl
        have gL788_4 : jGet L788 4 = some (.int (i32 (s))) := eL788 ▸ jg_ne (by decide) gL742_4 rfl
        have gL788_5 : jGet L788 5 = some (.int (i32 (ix))) := eL788 ▸ jg_ne (by decide) gL742_5 rfl
        have gL788_10 : jGet L788 10 = some (.int (i32 (nd1))) := eL788 ▸ jg_ne (by decide) gL742_10 rfl
        have gL788_2 : jGet L788 2 = some (.int (i32 (r746))) := eL788 ▸ jg_eq
        refine jx_go (tg := 293) rfl rfl ?_
        have z789 := tz_f (tk2_751)
        exact c_readGuard_at_293 (X := X) (d := d) (Vs := Vs) (sb := sb) (c0 := c0) (c1 := c1) (G := G) (A := A) (T := T) (ln := ln) (le := le) (at0 := at0) (fk := fk) (op0 := op0) (nd := nd) (tk0 := tk0) (li := li) (hd := hd) (hW := hW) (e_ln := e_ln) (e_le := e_le) (e_at0 := e_at0) (e_fk := e_fk) (e_op0 := e_op0) (e_nd := e_nd) (e_tk0 := e_tk0) (e_li := e_li) (i_SV := i_SV) (p_0 := p_0) (p_1 := p_1) (p_2 := p_2) (p_3 := p_3) (p_4 := p_4) L788 G744 A745 (one) (r746) (at2_747) (tk2_751) (fk2_748) (nd2_750) (op2_749) gL788_0 gL788_1 gL788_2 hW752 hF768 hP769 ((e756)) ((e760)) ((e757)) ((e759)) ((e758)) (((hF753.1 9 rfl).trans ((hF732.1 9 rfl).trans (fx_9)))) (by omega) (by omega) (by omega) (by omega) (by omega) (by omega) (by omega) (by omega) (by omega) (by omega) (by omega) (sf770) ((wE_mono (by omega) (by omega) (by omega) a785))
    · have _q := h743
      exact absurd h743 (by omega)
set_option maxRecDepth 20000 in
set_option maxHeartbeats 4000000 in
theorem c_readGuard_at_222_0_1 {X : jX} {d : Nat} {Vs : Nat → Prop} {sb : Int} {c0 c1 : jC} {G : Nat → Int} {A : Nat → Nat → Int} {T : jH} {ln le at0 fk op0 nd tk0 li : Int} (hd : 71 ≤ d + 1) (hW : Wk G A) (e_ln : G 9 = ln) (e_le : A 4 (ln).toNat = le) (e_at0 : G 10 = at0) (e_fk : G 16 = fk) (e_op0 : G 15 = op0) (e_nd : G 31 = nd) (e_tk0 : G 11 = tk0) (e_li : G 3 = li) (i_SV : SV Vs sb G A) (p_0 : 0 ≤ op0 ∧ op0 ≤ 8) (p_1 : fk = 0) (p_2 : nd ≤ 2 * at0 - tz tk0 + 42) (p_3 : at0 ≤ le) (p_4 : ln < li) : ∀ (L : jL) (Gx : Nat → Int) (Ax : Nat → Nat → Int) (one s at1 tk1 fk1 nd1 op1 ks : Int), jGet L 0 = some (.ref 66) → jGet L 6 = some (.int (i32 (0))) → jGet L 7 = some (.int (i32 (1))) → jGet L 5 = some (.int (i32 (0))) → jGet L 1 = some (.int (i32 one)) → jGet L 4 = some (.int (i32 s)) → Wk Gx Ax → Fr [9, 10, 11, 12, 13, 14, 15, 16, 17, 18, 31] [15, 16, 17, 18, 19, 20, 21, 22, 24, 28] G A Gx Ax → Pf nd A Ax → Gx 10 = at1 → Gx 11 = tk1 → Gx 16 = fk1 → Gx 31 = nd1 → Gx 15 = op1 → Ax 7 (s).toNat = ks → Gx 9 = ln → ((-2147483648 : Int) ≤ one ∧ one ≤ 2147483647) → ((-2147483648 : Int) ≤ s ∧ s ≤ 2147483647) → (at0 ≤ at1) → (at1 ≤ le) → (nd ≤ nd1) → (op1 = op0) → (one = nd) → (one ≤ 6998 ∧ one < nd1) → (fk1 = 0) → (nd1 - nd ≤ (2 * at1 - tz tk1) - (2 * at0 - tz tk0)) → (0 ≤ s ∧ s ≤ 201) → (SY Vs sb (s)) → (ND Ax (one) (33) (0) (0) (0) (0) (0) (0)) → (tz tk1 = 1) → (kCh (ks)) → wj X d jm303 (222, L, [], rV c0 c1 Gx Ax T) (fun o V' => ∃ (G' : Nat → Int) (A' : Nat → Nat → Int) (r : Int) (at2 : Int) (fk2 : Int) (nd2 : Int) (ln2 : Int), V' = rV c0 c1 G' A' T ∧ o = .inl (some (.int (i32 r))) ∧ Wk G' A' ∧ Fr [9, 10, 11, 12, 13, 14, 15, 16, 17, 18, 31] [15, 16, 17, 18, 19, 20, 21, 22, 24, 28] G A G' A' ∧ Pf nd A A' ∧ ((-2147483648 : Int) ≤ r ∧ r ≤ 2147483647) ∧ G' 10 = at2 ∧ G' 16 = fk2 ∧ G' 31 = nd2 ∧ G' 9 = ln2 ∧ (at0 ≤ at2) ∧ (at2 ≤ le) ∧ (nd ≤ nd2) ∧ (0 ≤ r) ∧ (r ≤ nd2) ∧ (((1 ≤ fk2) ∧ (ln2 = ln) ∧ (nd2 - nd ≤ 2 * at2 - 2 * at0 + 12)) ∨ ((fk2 = 0) ∧ (ln2 = ln + 1) ∧ (nd2 - nd ≤ 2 * at2 - (2 * at0 - tz tk0) + 0) ∧ (nd ≤ r) ∧ (r < nd2) ∧ (wU A' Vs sb (r) (nd) (nd2)) ∧ (NX A' (r))))) := by
  have hF0 : Fr [9, 10, 11, 12, 13, 14, 15, 16, 17, 18, 31] [15, 16, 17, 18, 19, 20, 21, 22, 24, 28] G A G A := Fr_rf
  have hP0 : Pf nd A A := Pf_rf
  have b_ln : (0 : Int) ≤ ln ∧ ln ≤ 3000 := e_ln ▸ hW.1 9
  have b_le : (0 : Int) ≤ le ∧ le ≤ 3000 := e_le ▸ hW.2 4 _
  have b_at0 : (0 : Int) ≤ at0 ∧ at0 ≤ 3002 := e_at0 ▸ hW.1 10
  have b_fk : (0 : Int) ≤ fk ∧ fk ≤ 6 := e_fk ▸ hW.1 16
  have b_op0 : (-2147483648 : Int) ≤ op0 ∧ op0 ≤ 2147483647 := e_op0 ▸ hW.1 15
  have b_nd : (0 : Int) ≤ nd ∧ nd ≤ 6999 := e_nd ▸ hW.1 31
  have z_tk0 := tz_f tk0
  have b_tk0 : (0 : Int) ≤ tk0 ∧ tk0 ≤ 5 := e_tk0 ▸ hW.1 11
  have b_li : (0 : Int) ≤ li ∧ li ≤ 3000 := e_li ▸ hW.1 3
  intro L Gx Ax one s at1 tk1 fk1 nd1 op1 ks gL_0 gL_6 gL_7 gL_5 gL_1 gL_4 hWx hFx hPx ex_at1 ex_tk1 ex_fk1 ex_nd1 ex_op1 ex_ks fx_9 rx_one rx_s iv_0 iv_1 iv_2 iv_3 iv_4 iv_5 iv_6 iv_7 iv_8 iv_9 iv_10 iv_11 iv_12
  have b_at1 : (0 : Int) ≤ at1 ∧ at1 ≤ 3002 := ex_at1 ▸ hWx.1 10
  have z_tk1 := tz_f tk1
  have b_tk1 : (0 : Int) ≤ tk1 ∧ tk1 ≤ 5 := ex_tk1 ▸ hWx.1 11
  have b_fk1 : (0 : Int) ≤ fk1 ∧ fk1 ≤ 6 := ex_fk1 ▸ hWx.1 16
  have b_nd1 : (0 : Int) ≤ nd1 ∧ nd1 ≤ 6999 := ex_nd1 ▸ hWx.1 31
  have b_op1 : (-2147483648 : Int) ≤ op1 ∧ op1 ≤ 2147483647 := ex_op1 ▸ hWx.1 15
  have b_ks : (0 : Int) ≤ ks ∧ ks ≤ 14 := ex_ks ▸ hWx.2 7 _
  refine jx_ld (pc' := 223) (l' := L) (st' := [.ref 66]) rfl (jl_aloadn gL_0) ?_
  refine jx_ld (pc' := 225) (l' := L) (st' := [.int (i32 (0)), .ref 66]) rfl (jl_iload gL_6) ?_
  refine jx_if_eq (pc' := 228) (tg := 232) rfl rfl rfl (by decide) (by decide) (fun h790 => ?_) (fun h790 => ?_)
  · have _q := h790
    refine jx_ar (pc' := 233) (st' := [.int (i32 (2)), .ref 66]) rfl rfl rfl rfl ?_
    refine jx_ld (pc' := 235) (l' := L) (st' := [.int (i32 (s)), .int (i32 (2)), .ref 66]) rfl (jl_iload gL_4) ?_
    refine jx_ld (pc' := 237) (l' := L) (st' := [.int (i32 (0)), .int (i32 (s)), .int (i32 (2)), .ref 66]) rfl (jl_iload gL_5) ?_
    refine jx_ar (pc' := 238) (st' := [.int (i32 (0)), .int (i32 (0)), .int (i32 (s)), .int (i32 (2)), .ref 66]) rfl rfl rfl rfl ?_
    refine jx_ar (pc' := 239) (st' := [.int (i32 (0)), .int (i32 (0)), .int (i32 (0)), .int (i32 (s)), .int (i32 (2)), .ref 66]) rfl rfl rfl rfl ?_
    refine jx_vr (pc' := 242) (as := [.int (i32 (2)), .int (i32 (s)), .int (i32 (0)), .int (i32 (0)), .int (i32 (0))]) (st := []) rfl rfl rfl rfl ⟨rfl, rfl, Nat.le_of_ble_eq_true rfl⟩ rfl rfl (c_node (dd := d) (hd := by omega) (hW := hWx) (kind := 2) (a := s) (b := 0) (c := 0) (e := 0) (nd := nd1) (e_nd := show Gx 31 = nd1 from (ex_nd1))  (h_kind := ⟨(by decide), (by decide)⟩) (h_a := ⟨(Int.le_trans (by decide : (-2147483648 : Int) ≤ -2147483648) rx_s.1), (Int.le_trans rx_s.2 (by decide : (2147483647 : Int) ≤ 2147483647))⟩) (h_b := ⟨(by decide), (by decide)⟩) (h_c := ⟨(by decide), (by decide)⟩) (h_e := ⟨(by decide), (by decide)⟩)  (p_0 := by omega) (p_1 := by omega)) (fun o V' hq => ?_)
    obtain ⟨G791, A792, nd2_793, rfl, rfl, hW794, hF795, hQ796, e797, p798, p799, -⟩ := hq
    have hF801 := Fr_tr hFx hF795 (Fr_sub (by decide)) (Fr_sub (by decide))
    have hP802 := Pf_tr hPx hQ796 (by omega)
    have sf803 : ND A792 (one) (33) (0) (0) (0) (0) (0) (0) := ND_ag (by omega) (Ag_pf hQ796 (by omega)) iv_10
    have bnd2_793 : (0 : Int) ≤ nd2_793 ∧ nd2_793 ≤ 6999 := e797 ▸ hW794.1 31
    refine .inr ⟨_, rfl, ?_⟩
    refine jx_ld (pc' := 244) (l' := jSto1 L 10 (.int (i32 (nd1)))) (st' := []) rfl rfl ?_
    obtain ⟨L804, eL804⟩ : ∃ q, q = jSto1 L 10 (.int (i32 (nd1))) := ⟨_, rfl⟩
    rw [← eL804]
    have gL804_0 : jGet L804 0 = some (.ref 66) := eL804 ▸ jg_ne (by decide) gL_0 rfl
    have gL804_6 : jGet L804 6 = some (.int (i32 (0))) := eL804 ▸ jg_ne (by decide) gL_6 rfl
    have gL804_7 : jGet L804 7 = some (.int (i32 (1))) := eL804 ▸ jg_ne (by decide) gL_7 rfl
    have gL804_5 : jGet L804 5 = some (.int (i32 (0))) := eL804 ▸ jg_ne (by decide) gL_5 rfl
    have gL804_1 : jGet L804 1 = some (.int (i32 (one))) := eL804 ▸ jg_ne (by decide) gL_1 rfl
    have gL804_4 : jGet L804 4 = some (.int (i32 (s))) := eL804 ▸ jg_ne (by decide) gL_4 rfl
    have gL804_10 : jGet L804 10 = some (.int (i32 (nd1))) := eL804 ▸ jg_eq
    refine jx_ld (pc' := 246) (l' := L804) (st' := [.int (i32 (1))]) rfl (jl_iload gL804_7) ?_
    refine jx_if_eq (pc' := 249) (tg := 278) rfl rfl rfl (by decide) (by decide) (fun h805 => ?_) (fun h805 => ?_)
    · have _q := h805
      exact absurd h805 (by omega)
    · have _q := h805
      refine jx_ld (pc' := 250) (l' := L804) (st' := [.ref 66]) rfl (jl_aloadn gL804_0) ?_
      refine jr_get (pc' := 253) (i := 35) (v := .ref 85) rfl rfl (by decide) rfl rfl ?_
      refine jx_ld (pc' := 254) (l' := L804) (st' := [.int (i32 (one)), .ref 85]) rfl (jl_iloadn gL804_1) ?_
      refine jx_ld (pc' := 256) (l' := L804) (st' := [.int (i32 (nd1)), .int (i32 (one)), .ref 85]) rfl (jl_iload gL804_10) ?_
      refine jr_st (pc' := 257) (i := 18) (m := 7000) (z := one) (y := nd1) rfl (by decide) rfl (by decide) (by omega) (by omega) rfl ?_
      have hW807 : Wk G791 (uA A792 18 (one).toNat (nd1)) := Wk_a hW794 (show (-2147483648 : Int) ≤ nd1 by omega) (show nd1 ≤ (2147483647 : Int) by omega)
      have hF808 := Fr_a (z := nd1) (k := 18) (n := (one).toNat) hF801 (by decide)
      obtain ⟨A806, eA806⟩ : ∃ q, q = uA A792 18 (one).toNat (nd1) := ⟨_, rfl⟩
      rw [← eA806]
      rw [← eA806] at hW807 hF808
      have q809 : A806 18 (one).toNat = nd1 := by rw [eA806]; exact uA_eq
      have hP810 : Pf nd A A806 := eA806 ▸ Pf_a hP802 (z := one) (by omega) (by omega)
      have sf811 : ND A806 (one) (33) (0) (nd1) (0) (0) (0) (0) := ND_b eA806 sf803
      have sf812 : ND A806 (nd1) (2) (s) (0) (0) (0) (0) (0) := ND_ag (by omega) (Ag_st eA806 (by omega) (by omega)) p799
      refine jx_ld (pc' := 258) (l' := L804) (st' := [.ref 66]) rfl (jl_aloadn gL804_0) ?_
      refine jx_vr (pc' := 261) (as := []) (st := []) rfl rfl rfl rfl ⟨rfl, rfl, Nat.le_of_ble_eq_true rfl⟩ rfl rfl (c_next (dd := d) (hd := by omega) (hW := hW807)  (ln := ln) (e_ln := show G791 9 = ln from ((hF795.1 9 rfl).trans (fx_9))) (le := le) (e_le := show A806 4 (ln).toNat = le from (congrFun (((congrFun eA806 4).trans (uA_ne (by decide))).trans ((hF795.2 4 rfl).trans (hFx.2 4 rfl))) _).trans (e_le)) (at0 := at1) (e_at0 := show G791 10 = at1 from ((hF795.1 10 rfl).trans (ex_at1)))    (p_0 := by omega)) (fun o V' hq => ?_)
      obtain ⟨G813, A814, at2_815, tk2_816, rfl, rfl, hW817, hF818, e819, e820, p821, p822, p823, -⟩ := hq
      have hF825 := Fr_tr hF808 hF818 (Fr_sub (by decide)) (Fr_sub (by decide))
      have hP826 := Pf_f hP810 hF818 (by decide)
      have sf827 : ND A814 (one) (33) (0) (nd1) (0) (0) (0) (0) := ND_ag (by omega) (Ag_fr hF818 (by decide)) sf811
      have sf828 : ND A814 (nd1) (2) (s) (0) (0) (0) (0) (0) := ND_ag (by omega) (Ag_fr hF818 (by decide)) sf812
      have bat2_815 : (0 : Int) ≤ at2_815 ∧ at2_815 ≤ 3002 := e819 ▸ hW817.1 10
      have ztk2_816 := tz_b tk2_816
      have btk2_816 : (0 : Int) ≤ tk2_816 ∧ tk2_816 ≤ 5 := e820 ▸ hW817.1 11
      refine .inl ⟨rfl, ?_⟩
      refine jx_ld (pc' := 262) (l' := L804) (st' := [.ref 66]) rfl (jl_aloadn gL804_0) ?_
      refine jr_get (pc' := 265) (i := 36) (v := .ref 86) rfl rfl (by decide) rfl rfl ?_
      refine jx_ld (pc' := 266) (l' := L804) (st' := [.int (i32 (one)), .ref 86]) rfl (jl_iloadn gL804_1) ?_
      refine jx_ld (pc' := 267) (l' := L804) (st' := [.ref 66, .int (i32 (one)), .ref 86]) rfl (jl_aloadn gL804_0) ?_
      refine jx_ar (pc' := 268) (st' := [.int (i32 (0)), .ref 66, .int (i32 (one)), .ref 86]) rfl rfl rfl rfl ?_
      refine jx_vr (pc' := 271) (as := [.int (i32 (0))]) (st := [.int (i32 (one)), .ref 86]) rfl rfl rfl rfl ⟨rfl, rfl, Nat.le_of_ble_eq_true rfl⟩ rfl rfl (c_readReference (dd := d) (hd := by omega) (hW := hW817) (ch := 0) (ln := ln) (e_ln := show G813 9 = ln from ((hF818.1 9 rfl).trans ((hF795.1 9 rfl).trans (fx_9)))) (le := le) (e_le := show A814 4 (ln).toNat = le from (congrFun ((hF818.2 4 rfl).trans (((congrFun eA806 4).trans (uA_ne (by decide))).trans ((hF795.2 4 rfl).trans (hFx.2 4 rfl)))) _).trans (e_le)) (at0 := at2_815) (e_at0 := show G813 10 = at2_815 from (e819)) (fk := fk1) (e_fk := show G813 16 = fk1 from ((hF818.1 16 rfl).trans ((hF795.1 16 rfl).trans (ex_fk1)))) (op0 := op1) (e_op0 := show G813 15 = op1 from ((hF818.1 15 rfl).trans ((hF795.1 15 rfl).trans (ex_op1)))) (nd := nd2_793) (e_nd := show G813 31 = nd2_793 from ((hF818.1 31 rfl).trans (e797))) (tk0 := tk2_816) (e_tk0 := show G813 11 = tk2_816 from (e820)) (i_SV := (SV_ext (((hF818.1 29 rfl).trans ((hF795.1 29 rfl).trans (hFx.1 29 rfl)))) (((hF818.2 14 rfl).trans (((congrFun eA806 14).trans (uA_ne (by decide))).trans ((hF795.2 14 rfl).trans (hFx.2 14 rfl))))) i_SV)) (h_ch := ⟨(by decide), (by decide)⟩)  (p_0 := by omega) (p_1 := by omega) (p_2 := by omega) (p_3 := by omega) (p_4 := by omega)) (fun o V' hq => ?_)
      obtain ⟨G829, A830, r831, at2_832, fk2_833, op2_834, nd2_835, tk2_836, rfl, rfl, hW837, hF838, hQ839, b840, e841, e842, e843, e844, e845, p846, p847, p848, p849, p850, p851, q852⟩ := hq
      have hF853 := Fr_tr hF825 hF838 (Fr_sub (by decide)) (Fr_sub (by decide))
      have k854 : A830 18 (one).toNat = nd1 := (hQ839 18 _ rfl (by omega)).trans (show A814 18 (one).toNat = nd1 from (congrFun (hF818.2 18 rfl) _).trans (q809))
      have hP855 := Pf_tr hP826 hQ839 (by omega)
      have sf856 : ND A830 (one) (33) (0) (nd1) (0) (0) (0) (0) := ND_ag (by omega) (Ag_pf hQ839 (by omega)) sf827
      have sf857 : ND A830 (nd1) (2) (s) (0) (0) (0) (0) (0) := ND_ag (by omega) (Ag_pf hQ839 (by omega)) sf828
      have bat2_832 : (0 : Int) ≤ at2_832 ∧ at2_832 ≤ 3002 := e841 ▸ hW837.1 10
      have bfk2_833 : (0 : Int) ≤ fk2_833 ∧ fk2_833 ≤ 6 := e842 ▸ hW837.1 16
      have bop2_834 : (-2147483648 : Int) ≤ op2_834 ∧ op2_834 ≤ 2147483647 := e843 ▸ hW837.1 15
      have bnd2_835 : (0 : Int) ≤ nd2_835 ∧ nd2_835 ≤ 6999 := e844 ▸ hW837.1 31
      have ztk2_836 := tz_b tk2_836
      have btk2_836 : (0 : Int) ≤ tk2_836 ∧ tk2_836 ≤ 5 := e845 ▸ hW837.1 11
      refine .inr ⟨_, rfl, ?_⟩
      rcases q852 with ⟨a858, a859, a860, a861, a862, a863⟩ | ⟨a864, a865, a866⟩ | ⟨a867, a868, a869, a870⟩
      · have _q : True := trivial
        exfalso
        omega
      · have _q : True := trivial
        refine jr_st (pc' := 272) (i := 19) (m := 7000) (z := one) (y := r831) rfl (by decide) rfl (by decide) (by omega) (by omega) rfl ?_
        have hW872 : Wk G829 (uA A830 19 (one).toNat (r831)) := Wk_a hW837 (show (-2147483648 : Int) ≤ r831 by omega) (show r831 ≤ (2147483647 : Int) by omega)
        have hF873 := Fr_a (z := r831) (k := 19) (n := (one).toNat) hF853 (by decide)
        obtain ⟨A871, eA871⟩ : ∃ q, q = uA A830 19 (one).toNat (r831) := ⟨_, rfl⟩
        rw [← eA871]
        rw [← eA871] at hW872 hF873
        have q874 : A871 19 (one).toNat = r831 := by rw [eA871]; exact uA_eq
        have hP875 : Pf nd A A871 := eA871 ▸ Pf_a hP855 (z := one) (by omega) (by omega)
        have sf876 : ND A871 (one) (33) (0) (nd1) (r831) (0) (0) (0) := ND_c eA871 sf856
        have sf877 : ND A871 (nd1) (2) (s) (0) (0) (0) (0) (0) := ND_ag (by omega) (Ag_st eA871 (by omega) (by omega)) sf857
        refine jx_ld (pc' := 273) (l' := L804) (st' := [.ref 66]) rfl (jl_aloadn gL804_0) ?_
        refine jx_vr (pc' := 276) (as := []) (st := []) rfl rfl rfl rfl ⟨rfl, rfl, Nat.le_of_ble_eq_true rfl⟩ rfl rfl (c_endLine (dd := d) (hd := by omega) (hW := hW872)  (ln := ln) (e_ln := show G829 9 = ln from ((hF838.1 9 rfl).trans ((hF818.1 9 rfl).trans ((hF795.1 9 rfl).trans (fx_9))))) (li := li) (e_li := show G829 3 = li from ((hF838.1 3 rfl).trans ((hF818.1 3 rfl).trans ((hF795.1 3 rfl).trans ((hFx.1 3 rfl).trans (e_li)))))) (fk := fk2_833) (e_fk := show G829 16 = fk2_833 from (e842)) (tk0 := tk2_836) (e_tk0 := show G829 11 = tk2_836 from (e845))    (p_0 := by omega)) (fun o V' hq => ?_)
        obtain ⟨G878, A879, ln2_880, fk2_881, rfl, rfl, hW882, hF883, e884, e885, q886⟩ := hq
        have hF887 := Fr_tr hF873 hF883 (Fr_sub (by decide)) (Fr_sub (by decide))
        have hP888 := Pf_f hP875 hF883 (by decide)
        have sf889 : ND A879 (one) (33) (0) (nd1) (r831) (0) (0) (0) := ND_ag (by omega) (Ag_fr hF883 (by decide)) sf876
        have sf890 : ND A879 (nd1) (2) (s) (0) (0) (0) (0) (0) := ND_ag (by omega) (Ag_fr hF883 (by decide)) sf877
        have bln2_880 : (0 : Int) ≤ ln2_880 ∧ ln2_880 ≤ 3000 := e884 ▸ hW882.1 9
        have bfk2_881 : (0 : Int) ≤ fk2_881 ∧ fk2_881 ≤ 6 := e885 ▸ hW882.1 16
        refine .inl ⟨rfl, ?_⟩
        rcases q886 with ⟨a891, a892, a893, a894, a895⟩ | ⟨a896, a897⟩
        · have _q : True := trivial
          exfalso
          omega
        · have _q : True := trivial
          refine jx_ld (pc' := 277) (l' := L804) (st' := [.int (i32 (one))]) rfl (jl_iloadn gL804_1) ?_
          refine jx_rt (v := some (.int (i32 (one)))) rfl rfl rfl rfl rfl rfl ?_
          exact ⟨_, _, _, at2_832, fk2_881, nd2_835, ln2_880, rfl, rfl, hW882, hF887, hP888, by omega, ((hF883.1 10 rfl).trans (e841)), (e885), ((hF883.1 31 rfl).trans (e844)), (e884), by omega, by omega, by omega, by omega, by omega, by first | exact Or.inl (⟨by omega, by omega, by omega⟩)⟩
      · have _q : True := trivial
        refine jr_st (pc' := 272) (i := 19) (m := 7000) (z := one) (y := r831) rfl (by decide) rfl (by decide) (by omega) (by omega) rfl ?_
        have hW899 : Wk G829 (uA A830 19 (one).toNat (r831)) := Wk_a hW837 (show (-2147483648 : Int) ≤ r831 by omega) (show r831 ≤ (2147483647 : Int) by omega)
        have hF900 := Fr_a (z := r831) (k := 19) (n := (one).toNat) hF853 (by decide)
        obtain ⟨A898, eA898⟩ : ∃ q, q = uA A830 19 (one).toNat (r831) := ⟨_, rfl⟩
        rw [← eA898]
        rw [← eA898] at hW899 hF900
        have q901 : A898 19 (one).toNat = r831 := by rw [eA898]; exact uA_eq
        have hP902 : Pf nd A A898 := eA898 ▸ Pf_a hP855 (z := one) (by omega) (by omega)
        have sf903 : ND A898 (one) (33) (0) (nd1) (r831) (0) (0) (0) := ND_c eA898 sf856
        have sf904 : ND A898 (nd1) (2) (s) (0) (0) (0) (0) (0) := ND_ag (by omega) (Ag_st eA898 (by omega) (by omega)) sf857
        have sf905 : wR A898 Vs sb (20) (0) (r831) (nd2_793) (nd2_835) := wR_ag (by omega) (Sg_ne eA898 rfl) (Ag_st eA898 (by omega) (by omega)) a870
        refine jx_ld (pc' := 273) (l' := L804) (st' := [.ref 66]) rfl (jl_aloadn gL804_0) ?_
        refine jx_vr (pc' := 276) (as := []) (st := []) rfl rfl rfl rfl ⟨rfl, rfl, Nat.le_of_ble_eq_true rfl⟩ rfl rfl (c_endLine (dd := d) (hd := by omega) (hW := hW899)  (ln := ln) (e_ln := show G829 9 = ln from ((hF838.1 9 rfl).trans ((hF818.1 9 rfl).trans ((hF795.1 9 rfl).trans (fx_9))))) (li := li) (e_li := show G829 3 = li from ((hF838.1 3 rfl).trans ((hF818.1 3 rfl).trans ((hF795.1 3 rfl).trans ((hFx.1 3 rfl).trans (e_li)))))) (fk := fk2_833) (e_fk := show G829 16 = fk2_833 from (e842)) (tk0 := tk2_836) (e_tk0 := show G829 11 = tk2_836 from (e845))    (p_0 := by omega)) (fun o V' hq => ?_)
        obtain ⟨G906, A907, ln2_908, fk2_909, rfl, rfl, hW910, hF911, e912, e913, q914⟩ := hq
        have hF915 := Fr_tr hF900 hF911 (Fr_sub (by decide)) (Fr_sub (by decide))
        have hP916 := Pf_f hP902 hF911 (by decide)
        have sf917 : ND A907 (one) (33) (0) (nd1) (r831) (0) (0) (0) := ND_ag (by omega) (Ag_fr hF911 (by decide)) sf903
        have sf918 : ND A907 (nd1) (2) (s) (0) (0) (0) (0) (0) := ND_ag (by omega) (Ag_fr hF911 (by decide)) sf904
        have sf919 : wR A907 Vs sb (20) (0) (r831) (nd2_793) (nd2_835) := wR_ag (by omega) (Sg_fr hF911 (by decide)) (Ag_fr hF911 (by decide)) sf905
        have bln2_908 : (0 : Int) ≤ ln2_908 ∧ ln2_908 ≤ 3000 := e912 ▸ hW910.1 9
        have bfk2_909 : (0 : Int) ≤ fk2_909 ∧ fk2_909 ≤ 6 := e913 ▸ hW910.1 16
        refine .inl ⟨rfl, ?_⟩
        rcases q914 with ⟨a920, a921, a922, a923, a924⟩ | ⟨a925, a926⟩
        · have _q : True := trivial
          refine jx_ld (pc' := 277) (l' := L804) (st' := [.int (i32 (one))]) rfl (jl_iloadn gL804_1) ?_
          refine jx_rt (v := some (.int (i32 (one)))) rfl rfl rfl rfl rfl rfl ?_
          exact ⟨_, _, _, at2_832, fk2_909, nd2_835, ln2_908, rfl, rfl, hW910, hF915, hP916, by omega, ((hF911.1 10 rfl).trans (e841)), (e913), ((hF911.1 31 rfl).trans (e844)), (e912), by omega, by omega, by omega, by omega, by omega, by first | exact Or.inr ((⟨by omega, by omega, by omega, by omega, by omega, (wU_ch (m := (nd1 + 1)) sf917 (by omega) (by omega) (by omega) (by omega) (wR_var sf918 (by omega) (by omega) iv_9 (kq (P := kRef (1)) (show A907 7 (s).toNat = ks from (congrFun ((hF911.2 7 rfl).trans (((congrFun eA898 7).trans (uA_ne (by decide))).trans ((hF838.2 7 rfl).trans ((hF818.2 7 rfl).trans (((congrFun eA806 7).trans (uA_ne (by decide))).trans (hF795.2 7 rfl)))))) _).trans (ex_ks)) (by first | exact .inr ⟨by omega, iv_12⟩))) (wR_mono (by omega) (by omega) (by omega) sf919)), (NX_nd sf917)⟩))⟩
        · have _q : True := trivial
          refine jx_ld (pc' := 277) (l' := L804) (st' := [.int (i32 (one))]) rfl (jl_iloadn gL804_1) ?_
          refine jx_rt (v := some (.int (i32 (one)))) rfl rfl rfl rfl rfl rfl ?_
          exact ⟨_, _, _, at2_832, fk2_909, nd2_835, ln2_908, rfl, rfl, hW910, hF915, hP916, by omega, ((hF911.1 10 rfl).trans (e841)), (e913), ((hF911.1 31 rfl).trans (e844)), (e912), by omega, by omega, by omega, by omega, by omega, by first | exact Or.inl (⟨by omega, by omega, by omega⟩)⟩
  · have _q := h790
    exact absurd h790 (by omega)
set_option maxRecDepth 20000 in
set_option maxHeartbeats 4000000 in
theorem c_readGuard_at_222_0_0 {X : jX} {d : Nat} {Vs : Nat → Prop} {sb : Int} {c0 c1 : jC} {G : Nat → Int} {A : Nat → Nat → Int} {T : jH} {ln le at0 fk op0 nd tk0 li : Int} (hd : 71 ≤ d + 1) (hW : Wk G A) (e_ln : G 9 = ln) (e_le : A 4 (ln).toNat = le) (e_at0 : G 10 = at0) (e_fk : G 16 = fk) (e_op0 : G 15 = op0) (e_nd : G 31 = nd) (e_tk0 : G 11 = tk0) (e_li : G 3 = li) (i_SV : SV Vs sb G A) (p_0 : 0 ≤ op0 ∧ op0 ≤ 8) (p_1 : fk = 0) (p_2 : nd ≤ 2 * at0 - tz tk0 + 42) (p_3 : at0 ≤ le) (p_4 : ln < li) : ∀ (L : jL) (Gx : Nat → Int) (Ax : Nat → Nat → Int) (one s at1 tk1 fk1 nd1 op1 ks : Int), jGet L 0 = some (.ref 66) → jGet L 6 = some (.int (i32 (0))) → jGet L 7 = some (.int (i32 (0))) → jGet L 5 = some (.int (i32 (0))) → jGet L 1 = some (.int (i32 one)) → jGet L 4 = some (.int (i32 s)) → Wk Gx Ax → Fr [9, 10, 11, 12, 13, 14, 15, 16, 17, 18, 31] [15, 16, 17, 18, 19, 20, 21, 22, 24, 28] G A Gx Ax → Pf nd A Ax → Gx 10 = at1 → Gx 11 = tk1 → Gx 16 = fk1 → Gx 31 = nd1 → Gx 15 = op1 → Ax 7 (s).toNat = ks → Gx 9 = ln → ((-2147483648 : Int) ≤ one ∧ one ≤ 2147483647) → ((-2147483648 : Int) ≤ s ∧ s ≤ 2147483647) → (at0 ≤ at1) → (at1 ≤ le) → (nd ≤ nd1) → (op1 = op0) → (one = nd) → (one ≤ 6998 ∧ one < nd1) → (fk1 = 0) → (nd1 - nd ≤ (2 * at1 - tz tk1) - (2 * at0 - tz tk0)) → (0 ≤ s ∧ s ≤ 201) → (SY Vs sb (s)) → (ND Ax (one) (33) (0) (0) (0) (0) (0) (0)) → (kVal (ks)) → wj X d jm303 (222, L, [], rV c0 c1 Gx Ax T) (fun o V' => ∃ (G' : Nat → Int) (A' : Nat → Nat → Int) (r : Int) (at2 : Int) (fk2 : Int) (nd2 : Int) (ln2 : Int), V' = rV c0 c1 G' A' T ∧ o = .inl (some (.int (i32 r))) ∧ Wk G' A' ∧ Fr [9, 10, 11, 12, 13, 14, 15, 16, 17, 18, 31] [15, 16, 17, 18, 19, 20, 21, 22, 24, 28] G A G' A' ∧ Pf nd A A' ∧ ((-2147483648 : Int) ≤ r ∧ r ≤ 2147483647) ∧ G' 10 = at2 ∧ G' 16 = fk2 ∧ G' 31 = nd2 ∧ G' 9 = ln2 ∧ (at0 ≤ at2) ∧ (at2 ≤ le) ∧ (nd ≤ nd2) ∧ (0 ≤ r) ∧ (r ≤ nd2) ∧ (((1 ≤ fk2) ∧ (ln2 = ln) ∧ (nd2 - nd ≤ 2 * at2 - 2 * at0 + 12)) ∨ ((fk2 = 0) ∧ (ln2 = ln + 1) ∧ (nd2 - nd ≤ 2 * at2 - (2 * at0 - tz tk0) + 0) ∧ (nd ≤ r) ∧ (r < nd2) ∧ (wU A' Vs sb (r) (nd) (nd2)) ∧ (NX A' (r))))) := by
  have hF0 : Fr [9, 10, 11, 12, 13, 14, 15, 16, 17, 18, 31] [15, 16, 17, 18, 19, 20, 21, 22, 24, 28] G A G A := Fr_rf
  have hP0 : Pf nd A A := Pf_rf
  have b_ln : (0 : Int) ≤ ln ∧ ln ≤ 3000 := e_ln ▸ hW.1 9
  have b_le : (0 : Int) ≤ le ∧ le ≤ 3000 := e_le ▸ hW.2 4 _
  have b_at0 : (0 : Int) ≤ at0 ∧ at0 ≤ 3002 := e_at0 ▸ hW.1 10
  have b_fk : (0 : Int) ≤ fk ∧ fk ≤ 6 := e_fk ▸ hW.1 16
  have b_op0 : (-2147483648 : Int) ≤ op0 ∧ op0 ≤ 2147483647 := e_op0 ▸ hW.1 15
  have b_nd : (0 : Int) ≤ nd ∧ nd ≤ 6999 := e_nd ▸ hW.1 31
  have z_tk0 := tz_f tk0
  have b_tk0 : (0 : Int) ≤ tk0 ∧ tk0 ≤ 5 := e_tk0 ▸ hW.1 11
  have b_li : (0 : Int) ≤ li ∧ li ≤ 3000 := e_li ▸ hW.1 3
  intro L Gx Ax one s at1 tk1 fk1 nd1 op1 ks gL_0 gL_6 gL_7 gL_5 gL_1 gL_4 hWx hFx hPx ex_at1 ex_tk1 ex_fk1 ex_nd1 ex_op1 ex_ks fx_9 rx_one rx_s iv_0 iv_1 iv_2 iv_3 iv_4 iv_5 iv_6 iv_7 iv_8 iv_9 iv_10 iv_11
  have b_at1 : (0 : Int) ≤ at1 ∧ at1 ≤ 3002 := ex_at1 ▸ hWx.1 10
  have z_tk1 := tz_f tk1
  have b_tk1 : (0 : Int) ≤ tk1 ∧ tk1 ≤ 5 := ex_tk1 ▸ hWx.1 11
  have b_fk1 : (0 : Int) ≤ fk1 ∧ fk1 ≤ 6 := ex_fk1 ▸ hWx.1 16
  have b_nd1 : (0 : Int) ≤ nd1 ∧ nd1 ≤ 6999 := ex_nd1 ▸ hWx.1 31
  have b_op1 : (-2147483648 : Int) ≤ op1 ∧ op1 ≤ 2147483647 := ex_op1 ▸ hWx.1 15
  have b_ks : (0 : Int) ≤ ks ∧ ks ≤ 14 := ex_ks ▸ hWx.2 7 _
  refine jx_ld (pc' := 223) (l' := L) (st' := [.ref 66]) rfl (jl_aloadn gL_0) ?_
  refine jx_ld (pc' := 225) (l' := L) (st' := [.int (i32 (0)), .ref 66]) rfl (jl_iload gL_6) ?_
  refine jx_if_eq (pc' := 228) (tg := 232) rfl rfl rfl (by decide) (by decide) (fun h927 => ?_) (fun h927 => ?_)
  · have _q := h927
    refine jx_ar (pc' := 233) (st' := [.int (i32 (2)), .ref 66]) rfl rfl rfl rfl ?_
    refine jx_ld (pc' := 235) (l' := L) (st' := [.int (i32 (s)), .int (i32 (2)), .ref 66]) rfl (jl_iload gL_4) ?_
    refine jx_ld (pc' := 237) (l' := L) (st' := [.int (i32 (0)), .int (i32 (s)), .int (i32 (2)), .ref 66]) rfl (jl_iload gL_5) ?_
    refine jx_ar (pc' := 238) (st' := [.int (i32 (0)), .int (i32 (0)), .int (i32 (s)), .int (i32 (2)), .ref 66]) rfl rfl rfl rfl ?_
    refine jx_ar (pc' := 239) (st' := [.int (i32 (0)), .int (i32 (0)), .int (i32 (0)), .int (i32 (s)), .int (i32 (2)), .ref 66]) rfl rfl rfl rfl ?_
    refine jx_vr (pc' := 242) (as := [.int (i32 (2)), .int (i32 (s)), .int (i32 (0)), .int (i32 (0)), .int (i32 (0))]) (st := []) rfl rfl rfl rfl ⟨rfl, rfl, Nat.le_of_ble_eq_true rfl⟩ rfl rfl (c_node (dd := d) (hd := by omega) (hW := hWx) (kind := 2) (a := s) (b := 0) (c := 0) (e := 0) (nd := nd1) (e_nd := show Gx 31 = nd1 from (ex_nd1))  (h_kind := ⟨(by decide), (by decide)⟩) (h_a := ⟨(Int.le_trans (by decide : (-2147483648 : Int) ≤ -2147483648) rx_s.1), (Int.le_trans rx_s.2 (by decide : (2147483647 : Int) ≤ 2147483647))⟩) (h_b := ⟨(by decide), (by decide)⟩) (h_c := ⟨(by decide), (by decide)⟩) (h_e := ⟨(by decide), (by decide)⟩)  (p_0 := by omega) (p_1 := by omega)) (fun o V' hq => ?_)
    obtain ⟨G928, A929, nd2_930, rfl, rfl, hW931, hF932, hQ933, e934, p935, p936, -⟩ := hq
    have hF938 := Fr_tr hFx hF932 (Fr_sub (by decide)) (Fr_sub (by decide))
    have hP939 := Pf_tr hPx hQ933 (by omega)
    have sf940 : ND A929 (one) (33) (0) (0) (0) (0) (0) (0) := ND_ag (by omega) (Ag_pf hQ933 (by omega)) iv_10
    have bnd2_930 : (0 : Int) ≤ nd2_930 ∧ nd2_930 ≤ 6999 := e934 ▸ hW931.1 31
    refine .inr ⟨_, rfl, ?_⟩
    refine jx_ld (pc' := 244) (l' := jSto1 L 10 (.int (i32 (nd1)))) (st' := []) rfl rfl ?_
    obtain ⟨L941, eL941⟩ : ∃ q, q = jSto1 L 10 (.int (i32 (nd1))) := ⟨_, rfl⟩
    rw [← eL941]
    have gL941_0 : jGet L941 0 = some (.ref 66) := eL941 ▸ jg_ne (by decide) gL_0 rfl
    have gL941_6 : jGet L941 6 = some (.int (i32 (0))) := eL941 ▸ jg_ne (by decide) gL_6 rfl
    have gL941_7 : jGet L941 7 = some (.int (i32 (0))) := eL941 ▸ jg_ne (by decide) gL_7 rfl
    have gL941_5 : jGet L941 5 = some (.int (i32 (0))) := eL941 ▸ jg_ne (by decide) gL_5 rfl
    have gL941_1 : jGet L941 1 = some (.int (i32 (one))) := eL941 ▸ jg_ne (by decide) gL_1 rfl
    have gL941_4 : jGet L941 4 = some (.int (i32 (s))) := eL941 ▸ jg_ne (by decide) gL_4 rfl
    have gL941_10 : jGet L941 10 = some (.int (i32 (nd1))) := eL941 ▸ jg_eq
    refine jx_ld (pc' := 246) (l' := L941) (st' := [.int (i32 (0))]) rfl (jl_iload gL941_7) ?_
    refine jx_if_eq (pc' := 249) (tg := 278) rfl rfl rfl (by decide) (by decide) (fun h942 => ?_) (fun h942 => ?_)
    · have _q := h942
      refine jx_ld (pc' := 279) (l' := L941) (st' := [.ref 66]) rfl (jl_aloadn gL941_0) ?_
      refine jx_ld (pc' := 281) (l' := L941) (st' := [.int (i32 (nd1)), .ref 66]) rfl (jl_iload gL941_10) ?_
      refine jx_vr (pc' := 284) (as := [.int (i32 (nd1))]) (st := []) rfl rfl rfl rfl ⟨rfl, rfl, Nat.le_of_ble_eq_true rfl⟩ rfl rfl (c_readRest (dd := d) (k := 9) (hE := RE_all X 9) (hd := by omega) (hW := hW931) (x := nd1) (lo := (one + 1)) (ln := ln) (e_ln := show G928 9 = ln from ((hF932.1 9 rfl).trans (fx_9))) (le := le) (e_le := show A929 4 (ln).toNat = le from (congrFun ((hF932.2 4 rfl).trans (hFx.2 4 rfl)) _).trans (e_le)) (at0 := at1) (e_at0 := show G928 10 = at1 from ((hF932.1 10 rfl).trans (ex_at1))) (fk := fk1) (e_fk := show G928 16 = fk1 from ((hF932.1 16 rfl).trans (ex_fk1))) (op0 := op1) (e_op0 := show G928 15 = op1 from ((hF932.1 15 rfl).trans (ex_op1))) (nd := nd2_930) (e_nd := show G928 31 = nd2_930 from (e934)) (tk0 := tk1) (e_tk0 := show G928 11 = tk1 from ((hF932.1 11 rfl).trans (ex_tk1))) (i_SV := (SV_ext (((hF932.1 29 rfl).trans (hFx.1 29 rfl))) (((hF932.2 14 rfl).trans (hFx.2 14 rfl))) i_SV)) (h_x := ⟨(Int.le_trans (by decide : (-2147483648 : Int) ≤ 0) b_nd1.1), (Int.le_trans b_nd1.2 (by decide : (6999 : Int) ≤ 2147483647))⟩)  (p_0 := by omega) (p_1 := by omega) (p_2 := by omega) (p_3 := by omega) (p_4 := by omega) (p_5 := by omega) (p_6 := by omega) (p_7 := by omega) (p_8 := by omega) (p_9 := (fun _ => (wE_var p936 (by omega) (by omega) iv_9 (kq (P := kVal) (show A929 7 (s).toNat = ks from (congrFun (hF932.2 7 rfl) _).trans (ex_ks)) iv_11))))) (fun o V' hq => ?_)
      obtain ⟨G943, A944, r945, at2_946, fk2_947, op2_948, nd2_949, tk2_950, rfl, rfl, hW951, hF952, hQ953, b954, e955, e956, e957, e958, e959, p960, p961, p962, p963, p964, p965, q966⟩ := hq
      have hF967 := Fr_tr hF938 hF952 (Fr_sub (by decide)) (Fr_sub (by decide))
      have hP968 := Pf_tr hP939 hQ953 (by omega)
      have sf969 : ND A944 (one) (33) (0) (0) (0) (0) (0) (0) := ND_ag (by omega) (Ag_pf hQ953 (by omega)) sf940
      have sf970 : ND A944 (nd1) (2) (s) (0) (0) (0) (0) (0) := ND_ag (by omega) (Ag_pf hQ953 (by omega)) p936
      have bat2_946 : (0 : Int) ≤ at2_946 ∧ at2_946 ≤ 3002 := e955 ▸ hW951.1 10
      have bfk2_947 : (0 : Int) ≤ fk2_947 ∧ fk2_947 ≤ 6 := e956 ▸ hW951.1 16
      have bop2_948 : (-2147483648 : Int) ≤ op2_948 ∧ op2_948 ≤ 2147483647 := e957 ▸ hW951.1 15
      have bnd2_949 : (0 : Int) ≤ nd2_949 ∧ nd2_949 ≤ 6999 := e958 ▸ hW951.1 31
      have ztk2_950 := tz_b tk2_950
      have btk2_950 : (0 : Int) ≤ tk2_950 ∧ tk2_950 ≤ 5 := e959 ▸ hW951.1 11
      refine .inr ⟨_, rfl, ?_⟩
      rcases q966 with ⟨a971, a972, a973, a974, a975, a976⟩ | ⟨a977, a978, a979⟩ | ⟨a980, a981, a982, a983⟩
      · have _q : True := trivial
        exfalso
        omega
      · have _q : True := trivial
        refine jx_ld (pc' := 285) (l' := jSto1 L941 2 (.int (i32 (r945)))) (st' := []) rfl rfl ?_
        obtain ⟨L984, eL984⟩ : ∃ q, q = jSto1 L941 2 (.int (i32 (r945))) := ⟨_, rfl⟩
        rw [← eL984]
        have gL984_0 : jGet L984 0 = some (.ref 66) := eL984 ▸ jg_ne (by decide) gL941_0 rfl
        have gL984_6 : jGet L984 6 = some (.int (i32 (0))) := eL984 ▸ jg_ne (by decide) gL941_6 rfl
        have gL984_7 : jGet L984 7 = some (.int (i32 (0))) := eL984 ▸ jg_ne (by decide) gL941_7 rfl
        have gL984_5 : jGet L984 5 = some (.int (i32 (0))) := eL984 ▸ jg_ne (by decide) gL941_5 rfl
        have gL984_1 : jGet L984 1 = some (.int (i32 (one))) := eL984 ▸ jg_ne (by decide) gL941_1 rfl
        have gL984_4 : jGet L984 4 = some (.int (i32 (s))) := eL984 ▸ jg_ne (by decide) gL941_4 rfl
        have gL984_10 : jGet L984 10 = some (.int (i32 (nd1))) := eL984 ▸ jg_ne (by decide) gL941_10 rfl
        have gL984_2 : jGet L984 2 = some (.int (i32 (r945))) := eL984 ▸ jg_eq
        refine jx_go (tg := 293) rfl rfl ?_
        have z985 := tz_f (tk2_950)
        exact c_readGuard_at_293p (X := X) (d := d) (Vs := Vs) (sb := sb) (c0 := c0) (c1 := c1) (G := G) (A := A) (T := T) (ln := ln) (le := le) (at0 := at0) (fk := fk) (op0 := op0) (nd := nd) (tk0 := tk0) (li := li) (hd := hd) (hW := hW) (e_ln := e_ln) (e_le := e_le) (e_at0 := e_at0) (e_fk := e_fk) (e_op0 := e_op0) (e_nd := e_nd) (e_tk0 := e_tk0) (e_li := e_li) (i_SV := i_SV) (p_0 := p_0) (p_1 := p_1) (p_2 := p_2) (p_3 := p_3) (p_4 := p_4) L984 G943 A944 (one) (r945) (at2_946) (tk2_950) (fk2_947) (nd2_949) (op2_948) gL984_0 gL984_1 gL984_2 hW951 hF967 hP968 ((e955)) ((e959)) ((e956)) ((e958)) ((e957)) (((hF952.1 9 rfl).trans ((hF932.1 9 rfl).trans (fx_9)))) (by omega) (by omega) (by omega) (by omega) (by omega) (by omega) (by omega) (by omega) (by omega) (by omega)
      · have _q : True := trivial
        refine jx_ld (pc' := 285) (l' := jSto1 L941 2 (.int (i32 (r945)))) (st' := []) rfl rfl ?_
        obtain ⟨L986, eL986⟩ : ∃ q, q = jSto1 L941 2 (.int (i32 (r945))) := ⟨_, rfl⟩
        rw [← eL986]
        have gL986_0 : jGet L986 0 = some (.ref 66) := eL986 ▸ jg_ne (by decide) gL941_0 rfl
        have gL986_6 : jGet L986 6 = some (.int (i32 (0))) := eL986 ▸ jg_ne (by decide) gL941_6 rfl
        have gL986_7 : jGet L986 7 = some (.int (i32 (0))) := eL986 ▸ jg_ne (by decide) gL941_7 rfl
        have gL986_5 : jGet L986 5 = some (.int (i32 (0))) := eL986 ▸ jg_ne (by decide) gL941_5 rfl
        have gL986_1 : jGet L986 1 = some (.int (i32 (one))) := eL986 ▸ jg_ne (by decide) gL941_1 rfl
        have gL986_4 : jGet L986 4 = some (.int (i32 (s))) := eL986 ▸ jg_ne (by decide) gL941_4 rfl
        have gL986_10 : jGet L986 10 = some (.int (i32 (nd1))) := eL986 ▸ jg_ne (by decide) gL941_10 rfl
        have gL986_2 : jGet L986 2 = some (.int (i32 (r945))) := eL986 ▸ jg_eq
        refine jx_go (tg := 293) rfl rfl ?_
        have z987 := tz_f (tk2_950)
        exact c_readGuard_at_293 (X := X) (d := d) (Vs := Vs) (sb := sb) (c0 := c0) (c1 := c1) (G := G) (A := A) (T := T) (ln := ln) (le := le) (at0 := at0) (fk := fk) (op0 := op0) (nd := nd) (tk0 := tk0) (li := li) (hd := hd) (hW := hW) (e_ln := e_ln) (e_le := e_le) (e_at0 := e_at0) (e_fk := e_fk) (e_op0 := e_op0) (e_nd := e_nd) (e_tk0 := e_tk0) (e_li := e_li) (i_SV := i_SV) (p_0 := p_0) (p_1 := p_1) (p_2 := p_2) (p_3 := p_3) (p_4 := p_4) L986 G943 A944 (one) (r945) (at2_946) (tk2_950) (fk2_947) (nd2_949) (op2_948) gL986_0 gL986_1 gL986_2 hW951 hF967 hP968 ((e955)) ((e959)) ((e956)) ((e958)) ((e957)) (((hF952.1 9 rfl).trans ((hF932.1 9 rfl).trans (fx_9)))) (by omega) (by omega) (by omega) (by omega) (by omega) (by omega) (by omega) (by omega) (by omega) (by omega) (by omega) (sf969) ((wE_mono (by omega) (by omega) (by omega) a983))
    · have _q := h942
      exact absurd h942 (by omega)
  · have _q := h927
    exact absurd h927 (by omega)
set_option maxRecDepth 20000 in
set_option maxHeartbeats 4000000 in
theorem c_readGuard_at_157_1_1 {X : jX} {d : Nat} {Vs : Nat → Prop} {sb : Int} {c0 c1 : jC} {G : Nat → Int} {A : Nat → Nat → Int} {T : jH} {ln le at0 fk op0 nd tk0 li : Int} (hd : 71 ≤ d + 1) (hW : Wk G A) (e_ln : G 9 = ln) (e_le : A 4 (ln).toNat = le) (e_at0 : G 10 = at0) (e_fk : G 16 = fk) (e_op0 : G 15 = op0) (e_nd : G 31 = nd) (e_tk0 : G 11 = tk0) (e_li : G 3 = li) (i_SV : SV Vs sb G A) (p_0 : 0 ≤ op0 ∧ op0 ≤ 8) (p_1 : fk = 0) (p_2 : nd ≤ 2 * at0 - tz tk0 + 42) (p_3 : at0 ≤ le) (p_4 : ln < li) : ∀ (L : jL) (Gx : Nat → Int) (Ax : Nat → Nat → Int) (one pl s ix at1 tk1 fk1 nd1 op1 ks : Int), jGet L 0 = some (.ref 66) → jGet L 6 = some (.int (i32 (1))) → jGet L 7 = some (.int (i32 (1))) → jGet L 8 = some (.int (i32 (ks))) → jGet L 1 = some (.int (i32 one)) → jGet L 3 = some (.int (i32 pl)) → jGet L 4 = some (.int (i32 s)) → jGet L 5 = some (.int (i32 ix)) → Wk Gx Ax → Fr [9, 10, 11, 12, 13, 14, 15, 16, 17, 18, 31] [15, 16, 17, 18, 19, 20, 21, 22, 24, 28] G A Gx Ax → Pf nd A Ax → Gx 10 = at1 → Gx 11 = tk1 → Gx 16 = fk1 → Gx 31 = nd1 → Gx 15 = op1 → Ax 7 (s).toNat = ks → Gx 9 = ln → ((-2147483648 : Int) ≤ one ∧ one ≤ 2147483647) → ((-2147483648 : Int) ≤ pl ∧ pl ≤ 2147483647) → ((-2147483648 : Int) ≤ s ∧ s ≤ 2147483647) → ((-2147483648 : Int) ≤ ix ∧ ix ≤ 2147483647) → (at0 ≤ at1) → (at1 ≤ le) → (nd ≤ nd1) → (op1 = op0) → (one = nd) → (one ≤ 6998 ∧ one < nd1) → (fk1 = 0) → (nd1 - nd ≤ (2 * at1 - tz tk1) - (2 * at0 - tz tk0)) → (0 ≤ s ∧ s ≤ 201) → (-3000 ≤ pl ∧ pl ≤ 3002) → (SY Vs sb (s)) → (ND Ax (one) (33) (0) (0) (0) (0) (0) (0)) → (tz tk1 = 1) → (wE Ax Vs sb (20) (ix) (one + 1) (nd1)) → wj X d jm303 (157, L, [], rV c0 c1 Gx Ax T) (fun o V' => ∃ (G' : Nat → Int) (A' : Nat → Nat → Int) (r : Int) (at2 : Int) (fk2 : Int) (nd2 : Int) (ln2 : Int), V' = rV c0 c1 G' A' T ∧ o = .inl (some (.int (i32 r))) ∧ Wk G' A' ∧ Fr [9, 10, 11, 12, 13, 14, 15, 16, 17, 18, 31] [15, 16, 17, 18, 19, 20, 21, 22, 24, 28] G A G' A' ∧ Pf nd A A' ∧ ((-2147483648 : Int) ≤ r ∧ r ≤ 2147483647) ∧ G' 10 = at2 ∧ G' 16 = fk2 ∧ G' 31 = nd2 ∧ G' 9 = ln2 ∧ (at0 ≤ at2) ∧ (at2 ≤ le) ∧ (nd ≤ nd2) ∧ (0 ≤ r) ∧ (r ≤ nd2) ∧ (((1 ≤ fk2) ∧ (ln2 = ln) ∧ (nd2 - nd ≤ 2 * at2 - 2 * at0 + 12)) ∨ ((fk2 = 0) ∧ (ln2 = ln + 1) ∧ (nd2 - nd ≤ 2 * at2 - (2 * at0 - tz tk0) + 0) ∧ (nd ≤ r) ∧ (r < nd2) ∧ (wU A' Vs sb (r) (nd) (nd2)) ∧ (NX A' (r))))) := by
  have hF0 : Fr [9, 10, 11, 12, 13, 14, 15, 16, 17, 18, 31] [15, 16, 17, 18, 19, 20, 21, 22, 24, 28] G A G A := Fr_rf
  have hP0 : Pf nd A A := Pf_rf
  have b_ln : (0 : Int) ≤ ln ∧ ln ≤ 3000 := e_ln ▸ hW.1 9
  have b_le : (0 : Int) ≤ le ∧ le ≤ 3000 := e_le ▸ hW.2 4 _
  have b_at0 : (0 : Int) ≤ at0 ∧ at0 ≤ 3002 := e_at0 ▸ hW.1 10
  have b_fk : (0 : Int) ≤ fk ∧ fk ≤ 6 := e_fk ▸ hW.1 16
  have b_op0 : (-2147483648 : Int) ≤ op0 ∧ op0 ≤ 2147483647 := e_op0 ▸ hW.1 15
  have b_nd : (0 : Int) ≤ nd ∧ nd ≤ 6999 := e_nd ▸ hW.1 31
  have z_tk0 := tz_f tk0
  have b_tk0 : (0 : Int) ≤ tk0 ∧ tk0 ≤ 5 := e_tk0 ▸ hW.1 11
  have b_li : (0 : Int) ≤ li ∧ li ≤ 3000 := e_li ▸ hW.1 3
  intro L Gx Ax one pl s ix at1 tk1 fk1 nd1 op1 ks gL_0 gL_6 gL_7 gL_8 gL_1 gL_3 gL_4 gL_5 hWx hFx hPx ex_at1 ex_tk1 ex_fk1 ex_nd1 ex_op1 ex_ks fx_9 rx_one rx_pl rx_s rx_ix iv_0 iv_1 iv_2 iv_3 iv_4 iv_5 iv_6 iv_7 iv_8 iv_9 iv_10 iv_11 iv_12 iv_13
  have b_at1 : (0 : Int) ≤ at1 ∧ at1 ≤ 3002 := ex_at1 ▸ hWx.1 10
  have z_tk1 := tz_f tk1
  have b_tk1 : (0 : Int) ≤ tk1 ∧ tk1 ≤ 5 := ex_tk1 ▸ hWx.1 11
  have b_fk1 : (0 : Int) ≤ fk1 ∧ fk1 ≤ 6 := ex_fk1 ▸ hWx.1 16
  have b_nd1 : (0 : Int) ≤ nd1 ∧ nd1 ≤ 6999 := ex_nd1 ▸ hWx.1 31
  have b_op1 : (-2147483648 : Int) ≤ op1 ∧ op1 ≤ 2147483647 := ex_op1 ▸ hWx.1 15
  have b_ks : (0 : Int) ≤ ks ∧ ks ≤ 14 := ex_ks ▸ hWx.2 7 _
  refine jx_ld (pc' := 159) (l' := L) (st' := [.int (i32 (1))]) rfl (jl_iload gL_7) ?_
  refine jx_if_eq (pc' := 162) (tg := 189) rfl rfl rfl (by decide) (by decide) (fun h988 => ?_) (fun h988 => ?_)
  · have _q := h988
    exact absurd h988 (by omega)
  · have _q := h988
    refine jx_ld (pc' := 164) (l' := L) (st' := [.int (i32 (1))]) rfl (jl_iload gL_6) ?_
    refine jx_if_eq (pc' := 167) (tg := 181) rfl rfl rfl (by decide) (by decide) (fun h989 => ?_) (fun h989 => ?_)
    · have _q := h989
      exact absurd h989 (by omega)
    · have _q := h989
      refine jx_ld (pc' := 169) (l' := L) (st' := [.int (i32 (ks))]) rfl (jl_iload gL_8) ?_
      refine jx_ar (pc' := 170) (st' := [.int (i32 (4)), .int (i32 (ks))]) rfl rfl rfl rfl ?_
      refine jx_icmp_ne (pc' := 173) (tg := 177) rfl rfl rfl (Int.le_trans (by decide : (-2147483648 : Int) ≤ 0) b_ks.1) (Int.le_trans b_ks.2 (by decide : (14 : Int) ≤ 2147483647)) (by decide) (by decide) (fun h990 => ?_) (fun h990 => ?_)
      · have _q := h990
        refine jx_ar (pc' := 178) (st' := [.int (i32 (0))]) rfl rfl rfl rfl ?_
        refine jx_go (tg := 207) rfl rfl ?_
        refine jx_ld (pc' := 209) (l' := jSto1 L 9 (.int (i32 (0)))) (st' := []) rfl rfl ?_
        obtain ⟨L991, eL991⟩ : ∃ q, q = jSto1 L 9 (.int (i32 (0))) := ⟨_, rfl⟩
        rw [← eL991]
        have gL991_0 : jGet L991 0 = some (.ref 66) := eL991 ▸ jg_ne (by decide) gL_0 rfl
        have gL991_6 : jGet L991 6 = some (.int (i32 (1))) := eL991 ▸ jg_ne (by decide) gL_6 rfl
        have gL991_7 : jGet L991 7 = some (.int (i32 (1))) := eL991 ▸ jg_ne (by decide) gL_7 rfl
        have gL991_8 : jGet L991 8 = some (.int (i32 (ks))) := eL991 ▸ jg_ne (by decide) gL_8 rfl
        have gL991_1 : jGet L991 1 = some (.int (i32 (one))) := eL991 ▸ jg_ne (by decide) gL_1 rfl
        have gL991_3 : jGet L991 3 = some (.int (i32 (pl))) := eL991 ▸ jg_ne (by decide) gL_3 rfl
        have gL991_4 : jGet L991 4 = some (.int (i32 (s))) := eL991 ▸ jg_ne (by decide) gL_4 rfl
        have gL991_5 : jGet L991 5 = some (.int (i32 (ix))) := eL991 ▸ jg_ne (by decide) gL_5 rfl
        have gL991_9 : jGet L991 9 = some (.int (i32 (0))) := eL991 ▸ jg_eq
        refine jx_ld (pc' := 211) (l' := L991) (st' := [.int (i32 (0))]) rfl (jl_iload gL991_9) ?_
        refine jx_if_ne (pc' := 214) (tg := 222) rfl rfl rfl (by decide) (by decide) (fun h992 => ?_) (fun h992 => ?_)
        · have _q := h992
          exact absurd h992 (by omega)
        · have _q := h992
          refine jx_ld (pc' := 215) (l' := L991) (st' := [.ref 66]) rfl (jl_aloadn gL991_0) ?_
          refine jx_ar (pc' := 216) (st' := [.int (i32 (4)), .ref 66]) rfl rfl rfl rfl ?_
          refine jx_ld (pc' := 217) (l' := L991) (st' := [.int (i32 (pl)), .int (i32 (4)), .ref 66]) rfl (jl_iloadn gL991_3) ?_
          refine jx_vr (pc' := 220) (as := [.int (i32 (4)), .int (i32 (pl))]) (st := []) rfl rfl rfl rfl ⟨rfl, rfl, Nat.le_of_ble_eq_true rfl⟩ rfl rfl (c_fail (dd := d) (hd := by omega) (hW := hWx) (kind := 4) (place := pl) (fk := fk1) (e_fk := show Gx 16 = fk1 from (ex_fk1))  (h_kind := ⟨(by decide), (by decide)⟩) (h_place := ⟨(Int.le_trans (by decide : (-2147483648 : Int) ≤ -2147483648) rx_pl.1), (Int.le_trans rx_pl.2 (by decide : (2147483647 : Int) ≤ 2147483647))⟩)  (p_0 := by omega) (p_1 := by omega)) (fun o V' hq => ?_)
          obtain ⟨G993, A994, fk2_995, rfl, rfl, hW996, hF997, e998, p999, -⟩ := hq
          have hF1001 := Fr_tr hFx hF997 (Fr_sub (by decide)) (Fr_sub (by decide))
          have hP1002 := Pf_f hPx hF997 (by decide)
          have sf1003 : ND A994 (one) (33) (0) (0) (0) (0) (0) (0) := ND_ag (by omega) (Ag_fr hF997 (by decide)) iv_11
          have sf1004 : wE A994 Vs sb (20) (ix) (one + 1) (nd1) := wE_ag (by omega) (Sg_fr hF997 (by decide)) (Ag_fr hF997 (by decide)) iv_13
          have bfk2_995 : (0 : Int) ≤ fk2_995 ∧ fk2_995 ≤ 6 := e998 ▸ hW996.1 16
          refine .inl ⟨rfl, ?_⟩
          refine jx_ar (pc' := 221) (st' := [.int (i32 (0))]) rfl rfl rfl rfl ?_
          refine jx_rt (v := some (.int (i32 (0)))) rfl rfl rfl rfl rfl rfl ?_
          exact ⟨_, _, _, at1, fk2_995, nd1, ln, rfl, rfl, hW996, hF1001, hP1002, by omega, ((hF997.1 10 rfl).trans (ex_at1)), (e998), ((hF997.1 31 rfl).trans (ex_nd1)), ((hF997.1 9 rfl).trans (fx_9)), by omega, by omega, by omega, by omega, by omega, by first | exact Or.inl (⟨by omega, by omega, by omega⟩)⟩
      · have _q := h990
        refine jx_ar (pc' := 174) (st' := [.int (i32 (1))]) rfl rfl rfl rfl ?_
        refine jx_go (tg := 207) rfl rfl ?_
        refine jx_ld (pc' := 209) (l' := jSto1 L 9 (.int (i32 (1)))) (st' := []) rfl rfl ?_
        obtain ⟨L1005, eL1005⟩ : ∃ q, q = jSto1 L 9 (.int (i32 (1))) := ⟨_, rfl⟩
        rw [← eL1005]
        have gL1005_0 : jGet L1005 0 = some (.ref 66) := eL1005 ▸ jg_ne (by decide) gL_0 rfl
        have gL1005_6 : jGet L1005 6 = some (.int (i32 (1))) := eL1005 ▸ jg_ne (by decide) gL_6 rfl
        have gL1005_7 : jGet L1005 7 = some (.int (i32 (1))) := eL1005 ▸ jg_ne (by decide) gL_7 rfl
        have gL1005_8 : jGet L1005 8 = some (.int (i32 (ks))) := eL1005 ▸ jg_ne (by decide) gL_8 rfl
        have gL1005_1 : jGet L1005 1 = some (.int (i32 (one))) := eL1005 ▸ jg_ne (by decide) gL_1 rfl
        have gL1005_3 : jGet L1005 3 = some (.int (i32 (pl))) := eL1005 ▸ jg_ne (by decide) gL_3 rfl
        have gL1005_4 : jGet L1005 4 = some (.int (i32 (s))) := eL1005 ▸ jg_ne (by decide) gL_4 rfl
        have gL1005_5 : jGet L1005 5 = some (.int (i32 (ix))) := eL1005 ▸ jg_ne (by decide) gL_5 rfl
        have gL1005_9 : jGet L1005 9 = some (.int (i32 (1))) := eL1005 ▸ jg_eq
        refine jx_ld (pc' := 211) (l' := L1005) (st' := [.int (i32 (1))]) rfl (jl_iload gL1005_9) ?_
        refine jx_if_ne (pc' := 214) (tg := 222) rfl rfl rfl (by decide) (by decide) (fun h1006 => ?_) (fun h1006 => ?_)
        · have _q := h1006
          have z1007 := tz_f (tk1)
          exact c_readGuard_at_222_1_1 (X := X) (d := d) (Vs := Vs) (sb := sb) (c0 := c0) (c1 := c1) (G := G) (A := A) (T := T) (ln := ln) (le := le) (at0 := at0) (fk := fk) (op0 := op0) (nd := nd) (tk0 := tk0) (li := li) (hd := hd) (hW := hW) (e_ln := e_ln) (e_le := e_le) (e_at0 := e_at0) (e_fk := e_fk) (e_op0 := e_op0) (e_nd := e_nd) (e_tk0 := e_tk0) (e_li := e_li) (i_SV := i_SV) (p_0 := p_0) (p_1 := p_1) (p_2 := p_2) (p_3 := p_3) (p_4 := p_4) L1005 Gx Ax (one) (s) (ix) (at1) (tk1) (fk1) (nd1) (op1) (ks) gL1005_0 gL1005_6 gL1005_7 gL1005_1 gL1005_4 gL1005_5 hWx hFx hPx ((ex_at1)) ((ex_tk1)) ((ex_fk1)) ((ex_nd1)) ((ex_op1)) ((ex_ks)) ((fx_9)) (by omega) (by omega) (by omega) (by omega) (by omega) (by omega) (by omega) (by omega) (by omega) (by omega) (by omega) (by omega) (iv_10) (iv_11) (by omega) (by omega) (iv_13)
        · have _q := h1006
          exact absurd h1006 (by omega)
set_option maxRecDepth 20000 in
set_option maxHeartbeats 4000000 in
theorem c_readGuard_at_157_1_0 {X : jX} {d : Nat} {Vs : Nat → Prop} {sb : Int} {c0 c1 : jC} {G : Nat → Int} {A : Nat → Nat → Int} {T : jH} {ln le at0 fk op0 nd tk0 li : Int} (hd : 71 ≤ d + 1) (hW : Wk G A) (e_ln : G 9 = ln) (e_le : A 4 (ln).toNat = le) (e_at0 : G 10 = at0) (e_fk : G 16 = fk) (e_op0 : G 15 = op0) (e_nd : G 31 = nd) (e_tk0 : G 11 = tk0) (e_li : G 3 = li) (i_SV : SV Vs sb G A) (p_0 : 0 ≤ op0 ∧ op0 ≤ 8) (p_1 : fk = 0) (p_2 : nd ≤ 2 * at0 - tz tk0 + 42) (p_3 : at0 ≤ le) (p_4 : ln < li) : ∀ (L : jL) (Gx : Nat → Int) (Ax : Nat → Nat → Int) (one pl s ix at1 tk1 fk1 nd1 op1 ks : Int), jGet L 0 = some (.ref 66) → jGet L 6 = some (.int (i32 (1))) → jGet L 7 = some (.int (i32 (0))) → jGet L 8 = some (.int (i32 (ks))) → jGet L 1 = some (.int (i32 one)) → jGet L 3 = some (.int (i32 pl)) → jGet L 4 = some (.int (i32 s)) → jGet L 5 = some (.int (i32 ix)) → Wk Gx Ax → Fr [9, 10, 11, 12, 13, 14, 15, 16, 17, 18, 31] [15, 16, 17, 18, 19, 20, 21, 22, 24, 28] G A Gx Ax → Pf nd A Ax → Gx 10 = at1 → Gx 11 = tk1 → Gx 16 = fk1 → Gx 31 = nd1 → Gx 15 = op1 → Ax 7 (s).toNat = ks → Gx 9 = ln → ((-2147483648 : Int) ≤ one ∧ one ≤ 2147483647) → ((-2147483648 : Int) ≤ pl ∧ pl ≤ 2147483647) → ((-2147483648 : Int) ≤ s ∧ s ≤ 2147483647) → ((-2147483648 : Int) ≤ ix ∧ ix ≤ 2147483647) → (at0 ≤ at1) → (at1 ≤ le) → (nd ≤ nd1) → (op1 = op0) → (one = nd) → (one ≤ 6998 ∧ one < nd1) → (fk1 = 0) → (nd1 - nd ≤ (2 * at1 - tz tk1) - (2 * at0 - tz tk0)) → (0 ≤ s ∧ s ≤ 201) → (-3000 ≤ pl ∧ pl ≤ 3002) → (SY Vs sb (s)) → (ND Ax (one) (33) (0) (0) (0) (0) (0) (0)) → (wE Ax Vs sb (20) (ix) (one + 1) (nd1)) → wj X d jm303 (157, L, [], rV c0 c1 Gx Ax T) (fun o V' => ∃ (G' : Nat → Int) (A' : Nat → Nat → Int) (r : Int) (at2 : Int) (fk2 : Int) (nd2 : Int) (ln2 : Int), V' = rV c0 c1 G' A' T ∧ o = .inl (some (.int (i32 r))) ∧ Wk G' A' ∧ Fr [9, 10, 11, 12, 13, 14, 15, 16, 17, 18, 31] [15, 16, 17, 18, 19, 20, 21, 22, 24, 28] G A G' A' ∧ Pf nd A A' ∧ ((-2147483648 : Int) ≤ r ∧ r ≤ 2147483647) ∧ G' 10 = at2 ∧ G' 16 = fk2 ∧ G' 31 = nd2 ∧ G' 9 = ln2 ∧ (at0 ≤ at2) ∧ (at2 ≤ le) ∧ (nd ≤ nd2) ∧ (0 ≤ r) ∧ (r ≤ nd2) ∧ (((1 ≤ fk2) ∧ (ln2 = ln) ∧ (nd2 - nd ≤ 2 * at2 - 2 * at0 + 12)) ∨ ((fk2 = 0) ∧ (ln2 = ln + 1) ∧ (nd2 - nd ≤ 2 * at2 - (2 * at0 - tz tk0) + 0) ∧ (nd ≤ r) ∧ (r < nd2) ∧ (wU A' Vs sb (r) (nd) (nd2)) ∧ (NX A' (r))))) := by
  have hF0 : Fr [9, 10, 11, 12, 13, 14, 15, 16, 17, 18, 31] [15, 16, 17, 18, 19, 20, 21, 22, 24, 28] G A G A := Fr_rf
  have hP0 : Pf nd A A := Pf_rf
  have b_ln : (0 : Int) ≤ ln ∧ ln ≤ 3000 := e_ln ▸ hW.1 9
  have b_le : (0 : Int) ≤ le ∧ le ≤ 3000 := e_le ▸ hW.2 4 _
  have b_at0 : (0 : Int) ≤ at0 ∧ at0 ≤ 3002 := e_at0 ▸ hW.1 10
  have b_fk : (0 : Int) ≤ fk ∧ fk ≤ 6 := e_fk ▸ hW.1 16
  have b_op0 : (-2147483648 : Int) ≤ op0 ∧ op0 ≤ 2147483647 := e_op0 ▸ hW.1 15
  have b_nd : (0 : Int) ≤ nd ∧ nd ≤ 6999 := e_nd ▸ hW.1 31
  have z_tk0 := tz_f tk0
  have b_tk0 : (0 : Int) ≤ tk0 ∧ tk0 ≤ 5 := e_tk0 ▸ hW.1 11
  have b_li : (0 : Int) ≤ li ∧ li ≤ 3000 := e_li ▸ hW.1 3
  intro L Gx Ax one pl s ix at1 tk1 fk1 nd1 op1 ks gL_0 gL_6 gL_7 gL_8 gL_1 gL_3 gL_4 gL_5 hWx hFx hPx ex_at1 ex_tk1 ex_fk1 ex_nd1 ex_op1 ex_ks fx_9 rx_one rx_pl rx_s rx_ix iv_0 iv_1 iv_2 iv_3 iv_4 iv_5 iv_6 iv_7 iv_8 iv_9 iv_10 iv_11 iv_12
  have b_at1 : (0 : Int) ≤ at1 ∧ at1 ≤ 3002 := ex_at1 ▸ hWx.1 10
  have z_tk1 := tz_f tk1
  have b_tk1 : (0 : Int) ≤ tk1 ∧ tk1 ≤ 5 := ex_tk1 ▸ hWx.1 11
  have b_fk1 : (0 : Int) ≤ fk1 ∧ fk1 ≤ 6 := ex_fk1 ▸ hWx.1 16
  have b_nd1 : (0 : Int) ≤ nd1 ∧ nd1 ≤ 6999 := ex_nd1 ▸ hWx.1 31
  have b_op1 : (-2147483648 : Int) ≤ op1 ∧ op1 ≤ 2147483647 := ex_op1 ▸ hWx.1 15
  have b_ks : (0 : Int) ≤ ks ∧ ks ≤ 14 := ex_ks ▸ hWx.2 7 _
  refine jx_ld (pc' := 159) (l' := L) (st' := [.int (i32 (0))]) rfl (jl_iload gL_7) ?_
  refine jx_if_eq (pc' := 162) (tg := 189) rfl rfl rfl (by decide) (by decide) (fun h1008 => ?_) (fun h1008 => ?_)
  · have _q := h1008
    refine jx_ld (pc' := 191) (l' := L) (st' := [.int (i32 (1))]) rfl (jl_iload gL_6) ?_
    refine jx_if_eq (pc' := 194) (tg := 202) rfl rfl rfl (by decide) (by decide) (fun h1009 => ?_) (fun h1009 => ?_)
    · have _q := h1009
      exact absurd h1009 (by omega)
    · have _q := h1009
      refine jx_ld (pc' := 196) (l' := L) (st' := [.int (i32 (ks))]) rfl (jl_iload gL_8) ?_
      refine jx_st (pc' := 199) (as := [.int (i32 (ks))]) (st := []) rfl rfl ⟨rfl, Nat.le_of_ble_eq_true rfl⟩ rfl rfl rfl (c_isArray (dd := d) (hd := by omega) (k := ks)   (h_k := ⟨(Int.le_trans (by decide : (-2147483648 : Int) ≤ 0) b_ks.1), (Int.le_trans b_ks.2 (by decide : (14 : Int) ≤ 2147483647))⟩)  ) (fun o V' hq => ?_)
      obtain ⟨r1010, rfl, rfl, b1011, q1012⟩ := hq
      refine .inr ⟨_, rfl, ?_⟩
      rcases q1012 with ⟨rfl, a1013⟩ | rfl
      · have _q : True := trivial
        refine jx_go (tg := 207) rfl rfl ?_
        refine jx_ld (pc' := 209) (l' := jSto1 L 9 (.int (i32 (1)))) (st' := []) rfl rfl ?_
        obtain ⟨L1014, eL1014⟩ : ∃ q, q = jSto1 L 9 (.int (i32 (1))) := ⟨_, rfl⟩
        rw [← eL1014]
        have gL1014_0 : jGet L1014 0 = some (.ref 66) := eL1014 ▸ jg_ne (by decide) gL_0 rfl
        have gL1014_6 : jGet L1014 6 = some (.int (i32 (1))) := eL1014 ▸ jg_ne (by decide) gL_6 rfl
        have gL1014_7 : jGet L1014 7 = some (.int (i32 (0))) := eL1014 ▸ jg_ne (by decide) gL_7 rfl
        have gL1014_8 : jGet L1014 8 = some (.int (i32 (ks))) := eL1014 ▸ jg_ne (by decide) gL_8 rfl
        have gL1014_1 : jGet L1014 1 = some (.int (i32 (one))) := eL1014 ▸ jg_ne (by decide) gL_1 rfl
        have gL1014_3 : jGet L1014 3 = some (.int (i32 (pl))) := eL1014 ▸ jg_ne (by decide) gL_3 rfl
        have gL1014_4 : jGet L1014 4 = some (.int (i32 (s))) := eL1014 ▸ jg_ne (by decide) gL_4 rfl
        have gL1014_5 : jGet L1014 5 = some (.int (i32 (ix))) := eL1014 ▸ jg_ne (by decide) gL_5 rfl
        have gL1014_9 : jGet L1014 9 = some (.int (i32 (1))) := eL1014 ▸ jg_eq
        refine jx_ld (pc' := 211) (l' := L1014) (st' := [.int (i32 (1))]) rfl (jl_iload gL1014_9) ?_
        refine jx_if_ne (pc' := 214) (tg := 222) rfl rfl rfl (by decide) (by decide) (fun h1015 => ?_) (fun h1015 => ?_)
        · have _q := h1015
          have z1016 := tz_f (tk1)
          exact c_readGuard_at_222_1_0 (X := X) (d := d) (Vs := Vs) (sb := sb) (c0 := c0) (c1 := c1) (G := G) (A := A) (T := T) (ln := ln) (le := le) (at0 := at0) (fk := fk) (op0 := op0) (nd := nd) (tk0 := tk0) (li := li) (hd := hd) (hW := hW) (e_ln := e_ln) (e_le := e_le) (e_at0 := e_at0) (e_fk := e_fk) (e_op0 := e_op0) (e_nd := e_nd) (e_tk0 := e_tk0) (e_li := e_li) (i_SV := i_SV) (p_0 := p_0) (p_1 := p_1) (p_2 := p_2) (p_3 := p_3) (p_4 := p_4) L1014 Gx Ax (one) (s) (ix) (at1) (tk1) (fk1) (nd1) (op1) (ks) gL1014_0 gL1014_6 gL1014_7 gL1014_1 gL1014_4 gL1014_5 hWx hFx hPx ((ex_at1)) ((ex_tk1)) ((ex_fk1)) ((ex_nd1)) ((ex_op1)) ((ex_ks)) ((fx_9)) (by omega) (by omega) (by omega) (by omega) (by omega) (by omega) (by omega) (by omega) (by omega) (by omega) (by omega) (by omega) (iv_10) (iv_11) (a1013) (iv_12)
        · have _q := h1015
          exact absurd h1015 (by omega)
      · have _q : True := trivial
        refine jx_go (tg := 207) rfl rfl ?_
        refine jx_ld (pc' := 209) (l' := jSto1 L 9 (.int (i32 (0)))) (st' := []) rfl rfl ?_
        obtain ⟨L1017, eL1017⟩ : ∃ q, q = jSto1 L 9 (.int (i32 (0))) := ⟨_, rfl⟩
        rw [← eL1017]
        have gL1017_0 : jGet L1017 0 = some (.ref 66) := eL1017 ▸ jg_ne (by decide) gL_0 rfl
        have gL1017_6 : jGet L1017 6 = some (.int (i32 (1))) := eL1017 ▸ jg_ne (by decide) gL_6 rfl
        have gL1017_7 : jGet L1017 7 = some (.int (i32 (0))) := eL1017 ▸ jg_ne (by decide) gL_7 rfl
        have gL1017_8 : jGet L1017 8 = some (.int (i32 (ks))) := eL1017 ▸ jg_ne (by decide) gL_8 rfl
        have gL1017_1 : jGet L1017 1 = some (.int (i32 (one))) := eL1017 ▸ jg_ne (by decide) gL_1 rfl
        have gL1017_3 : jGet L1017 3 = some (.int (i32 (pl))) := eL1017 ▸ jg_ne (by decide) gL_3 rfl
        have gL1017_4 : jGet L1017 4 = some (.int (i32 (s))) := eL1017 ▸ jg_ne (by decide) gL_4 rfl
        have gL1017_5 : jGet L1017 5 = some (.int (i32 (ix))) := eL1017 ▸ jg_ne (by decide) gL_5 rfl
        have gL1017_9 : jGet L1017 9 = some (.int (i32 (0))) := eL1017 ▸ jg_eq
        refine jx_ld (pc' := 211) (l' := L1017) (st' := [.int (i32 (0))]) rfl (jl_iload gL1017_9) ?_
        refine jx_if_ne (pc' := 214) (tg := 222) rfl rfl rfl (by decide) (by decide) (fun h1018 => ?_) (fun h1018 => ?_)
        · have _q := h1018
          exact absurd h1018 (by omega)
        · have _q := h1018
          refine jx_ld (pc' := 215) (l' := L1017) (st' := [.ref 66]) rfl (jl_aloadn gL1017_0) ?_
          refine jx_ar (pc' := 216) (st' := [.int (i32 (4)), .ref 66]) rfl rfl rfl rfl ?_
          refine jx_ld (pc' := 217) (l' := L1017) (st' := [.int (i32 (pl)), .int (i32 (4)), .ref 66]) rfl (jl_iloadn gL1017_3) ?_
          refine jx_vr (pc' := 220) (as := [.int (i32 (4)), .int (i32 (pl))]) (st := []) rfl rfl rfl rfl ⟨rfl, rfl, Nat.le_of_ble_eq_true rfl⟩ rfl rfl (c_fail (dd := d) (hd := by omega) (hW := hWx) (kind := 4) (place := pl) (fk := fk1) (e_fk := show Gx 16 = fk1 from (ex_fk1))  (h_kind := ⟨(by decide), (by decide)⟩) (h_place := ⟨(Int.le_trans (by decide : (-2147483648 : Int) ≤ -2147483648) rx_pl.1), (Int.le_trans rx_pl.2 (by decide : (2147483647 : Int) ≤ 2147483647))⟩)  (p_0 := by omega) (p_1 := by omega)) (fun o V' hq => ?_)
          obtain ⟨G1019, A1020, fk2_1021, rfl, rfl, hW1022, hF1023, e1024, p1025, -⟩ := hq
          have hF1027 := Fr_tr hFx hF1023 (Fr_sub (by decide)) (Fr_sub (by decide))
          have hP1028 := Pf_f hPx hF1023 (by decide)
          have sf1029 : ND A1020 (one) (33) (0) (0) (0) (0) (0) (0) := ND_ag (by omega) (Ag_fr hF1023 (by decide)) iv_11
          have sf1030 : wE A1020 Vs sb (20) (ix) (one + 1) (nd1) := wE_ag (by omega) (Sg_fr hF1023 (by decide)) (Ag_fr hF1023 (by decide)) iv_12
          have bfk2_1021 : (0 : Int) ≤ fk2_1021 ∧ fk2_1021 ≤ 6 := e1024 ▸ hW1022.1 16
          refine .inl ⟨rfl, ?_⟩
          refine jx_ar (pc' := 221) (st' := [.int (i32 (0))]) rfl rfl rfl rfl ?_
          refine jx_rt (v := some (.int (i32 (0)))) rfl rfl rfl rfl rfl rfl ?_
          exact ⟨_, _, _, at1, fk2_1021, nd1, ln, rfl, rfl, hW1022, hF1027, hP1028, by omega, ((hF1023.1 10 rfl).trans (ex_at1)), (e1024), ((hF1023.1 31 rfl).trans (ex_nd1)), ((hF1023.1 9 rfl).trans (fx_9)), by omega, by omega, by omega, by omega, by omega, by first | exact Or.inl (⟨by omega, by omega, by omega⟩)⟩
  · have _q := h1008
    exact absurd h1008 (by omega)
set_option maxRecDepth 20000 in
set_option maxHeartbeats 4000000 in
theorem c_readGuard_at_157_0_1 {X : jX} {d : Nat} {Vs : Nat → Prop} {sb : Int} {c0 c1 : jC} {G : Nat → Int} {A : Nat → Nat → Int} {T : jH} {ln le at0 fk op0 nd tk0 li : Int} (hd : 71 ≤ d + 1) (hW : Wk G A) (e_ln : G 9 = ln) (e_le : A 4 (ln).toNat = le) (e_at0 : G 10 = at0) (e_fk : G 16 = fk) (e_op0 : G 15 = op0) (e_nd : G 31 = nd) (e_tk0 : G 11 = tk0) (e_li : G 3 = li) (i_SV : SV Vs sb G A) (p_0 : 0 ≤ op0 ∧ op0 ≤ 8) (p_1 : fk = 0) (p_2 : nd ≤ 2 * at0 - tz tk0 + 42) (p_3 : at0 ≤ le) (p_4 : ln < li) : ∀ (L : jL) (Gx : Nat → Int) (Ax : Nat → Nat → Int) (one pl s at1 tk1 fk1 nd1 op1 ks : Int), jGet L 0 = some (.ref 66) → jGet L 6 = some (.int (i32 (0))) → jGet L 7 = some (.int (i32 (1))) → jGet L 8 = some (.int (i32 (ks))) → jGet L 5 = some (.int (i32 (0))) → jGet L 1 = some (.int (i32 one)) → jGet L 3 = some (.int (i32 pl)) → jGet L 4 = some (.int (i32 s)) → Wk Gx Ax → Fr [9, 10, 11, 12, 13, 14, 15, 16, 17, 18, 31] [15, 16, 17, 18, 19, 20, 21, 22, 24, 28] G A Gx Ax → Pf nd A Ax → Gx 10 = at1 → Gx 11 = tk1 → Gx 16 = fk1 → Gx 31 = nd1 → Gx 15 = op1 → Ax 7 (s).toNat = ks → Gx 9 = ln → ((-2147483648 : Int) ≤ one ∧ one ≤ 2147483647) → ((-2147483648 : Int) ≤ pl ∧ pl ≤ 2147483647) → ((-2147483648 : Int) ≤ s ∧ s ≤ 2147483647) → (at0 ≤ at1) → (at1 ≤ le) → (nd ≤ nd1) → (op1 = op0) → (one = nd) → (one ≤ 6998 ∧ one < nd1) → (fk1 = 0) → (nd1 - nd ≤ (2 * at1 - tz tk1) - (2 * at0 - tz tk0)) → (0 ≤ s ∧ s ≤ 201) → (-3000 ≤ pl ∧ pl ≤ 3002) → (SY Vs sb (s)) → (ND Ax (one) (33) (0) (0) (0) (0) (0) (0)) → (tz tk1 = 1) → wj X d jm303 (157, L, [], rV c0 c1 Gx Ax T) (fun o V' => ∃ (G' : Nat → Int) (A' : Nat → Nat → Int) (r : Int) (at2 : Int) (fk2 : Int) (nd2 : Int) (ln2 : Int), V' = rV c0 c1 G' A' T ∧ o = .inl (some (.int (i32 r))) ∧ Wk G' A' ∧ Fr [9, 10, 11, 12, 13, 14, 15, 16, 17, 18, 31] [15, 16, 17, 18, 19, 20, 21, 22, 24, 28] G A G' A' ∧ Pf nd A A' ∧ ((-2147483648 : Int) ≤ r ∧ r ≤ 2147483647) ∧ G' 10 = at2 ∧ G' 16 = fk2 ∧ G' 31 = nd2 ∧ G' 9 = ln2 ∧ (at0 ≤ at2) ∧ (at2 ≤ le) ∧ (nd ≤ nd2) ∧ (0 ≤ r) ∧ (r ≤ nd2) ∧ (((1 ≤ fk2) ∧ (ln2 = ln) ∧ (nd2 - nd ≤ 2 * at2 - 2 * at0 + 12)) ∨ ((fk2 = 0) ∧ (ln2 = ln + 1) ∧ (nd2 - nd ≤ 2 * at2 - (2 * at0 - tz tk0) + 0) ∧ (nd ≤ r) ∧ (r < nd2) ∧ (wU A' Vs sb (r) (nd) (nd2)) ∧ (NX A' (r))))) := by
  have hF0 : Fr [9, 10, 11, 12, 13, 14, 15, 16, 17, 18, 31] [15, 16, 17, 18, 19, 20, 21, 22, 24, 28] G A G A := Fr_rf
  have hP0 : Pf nd A A := Pf_rf
  have b_ln : (0 : Int) ≤ ln ∧ ln ≤ 3000 := e_ln ▸ hW.1 9
  have b_le : (0 : Int) ≤ le ∧ le ≤ 3000 := e_le ▸ hW.2 4 _
  have b_at0 : (0 : Int) ≤ at0 ∧ at0 ≤ 3002 := e_at0 ▸ hW.1 10
  have b_fk : (0 : Int) ≤ fk ∧ fk ≤ 6 := e_fk ▸ hW.1 16
  have b_op0 : (-2147483648 : Int) ≤ op0 ∧ op0 ≤ 2147483647 := e_op0 ▸ hW.1 15
  have b_nd : (0 : Int) ≤ nd ∧ nd ≤ 6999 := e_nd ▸ hW.1 31
  have z_tk0 := tz_f tk0
  have b_tk0 : (0 : Int) ≤ tk0 ∧ tk0 ≤ 5 := e_tk0 ▸ hW.1 11
  have b_li : (0 : Int) ≤ li ∧ li ≤ 3000 := e_li ▸ hW.1 3
  intro L Gx Ax one pl s at1 tk1 fk1 nd1 op1 ks gL_0 gL_6 gL_7 gL_8 gL_5 gL_1 gL_3 gL_4 hWx hFx hPx ex_at1 ex_tk1 ex_fk1 ex_nd1 ex_op1 ex_ks fx_9 rx_one rx_pl rx_s iv_0 iv_1 iv_2 iv_3 iv_4 iv_5 iv_6 iv_7 iv_8 iv_9 iv_10 iv_11 iv_12
  have b_at1 : (0 : Int) ≤ at1 ∧ at1 ≤ 3002 := ex_at1 ▸ hWx.1 10
  have z_tk1 := tz_f tk1
  have b_tk1 : (0 : Int) ≤ tk1 ∧ tk1 ≤ 5 := ex_tk1 ▸ hWx.1 11
  have b_fk1 : (0 : Int) ≤ fk1 ∧ fk1 ≤ 6 := ex_fk1 ▸ hWx.1 16
  have b_nd1 : (0 : Int) ≤ nd1 ∧ nd1 ≤ 6999 := ex_nd1 ▸ hWx.1 31
  have b_op1 : (-2147483648 : Int) ≤ op1 ∧ op1 ≤ 2147483647 := ex_op1 ▸ hWx.1 15
  have b_ks : (0 : Int) ≤ ks ∧ ks ≤ 14 := ex_ks ▸ hWx.2 7 _
  refine jx_ld (pc' := 159) (l' := L) (st' := [.int (i32 (1))]) rfl (jl_iload gL_7) ?_
  refine jx_if_eq (pc' := 162) (tg := 189) rfl rfl rfl (by decide) (by decide) (fun h1031 => ?_) (fun h1031 => ?_)
  · have _q := h1031
    exact absurd h1031 (by omega)
  · have _q := h1031
    refine jx_ld (pc' := 164) (l' := L) (st' := [.int (i32 (0))]) rfl (jl_iload gL_6) ?_
    refine jx_if_eq (pc' := 167) (tg := 181) rfl rfl rfl (by decide) (by decide) (fun h1032 => ?_) (fun h1032 => ?_)
    · have _q := h1032
      refine jx_ld (pc' := 183) (l' := L) (st' := [.int (i32 (ks))]) rfl (jl_iload gL_8) ?_
      refine jx_st (pc' := 186) (as := [.int (i32 (ks))]) (st := []) rfl rfl ⟨rfl, Nat.le_of_ble_eq_true rfl⟩ rfl rfl rfl (c_isChannel (dd := d) (hd := by omega) (k := ks)   (h_k := ⟨(Int.le_trans (by decide : (-2147483648 : Int) ≤ 0) b_ks.1), (Int.le_trans b_ks.2 (by decide : (14 : Int) ≤ 2147483647))⟩)  ) (fun o V' hq => ?_)
      obtain ⟨r1033, rfl, rfl, b1034, q1035⟩ := hq
      refine .inr ⟨_, rfl, ?_⟩
      rcases q1035 with ⟨rfl, a1036⟩ | rfl
      · have _q : True := trivial
        refine jx_go (tg := 207) rfl rfl ?_
        refine jx_ld (pc' := 209) (l' := jSto1 L 9 (.int (i32 (1)))) (st' := []) rfl rfl ?_
        obtain ⟨L1037, eL1037⟩ : ∃ q, q = jSto1 L 9 (.int (i32 (1))) := ⟨_, rfl⟩
        rw [← eL1037]
        have gL1037_0 : jGet L1037 0 = some (.ref 66) := eL1037 ▸ jg_ne (by decide) gL_0 rfl
        have gL1037_6 : jGet L1037 6 = some (.int (i32 (0))) := eL1037 ▸ jg_ne (by decide) gL_6 rfl
        have gL1037_7 : jGet L1037 7 = some (.int (i32 (1))) := eL1037 ▸ jg_ne (by decide) gL_7 rfl
        have gL1037_8 : jGet L1037 8 = some (.int (i32 (ks))) := eL1037 ▸ jg_ne (by decide) gL_8 rfl
        have gL1037_5 : jGet L1037 5 = some (.int (i32 (0))) := eL1037 ▸ jg_ne (by decide) gL_5 rfl
        have gL1037_1 : jGet L1037 1 = some (.int (i32 (one))) := eL1037 ▸ jg_ne (by decide) gL_1 rfl
        have gL1037_3 : jGet L1037 3 = some (.int (i32 (pl))) := eL1037 ▸ jg_ne (by decide) gL_3 rfl
        have gL1037_4 : jGet L1037 4 = some (.int (i32 (s))) := eL1037 ▸ jg_ne (by decide) gL_4 rfl
        have gL1037_9 : jGet L1037 9 = some (.int (i32 (1))) := eL1037 ▸ jg_eq
        refine jx_ld (pc' := 211) (l' := L1037) (st' := [.int (i32 (1))]) rfl (jl_iload gL1037_9) ?_
        refine jx_if_ne (pc' := 214) (tg := 222) rfl rfl rfl (by decide) (by decide) (fun h1038 => ?_) (fun h1038 => ?_)
        · have _q := h1038
          have z1039 := tz_f (tk1)
          exact c_readGuard_at_222_0_1 (X := X) (d := d) (Vs := Vs) (sb := sb) (c0 := c0) (c1 := c1) (G := G) (A := A) (T := T) (ln := ln) (le := le) (at0 := at0) (fk := fk) (op0 := op0) (nd := nd) (tk0 := tk0) (li := li) (hd := hd) (hW := hW) (e_ln := e_ln) (e_le := e_le) (e_at0 := e_at0) (e_fk := e_fk) (e_op0 := e_op0) (e_nd := e_nd) (e_tk0 := e_tk0) (e_li := e_li) (i_SV := i_SV) (p_0 := p_0) (p_1 := p_1) (p_2 := p_2) (p_3 := p_3) (p_4 := p_4) L1037 Gx Ax (one) (s) (at1) (tk1) (fk1) (nd1) (op1) (ks) gL1037_0 gL1037_6 gL1037_7 gL1037_5 gL1037_1 gL1037_4 hWx hFx hPx ((ex_at1)) ((ex_tk1)) ((ex_fk1)) ((ex_nd1)) ((ex_op1)) ((ex_ks)) ((fx_9)) (by omega) (by omega) (by omega) (by omega) (by omega) (by omega) (by omega) (by omega) (by omega) (by omega) (by omega) (iv_10) (iv_11) (by omega) (a1036)
        · have _q := h1038
          exact absurd h1038 (by omega)
      · have _q : True := trivial
        refine jx_go (tg := 207) rfl rfl ?_
        refine jx_ld (pc' := 209) (l' := jSto1 L 9 (.int (i32 (0)))) (st' := []) rfl rfl ?_
        obtain ⟨L1040, eL1040⟩ : ∃ q, q = jSto1 L 9 (.int (i32 (0))) := ⟨_, rfl⟩
        rw [← eL1040]
        have gL1040_0 : jGet L1040 0 = some (.ref 66) := eL1040 ▸ jg_ne (by decide) gL_0 rfl
        have gL1040_6 : jGet L1040 6 = some (.int (i32 (0))) := eL1040 ▸ jg_ne (by decide) gL_6 rfl
        have gL1040_7 : jGet L1040 7 = some (.int (i32 (1))) := eL1040 ▸ jg_ne (by decide) gL_7 rfl
        have gL1040_8 : jGet L1040 8 = some (.int (i32 (ks))) := eL1040 ▸ jg_ne (by decide) gL_8 rfl
        have gL1040_5 : jGet L1040 5 = some (.int (i32 (0))) := eL1040 ▸ jg_ne (by decide) gL_5 rfl
        have gL1040_1 : jGet L1040 1 = some (.int (i32 (one))) := eL1040 ▸ jg_ne (by decide) gL_1 rfl
        have gL1040_3 : jGet L1040 3 = some (.int (i32 (pl))) := eL1040 ▸ jg_ne (by decide) gL_3 rfl
        have gL1040_4 : jGet L1040 4 = some (.int (i32 (s))) := eL1040 ▸ jg_ne (by decide) gL_4 rfl
        have gL1040_9 : jGet L1040 9 = some (.int (i32 (0))) := eL1040 ▸ jg_eq
        refine jx_ld (pc' := 211) (l' := L1040) (st' := [.int (i32 (0))]) rfl (jl_iload gL1040_9) ?_
        refine jx_if_ne (pc' := 214) (tg := 222) rfl rfl rfl (by decide) (by decide) (fun h1041 => ?_) (fun h1041 => ?_)
        · have _q := h1041
          exact absurd h1041 (by omega)
        · have _q := h1041
          refine jx_ld (pc' := 215) (l' := L1040) (st' := [.ref 66]) rfl (jl_aloadn gL1040_0) ?_
          refine jx_ar (pc' := 216) (st' := [.int (i32 (4)), .ref 66]) rfl rfl rfl rfl ?_
          refine jx_ld (pc' := 217) (l' := L1040) (st' := [.int (i32 (pl)), .int (i32 (4)), .ref 66]) rfl (jl_iloadn gL1040_3) ?_
          refine jx_vr (pc' := 220) (as := [.int (i32 (4)), .int (i32 (pl))]) (st := []) rfl rfl rfl rfl ⟨rfl, rfl, Nat.le_of_ble_eq_true rfl⟩ rfl rfl (c_fail (dd := d) (hd := by omega) (hW := hWx) (kind := 4) (place := pl) (fk := fk1) (e_fk := show Gx 16 = fk1 from (ex_fk1))  (h_kind := ⟨(by decide), (by decide)⟩) (h_place := ⟨(Int.le_trans (by decide : (-2147483648 : Int) ≤ -2147483648) rx_pl.1), (Int.le_trans rx_pl.2 (by decide : (2147483647 : Int) ≤ 2147483647))⟩)  (p_0 := by omega) (p_1 := by omega)) (fun o V' hq => ?_)
          obtain ⟨G1042, A1043, fk2_1044, rfl, rfl, hW1045, hF1046, e1047, p1048, -⟩ := hq
          have hF1050 := Fr_tr hFx hF1046 (Fr_sub (by decide)) (Fr_sub (by decide))
          have hP1051 := Pf_f hPx hF1046 (by decide)
          have sf1052 : ND A1043 (one) (33) (0) (0) (0) (0) (0) (0) := ND_ag (by omega) (Ag_fr hF1046 (by decide)) iv_11
          have bfk2_1044 : (0 : Int) ≤ fk2_1044 ∧ fk2_1044 ≤ 6 := e1047 ▸ hW1045.1 16
          refine .inl ⟨rfl, ?_⟩
          refine jx_ar (pc' := 221) (st' := [.int (i32 (0))]) rfl rfl rfl rfl ?_
          refine jx_rt (v := some (.int (i32 (0)))) rfl rfl rfl rfl rfl rfl ?_
          exact ⟨_, _, _, at1, fk2_1044, nd1, ln, rfl, rfl, hW1045, hF1050, hP1051, by omega, ((hF1046.1 10 rfl).trans (ex_at1)), (e1047), ((hF1046.1 31 rfl).trans (ex_nd1)), ((hF1046.1 9 rfl).trans (fx_9)), by omega, by omega, by omega, by omega, by omega, by first | exact Or.inl (⟨by omega, by omega, by omega⟩)⟩
    · have _q := h1032
      exact absurd h1032 (by omega)
set_option maxRecDepth 20000 in
set_option maxHeartbeats 4000000 in
theorem c_readGuard_at_157_0_0 {X : jX} {d : Nat} {Vs : Nat → Prop} {sb : Int} {c0 c1 : jC} {G : Nat → Int} {A : Nat → Nat → Int} {T : jH} {ln le at0 fk op0 nd tk0 li : Int} (hd : 71 ≤ d + 1) (hW : Wk G A) (e_ln : G 9 = ln) (e_le : A 4 (ln).toNat = le) (e_at0 : G 10 = at0) (e_fk : G 16 = fk) (e_op0 : G 15 = op0) (e_nd : G 31 = nd) (e_tk0 : G 11 = tk0) (e_li : G 3 = li) (i_SV : SV Vs sb G A) (p_0 : 0 ≤ op0 ∧ op0 ≤ 8) (p_1 : fk = 0) (p_2 : nd ≤ 2 * at0 - tz tk0 + 42) (p_3 : at0 ≤ le) (p_4 : ln < li) : ∀ (L : jL) (Gx : Nat → Int) (Ax : Nat → Nat → Int) (one pl s at1 tk1 fk1 nd1 op1 ks : Int), jGet L 0 = some (.ref 66) → jGet L 6 = some (.int (i32 (0))) → jGet L 7 = some (.int (i32 (0))) → jGet L 8 = some (.int (i32 (ks))) → jGet L 5 = some (.int (i32 (0))) → jGet L 1 = some (.int (i32 one)) → jGet L 3 = some (.int (i32 pl)) → jGet L 4 = some (.int (i32 s)) → Wk Gx Ax → Fr [9, 10, 11, 12, 13, 14, 15, 16, 17, 18, 31] [15, 16, 17, 18, 19, 20, 21, 22, 24, 28] G A Gx Ax → Pf nd A Ax → Gx 10 = at1 → Gx 11 = tk1 → Gx 16 = fk1 → Gx 31 = nd1 → Gx 15 = op1 → Ax 7 (s).toNat = ks → Gx 9 = ln → ((-2147483648 : Int) ≤ one ∧ one ≤ 2147483647) → ((-2147483648 : Int) ≤ pl ∧ pl ≤ 2147483647) → ((-2147483648 : Int) ≤ s ∧ s ≤ 2147483647) → (at0 ≤ at1) → (at1 ≤ le) → (nd ≤ nd1) → (op1 = op0) → (one = nd) → (one ≤ 6998 ∧ one < nd1) → (fk1 = 0) → (nd1 - nd ≤ (2 * at1 - tz tk1) - (2 * at0 - tz tk0)) → (0 ≤ s ∧ s ≤ 201) → (-3000 ≤ pl ∧ pl ≤ 3002) → (SY Vs sb (s)) → (ND Ax (one) (33) (0) (0) (0) (0) (0) (0)) → wj X d jm303 (157, L, [], rV c0 c1 Gx Ax T) (fun o V' => ∃ (G' : Nat → Int) (A' : Nat → Nat → Int) (r : Int) (at2 : Int) (fk2 : Int) (nd2 : Int) (ln2 : Int), V' = rV c0 c1 G' A' T ∧ o = .inl (some (.int (i32 r))) ∧ Wk G' A' ∧ Fr [9, 10, 11, 12, 13, 14, 15, 16, 17, 18, 31] [15, 16, 17, 18, 19, 20, 21, 22, 24, 28] G A G' A' ∧ Pf nd A A' ∧ ((-2147483648 : Int) ≤ r ∧ r ≤ 2147483647) ∧ G' 10 = at2 ∧ G' 16 = fk2 ∧ G' 31 = nd2 ∧ G' 9 = ln2 ∧ (at0 ≤ at2) ∧ (at2 ≤ le) ∧ (nd ≤ nd2) ∧ (0 ≤ r) ∧ (r ≤ nd2) ∧ (((1 ≤ fk2) ∧ (ln2 = ln) ∧ (nd2 - nd ≤ 2 * at2 - 2 * at0 + 12)) ∨ ((fk2 = 0) ∧ (ln2 = ln + 1) ∧ (nd2 - nd ≤ 2 * at2 - (2 * at0 - tz tk0) + 0) ∧ (nd ≤ r) ∧ (r < nd2) ∧ (wU A' Vs sb (r) (nd) (nd2)) ∧ (NX A' (r))))) := by
  have hF0 : Fr [9, 10, 11, 12, 13, 14, 15, 16, 17, 18, 31] [15, 16, 17, 18, 19, 20, 21, 22, 24, 28] G A G A := Fr_rf
  have hP0 : Pf nd A A := Pf_rf
  have b_ln : (0 : Int) ≤ ln ∧ ln ≤ 3000 := e_ln ▸ hW.1 9
  have b_le : (0 : Int) ≤ le ∧ le ≤ 3000 := e_le ▸ hW.2 4 _
  have b_at0 : (0 : Int) ≤ at0 ∧ at0 ≤ 3002 := e_at0 ▸ hW.1 10
  have b_fk : (0 : Int) ≤ fk ∧ fk ≤ 6 := e_fk ▸ hW.1 16
  have b_op0 : (-2147483648 : Int) ≤ op0 ∧ op0 ≤ 2147483647 := e_op0 ▸ hW.1 15
  have b_nd : (0 : Int) ≤ nd ∧ nd ≤ 6999 := e_nd ▸ hW.1 31
  have z_tk0 := tz_f tk0
  have b_tk0 : (0 : Int) ≤ tk0 ∧ tk0 ≤ 5 := e_tk0 ▸ hW.1 11
  have b_li : (0 : Int) ≤ li ∧ li ≤ 3000 := e_li ▸ hW.1 3
  intro L Gx Ax one pl s at1 tk1 fk1 nd1 op1 ks gL_0 gL_6 gL_7 gL_8 gL_5 gL_1 gL_3 gL_4 hWx hFx hPx ex_at1 ex_tk1 ex_fk1 ex_nd1 ex_op1 ex_ks fx_9 rx_one rx_pl rx_s iv_0 iv_1 iv_2 iv_3 iv_4 iv_5 iv_6 iv_7 iv_8 iv_9 iv_10 iv_11
  have b_at1 : (0 : Int) ≤ at1 ∧ at1 ≤ 3002 := ex_at1 ▸ hWx.1 10
  have z_tk1 := tz_f tk1
  have b_tk1 : (0 : Int) ≤ tk1 ∧ tk1 ≤ 5 := ex_tk1 ▸ hWx.1 11
  have b_fk1 : (0 : Int) ≤ fk1 ∧ fk1 ≤ 6 := ex_fk1 ▸ hWx.1 16
  have b_nd1 : (0 : Int) ≤ nd1 ∧ nd1 ≤ 6999 := ex_nd1 ▸ hWx.1 31
  have b_op1 : (-2147483648 : Int) ≤ op1 ∧ op1 ≤ 2147483647 := ex_op1 ▸ hWx.1 15
  have b_ks : (0 : Int) ≤ ks ∧ ks ≤ 14 := ex_ks ▸ hWx.2 7 _
  refine jx_ld (pc' := 159) (l' := L) (st' := [.int (i32 (0))]) rfl (jl_iload gL_7) ?_
  refine jx_if_eq (pc' := 162) (tg := 189) rfl rfl rfl (by decide) (by decide) (fun h1053 => ?_) (fun h1053 => ?_)
  · have _q := h1053
    refine jx_ld (pc' := 191) (l' := L) (st' := [.int (i32 (0))]) rfl (jl_iload gL_6) ?_
    refine jx_if_eq (pc' := 194) (tg := 202) rfl rfl rfl (by decide) (by decide) (fun h1054 => ?_) (fun h1054 => ?_)
    · have _q := h1054
      refine jx_ld (pc' := 204) (l' := L) (st' := [.int (i32 (ks))]) rfl (jl_iload gL_8) ?_
      refine jx_st (pc' := 207) (as := [.int (i32 (ks))]) (st := []) rfl rfl ⟨rfl, Nat.le_of_ble_eq_true rfl⟩ rfl rfl rfl (c_isValue (dd := d) (hd := by omega) (k := ks)   (h_k := ⟨(Int.le_trans (by decide : (-2147483648 : Int) ≤ 0) b_ks.1), (Int.le_trans b_ks.2 (by decide : (14 : Int) ≤ 2147483647))⟩)  ) (fun o V' hq => ?_)
      obtain ⟨r1055, rfl, rfl, b1056, q1057⟩ := hq
      refine .inr ⟨_, rfl, ?_⟩
      rcases q1057 with ⟨rfl, a1058⟩ | rfl
      · have _q : True := trivial
        refine jx_ld (pc' := 209) (l' := jSto1 L 9 (.int (i32 (1)))) (st' := []) rfl rfl ?_
        obtain ⟨L1059, eL1059⟩ : ∃ q, q = jSto1 L 9 (.int (i32 (1))) := ⟨_, rfl⟩
        rw [← eL1059]
        have gL1059_0 : jGet L1059 0 = some (.ref 66) := eL1059 ▸ jg_ne (by decide) gL_0 rfl
        have gL1059_6 : jGet L1059 6 = some (.int (i32 (0))) := eL1059 ▸ jg_ne (by decide) gL_6 rfl
        have gL1059_7 : jGet L1059 7 = some (.int (i32 (0))) := eL1059 ▸ jg_ne (by decide) gL_7 rfl
        have gL1059_8 : jGet L1059 8 = some (.int (i32 (ks))) := eL1059 ▸ jg_ne (by decide) gL_8 rfl
        have gL1059_5 : jGet L1059 5 = some (.int (i32 (0))) := eL1059 ▸ jg_ne (by decide) gL_5 rfl
        have gL1059_1 : jGet L1059 1 = some (.int (i32 (one))) := eL1059 ▸ jg_ne (by decide) gL_1 rfl
        have gL1059_3 : jGet L1059 3 = some (.int (i32 (pl))) := eL1059 ▸ jg_ne (by decide) gL_3 rfl
        have gL1059_4 : jGet L1059 4 = some (.int (i32 (s))) := eL1059 ▸ jg_ne (by decide) gL_4 rfl
        have gL1059_9 : jGet L1059 9 = some (.int (i32 (1))) := eL1059 ▸ jg_eq
        refine jx_ld (pc' := 211) (l' := L1059) (st' := [.int (i32 (1))]) rfl (jl_iload gL1059_9) ?_
        refine jx_if_ne (pc' := 214) (tg := 222) rfl rfl rfl (by decide) (by decide) (fun h1060 => ?_) (fun h1060 => ?_)
        · have _q := h1060
          have z1061 := tz_f (tk1)
          exact c_readGuard_at_222_0_0 (X := X) (d := d) (Vs := Vs) (sb := sb) (c0 := c0) (c1 := c1) (G := G) (A := A) (T := T) (ln := ln) (le := le) (at0 := at0) (fk := fk) (op0 := op0) (nd := nd) (tk0 := tk0) (li := li) (hd := hd) (hW := hW) (e_ln := e_ln) (e_le := e_le) (e_at0 := e_at0) (e_fk := e_fk) (e_op0 := e_op0) (e_nd := e_nd) (e_tk0 := e_tk0) (e_li := e_li) (i_SV := i_SV) (p_0 := p_0) (p_1 := p_1) (p_2 := p_2) (p_3 := p_3) (p_4 := p_4) L1059 Gx Ax (one) (s) (at1) (tk1) (fk1) (nd1) (op1) (ks) gL1059_0 gL1059_6 gL1059_7 gL1059_5 gL1059_1 gL1059_4 hWx hFx hPx ((ex_at1)) ((ex_tk1)) ((ex_fk1)) ((ex_nd1)) ((ex_op1)) ((ex_ks)) ((fx_9)) (by omega) (by omega) (by omega) (by omega) (by omega) (by omega) (by omega) (by omega) (by omega) (by omega) (by omega) (iv_10) (iv_11) (a1058)
        · have _q := h1060
          exact absurd h1060 (by omega)
      · have _q : True := trivial
        refine jx_ld (pc' := 209) (l' := jSto1 L 9 (.int (i32 (0)))) (st' := []) rfl rfl ?_
        obtain ⟨L1062, eL1062⟩ : ∃ q, q = jSto1 L 9 (.int (i32 (0))) := ⟨_, rfl⟩
        rw [← eL1062]
        have gL1062_0 : jGet L1062 0 = some (.ref 66) := eL1062 ▸ jg_ne (by decide) gL_0 rfl
        have gL1062_6 : jGet L1062 6 = some (.int (i32 (0))) := eL1062 ▸ jg_ne (by decide) gL_6 rfl
        have gL1062_7 : jGet L1062 7 = some (.int (i32 (0))) := eL1062 ▸ jg_ne (by decide) gL_7 rfl
        have gL1062_8 : jGet L1062 8 = some (.int (i32 (ks))) := eL1062 ▸ jg_ne (by decide) gL_8 rfl
        have gL1062_5 : jGet L1062 5 = some (.int (i32 (0))) := eL1062 ▸ jg_ne (by decide) gL_5 rfl
        have gL1062_1 : jGet L1062 1 = some (.int (i32 (one))) := eL1062 ▸ jg_ne (by decide) gL_1 rfl
        have gL1062_3 : jGet L1062 3 = some (.int (i32 (pl))) := eL1062 ▸ jg_ne (by decide) gL_3 rfl
        have gL1062_4 : jGet L1062 4 = some (.int (i32 (s))) := eL1062 ▸ jg_ne (by decide) gL_4 rfl
        have gL1062_9 : jGet L1062 9 = some (.int (i32 (0))) := eL1062 ▸ jg_eq
        refine jx_ld (pc' := 211) (l' := L1062) (st' := [.int (i32 (0))]) rfl (jl_iload gL1062_9) ?_
        refine jx_if_ne (pc' := 214) (tg := 222) rfl rfl rfl (by decide) (by decide) (fun h1063 => ?_) (fun h1063 => ?_)
        · have _q := h1063
          exact absurd h1063 (by omega)
        · have _q := h1063
          refine jx_ld (pc' := 215) (l' := L1062) (st' := [.ref 66]) rfl (jl_aloadn gL1062_0) ?_
          refine jx_ar (pc' := 216) (st' := [.int (i32 (4)), .ref 66]) rfl rfl rfl rfl ?_
          refine jx_ld (pc' := 217) (l' := L1062) (st' := [.int (i32 (pl)), .int (i32 (4)), .ref 66]) rfl (jl_iloadn gL1062_3) ?_
          refine jx_vr (pc' := 220) (as := [.int (i32 (4)), .int (i32 (pl))]) (st := []) rfl rfl rfl rfl ⟨rfl, rfl, Nat.le_of_ble_eq_true rfl⟩ rfl rfl (c_fail (dd := d) (hd := by omega) (hW := hWx) (kind := 4) (place := pl) (fk := fk1) (e_fk := show Gx 16 = fk1 from (ex_fk1))  (h_kind := ⟨(by decide), (by decide)⟩) (h_place := ⟨(Int.le_trans (by decide : (-2147483648 : Int) ≤ -2147483648) rx_pl.1), (Int.le_trans rx_pl.2 (by decide : (2147483647 : Int) ≤ 2147483647))⟩)  (p_0 := by omega) (p_1 := by omega)) (fun o V' hq => ?_)
          obtain ⟨G1064, A1065, fk2_1066, rfl, rfl, hW1067, hF1068, e1069, p1070, -⟩ := hq
          have hF1072 := Fr_tr hFx hF1068 (Fr_sub (by decide)) (Fr_sub (by decide))
          have hP1073 := Pf_f hPx hF1068 (by decide)
          have sf1074 : ND A1065 (one) (33) (0) (0) (0) (0) (0) (0) := ND_ag (by omega) (Ag_fr hF1068 (by decide)) iv_11
          have bfk2_1066 : (0 : Int) ≤ fk2_1066 ∧ fk2_1066 ≤ 6 := e1069 ▸ hW1067.1 16
          refine .inl ⟨rfl, ?_⟩
          refine jx_ar (pc' := 221) (st' := [.int (i32 (0))]) rfl rfl rfl rfl ?_
          refine jx_rt (v := some (.int (i32 (0)))) rfl rfl rfl rfl rfl rfl ?_
          exact ⟨_, _, _, at1, fk2_1066, nd1, ln, rfl, rfl, hW1067, hF1072, hP1073, by omega, ((hF1068.1 10 rfl).trans (ex_at1)), (e1069), ((hF1068.1 31 rfl).trans (ex_nd1)), ((hF1068.1 9 rfl).trans (fx_9)), by omega, by omega, by omega, by omega, by omega, by first | exact Or.inl (⟨by omega, by omega, by omega⟩)⟩
    · have _q := h1054
      exact absurd h1054 (by omega)
  · have _q := h1053
    exact absurd h1053 (by omega)
set_option maxRecDepth 20000 in
set_option maxHeartbeats 4000000 in
theorem c_readGuard_at_108_1 {X : jX} {d : Nat} {Vs : Nat → Prop} {sb : Int} {c0 c1 : jC} {G : Nat → Int} {A : Nat → Nat → Int} {T : jH} {ln le at0 fk op0 nd tk0 li : Int} (hd : 71 ≤ d + 1) (hW : Wk G A) (e_ln : G 9 = ln) (e_le : A 4 (ln).toNat = le) (e_at0 : G 10 = at0) (e_fk : G 16 = fk) (e_op0 : G 15 = op0) (e_nd : G 31 = nd) (e_tk0 : G 11 = tk0) (e_li : G 3 = li) (i_SV : SV Vs sb G A) (p_0 : 0 ≤ op0 ∧ op0 ≤ 8) (p_1 : fk = 0) (p_2 : nd ≤ 2 * at0 - tz tk0 + 42) (p_3 : at0 ≤ le) (p_4 : ln < li) : ∀ (L : jL) (Gx : Nat → Int) (Ax : Nat → Nat → Int) (one pl s ix at1 tk1 fk1 nd1 op1 ks : Int), jGet L 0 = some (.ref 66) → jGet L 6 = some (.int (i32 (1))) → jGet L 1 = some (.int (i32 one)) → jGet L 3 = some (.int (i32 pl)) → jGet L 4 = some (.int (i32 s)) → jGet L 5 = some (.int (i32 ix)) → Wk Gx Ax → Fr [9, 10, 11, 12, 13, 14, 15, 16, 17, 18, 31] [15, 16, 17, 18, 19, 20, 21, 22, 24, 28] G A Gx Ax → Pf nd A Ax → Gx 10 = at1 → Gx 11 = tk1 → Gx 16 = fk1 → Gx 31 = nd1 → Gx 15 = op1 → Ax 7 (s).toNat = ks → Gx 9 = ln → ((-2147483648 : Int) ≤ one ∧ one ≤ 2147483647) → ((-2147483648 : Int) ≤ pl ∧ pl ≤ 2147483647) → ((-2147483648 : Int) ≤ s ∧ s ≤ 2147483647) → ((-2147483648 : Int) ≤ ix ∧ ix ≤ 2147483647) → (at0 ≤ at1) → (at1 ≤ le) → (nd ≤ nd1) → (op1 = op0) → (one = nd) → (one ≤ 6998 ∧ one < nd1) → (fk1 = 0) → (nd1 - nd ≤ (2 * at1 - tz tk1) - (2 * at0 - tz tk0)) → (0 ≤ s ∧ s ≤ 201) → (-3000 ≤ pl ∧ pl ≤ 3002) → (SY Vs sb (s)) → (ND Ax (one) (33) (0) (0) (0) (0) (0) (0)) → (wE Ax Vs sb (20) (ix) (one + 1) (nd1)) → wj X d jm303 (108, L, [], rV c0 c1 Gx Ax T) (fun o V' => ∃ (G' : Nat → Int) (A' : Nat → Nat → Int) (r : Int) (at2 : Int) (fk2 : Int) (nd2 : Int) (ln2 : Int), V' = rV c0 c1 G' A' T ∧ o = .inl (some (.int (i32 r))) ∧ Wk G' A' ∧ Fr [9, 10, 11, 12, 13, 14, 15, 16, 17, 18, 31] [15, 16, 17, 18, 19, 20, 21, 22, 24, 28] G A G' A' ∧ Pf nd A A' ∧ ((-2147483648 : Int) ≤ r ∧ r ≤ 2147483647) ∧ G' 10 = at2 ∧ G' 16 = fk2 ∧ G' 31 = nd2 ∧ G' 9 = ln2 ∧ (at0 ≤ at2) ∧ (at2 ≤ le) ∧ (nd ≤ nd2) ∧ (0 ≤ r) ∧ (r ≤ nd2) ∧ (((1 ≤ fk2) ∧ (ln2 = ln) ∧ (nd2 - nd ≤ 2 * at2 - 2 * at0 + 12)) ∨ ((fk2 = 0) ∧ (ln2 = ln + 1) ∧ (nd2 - nd ≤ 2 * at2 - (2 * at0 - tz tk0) + 0) ∧ (nd ≤ r) ∧ (r < nd2) ∧ (wU A' Vs sb (r) (nd) (nd2)) ∧ (NX A' (r))))) := by
  have hF0 : Fr [9, 10, 11, 12, 13, 14, 15, 16, 17, 18, 31] [15, 16, 17, 18, 19, 20, 21, 22, 24, 28] G A G A := Fr_rf
  have hP0 : Pf nd A A := Pf_rf
  have b_ln : (0 : Int) ≤ ln ∧ ln ≤ 3000 := e_ln ▸ hW.1 9
  have b_le : (0 : Int) ≤ le ∧ le ≤ 3000 := e_le ▸ hW.2 4 _
  have b_at0 : (0 : Int) ≤ at0 ∧ at0 ≤ 3002 := e_at0 ▸ hW.1 10
  have b_fk : (0 : Int) ≤ fk ∧ fk ≤ 6 := e_fk ▸ hW.1 16
  have b_op0 : (-2147483648 : Int) ≤ op0 ∧ op0 ≤ 2147483647 := e_op0 ▸ hW.1 15
  have b_nd : (0 : Int) ≤ nd ∧ nd ≤ 6999 := e_nd ▸ hW.1 31
  have z_tk0 := tz_f tk0
  have b_tk0 : (0 : Int) ≤ tk0 ∧ tk0 ≤ 5 := e_tk0 ▸ hW.1 11
  have b_li : (0 : Int) ≤ li ∧ li ≤ 3000 := e_li ▸ hW.1 3
  intro L Gx Ax one pl s ix at1 tk1 fk1 nd1 op1 ks gL_0 gL_6 gL_1 gL_3 gL_4 gL_5 hWx hFx hPx ex_at1 ex_tk1 ex_fk1 ex_nd1 ex_op1 ex_ks fx_9 rx_one rx_pl rx_s rx_ix iv_0 iv_1 iv_2 iv_3 iv_4 iv_5 iv_6 iv_7 iv_8 iv_9 iv_10 iv_11 iv_12
  have b_at1 : (0 : Int) ≤ at1 ∧ at1 ≤ 3002 := ex_at1 ▸ hWx.1 10
  have z_tk1 := tz_f tk1
  have b_tk1 : (0 : Int) ≤ tk1 ∧ tk1 ≤ 5 := ex_tk1 ▸ hWx.1 11
  have b_fk1 : (0 : Int) ≤ fk1 ∧ fk1 ≤ 6 := ex_fk1 ▸ hWx.1 16
  have b_nd1 : (0 : Int) ≤ nd1 ∧ nd1 ≤ 6999 := ex_nd1 ▸ hWx.1 31
  have b_op1 : (-2147483648 : Int) ≤ op1 ∧ op1 ≤ 2147483647 := ex_op1 ▸ hWx.1 15
  have b_ks : (0 : Int) ≤ ks ∧ ks ≤ 14 := ex_ks ▸ hWx.2 7 _
  refine jx_ld (pc' := 109) (l' := L) (st' := [.ref 66]) rfl (jl_aloadn gL_0) ?_
  refine jx_ar (pc' := 111) (st' := [.int (i32 (63)), .ref 66]) rfl rfl rfl rfl ?_
  have b1075 : (-2147483648 : Int) ≤ Gx 13 ∧ Gx 13 ≤ 2147483647 := hWx.1 13
  refine jx_vr (pc' := 114) (as := [.int (i32 (63))]) (st := []) rfl rfl rfl rfl ⟨rfl, rfl, Nat.le_of_ble_eq_true rfl⟩ rfl rfl (c_is (dd := d) (hd := by omega) (hW := hWx) (k := 63) (tk := tk1) (e_tk := show Gx 11 = tk1 from (ex_tk1)) (tn := Gx 13) (e_tn := show Gx 13 = Gx 13 from rfl)  (h_k := ⟨(by decide), (by decide)⟩)  ) (fun o V' hq => ?_)
  obtain ⟨r1076, rfl, rfl, b1077, q1078⟩ := hq
  refine .inr ⟨_, rfl, ?_⟩
  rcases q1078 with ⟨rfl, a1079, a1080, a1081⟩ | rfl
  · have _q : True := trivial
    refine jx_ld (pc' := 116) (l' := jSto1 L 7 (.int (i32 (1)))) (st' := []) rfl rfl ?_
    obtain ⟨L1082, eL1082⟩ : ∃ q, q = jSto1 L 7 (.int (i32 (1))) := ⟨_, rfl⟩
    rw [← eL1082]
    have gL1082_0 : jGet L1082 0 = some (.ref 66) := eL1082 ▸ jg_ne (by decide) gL_0 rfl
    have gL1082_6 : jGet L1082 6 = some (.int (i32 (1))) := eL1082 ▸ jg_ne (by decide) gL_6 rfl
    have gL1082_1 : jGet L1082 1 = some (.int (i32 (one))) := eL1082 ▸ jg_ne (by decide) gL_1 rfl
    have gL1082_3 : jGet L1082 3 = some (.int (i32 (pl))) := eL1082 ▸ jg_ne (by decide) gL_3 rfl
    have gL1082_4 : jGet L1082 4 = some (.int (i32 (s))) := eL1082 ▸ jg_ne (by decide) gL_4 rfl
    have gL1082_5 : jGet L1082 5 = some (.int (i32 (ix))) := eL1082 ▸ jg_ne (by decide) gL_5 rfl
    have gL1082_7 : jGet L1082 7 = some (.int (i32 (1))) := eL1082 ▸ jg_eq
    refine jx_ld (pc' := 117) (l' := L1082) (st' := [.ref 66]) rfl (jl_aloadn gL1082_0) ?_
    refine jr_get (pc' := 120) (i := 21) (v := .ref 74) rfl rfl (by decide) rfl rfl ?_
    refine jx_ld (pc' := 122) (l' := L1082) (st' := [.int (i32 (s)), .ref 74]) rfl (jl_iload gL1082_4) ?_
    refine jr_ldv (pc' := 123) (i := 7) (m := 260) (z := s) (y := ks) rfl (by decide) rfl (by decide) (by omega) (by omega) rfl (show Ax 7 (s).toNat = ks from (ex_ks)) ?_
    refine jx_ld (pc' := 125) (l' := jSto1 L1082 8 (.int (i32 (ks)))) (st' := []) rfl rfl ?_
    obtain ⟨L1083, eL1083⟩ : ∃ q, q = jSto1 L1082 8 (.int (i32 (ks))) := ⟨_, rfl⟩
    rw [← eL1083]
    have gL1083_0 : jGet L1083 0 = some (.ref 66) := eL1083 ▸ jg_ne (by decide) gL1082_0 rfl
    have gL1083_6 : jGet L1083 6 = some (.int (i32 (1))) := eL1083 ▸ jg_ne (by decide) gL1082_6 rfl
    have gL1083_1 : jGet L1083 1 = some (.int (i32 (one))) := eL1083 ▸ jg_ne (by decide) gL1082_1 rfl
    have gL1083_3 : jGet L1083 3 = some (.int (i32 (pl))) := eL1083 ▸ jg_ne (by decide) gL1082_3 rfl
    have gL1083_4 : jGet L1083 4 = some (.int (i32 (s))) := eL1083 ▸ jg_ne (by decide) gL1082_4 rfl
    have gL1083_5 : jGet L1083 5 = some (.int (i32 (ix))) := eL1083 ▸ jg_ne (by decide) gL1082_5 rfl
    have gL1083_7 : jGet L1083 7 = some (.int (i32 (1))) := eL1083 ▸ jg_ne (by decide) gL1082_7 rfl
    have gL1083_8 : jGet L1083 8 = some (.int (i32 (ks))) := eL1083 ▸ jg_eq
    refine jx_ld (pc' := 127) (l' := L1083) (st' := [.int (i32 (1))]) rfl (jl_iload gL1083_7) ?_
    refine jx_if_ne (pc' := 130) (tg := 157) rfl rfl rfl (by decide) (by decide) (fun h1084 => ?_) (fun h1084 => ?_)
    · have _q := h1084
      have z1085 := tz_f (tk1)
      exact c_readGuard_at_157_1_1 (X := X) (d := d) (Vs := Vs) (sb := sb) (c0 := c0) (c1 := c1) (G := G) (A := A) (T := T) (ln := ln) (le := le) (at0 := at0) (fk := fk) (op0 := op0) (nd := nd) (tk0 := tk0) (li := li) (hd := hd) (hW := hW) (e_ln := e_ln) (e_le := e_le) (e_at0 := e_at0) (e_fk := e_fk) (e_op0 := e_op0) (e_nd := e_nd) (e_tk0 := e_tk0) (e_li := e_li) (i_SV := i_SV) (p_0 := p_0) (p_1 := p_1) (p_2 := p_2) (p_3 := p_3) (p_4 := p_4) L1083 Gx Ax (one) (pl) (s) (ix) (at1) (tk1) (fk1) (nd1) (op1) (ks) gL1083_0 gL1083_6 gL1083_7 gL1083_8 gL1083_1 gL1083_3 gL1083_4 gL1083_5 hWx hFx hPx ((ex_at1)) ((ex_tk1)) ((ex_fk1)) ((ex_nd1)) ((ex_op1)) ((ex_ks)) ((fx_9)) (by omega) (by omega) (by omega) (by omega) (by omega) (by omega) (by omega) (by omega) (by omega) (by omega) (by omega) (by omega) (by omega) (by omega) (iv_10) (iv_11) (by omega) (iv_12)
    · have _q := h1084
      exact absurd h1084 (by omega)
  · have _q : True := trivial
    refine jx_ld (pc' := 116) (l' := jSto1 L 7 (.int (i32 (0)))) (st' := []) rfl rfl ?_
    obtain ⟨L1086, eL1086⟩ : ∃ q, q = jSto1 L 7 (.int (i32 (0))) := ⟨_, rfl⟩
    rw [← eL1086]
    have gL1086_0 : jGet L1086 0 = some (.ref 66) := eL1086 ▸ jg_ne (by decide) gL_0 rfl
    have gL1086_6 : jGet L1086 6 = some (.int (i32 (1))) := eL1086 ▸ jg_ne (by decide) gL_6 rfl
    have gL1086_1 : jGet L1086 1 = some (.int (i32 (one))) := eL1086 ▸ jg_ne (by decide) gL_1 rfl
    have gL1086_3 : jGet L1086 3 = some (.int (i32 (pl))) := eL1086 ▸ jg_ne (by decide) gL_3 rfl
    have gL1086_4 : jGet L1086 4 = some (.int (i32 (s))) := eL1086 ▸ jg_ne (by decide) gL_4 rfl
    have gL1086_5 : jGet L1086 5 = some (.int (i32 (ix))) := eL1086 ▸ jg_ne (by decide) gL_5 rfl
    have gL1086_7 : jGet L1086 7 = some (.int (i32 (0))) := eL1086 ▸ jg_eq
    refine jx_ld (pc' := 117) (l' := L1086) (st' := [.ref 66]) rfl (jl_aloadn gL1086_0) ?_
    refine jr_get (pc' := 120) (i := 21) (v := .ref 74) rfl rfl (by decide) rfl rfl ?_
    refine jx_ld (pc' := 122) (l' := L1086) (st' := [.int (i32 (s)), .ref 74]) rfl (jl_iload gL1086_4) ?_
    refine jr_ldv (pc' := 123) (i := 7) (m := 260) (z := s) (y := ks) rfl (by decide) rfl (by decide) (by omega) (by omega) rfl (show Ax 7 (s).toNat = ks from (ex_ks)) ?_
    refine jx_ld (pc' := 125) (l' := jSto1 L1086 8 (.int (i32 (ks)))) (st' := []) rfl rfl ?_
    obtain ⟨L1087, eL1087⟩ : ∃ q, q = jSto1 L1086 8 (.int (i32 (ks))) := ⟨_, rfl⟩
    rw [← eL1087]
    have gL1087_0 : jGet L1087 0 = some (.ref 66) := eL1087 ▸ jg_ne (by decide) gL1086_0 rfl
    have gL1087_6 : jGet L1087 6 = some (.int (i32 (1))) := eL1087 ▸ jg_ne (by decide) gL1086_6 rfl
    have gL1087_1 : jGet L1087 1 = some (.int (i32 (one))) := eL1087 ▸ jg_ne (by decide) gL1086_1 rfl
    have gL1087_3 : jGet L1087 3 = some (.int (i32 (pl))) := eL1087 ▸ jg_ne (by decide) gL1086_3 rfl
    have gL1087_4 : jGet L1087 4 = some (.int (i32 (s))) := eL1087 ▸ jg_ne (by decide) gL1086_4 rfl
    have gL1087_5 : jGet L1087 5 = some (.int (i32 (ix))) := eL1087 ▸ jg_ne (by decide) gL1086_5 rfl
    have gL1087_7 : jGet L1087 7 = some (.int (i32 (0))) := eL1087 ▸ jg_ne (by decide) gL1086_7 rfl
    have gL1087_8 : jGet L1087 8 = some (.int (i32 (ks))) := eL1087 ▸ jg_eq
    refine jx_ld (pc' := 127) (l' := L1087) (st' := [.int (i32 (0))]) rfl (jl_iload gL1087_7) ?_
    refine jx_if_ne (pc' := 130) (tg := 157) rfl rfl rfl (by decide) (by decide) (fun h1088 => ?_) (fun h1088 => ?_)
    · have _q := h1088
      exact absurd h1088 (by omega)
    · have _q := h1088
      refine jx_ld (pc' := 131) (l' := L1087) (st' := [.ref 66]) rfl (jl_aloadn gL1087_0) ?_
      refine jx_ar (pc' := 133) (st' := [.int (i32 (38)), .ref 66]) rfl rfl rfl rfl ?_
      refine jx_vr (pc' := 136) (as := [.int (i32 (38))]) (st := []) rfl rfl rfl rfl ⟨rfl, rfl, Nat.le_of_ble_eq_true rfl⟩ rfl rfl (c_is (dd := d) (hd := by omega) (hW := hWx) (k := 38) (tk := tk1) (e_tk := show Gx 11 = tk1 from (ex_tk1)) (tn := Gx 13) (e_tn := show Gx 13 = Gx 13 from rfl)  (h_k := ⟨(by decide), (by decide)⟩)  ) (fun o V' hq => ?_)
      obtain ⟨r1089, rfl, rfl, b1090, q1091⟩ := hq
      refine .inr ⟨_, rfl, ?_⟩
      rcases q1091 with ⟨rfl, a1092, a1093, a1094⟩ | rfl
      · have _q : True := trivial
        refine jx_if_ne (pc' := 139) (tg := 157) rfl rfl rfl (by decide) (by decide) (fun h1095 => ?_) (fun h1095 => ?_)
        · have _q := h1095
          have z1096 := tz_f (tk1)
          exact c_readGuard_at_157_1_0 (X := X) (d := d) (Vs := Vs) (sb := sb) (c0 := c0) (c1 := c1) (G := G) (A := A) (T := T) (ln := ln) (le := le) (at0 := at0) (fk := fk) (op0 := op0) (nd := nd) (tk0 := tk0) (li := li) (hd := hd) (hW := hW) (e_ln := e_ln) (e_le := e_le) (e_at0 := e_at0) (e_fk := e_fk) (e_op0 := e_op0) (e_nd := e_nd) (e_tk0 := e_tk0) (e_li := e_li) (i_SV := i_SV) (p_0 := p_0) (p_1 := p_1) (p_2 := p_2) (p_3 := p_3) (p_4 := p_4) L1087 Gx Ax (one) (pl) (s) (ix) (at1) (tk1) (fk1) (nd1) (op1) (ks) gL1087_0 gL1087_6 gL1087_7 gL1087_8 gL1087_1 gL1087_3 gL1087_4 gL1087_5 hWx hFx hPx ((ex_at1)) ((ex_tk1)) ((ex_fk1)) ((ex_nd1)) ((ex_op1)) ((ex_ks)) ((fx_9)) (by omega) (by omega) (by omega) (by omega) (by omega) (by omega) (by omega) (by omega) (by omega) (by omega) (by omega) (by omega) (by omega) (by omega) (iv_10) (iv_11) (iv_12)
        · have _q := h1095
          exact absurd h1095 (by omega)
      · have _q : True := trivial
        refine jx_if_ne (pc' := 139) (tg := 157) rfl rfl rfl (by decide) (by decide) (fun h1097 => ?_) (fun h1097 => ?_)
        · have _q := h1097
          exact absurd h1097 (by omega)
        · have _q := h1097
          refine jx_ld (pc' := 140) (l' := L1087) (st' := [.ref 66]) rfl (jl_aloadn gL1087_0) ?_
          refine jx_vr (pc' := 143) (as := []) (st := []) rfl rfl rfl rfl ⟨rfl, rfl, Nat.le_of_ble_eq_true rfl⟩ rfl rfl (c_operationAt (dd := d) (hd := by omega) (hW := hWx)  (tk := tk1) (e_tk := show Gx 11 = tk1 from (ex_tk1)) (tn := Gx 13) (e_tn := show Gx 13 = Gx 13 from rfl)    ) (fun o V' hq => ?_)
          obtain ⟨r1098, rfl, rfl, b1099, q1100⟩ := hq
          refine .inr ⟨_, rfl, ?_⟩
          rcases q1100 with rfl | a1101
          · have _q : True := trivial
            refine jx_if_ne (pc' := 146) (tg := 157) rfl rfl rfl (by decide) (by decide) (fun h1102 => ?_) (fun h1102 => ?_)
            · have _q := h1102
              exact absurd h1102 (by omega)
            · have _q := h1102
              refine jx_ld (pc' := 147) (l' := L1087) (st' := [.ref 66]) rfl (jl_aloadn gL1087_0) ?_
              refine jx_ar (pc' := 148) (st' := [.int (i32 (1)), .ref 66]) rfl rfl rfl rfl ?_
              refine jx_ld (pc' := 149) (l' := L1087) (st' := [.ref 66, .int (i32 (1)), .ref 66]) rfl (jl_aloadn gL1087_0) ?_
              have b1103 : (-3000 : Int) ≤ Gx 12 ∧ Gx 12 ≤ 3002 := hWx.1 12
              refine jr_get (pc' := 152) (i := 12) (v := .int (i32 (Gx 12))) rfl rfl (by decide) rfl rfl ?_
              refine jx_vr (pc' := 155) (as := [.int (i32 (1)), .int (i32 (Gx 12))]) (st := []) rfl rfl rfl rfl ⟨rfl, rfl, Nat.le_of_ble_eq_true rfl⟩ rfl rfl (c_fail (dd := d) (hd := by omega) (hW := hWx) (kind := 1) (place := Gx 12) (fk := fk1) (e_fk := show Gx 16 = fk1 from (ex_fk1))  (h_kind := ⟨(by decide), (by decide)⟩) (h_place := ⟨(Int.le_trans (by decide : (-2147483648 : Int) ≤ -3000) b1103.1), (Int.le_trans b1103.2 (by decide : (3002 : Int) ≤ 2147483647))⟩)  (p_0 := by omega) (p_1 := by omega)) (fun o V' hq => ?_)
              obtain ⟨G1104, A1105, fk2_1106, rfl, rfl, hW1107, hF1108, e1109, p1110, -⟩ := hq
              have hF1112 := Fr_tr hFx hF1108 (Fr_sub (by decide)) (Fr_sub (by decide))
              have hP1113 := Pf_f hPx hF1108 (by decide)
              have sf1114 : ND A1105 (one) (33) (0) (0) (0) (0) (0) (0) := ND_ag (by omega) (Ag_fr hF1108 (by decide)) iv_11
              have sf1115 : wE A1105 Vs sb (20) (ix) (one + 1) (nd1) := wE_ag (by omega) (Sg_fr hF1108 (by decide)) (Ag_fr hF1108 (by decide)) iv_12
              have bfk2_1106 : (0 : Int) ≤ fk2_1106 ∧ fk2_1106 ≤ 6 := e1109 ▸ hW1107.1 16
              refine .inl ⟨rfl, ?_⟩
              refine jx_ar (pc' := 156) (st' := [.int (i32 (0))]) rfl rfl rfl rfl ?_
              refine jx_rt (v := some (.int (i32 (0)))) rfl rfl rfl rfl rfl rfl ?_
              exact ⟨_, _, _, at1, fk2_1106, nd1, ln, rfl, rfl, hW1107, hF1112, hP1113, by omega, ((hF1108.1 10 rfl).trans (ex_at1)), (e1109), ((hF1108.1 31 rfl).trans (ex_nd1)), ((hF1108.1 9 rfl).trans (fx_9)), by omega, by omega, by omega, by omega, by omega, by first | exact Or.inl (⟨by omega, by omega, by omega⟩)⟩
          · have _q : True := trivial
            refine jx_if_ne (pc' := 146) (tg := 157) rfl rfl rfl (Int.le_trans (by decide : (-2147483648 : Int) ≤ -2147483648) b1099.1) (Int.le_trans b1099.2 (by decide : (2147483647 : Int) ≤ 2147483647)) (fun h1116 => ?_) (fun h1116 => ?_)
            · have _q := h1116
              have z1117 := tz_f (tk1)
              exact c_readGuard_at_157_1_0 (X := X) (d := d) (Vs := Vs) (sb := sb) (c0 := c0) (c1 := c1) (G := G) (A := A) (T := T) (ln := ln) (le := le) (at0 := at0) (fk := fk) (op0 := op0) (nd := nd) (tk0 := tk0) (li := li) (hd := hd) (hW := hW) (e_ln := e_ln) (e_le := e_le) (e_at0 := e_at0) (e_fk := e_fk) (e_op0 := e_op0) (e_nd := e_nd) (e_tk0 := e_tk0) (e_li := e_li) (i_SV := i_SV) (p_0 := p_0) (p_1 := p_1) (p_2 := p_2) (p_3 := p_3) (p_4 := p_4) L1087 Gx Ax (one) (pl) (s) (ix) (at1) (tk1) (fk1) (nd1) (op1) (ks) gL1087_0 gL1087_6 gL1087_7 gL1087_8 gL1087_1 gL1087_3 gL1087_4 gL1087_5 hWx hFx hPx ((ex_at1)) ((ex_tk1)) ((ex_fk1)) ((ex_nd1)) ((ex_op1)) ((ex_ks)) ((fx_9)) (by omega) (by omega) (by omega) (by omega) (by omega) (by omega) (by omega) (by omega) (by omega) (by omega) (by omega) (by omega) (by omega) (by omega) (iv_10) (iv_11) (iv_12)
            · have _q := h1116
              refine jx_ld (pc' := 147) (l' := L1087) (st' := [.ref 66]) rfl (jl_aloadn gL1087_0) ?_
              refine jx_ar (pc' := 148) (st' := [.int (i32 (1)), .ref 66]) rfl rfl rfl rfl ?_
              refine jx_ld (pc' := 149) (l' := L1087) (st' := [.ref 66, .int (i32 (1)), .ref 66]) rfl (jl_aloadn gL1087_0) ?_
              have b1118 : (-3000 : Int) ≤ Gx 12 ∧ Gx 12 ≤ 3002 := hWx.1 12
              refine jr_get (pc' := 152) (i := 12) (v := .int (i32 (Gx 12))) rfl rfl (by decide) rfl rfl ?_
              refine jx_vr (pc' := 155) (as := [.int (i32 (1)), .int (i32 (Gx 12))]) (st := []) rfl rfl rfl rfl ⟨rfl, rfl, Nat.le_of_ble_eq_true rfl⟩ rfl rfl (c_fail (dd := d) (hd := by omega) (hW := hWx) (kind := 1) (place := Gx 12) (fk := fk1) (e_fk := show Gx 16 = fk1 from (ex_fk1))  (h_kind := ⟨(by decide), (by decide)⟩) (h_place := ⟨(Int.le_trans (by decide : (-2147483648 : Int) ≤ -3000) b1118.1), (Int.le_trans b1118.2 (by decide : (3002 : Int) ≤ 2147483647))⟩)  (p_0 := by omega) (p_1 := by omega)) (fun o V' hq => ?_)
              obtain ⟨G1119, A1120, fk2_1121, rfl, rfl, hW1122, hF1123, e1124, p1125, -⟩ := hq
              have hF1127 := Fr_tr hFx hF1123 (Fr_sub (by decide)) (Fr_sub (by decide))
              have hP1128 := Pf_f hPx hF1123 (by decide)
              have sf1129 : ND A1120 (one) (33) (0) (0) (0) (0) (0) (0) := ND_ag (by omega) (Ag_fr hF1123 (by decide)) iv_11
              have sf1130 : wE A1120 Vs sb (20) (ix) (one + 1) (nd1) := wE_ag (by omega) (Sg_fr hF1123 (by decide)) (Ag_fr hF1123 (by decide)) iv_12
              have bfk2_1121 : (0 : Int) ≤ fk2_1121 ∧ fk2_1121 ≤ 6 := e1124 ▸ hW1122.1 16
              refine .inl ⟨rfl, ?_⟩
              refine jx_ar (pc' := 156) (st' := [.int (i32 (0))]) rfl rfl rfl rfl ?_
              refine jx_rt (v := some (.int (i32 (0)))) rfl rfl rfl rfl rfl rfl ?_
              exact ⟨_, _, _, at1, fk2_1121, nd1, ln, rfl, rfl, hW1122, hF1127, hP1128, by omega, ((hF1123.1 10 rfl).trans (ex_at1)), (e1124), ((hF1123.1 31 rfl).trans (ex_nd1)), ((hF1123.1 9 rfl).trans (fx_9)), by omega, by omega, by omega, by omega, by omega, by first | exact Or.inl (⟨by omega, by omega, by omega⟩)⟩
set_option maxRecDepth 20000 in
set_option maxHeartbeats 4000000 in
theorem c_readGuard_at_108_0 {X : jX} {d : Nat} {Vs : Nat → Prop} {sb : Int} {c0 c1 : jC} {G : Nat → Int} {A : Nat → Nat → Int} {T : jH} {ln le at0 fk op0 nd tk0 li : Int} (hd : 71 ≤ d + 1) (hW : Wk G A) (e_ln : G 9 = ln) (e_le : A 4 (ln).toNat = le) (e_at0 : G 10 = at0) (e_fk : G 16 = fk) (e_op0 : G 15 = op0) (e_nd : G 31 = nd) (e_tk0 : G 11 = tk0) (e_li : G 3 = li) (i_SV : SV Vs sb G A) (p_0 : 0 ≤ op0 ∧ op0 ≤ 8) (p_1 : fk = 0) (p_2 : nd ≤ 2 * at0 - tz tk0 + 42) (p_3 : at0 ≤ le) (p_4 : ln < li) : ∀ (L : jL) (Gx : Nat → Int) (Ax : Nat → Nat → Int) (one pl s at1 tk1 fk1 nd1 op1 ks : Int), jGet L 0 = some (.ref 66) → jGet L 6 = some (.int (i32 (0))) → jGet L 5 = some (.int (i32 (0))) → jGet L 1 = some (.int (i32 one)) → jGet L 3 = some (.int (i32 pl)) → jGet L 4 = some (.int (i32 s)) → Wk Gx Ax → Fr [9, 10, 11, 12, 13, 14, 15, 16, 17, 18, 31] [15, 16, 17, 18, 19, 20, 21, 22, 24, 28] G A Gx Ax → Pf nd A Ax → Gx 10 = at1 → Gx 11 = tk1 → Gx 16 = fk1 → Gx 31 = nd1 → Gx 15 = op1 → Ax 7 (s).toNat = ks → Gx 9 = ln → ((-2147483648 : Int) ≤ one ∧ one ≤ 2147483647) → ((-2147483648 : Int) ≤ pl ∧ pl ≤ 2147483647) → ((-2147483648 : Int) ≤ s ∧ s ≤ 2147483647) → (at0 ≤ at1) → (at1 ≤ le) → (nd ≤ nd1) → (op1 = op0) → (one = nd) → (one ≤ 6998 ∧ one < nd1) → (fk1 = 0) → (nd1 - nd ≤ (2 * at1 - tz tk1) - (2 * at0 - tz tk0)) → (0 ≤ s ∧ s ≤ 201) → (-3000 ≤ pl ∧ pl ≤ 3002) → (SY Vs sb (s)) → (ND Ax (one) (33) (0) (0) (0) (0) (0) (0)) → wj X d jm303 (108, L, [], rV c0 c1 Gx Ax T) (fun o V' => ∃ (G' : Nat → Int) (A' : Nat → Nat → Int) (r : Int) (at2 : Int) (fk2 : Int) (nd2 : Int) (ln2 : Int), V' = rV c0 c1 G' A' T ∧ o = .inl (some (.int (i32 r))) ∧ Wk G' A' ∧ Fr [9, 10, 11, 12, 13, 14, 15, 16, 17, 18, 31] [15, 16, 17, 18, 19, 20, 21, 22, 24, 28] G A G' A' ∧ Pf nd A A' ∧ ((-2147483648 : Int) ≤ r ∧ r ≤ 2147483647) ∧ G' 10 = at2 ∧ G' 16 = fk2 ∧ G' 31 = nd2 ∧ G' 9 = ln2 ∧ (at0 ≤ at2) ∧ (at2 ≤ le) ∧ (nd ≤ nd2) ∧ (0 ≤ r) ∧ (r ≤ nd2) ∧ (((1 ≤ fk2) ∧ (ln2 = ln) ∧ (nd2 - nd ≤ 2 * at2 - 2 * at0 + 12)) ∨ ((fk2 = 0) ∧ (ln2 = ln + 1) ∧ (nd2 - nd ≤ 2 * at2 - (2 * at0 - tz tk0) + 0) ∧ (nd ≤ r) ∧ (r < nd2) ∧ (wU A' Vs sb (r) (nd) (nd2)) ∧ (NX A' (r))))) := by
  have hF0 : Fr [9, 10, 11, 12, 13, 14, 15, 16, 17, 18, 31] [15, 16, 17, 18, 19, 20, 21, 22, 24, 28] G A G A := Fr_rf
  have hP0 : Pf nd A A := Pf_rf
  have b_ln : (0 : Int) ≤ ln ∧ ln ≤ 3000 := e_ln ▸ hW.1 9
  have b_le : (0 : Int) ≤ le ∧ le ≤ 3000 := e_le ▸ hW.2 4 _
  have b_at0 : (0 : Int) ≤ at0 ∧ at0 ≤ 3002 := e_at0 ▸ hW.1 10
  have b_fk : (0 : Int) ≤ fk ∧ fk ≤ 6 := e_fk ▸ hW.1 16
  have b_op0 : (-2147483648 : Int) ≤ op0 ∧ op0 ≤ 2147483647 := e_op0 ▸ hW.1 15
  have b_nd : (0 : Int) ≤ nd ∧ nd ≤ 6999 := e_nd ▸ hW.1 31
  have z_tk0 := tz_f tk0
  have b_tk0 : (0 : Int) ≤ tk0 ∧ tk0 ≤ 5 := e_tk0 ▸ hW.1 11
  have b_li : (0 : Int) ≤ li ∧ li ≤ 3000 := e_li ▸ hW.1 3
  intro L Gx Ax one pl s at1 tk1 fk1 nd1 op1 ks gL_0 gL_6 gL_5 gL_1 gL_3 gL_4 hWx hFx hPx ex_at1 ex_tk1 ex_fk1 ex_nd1 ex_op1 ex_ks fx_9 rx_one rx_pl rx_s iv_0 iv_1 iv_2 iv_3 iv_4 iv_5 iv_6 iv_7 iv_8 iv_9 iv_10 iv_11
  have b_at1 : (0 : Int) ≤ at1 ∧ at1 ≤ 3002 := ex_at1 ▸ hWx.1 10
  have z_tk1 := tz_f tk1
  have b_tk1 : (0 : Int) ≤ tk1 ∧ tk1 ≤ 5 := ex_tk1 ▸ hWx.1 11
  have b_fk1 : (0 : Int) ≤ fk1 ∧ fk1 ≤ 6 := ex_fk1 ▸ hWx.1 16
  have b_nd1 : (0 : Int) ≤ nd1 ∧ nd1 ≤ 6999 := ex_nd1 ▸ hWx.1 31
  have b_op1 : (-2147483648 : Int) ≤ op1 ∧ op1 ≤ 2147483647 := ex_op1 ▸ hWx.1 15
  have b_ks : (0 : Int) ≤ ks ∧ ks ≤ 14 := ex_ks ▸ hWx.2 7 _
  refine jx_ld (pc' := 109) (l' := L) (st' := [.ref 66]) rfl (jl_aloadn gL_0) ?_
  refine jx_ar (pc' := 111) (st' := [.int (i32 (63)), .ref 66]) rfl rfl rfl rfl ?_
  have b1131 : (-2147483648 : Int) ≤ Gx 13 ∧ Gx 13 ≤ 2147483647 := hWx.1 13
  refine jx_vr (pc' := 114) (as := [.int (i32 (63))]) (st := []) rfl rfl rfl rfl ⟨rfl, rfl, Nat.le_of_ble_eq_true rfl⟩ rfl rfl (c_is (dd := d) (hd := by omega) (hW := hWx) (k := 63) (tk := tk1) (e_tk := show Gx 11 = tk1 from (ex_tk1)) (tn := Gx 13) (e_tn := show Gx 13 = Gx 13 from rfl)  (h_k := ⟨(by decide), (by decide)⟩)  ) (fun o V' hq => ?_)
  obtain ⟨r1132, rfl, rfl, b1133, q1134⟩ := hq
  refine .inr ⟨_, rfl, ?_⟩
  rcases q1134 with ⟨rfl, a1135, a1136, a1137⟩ | rfl
  · have _q : True := trivial
    refine jx_ld (pc' := 116) (l' := jSto1 L 7 (.int (i32 (1)))) (st' := []) rfl rfl ?_
    obtain ⟨L1138, eL1138⟩ : ∃ q, q = jSto1 L 7 (.int (i32 (1))) := ⟨_, rfl⟩
    rw [← eL1138]
    have gL1138_0 : jGet L1138 0 = some (.ref 66) := eL1138 ▸ jg_ne (by decide) gL_0 rfl
    have gL1138_6 : jGet L1138 6 = some (.int (i32 (0))) := eL1138 ▸ jg_ne (by decide) gL_6 rfl
    have gL1138_5 : jGet L1138 5 = some (.int (i32 (0))) := eL1138 ▸ jg_ne (by decide) gL_5 rfl
    have gL1138_1 : jGet L1138 1 = some (.int (i32 (one))) := eL1138 ▸ jg_ne (by decide) gL_1 rfl
    have gL1138_3 : jGet L1138 3 = some (.int (i32 (pl))) := eL1138 ▸ jg_ne (by decide) gL_3 rfl
    have gL1138_4 : jGet L1138 4 = some (.int (i32 (s))) := eL1138 ▸ jg_ne (by decide) gL_4 rfl
    have gL1138_7 : jGet L1138 7 = some (.int (i32 (1))) := eL1138 ▸ jg_eq
    refine jx_ld (pc' := 117) (l' := L1138) (st' := [.ref 66]) rfl (jl_aloadn gL1138_0) ?_
    refine jr_get (pc' := 120) (i := 21) (v := .ref 74) rfl rfl (by decide) rfl rfl ?_
    refine jx_ld (pc' := 122) (l' := L1138) (st' := [.int (i32 (s)), .ref 74]) rfl (jl_iload gL1138_4) ?_
    refine jr_ldv (pc' := 123) (i := 7) (m := 260) (z := s) (y := ks) rfl (by decide) rfl (by decide) (by omega) (by omega) rfl (show Ax 7 (s).toNat = ks from (ex_ks)) ?_
    refine jx_ld (pc' := 125) (l' := jSto1 L1138 8 (.int (i32 (ks)))) (st' := []) rfl rfl ?_
    obtain ⟨L1139, eL1139⟩ : ∃ q, q = jSto1 L1138 8 (.int (i32 (ks))) := ⟨_, rfl⟩
    rw [← eL1139]
    have gL1139_0 : jGet L1139 0 = some (.ref 66) := eL1139 ▸ jg_ne (by decide) gL1138_0 rfl
    have gL1139_6 : jGet L1139 6 = some (.int (i32 (0))) := eL1139 ▸ jg_ne (by decide) gL1138_6 rfl
    have gL1139_5 : jGet L1139 5 = some (.int (i32 (0))) := eL1139 ▸ jg_ne (by decide) gL1138_5 rfl
    have gL1139_1 : jGet L1139 1 = some (.int (i32 (one))) := eL1139 ▸ jg_ne (by decide) gL1138_1 rfl
    have gL1139_3 : jGet L1139 3 = some (.int (i32 (pl))) := eL1139 ▸ jg_ne (by decide) gL1138_3 rfl
    have gL1139_4 : jGet L1139 4 = some (.int (i32 (s))) := eL1139 ▸ jg_ne (by decide) gL1138_4 rfl
    have gL1139_7 : jGet L1139 7 = some (.int (i32 (1))) := eL1139 ▸ jg_ne (by decide) gL1138_7 rfl
    have gL1139_8 : jGet L1139 8 = some (.int (i32 (ks))) := eL1139 ▸ jg_eq
    refine jx_ld (pc' := 127) (l' := L1139) (st' := [.int (i32 (1))]) rfl (jl_iload gL1139_7) ?_
    refine jx_if_ne (pc' := 130) (tg := 157) rfl rfl rfl (by decide) (by decide) (fun h1140 => ?_) (fun h1140 => ?_)
    · have _q := h1140
      have z1141 := tz_f (tk1)
      exact c_readGuard_at_157_0_1 (X := X) (d := d) (Vs := Vs) (sb := sb) (c0 := c0) (c1 := c1) (G := G) (A := A) (T := T) (ln := ln) (le := le) (at0 := at0) (fk := fk) (op0 := op0) (nd := nd) (tk0 := tk0) (li := li) (hd := hd) (hW := hW) (e_ln := e_ln) (e_le := e_le) (e_at0 := e_at0) (e_fk := e_fk) (e_op0 := e_op0) (e_nd := e_nd) (e_tk0 := e_tk0) (e_li := e_li) (i_SV := i_SV) (p_0 := p_0) (p_1 := p_1) (p_2 := p_2) (p_3 := p_3) (p_4 := p_4) L1139 Gx Ax (one) (pl) (s) (at1) (tk1) (fk1) (nd1) (op1) (ks) gL1139_0 gL1139_6 gL1139_7 gL1139_8 gL1139_5 gL1139_1 gL1139_3 gL1139_4 hWx hFx hPx ((ex_at1)) ((ex_tk1)) ((ex_fk1)) ((ex_nd1)) ((ex_op1)) ((ex_ks)) ((fx_9)) (by omega) (by omega) (by omega) (by omega) (by omega) (by omega) (by omega) (by omega) (by omega) (by omega) (by omega) (by omega) (by omega) (iv_10) (iv_11) (by omega)
    · have _q := h1140
      exact absurd h1140 (by omega)
  · have _q : True := trivial
    refine jx_ld (pc' := 116) (l' := jSto1 L 7 (.int (i32 (0)))) (st' := []) rfl rfl ?_
    obtain ⟨L1142, eL1142⟩ : ∃ q, q = jSto1 L 7 (.int (i32 (0))) := ⟨_, rfl⟩
    rw [← eL1142]
    have gL1142_0 : jGet L1142 0 = some (.ref 66) := eL1142 ▸ jg_ne (by decide) gL_0 rfl
    have gL1142_6 : jGet L1142 6 = some (.int (i32 (0))) := eL1142 ▸ jg_ne (by decide) gL_6 rfl
    have gL1142_5 : jGet L1142 5 = some (.int (i32 (0))) := eL1142 ▸ jg_ne (by decide) gL_5 rfl
    have gL1142_1 : jGet L1142 1 = some (.int (i32 (one))) := eL1142 ▸ jg_ne (by decide) gL_1 rfl
    have gL1142_3 : jGet L1142 3 = some (.int (i32 (pl))) := eL1142 ▸ jg_ne (by decide) gL_3 rfl
    have gL1142_4 : jGet L1142 4 = some (.int (i32 (s))) := eL1142 ▸ jg_ne (by decide) gL_4 rfl
    have gL1142_7 : jGet L1142 7 = some (.int (i32 (0))) := eL1142 ▸ jg_eq
    refine jx_ld (pc' := 117) (l' := L1142) (st' := [.ref 66]) rfl (jl_aloadn gL1142_0) ?_
    refine jr_get (pc' := 120) (i := 21) (v := .ref 74) rfl rfl (by decide) rfl rfl ?_
    refine jx_ld (pc' := 122) (l' := L1142) (st' := [.int (i32 (s)), .ref 74]) rfl (jl_iload gL1142_4) ?_
    refine jr_ldv (pc' := 123) (i := 7) (m := 260) (z := s) (y := ks) rfl (by decide) rfl (by decide) (by omega) (by omega) rfl (show Ax 7 (s).toNat = ks from (ex_ks)) ?_
    refine jx_ld (pc' := 125) (l' := jSto1 L1142 8 (.int (i32 (ks)))) (st' := []) rfl rfl ?_
    obtain ⟨L1143, eL1143⟩ : ∃ q, q = jSto1 L1142 8 (.int (i32 (ks))) := ⟨_, rfl⟩
    rw [← eL1143]
    have gL1143_0 : jGet L1143 0 = some (.ref 66) := eL1143 ▸ jg_ne (by decide) gL1142_0 rfl
    have gL1143_6 : jGet L1143 6 = some (.int (i32 (0))) := eL1143 ▸ jg_ne (by decide) gL1142_6 rfl
    have gL1143_5 : jGet L1143 5 = some (.int (i32 (0))) := eL1143 ▸ jg_ne (by decide) gL1142_5 rfl
    have gL1143_1 : jGet L1143 1 = some (.int (i32 (one))) := eL1143 ▸ jg_ne (by decide) gL1142_1 rfl
    have gL1143_3 : jGet L1143 3 = some (.int (i32 (pl))) := eL1143 ▸ jg_ne (by decide) gL1142_3 rfl
    have gL1143_4 : jGet L1143 4 = some (.int (i32 (s))) := eL1143 ▸ jg_ne (by decide) gL1142_4 rfl
    have gL1143_7 : jGet L1143 7 = some (.int (i32 (0))) := eL1143 ▸ jg_ne (by decide) gL1142_7 rfl
    have gL1143_8 : jGet L1143 8 = some (.int (i32 (ks))) := eL1143 ▸ jg_eq
    refine jx_ld (pc' := 127) (l' := L1143) (st' := [.int (i32 (0))]) rfl (jl_iload gL1143_7) ?_
    refine jx_if_ne (pc' := 130) (tg := 157) rfl rfl rfl (by decide) (by decide) (fun h1144 => ?_) (fun h1144 => ?_)
    · have _q := h1144
      exact absurd h1144 (by omega)
    · have _q := h1144
      refine jx_ld (pc' := 131) (l' := L1143) (st' := [.ref 66]) rfl (jl_aloadn gL1143_0) ?_
      refine jx_ar (pc' := 133) (st' := [.int (i32 (38)), .ref 66]) rfl rfl rfl rfl ?_
      refine jx_vr (pc' := 136) (as := [.int (i32 (38))]) (st := []) rfl rfl rfl rfl ⟨rfl, rfl, Nat.le_of_ble_eq_true rfl⟩ rfl rfl (c_is (dd := d) (hd := by omega) (hW := hWx) (k := 38) (tk := tk1) (e_tk := show Gx 11 = tk1 from (ex_tk1)) (tn := Gx 13) (e_tn := show Gx 13 = Gx 13 from rfl)  (h_k := ⟨(by decide), (by decide)⟩)  ) (fun o V' hq => ?_)
      obtain ⟨r1145, rfl, rfl, b1146, q1147⟩ := hq
      refine .inr ⟨_, rfl, ?_⟩
      rcases q1147 with ⟨rfl, a1148, a1149, a1150⟩ | rfl
      · have _q : True := trivial
        refine jx_if_ne (pc' := 139) (tg := 157) rfl rfl rfl (by decide) (by decide) (fun h1151 => ?_) (fun h1151 => ?_)
        · have _q := h1151
          have z1152 := tz_f (tk1)
          exact c_readGuard_at_157_0_0 (X := X) (d := d) (Vs := Vs) (sb := sb) (c0 := c0) (c1 := c1) (G := G) (A := A) (T := T) (ln := ln) (le := le) (at0 := at0) (fk := fk) (op0 := op0) (nd := nd) (tk0 := tk0) (li := li) (hd := hd) (hW := hW) (e_ln := e_ln) (e_le := e_le) (e_at0 := e_at0) (e_fk := e_fk) (e_op0 := e_op0) (e_nd := e_nd) (e_tk0 := e_tk0) (e_li := e_li) (i_SV := i_SV) (p_0 := p_0) (p_1 := p_1) (p_2 := p_2) (p_3 := p_3) (p_4 := p_4) L1143 Gx Ax (one) (pl) (s) (at1) (tk1) (fk1) (nd1) (op1) (ks) gL1143_0 gL1143_6 gL1143_7 gL1143_8 gL1143_5 gL1143_1 gL1143_3 gL1143_4 hWx hFx hPx ((ex_at1)) ((ex_tk1)) ((ex_fk1)) ((ex_nd1)) ((ex_op1)) ((ex_ks)) ((fx_9)) (by omega) (by omega) (by omega) (by omega) (by omega) (by omega) (by omega) (by omega) (by omega) (by omega) (by omega) (by omega) (by omega) (iv_10) (iv_11)
        · have _q := h1151
          exact absurd h1151 (by omega)
      · have _q : True := trivial
        refine jx_if_ne (pc' := 139) (tg := 157) rfl rfl rfl (by decide) (by decide) (fun h1153 => ?_) (fun h1153 => ?_)
        · have _q := h1153
          exact absurd h1153 (by omega)
        · have _q := h1153
          refine jx_ld (pc' := 140) (l' := L1143) (st' := [.ref 66]) rfl (jl_aloadn gL1143_0) ?_
          refine jx_vr (pc' := 143) (as := []) (st := []) rfl rfl rfl rfl ⟨rfl, rfl, Nat.le_of_ble_eq_true rfl⟩ rfl rfl (c_operationAt (dd := d) (hd := by omega) (hW := hWx)  (tk := tk1) (e_tk := show Gx 11 = tk1 from (ex_tk1)) (tn := Gx 13) (e_tn := show Gx 13 = Gx 13 from rfl)    ) (fun o V' hq => ?_)
          obtain ⟨r1154, rfl, rfl, b1155, q1156⟩ := hq
          refine .inr ⟨_, rfl, ?_⟩
          rcases q1156 with rfl | a1157
          · have _q : True := trivial
            refine jx_if_ne (pc' := 146) (tg := 157) rfl rfl rfl (by decide) (by decide) (fun h1158 => ?_) (fun h1158 => ?_)
            · have _q := h1158
              exact absurd h1158 (by omega)
            · have _q := h1158
              refine jx_ld (pc' := 147) (l' := L1143) (st' := [.ref 66]) rfl (jl_aloadn gL1143_0) ?_
              refine jx_ar (pc' := 148) (st' := [.int (i32 (1)), .ref 66]) rfl rfl rfl rfl ?_
              refine jx_ld (pc' := 149) (l' := L1143) (st' := [.ref 66, .int (i32 (1)), .ref 66]) rfl (jl_aloadn gL1143_0) ?_
              have b1159 : (-3000 : Int) ≤ Gx 12 ∧ Gx 12 ≤ 3002 := hWx.1 12
              refine jr_get (pc' := 152) (i := 12) (v := .int (i32 (Gx 12))) rfl rfl (by decide) rfl rfl ?_
              refine jx_vr (pc' := 155) (as := [.int (i32 (1)), .int (i32 (Gx 12))]) (st := []) rfl rfl rfl rfl ⟨rfl, rfl, Nat.le_of_ble_eq_true rfl⟩ rfl rfl (c_fail (dd := d) (hd := by omega) (hW := hWx) (kind := 1) (place := Gx 12) (fk := fk1) (e_fk := show Gx 16 = fk1 from (ex_fk1))  (h_kind := ⟨(by decide), (by decide)⟩) (h_place := ⟨(Int.le_trans (by decide : (-2147483648 : Int) ≤ -3000) b1159.1), (Int.le_trans b1159.2 (by decide : (3002 : Int) ≤ 2147483647))⟩)  (p_0 := by omega) (p_1 := by omega)) (fun o V' hq => ?_)
              obtain ⟨G1160, A1161, fk2_1162, rfl, rfl, hW1163, hF1164, e1165, p1166, -⟩ := hq
              have hF1168 := Fr_tr hFx hF1164 (Fr_sub (by decide)) (Fr_sub (by decide))
              have hP1169 := Pf_f hPx hF1164 (by decide)
              have sf1170 : ND A1161 (one) (33) (0) (0) (0) (0) (0) (0) := ND_ag (by omega) (Ag_fr hF1164 (by decide)) iv_11
              have bfk2_1162 : (0 : Int) ≤ fk2_1162 ∧ fk2_1162 ≤ 6 := e1165 ▸ hW1163.1 16
              refine .inl ⟨rfl, ?_⟩
              refine jx_ar (pc' := 156) (st' := [.int (i32 (0))]) rfl rfl rfl rfl ?_
              refine jx_rt (v := some (.int (i32 (0)))) rfl rfl rfl rfl rfl rfl ?_
              exact ⟨_, _, _, at1, fk2_1162, nd1, ln, rfl, rfl, hW1163, hF1168, hP1169, by omega, ((hF1164.1 10 rfl).trans (ex_at1)), (e1165), ((hF1164.1 31 rfl).trans (ex_nd1)), ((hF1164.1 9 rfl).trans (fx_9)), by omega, by omega, by omega, by omega, by omega, by first | exact Or.inl (⟨by omega, by omega, by omega⟩)⟩
          · have _q : True := trivial
            refine jx_if_ne (pc' := 146) (tg := 157) rfl rfl rfl (Int.le_trans (by decide : (-2147483648 : Int) ≤ -2147483648) b1155.1) (Int.le_trans b1155.2 (by decide : (2147483647 : Int) ≤ 2147483647)) (fun h1171 => ?_) (fun h1171 => ?_)
            · have _q := h1171
              have z1172 := tz_f (tk1)
              exact c_readGuard_at_157_0_0 (X := X) (d := d) (Vs := Vs) (sb := sb) (c0 := c0) (c1 := c1) (G := G) (A := A) (T := T) (ln := ln) (le := le) (at0 := at0) (fk := fk) (op0 := op0) (nd := nd) (tk0 := tk0) (li := li) (hd := hd) (hW := hW) (e_ln := e_ln) (e_le := e_le) (e_at0 := e_at0) (e_fk := e_fk) (e_op0 := e_op0) (e_nd := e_nd) (e_tk0 := e_tk0) (e_li := e_li) (i_SV := i_SV) (p_0 := p_0) (p_1 := p_1) (p_2 := p_2) (p_3 := p_3) (p_4 := p_4) L1143 Gx Ax (one) (pl) (s) (at1) (tk1) (fk1) (nd1) (op1) (ks) gL1143_0 gL1143_6 gL1143_7 gL1143_8 gL1143_5 gL1143_1 gL1143_3 gL1143_4 hWx hFx hPx ((ex_at1)) ((ex_tk1)) ((ex_fk1)) ((ex_nd1)) ((ex_op1)) ((ex_ks)) ((fx_9)) (by omega) (by omega) (by omega) (by omega) (by omega) (by omega) (by omega) (by omega) (by omega) (by omega) (by omega) (by omega) (by omega) (iv_10) (iv_11)
            · have _q := h1171
              refine jx_ld (pc' := 147) (l' := L1143) (st' := [.ref 66]) rfl (jl_aloadn gL1143_0) ?_
              refine jx_ar (pc' := 148) (st' := [.int (i32 (1)), .ref 66]) rfl rfl rfl rfl ?_
              refine jx_ld (pc' := 149) (l' := L1143) (st' := [.ref 66, .int (i32 (1)), .ref 66]) rfl (jl_aloadn gL1143_0) ?_
              have b1173 : (-3000 : Int) ≤ Gx 12 ∧ Gx 12 ≤ 3002 := hWx.1 12
              refine jr_get (pc' := 152) (i := 12) (v := .int (i32 (Gx 12))) rfl rfl (by decide) rfl rfl ?_
              refine jx_vr (pc' := 155) (as := [.int (i32 (1)), .int (i32 (Gx 12))]) (st := []) rfl rfl rfl rfl ⟨rfl, rfl, Nat.le_of_ble_eq_true rfl⟩ rfl rfl (c_fail (dd := d) (hd := by omega) (hW := hWx) (kind := 1) (place := Gx 12) (fk := fk1) (e_fk := show Gx 16 = fk1 from (ex_fk1))  (h_kind := ⟨(by decide), (by decide)⟩) (h_place := ⟨(Int.le_trans (by decide : (-2147483648 : Int) ≤ -3000) b1173.1), (Int.le_trans b1173.2 (by decide : (3002 : Int) ≤ 2147483647))⟩)  (p_0 := by omega) (p_1 := by omega)) (fun o V' hq => ?_)
              obtain ⟨G1174, A1175, fk2_1176, rfl, rfl, hW1177, hF1178, e1179, p1180, -⟩ := hq
              have hF1182 := Fr_tr hFx hF1178 (Fr_sub (by decide)) (Fr_sub (by decide))
              have hP1183 := Pf_f hPx hF1178 (by decide)
              have sf1184 : ND A1175 (one) (33) (0) (0) (0) (0) (0) (0) := ND_ag (by omega) (Ag_fr hF1178 (by decide)) iv_11
              have bfk2_1176 : (0 : Int) ≤ fk2_1176 ∧ fk2_1176 ≤ 6 := e1179 ▸ hW1177.1 16
              refine .inl ⟨rfl, ?_⟩
              refine jx_ar (pc' := 156) (st' := [.int (i32 (0))]) rfl rfl rfl rfl ?_
              refine jx_rt (v := some (.int (i32 (0)))) rfl rfl rfl rfl rfl rfl ?_
              exact ⟨_, _, _, at1, fk2_1176, nd1, ln, rfl, rfl, hW1177, hF1182, hP1183, by omega, ((hF1178.1 10 rfl).trans (ex_at1)), (e1179), ((hF1178.1 31 rfl).trans (ex_nd1)), ((hF1178.1 9 rfl).trans (fx_9)), by omega, by omega, by omega, by omega, by omega, by first | exact Or.inl (⟨by omega, by omega, by omega⟩)⟩
set_option maxRecDepth 20000 in
set_option maxHeartbeats 4000000 in
theorem c_readGuard {X : jX} {dd : Nat} {Vs : Nat → Prop} {sb : Int} {c0 c1 : jC} {G : Nat → Int} {A : Nat → Nat → Int} {T : jH} {ln le at0 fk op0 nd tk0 li : Int} (hd : 71 ≤ dd) (hW : Wk G A) (e_ln : G 9 = ln) (e_le : A 4 (ln).toNat = le) (e_at0 : G 10 = at0) (e_fk : G 16 = fk) (e_op0 : G 15 = op0) (e_nd : G 31 = nd) (e_tk0 : G 11 = tk0) (e_li : G 3 = li) (i_SV : SV Vs sb G A) (p_0 : 0 ≤ op0 ∧ op0 ≤ 8) (p_1 : fk = 0) (p_2 : nd ≤ 2 * at0 - tz tk0 + 42) (p_3 : at0 ≤ le) (p_4 : ln < li) : wk X dd 303 [.ref 66] (rV c0 c1 G A T) (fun o V' => ∃ (G' : Nat → Int) (A' : Nat → Nat → Int) (r : Int) (at2 : Int) (fk2 : Int) (nd2 : Int) (ln2 : Int), V' = rV c0 c1 G' A' T ∧ o = .inl (some (.int (i32 r))) ∧ Wk G' A' ∧ Fr [9, 10, 11, 12, 13, 14, 15, 16, 17, 18, 31] [15, 16, 17, 18, 19, 20, 21, 22, 24, 28] G A G' A' ∧ Pf nd A A' ∧ ((-2147483648 : Int) ≤ r ∧ r ≤ 2147483647) ∧ G' 10 = at2 ∧ G' 16 = fk2 ∧ G' 31 = nd2 ∧ G' 9 = ln2 ∧ (at0 ≤ at2) ∧ (at2 ≤ le) ∧ (nd ≤ nd2) ∧ (0 ≤ r) ∧ (r ≤ nd2) ∧ (((1 ≤ fk2) ∧ (ln2 = ln) ∧ (nd2 - nd ≤ 2 * at2 - 2 * at0 + 12)) ∨ ((fk2 = 0) ∧ (ln2 = ln + 1) ∧ (nd2 - nd ≤ 2 * at2 - (2 * at0 - tz tk0) + 0) ∧ (nd ≤ r) ∧ (r < nd2) ∧ (wU A' Vs sb (r) (nd) (nd2)) ∧ (NX A' (r))))) := by
  obtain ⟨d, rfl⟩ : ∃ d, dd = d + 1 := ⟨dd - 1, by omega⟩
  refine wk_of (e := jm303) rfl (Nat.le_of_ble_eq_true rfl) ?_
  show wj X d jm303 (0, [(0, .ref 66)], [], rV c0 c1 G A T) _
  have hF0 : Fr [9, 10, 11, 12, 13, 14, 15, 16, 17, 18, 31] [15, 16, 17, 18, 19, 20, 21, 22, 24, 28] G A G A := Fr_rf
  have hP0 : Pf nd A A := Pf_rf
  have b_ln : (0 : Int) ≤ ln ∧ ln ≤ 3000 := e_ln ▸ hW.1 9
  have b_le : (0 : Int) ≤ le ∧ le ≤ 3000 := e_le ▸ hW.2 4 _
  have b_at0 : (0 : Int) ≤ at0 ∧ at0 ≤ 3002 := e_at0 ▸ hW.1 10
  have b_fk : (0 : Int) ≤ fk ∧ fk ≤ 6 := e_fk ▸ hW.1 16
  have b_op0 : (-2147483648 : Int) ≤ op0 ∧ op0 ≤ 2147483647 := e_op0 ▸ hW.1 15
  have b_nd : (0 : Int) ≤ nd ∧ nd ≤ 6999 := e_nd ▸ hW.1 31
  have z_tk0 := tz_f tk0
  have b_tk0 : (0 : Int) ≤ tk0 ∧ tk0 ≤ 5 := e_tk0 ▸ hW.1 11
  have b_li : (0 : Int) ≤ li ∧ li ≤ 3000 := e_li ▸ hW.1 3
  refine jx_ld (pc' := 1) (l' := [(0, .ref 66)]) (st' := [.ref 66]) rfl (jl_aloadn rfl) ?_
  refine jx_ar (pc' := 3) (st' := [.int (i32 (33)), .ref 66]) rfl rfl rfl rfl ?_
  refine jx_ar (pc' := 4) (st' := [.int (i32 (0)), .int (i32 (33)), .ref 66]) rfl rfl rfl rfl ?_
  refine jx_ar (pc' := 5) (st' := [.int (i32 (0)), .int (i32 (0)), .int (i32 (33)), .ref 66]) rfl rfl rfl rfl ?_
  refine jx_ar (pc' := 6) (st' := [.int (i32 (0)), .int (i32 (0)), .int (i32 (0)), .int (i32 (33)), .ref 66]) rfl rfl rfl rfl ?_
  refine jx_ar (pc' := 7) (st' := [.int (i32 (0)), .int (i32 (0)), .int (i32 (0)), .int (i32 (0)), .int (i32 (33)), .ref 66]) rfl rfl rfl rfl ?_
  refine jx_vr (pc' := 10) (as := [.int (i32 (33)), .int (i32 (0)), .int (i32 (0)), .int (i32 (0)), .int (i32 (0))]) (st := []) rfl rfl rfl rfl ⟨rfl, rfl, Nat.le_of_ble_eq_true rfl⟩ rfl rfl (c_node (dd := d) (hd := by omega) (hW := hW) (kind := 33) (a := 0) (b := 0) (c := 0) (e := 0) (nd := nd) (e_nd := show G 31 = nd from (e_nd))  (h_kind := ⟨(by decide), (by decide)⟩) (h_a := ⟨(by decide), (by decide)⟩) (h_b := ⟨(by decide), (by decide)⟩) (h_c := ⟨(by decide), (by decide)⟩) (h_e := ⟨(by decide), (by decide)⟩)  (p_0 := by omega) (p_1 := by omega)) (fun o V' hq => ?_)
  obtain ⟨G1185, A1186, nd2_1187, rfl, rfl, hW1188, hF1189, hQ1190, e1191, p1192, p1193, -⟩ := hq
  have hF1195 := Fr_tr hF0 hF1189 (Fr_sub (by decide)) (Fr_sub (by decide))
  have hP1196 := Pf_tr hP0 hQ1190 (by omega)
  have bnd2_1187 : (0 : Int) ≤ nd2_1187 ∧ nd2_1187 ≤ 6999 := e1191 ▸ hW1188.1 31
  refine .inr ⟨_, rfl, ?_⟩
  refine jx_ld (pc' := 11) (l' := jSto1 [(0, .ref 66)] 1 (.int (i32 (nd)))) (st' := []) rfl rfl ?_
  obtain ⟨L1197, eL1197⟩ : ∃ q, q = jSto1 [(0, .ref 66)] 1 (.int (i32 (nd))) := ⟨_, rfl⟩
  rw [← eL1197]
  have gL1197_0 : jGet L1197 0 = some (.ref 66) := eL1197 ▸ jg_ne (by decide) (rfl : jGet [(0, .ref 66)] 0 = some (.ref 66)) rfl
  have gL1197_1 : jGet L1197 1 = some (.int (i32 (nd))) := eL1197 ▸ jg_eq
  refine jx_ar (pc' := 12) (st' := [.int (i32 (0))]) rfl rfl rfl rfl ?_
  refine jx_ld (pc' := 13) (l' := jSto1 L1197 2 (.int (i32 (0)))) (st' := []) rfl rfl ?_
  obtain ⟨L1198, eL1198⟩ : ∃ q, q = jSto1 L1197 2 (.int (i32 (0))) := ⟨_, rfl⟩
  rw [← eL1198]
  have gL1198_0 : jGet L1198 0 = some (.ref 66) := eL1198 ▸ jg_ne (by decide) gL1197_0 rfl
  have gL1198_1 : jGet L1198 1 = some (.int (i32 (nd))) := eL1198 ▸ jg_ne (by decide) gL1197_1 rfl
  have gL1198_2 : jGet L1198 2 = some (.int (i32 (0))) := eL1198 ▸ jg_eq
  refine jx_ld (pc' := 14) (l' := L1198) (st' := [.ref 66]) rfl (jl_aloadn gL1198_0) ?_
  have z1199 := tz_f (tk0)
  refine jr_get (pc' := 17) (i := 11) (v := .int (i32 (tk0))) rfl rfl (by decide) (rFv_eq (by decide) (show G1185 11 = tk0 from ((hF1189.1 11 rfl).trans (e_tk0)))) rfl ?_
  refine jx_ar (pc' := 18) (st' := [.int (i32 (1)), .int (i32 (tk0))]) rfl rfl rfl rfl ?_
  refine jx_icmp_ne (pc' := 21) (tg := 288) rfl rfl rfl (Int.le_trans (by decide : (-2147483648 : Int) ≤ 0) b_tk0.1) (Int.le_trans b_tk0.2 (by decide : (5 : Int) ≤ 2147483647)) (by decide) (by decide) (fun h1200 => ?_) (fun h1200 => ?_)
  · have _q := h1200
    refine jx_ld (pc' := 289) (l' := L1198) (st' := [.ref 66]) rfl (jl_aloadn gL1198_0) ?_
    refine jx_vr (pc' := 292) (as := []) (st := []) rfl rfl rfl rfl ⟨rfl, rfl, Nat.le_of_ble_eq_true rfl⟩ rfl rfl (RE_all X 9 (dd := d) (hd := by omega) (hW := hW1188)  (ln := ln) (e_ln := show G1185 9 = ln from ((hF1189.1 9 rfl).trans (e_ln))) (le := le) (e_le := show A1186 4 (ln).toNat = le from (congrFun (hF1189.2 4 rfl) _).trans (e_le)) (at0 := at0) (e_at0 := show G1185 10 = at0 from ((hF1189.1 10 rfl).trans (e_at0))) (fk := fk) (e_fk := show G1185 16 = fk from ((hF1189.1 16 rfl).trans (e_fk))) (op0 := op0) (e_op0 := show G1185 15 = op0 from ((hF1189.1 15 rfl).trans (e_op0))) (nd := nd2_1187) (e_nd := show G1185 31 = nd2_1187 from (e1191)) (tk0 := tk0) (e_tk0 := show G1185 11 = tk0 from ((hF1189.1 11 rfl).trans (e_tk0))) (i_SV := (SV_ext ((hF1189.1 29 rfl)) ((hF1189.2 14 rfl)) i_SV))   (p_0 := by omega) (p_1 := by omega) (p_2 := by omega) (p_3 := by omega) (p_4 := by omega) (p_5 := by omega)) (fun o V' hq => ?_)
    obtain ⟨G1201, A1202, r1203, at2_1204, fk2_1205, op2_1206, nd2_1207, tk2_1208, rfl, rfl, hW1209, hF1210, hQ1211, b1212, e1213, e1214, e1215, e1216, e1217, p1218, p1219, p1220, p1221, p1222, p1223, q1224⟩ := hq
    have hF1225 := Fr_tr hF1195 hF1210 (Fr_sub (by decide)) (Fr_sub (by decide))
    have hP1226 := Pf_tr hP1196 hQ1211 (by omega)
    have sf1227 : ND A1202 (nd) (33) (0) (0) (0) (0) (0) (0) := ND_ag (by omega) (Ag_pf hQ1211 (by omega)) p1193
    have bat2_1204 : (0 : Int) ≤ at2_1204 ∧ at2_1204 ≤ 3002 := e1213 ▸ hW1209.1 10
    have bfk2_1205 : (0 : Int) ≤ fk2_1205 ∧ fk2_1205 ≤ 6 := e1214 ▸ hW1209.1 16
    have bop2_1206 : (-2147483648 : Int) ≤ op2_1206 ∧ op2_1206 ≤ 2147483647 := e1215 ▸ hW1209.1 15
    have bnd2_1207 : (0 : Int) ≤ nd2_1207 ∧ nd2_1207 ≤ 6999 := e1216 ▸ hW1209.1 31
    have ztk2_1208 := tz_b tk2_1208
    have btk2_1208 : (0 : Int) ≤ tk2_1208 ∧ tk2_1208 ≤ 5 := e1217 ▸ hW1209.1 11
    refine .inr ⟨_, rfl, ?_⟩
    rcases q1224 with ⟨a1228, a1229, a1230, a1231, a1232, a1233⟩ | ⟨a1234, a1235, a1236⟩ | ⟨a1237, a1238, a1239, a1240⟩
    · have _q : True := trivial
      exfalso
      omega
    · have _q : True := trivial
      refine jx_ld (pc' := 293) (l' := jSto1 L1198 2 (.int (i32 (r1203)))) (st' := []) rfl rfl ?_
      obtain ⟨L1241, eL1241⟩ : ∃ q, q = jSto1 L1198 2 (.int (i32 (r1203))) := ⟨_, rfl⟩
      rw [← eL1241]
      have gL1241_0 : jGet L1241 0 = some (.ref 66) := eL1241 ▸ jg_ne (by decide) gL1198_0 rfl
      have gL1241_1 : jGet L1241 1 = some (.int (i32 (nd))) := eL1241 ▸ jg_ne (by decide) gL1198_1 rfl
      have gL1241_2 : jGet L1241 2 = some (.int (i32 (r1203))) := eL1241 ▸ jg_eq
      have z1242 := tz_f (tk2_1208)
      exact c_readGuard_at_293p (X := X) (d := d) (Vs := Vs) (sb := sb) (c0 := c0) (c1 := c1) (G := G) (A := A) (T := T) (ln := ln) (le := le) (at0 := at0) (fk := fk) (op0 := op0) (nd := nd) (tk0 := tk0) (li := li) (hd := hd) (hW := hW) (e_ln := e_ln) (e_le := e_le) (e_at0 := e_at0) (e_fk := e_fk) (e_op0 := e_op0) (e_nd := e_nd) (e_tk0 := e_tk0) (e_li := e_li) (i_SV := i_SV) (p_0 := p_0) (p_1 := p_1) (p_2 := p_2) (p_3 := p_3) (p_4 := p_4) L1241 G1201 A1202 (nd) (r1203) (at2_1204) (tk2_1208) (fk2_1205) (nd2_1207) (op2_1206) gL1241_0 gL1241_1 gL1241_2 hW1209 hF1225 hP1226 ((e1213)) ((e1217)) ((e1214)) ((e1216)) ((e1215)) (((hF1210.1 9 rfl).trans ((hF1189.1 9 rfl).trans (e_ln)))) (by omega) (by omega) (by omega) (by omega) (by omega) (by omega) (by omega) (by omega) (by omega) (by omega)
    · have _q : True := trivial
      refine jx_ld (pc' := 293) (l' := jSto1 L1198 2 (.int (i32 (r1203)))) (st' := []) rfl rfl ?_
      obtain ⟨L1243, eL1243⟩ : ∃ q, q = jSto1 L1198 2 (.int (i32 (r1203))) := ⟨_, rfl⟩
      rw [← eL1243]
      have gL1243_0 : jGet L1243 0 = some (.ref 66) := eL1243 ▸ jg_ne (by decide) gL1198_0 rfl
      have gL1243_1 : jGet L1243 1 = some (.int (i32 (nd))) := eL1243 ▸ jg_ne (by decide) gL1198_1 rfl
      have gL1243_2 : jGet L1243 2 = some (.int (i32 (r1203))) := eL1243 ▸ jg_eq
      have z1244 := tz_f (tk2_1208)
      exact c_readGuard_at_293 (X := X) (d := d) (Vs := Vs) (sb := sb) (c0 := c0) (c1 := c1) (G := G) (A := A) (T := T) (ln := ln) (le := le) (at0 := at0) (fk := fk) (op0 := op0) (nd := nd) (tk0 := tk0) (li := li) (hd := hd) (hW := hW) (e_ln := e_ln) (e_le := e_le) (e_at0 := e_at0) (e_fk := e_fk) (e_op0 := e_op0) (e_nd := e_nd) (e_tk0 := e_tk0) (e_li := e_li) (i_SV := i_SV) (p_0 := p_0) (p_1 := p_1) (p_2 := p_2) (p_3 := p_3) (p_4 := p_4) L1243 G1201 A1202 (nd) (r1203) (at2_1204) (tk2_1208) (fk2_1205) (nd2_1207) (op2_1206) gL1243_0 gL1243_1 gL1243_2 hW1209 hF1225 hP1226 ((e1213)) ((e1217)) ((e1214)) ((e1216)) ((e1215)) (((hF1210.1 9 rfl).trans ((hF1189.1 9 rfl).trans (e_ln)))) (by omega) (by omega) (by omega) (by omega) (by omega) (by omega) (by omega) (by omega) (by omega) (by omega) (by omega) (sf1227) ((wE_mono (by omega) (by omega) (by omega) a1240))
  · have _q := h1200
    refine jx_ld (pc' := 22) (l' := L1198) (st' := [.ref 66]) rfl (jl_aloadn gL1198_0) ?_
    have b1245 : (-3000 : Int) ≤ G 12 ∧ G 12 ≤ 3002 := hW.1 12
    refine jr_get (pc' := 25) (i := 12) (v := .int (i32 (G 12))) rfl rfl (by decide) (rFv_eq (by decide) (show G1185 12 = G 12 from (hF1189.1 12 rfl))) rfl ?_
    refine jx_ld (pc' := 26) (l' := jSto1 L1198 3 (.int (i32 (G 12)))) (st' := []) rfl rfl ?_
    obtain ⟨L1246, eL1246⟩ : ∃ q, q = jSto1 L1198 3 (.int (i32 (G 12))) := ⟨_, rfl⟩
    rw [← eL1246]
    have gL1246_0 : jGet L1246 0 = some (.ref 66) := eL1246 ▸ jg_ne (by decide) gL1198_0 rfl
    have gL1246_1 : jGet L1246 1 = some (.int (i32 (nd))) := eL1246 ▸ jg_ne (by decide) gL1198_1 rfl
    have gL1246_2 : jGet L1246 2 = some (.int (i32 (0))) := eL1246 ▸ jg_ne (by decide) gL1198_2 rfl
    have gL1246_3 : jGet L1246 3 = some (.int (i32 (G 12))) := eL1246 ▸ jg_eq
    refine jx_ld (pc' := 27) (l' := L1246) (st' := [.ref 66]) rfl (jl_aloadn gL1246_0) ?_
    refine jx_vr (pc' := 30) (as := []) (st := []) rfl rfl rfl rfl ⟨rfl, rfl, Nat.le_of_ble_eq_true rfl⟩ rfl rfl (c_lookUp (dd := d) (hd := by omega) (hW := hW1188)  (fk := fk) (e_fk := show G1185 16 = fk from ((hF1189.1 16 rfl).trans (e_fk))) (i_SV := (SV_ext ((hF1189.1 29 rfl)) ((hF1189.2 14 rfl)) i_SV))   ) (fun o V' hq => ?_)
    obtain ⟨G1247, A1248, r1249, fk2_1250, rfl, rfl, hW1251, hF1252, b1253, e1254, q1255⟩ := hq
    have hF1256 := Fr_tr hF1195 hF1252 (Fr_sub (by decide)) (Fr_sub (by decide))
    have hP1257 := Pf_f hP1196 hF1252 (by decide)
    have sf1258 : ND A1248 (nd) (33) (0) (0) (0) (0) (0) (0) := ND_ag (by omega) (Ag_fr hF1252 (by decide)) p1193
    have bfk2_1250 : (0 : Int) ≤ fk2_1250 ∧ fk2_1250 ≤ 6 := e1254 ▸ hW1251.1 16
    refine .inr ⟨_, rfl, ?_⟩
    rcases q1255 with ⟨a1259, a1260⟩ | ⟨a1261, a1262, a1263, a1264⟩
    · have _q : True := trivial
      refine jx_ld (pc' := 32) (l' := jSto1 L1246 4 (.int (i32 (r1249)))) (st' := []) rfl rfl ?_
      obtain ⟨L1265, eL1265⟩ : ∃ q, q = jSto1 L1246 4 (.int (i32 (r1249))) := ⟨_, rfl⟩
      rw [← eL1265]
      have gL1265_0 : jGet L1265 0 = some (.ref 66) := eL1265 ▸ jg_ne (by decide) gL1246_0 rfl
      have gL1265_1 : jGet L1265 1 = some (.int (i32 (nd))) := eL1265 ▸ jg_ne (by decide) gL1246_1 rfl
      have gL1265_2 : jGet L1265 2 = some (.int (i32 (0))) := eL1265 ▸ jg_ne (by decide) gL1246_2 rfl
      have gL1265_3 : jGet L1265 3 = some (.int (i32 (G 12))) := eL1265 ▸ jg_ne (by decide) gL1246_3 rfl
      have gL1265_4 : jGet L1265 4 = some (.int (i32 (r1249))) := eL1265 ▸ jg_eq
      refine jx_ld (pc' := 33) (l' := L1265) (st' := [.ref 66]) rfl (jl_aloadn gL1265_0) ?_
      refine jx_vr (pc' := 36) (as := []) (st := []) rfl rfl rfl rfl ⟨rfl, rfl, Nat.le_of_ble_eq_true rfl⟩ rfl rfl (c_bad (dd := d) (hd := by omega) (hW := hW1251)  (fk := fk2_1250) (e_fk := show G1247 16 = fk2_1250 from (e1254))    ) (fun o V' hq => ?_)
      obtain ⟨r1266, rfl, rfl, b1267, q1268⟩ := hq
      refine .inr ⟨_, rfl, ?_⟩
      rcases q1268 with ⟨rfl, a1269⟩ | ⟨rfl, a1270⟩
      · have _q : True := trivial
        refine jx_if_eq (pc' := 39) (tg := 41) rfl rfl rfl (by decide) (by decide) (fun h1271 => ?_) (fun h1271 => ?_)
        · have _q := h1271
          exact absurd h1271 (by omega)
        · have _q := h1271
          refine jx_ar (pc' := 40) (st' := [.int (i32 (0))]) rfl rfl rfl rfl ?_
          refine jx_rt (v := some (.int (i32 (0)))) rfl rfl rfl rfl rfl rfl ?_
          exact ⟨_, _, _, at0, fk2_1250, nd2_1187, ln, rfl, rfl, hW1251, hF1256, hP1257, by omega, ((hF1252.1 10 rfl).trans ((hF1189.1 10 rfl).trans (e_at0))), (e1254), ((hF1252.1 31 rfl).trans (e1191)), ((hF1252.1 9 rfl).trans ((hF1189.1 9 rfl).trans (e_ln))), by omega, by omega, by omega, by omega, by omega, by first | exact Or.inl (⟨by omega, by omega, by omega⟩)⟩
      · have _q : True := trivial
        exfalso
        omega
    · have _q : True := trivial
      refine jx_ld (pc' := 32) (l' := jSto1 L1246 4 (.int (i32 (r1249)))) (st' := []) rfl rfl ?_
      obtain ⟨L1272, eL1272⟩ : ∃ q, q = jSto1 L1246 4 (.int (i32 (r1249))) := ⟨_, rfl⟩
      rw [← eL1272]
      have gL1272_0 : jGet L1272 0 = some (.ref 66) := eL1272 ▸ jg_ne (by decide) gL1246_0 rfl
      have gL1272_1 : jGet L1272 1 = some (.int (i32 (nd))) := eL1272 ▸ jg_ne (by decide) gL1246_1 rfl
      have gL1272_2 : jGet L1272 2 = some (.int (i32 (0))) := eL1272 ▸ jg_ne (by decide) gL1246_2 rfl
      have gL1272_3 : jGet L1272 3 = some (.int (i32 (G 12))) := eL1272 ▸ jg_ne (by decide) gL1246_3 rfl
      have gL1272_4 : jGet L1272 4 = some (.int (i32 (r1249))) := eL1272 ▸ jg_eq
      refine jx_ld (pc' := 33) (l' := L1272) (st' := [.ref 66]) rfl (jl_aloadn gL1272_0) ?_
      refine jx_vr (pc' := 36) (as := []) (st := []) rfl rfl rfl rfl ⟨rfl, rfl, Nat.le_of_ble_eq_true rfl⟩ rfl rfl (c_bad (dd := d) (hd := by omega) (hW := hW1251)  (fk := fk2_1250) (e_fk := show G1247 16 = fk2_1250 from (e1254))    ) (fun o V' hq => ?_)
      obtain ⟨r1273, rfl, rfl, b1274, q1275⟩ := hq
      refine .inr ⟨_, rfl, ?_⟩
      rcases q1275 with ⟨rfl, a1276⟩ | ⟨rfl, a1277⟩
      · have _q : True := trivial
        exfalso
        omega
      · have _q : True := trivial
        refine jx_if_eq (pc' := 39) (tg := 41) rfl rfl rfl (by decide) (by decide) (fun h1278 => ?_) (fun h1278 => ?_)
        · have _q := h1278
          refine jx_ld (pc' := 42) (l' := L1272) (st' := [.ref 66]) rfl (jl_aloadn gL1272_0) ?_
          refine jx_vr (pc' := 45) (as := []) (st := []) rfl rfl rfl rfl ⟨rfl, rfl, Nat.le_of_ble_eq_true rfl⟩ rfl rfl (c_next (dd := d) (hd := by omega) (hW := hW1251)  (ln := ln) (e_ln := show G1247 9 = ln from ((hF1252.1 9 rfl).trans ((hF1189.1 9 rfl).trans (e_ln)))) (le := le) (e_le := show A1248 4 (ln).toNat = le from (congrFun ((hF1252.2 4 rfl).trans (hF1189.2 4 rfl)) _).trans (e_le)) (at0 := at0) (e_at0 := show G1247 10 = at0 from ((hF1252.1 10 rfl).trans ((hF1189.1 10 rfl).trans (e_at0))))    (p_0 := by omega)) (fun o V' hq => ?_)
          obtain ⟨G1279, A1280, at2_1281, tk2_1282, rfl, rfl, hW1283, hF1284, e1285, e1286, p1287, p1288, p1289, -⟩ := hq
          have hF1291 := Fr_tr hF1256 hF1284 (Fr_sub (by decide)) (Fr_sub (by decide))
          have hP1292 := Pf_f hP1257 hF1284 (by decide)
          have sf1293 : ND A1280 (nd) (33) (0) (0) (0) (0) (0) (0) := ND_ag (by omega) (Ag_fr hF1284 (by decide)) sf1258
          have bat2_1281 : (0 : Int) ≤ at2_1281 ∧ at2_1281 ≤ 3002 := e1285 ▸ hW1283.1 10
          have ztk2_1282 := tz_b tk2_1282
          have btk2_1282 : (0 : Int) ≤ tk2_1282 ∧ tk2_1282 ≤ 5 := e1286 ▸ hW1283.1 11
          refine .inl ⟨rfl, ?_⟩
          refine jx_ar (pc' := 46) (st' := [.int (i32 (0))]) rfl rfl rfl rfl ?_
          refine jx_ld (pc' := 48) (l' := jSto1 L1272 5 (.int (i32 (0)))) (st' := []) rfl rfl ?_
          obtain ⟨L1294, eL1294⟩ : ∃ q, q = jSto1 L1272 5 (.int (i32 (0))) := ⟨_, rfl⟩
          rw [← eL1294]
          have gL1294_0 : jGet L1294 0 = some (.ref 66) := eL1294 ▸ jg_ne (by decide) gL1272_0 rfl
          have gL1294_1 : jGet L1294 1 = some (.int (i32 (nd))) := eL1294 ▸ jg_ne (by decide) gL1272_1 rfl
          have gL1294_2 : jGet L1294 2 = some (.int (i32 (0))) := eL1294 ▸ jg_ne (by decide) gL1272_2 rfl
          have gL1294_3 : jGet L1294 3 = some (.int (i32 (G 12))) := eL1294 ▸ jg_ne (by decide) gL1272_3 rfl
          have gL1294_4 : jGet L1294 4 = some (.int (i32 (r1249))) := eL1294 ▸ jg_ne (by decide) gL1272_4 rfl
          have gL1294_5 : jGet L1294 5 = some (.int (i32 (0))) := eL1294 ▸ jg_eq
          refine jx_ld (pc' := 49) (l' := L1294) (st' := [.ref 66]) rfl (jl_aloadn gL1294_0) ?_
          refine jx_ar (pc' := 51) (st' := [.int (i32 (91)), .ref 66]) rfl rfl rfl rfl ?_
          have b1295 : (-2147483648 : Int) ≤ G1279 13 ∧ G1279 13 ≤ 2147483647 := hW1283.1 13
          refine jx_vr (pc' := 54) (as := [.int (i32 (91))]) (st := []) rfl rfl rfl rfl ⟨rfl, rfl, Nat.le_of_ble_eq_true rfl⟩ rfl rfl (c_is (dd := d) (hd := by omega) (hW := hW1283) (k := 91) (tk := tk2_1282) (e_tk := show G1279 11 = tk2_1282 from (e1286)) (tn := G1279 13) (e_tn := show G1279 13 = G1279 13 from rfl)  (h_k := ⟨(by decide), (by decide)⟩)  ) (fun o V' hq => ?_)
          obtain ⟨r1296, rfl, rfl, b1297, q1298⟩ := hq
          refine .inr ⟨_, rfl, ?_⟩
          rcases q1298 with ⟨rfl, a1299, a1300, a1301⟩ | rfl
          · have _q : True := trivial
            refine jx_ld (pc' := 56) (l' := jSto1 L1294 6 (.int (i32 (1)))) (st' := []) rfl rfl ?_
            obtain ⟨L1302, eL1302⟩ : ∃ q, q = jSto1 L1294 6 (.int (i32 (1))) := ⟨_, rfl⟩
            rw [← eL1302]
            have gL1302_0 : jGet L1302 0 = some (.ref 66) := eL1302 ▸ jg_ne (by decide) gL1294_0 rfl
            have gL1302_1 : jGet L1302 1 = some (.int (i32 (nd))) := eL1302 ▸ jg_ne (by decide) gL1294_1 rfl
            have gL1302_2 : jGet L1302 2 = some (.int (i32 (0))) := eL1302 ▸ jg_ne (by decide) gL1294_2 rfl
            have gL1302_3 : jGet L1302 3 = some (.int (i32 (G 12))) := eL1302 ▸ jg_ne (by decide) gL1294_3 rfl
            have gL1302_4 : jGet L1302 4 = some (.int (i32 (r1249))) := eL1302 ▸ jg_ne (by decide) gL1294_4 rfl
            have gL1302_5 : jGet L1302 5 = some (.int (i32 (0))) := eL1302 ▸ jg_ne (by decide) gL1294_5 rfl
            have gL1302_6 : jGet L1302 6 = some (.int (i32 (1))) := eL1302 ▸ jg_eq
            refine jx_ld (pc' := 58) (l' := L1302) (st' := [.int (i32 (1))]) rfl (jl_iload gL1302_6) ?_
            refine jx_if_eq (pc' := 61) (tg := 99) rfl rfl rfl (by decide) (by decide) (fun h1303 => ?_) (fun h1303 => ?_)
            · have _q := h1303
              exact absurd h1303 (by omega)
            · have _q := h1303
              refine jx_ld (pc' := 62) (l' := L1302) (st' := [.ref 66]) rfl (jl_aloadn gL1302_0) ?_
              refine jr_get (pc' := 65) (i := 21) (v := .ref 74) rfl rfl (by decide) rfl rfl ?_
              refine jx_ld (pc' := 67) (l' := L1302) (st' := [.int (i32 (r1249)), .ref 74]) rfl (jl_iload gL1302_4) ?_
              have b1304 : (0 : Int) ≤ A 7 (r1249).toNat ∧ A 7 (r1249).toNat ≤ 14 := hW.2 7 _
              refine jr_ldv (pc' := 68) (i := 7) (m := 260) (z := r1249) (y := A 7 (r1249).toNat) rfl (by decide) rfl (by decide) (by omega) (by omega) rfl (show A1280 7 (r1249).toNat = A 7 (r1249).toNat from (congrFun ((hF1284.2 7 rfl).trans ((hF1252.2 7 rfl).trans (hF1189.2 7 rfl))) _)) ?_
              refine jx_st (pc' := 71) (as := [.int (i32 (A 7 (r1249).toNat))]) (st := []) rfl rfl ⟨rfl, Nat.le_of_ble_eq_true rfl⟩ rfl rfl rfl (c_isArray (dd := d) (hd := by omega) (k := A 7 (r1249).toNat)   (h_k := ⟨(Int.le_trans (by decide : (-2147483648 : Int) ≤ 0) b1304.1), (Int.le_trans b1304.2 (by decide : (14 : Int) ≤ 2147483647))⟩)  ) (fun o V' hq => ?_)
              obtain ⟨r1305, rfl, rfl, b1306, q1307⟩ := hq
              refine .inr ⟨_, rfl, ?_⟩
              rcases q1307 with ⟨rfl, a1308⟩ | rfl
              · have _q : True := trivial
                refine jx_if_ne (pc' := 74) (tg := 93) rfl rfl rfl (by decide) (by decide) (fun h1309 => ?_) (fun h1309 => ?_)
                · have _q := h1309
                  refine jx_ld (pc' := 94) (l' := L1302) (st' := [.ref 66]) rfl (jl_aloadn gL1302_0) ?_
                  refine jx_vr (pc' := 97) (as := []) (st := []) rfl rfl rfl rfl ⟨rfl, rfl, Nat.le_of_ble_eq_true rfl⟩ rfl rfl (c_readIndex (dd := d) (k := 9) (hE := RE_all X 9) (hd := by omega) (hW := hW1283)  (ln := ln) (e_ln := show G1279 9 = ln from ((hF1284.1 9 rfl).trans ((hF1252.1 9 rfl).trans ((hF1189.1 9 rfl).trans (e_ln))))) (le := le) (e_le := show A1280 4 (ln).toNat = le from (congrFun ((hF1284.2 4 rfl).trans ((hF1252.2 4 rfl).trans (hF1189.2 4 rfl))) _).trans (e_le)) (at0 := at2_1281) (e_at0 := show G1279 10 = at2_1281 from (e1285)) (fk := fk2_1250) (e_fk := show G1279 16 = fk2_1250 from ((hF1284.1 16 rfl).trans (e1254))) (op0 := op0) (e_op0 := show G1279 15 = op0 from ((hF1284.1 15 rfl).trans ((hF1252.1 15 rfl).trans ((hF1189.1 15 rfl).trans (e_op0))))) (nd := nd2_1187) (e_nd := show G1279 31 = nd2_1187 from ((hF1284.1 31 rfl).trans ((hF1252.1 31 rfl).trans (e1191)))) (tk0 := tk2_1282) (e_tk0 := show G1279 11 = tk2_1282 from (e1286)) (i_SV := (SV_ext (((hF1284.1 29 rfl).trans ((hF1252.1 29 rfl).trans (hF1189.1 29 rfl)))) (((hF1284.2 14 rfl).trans ((hF1252.2 14 rfl).trans (hF1189.2 14 rfl)))) i_SV))   (p_0 := by omega) (p_1 := by omega) (p_2 := by omega) (p_3 := by omega) (p_4 := by omega) (p_5 := by omega) (p_6 := by omega) (p_7 := by omega) (p_8 := by omega)) (fun o V' hq => ?_)
                  obtain ⟨G1310, A1311, r1312, at2_1313, fk2_1314, op2_1315, nd2_1316, tk2_1317, rfl, rfl, hW1318, hF1319, hQ1320, b1321, e1322, e1323, e1324, e1325, e1326, p1327, p1328, p1329, p1330, p1331, p1332, q1333⟩ := hq
                  have hF1334 := Fr_tr hF1291 hF1319 (Fr_sub (by decide)) (Fr_sub (by decide))
                  have hP1335 := Pf_tr hP1292 hQ1320 (by omega)
                  have sf1336 : ND A1311 (nd) (33) (0) (0) (0) (0) (0) (0) := ND_ag (by omega) (Ag_pf hQ1320 (by omega)) sf1293
                  have bat2_1313 : (0 : Int) ≤ at2_1313 ∧ at2_1313 ≤ 3002 := e1322 ▸ hW1318.1 10
                  have bfk2_1314 : (0 : Int) ≤ fk2_1314 ∧ fk2_1314 ≤ 6 := e1323 ▸ hW1318.1 16
                  have bop2_1315 : (-2147483648 : Int) ≤ op2_1315 ∧ op2_1315 ≤ 2147483647 := e1324 ▸ hW1318.1 15
                  have bnd2_1316 : (0 : Int) ≤ nd2_1316 ∧ nd2_1316 ≤ 6999 := e1325 ▸ hW1318.1 31
                  have ztk2_1317 := tz_b tk2_1317
                  have btk2_1317 : (0 : Int) ≤ tk2_1317 ∧ tk2_1317 ≤ 5 := e1326 ▸ hW1318.1 11
                  refine .inr ⟨_, rfl, ?_⟩
                  rcases q1333 with ⟨a1337, a1338, a1339⟩ | ⟨a1340, a1341, a1342, a1343⟩
                  · have _q : True := trivial
                    refine jx_ld (pc' := 99) (l' := jSto1 L1302 5 (.int (i32 (r1312)))) (st' := []) rfl rfl ?_
                    obtain ⟨L1344, eL1344⟩ : ∃ q, q = jSto1 L1302 5 (.int (i32 (r1312))) := ⟨_, rfl⟩
                    rw [← eL1344]
                    have gL1344_0 : jGet L1344 0 = some (.ref 66) := eL1344 ▸ jg_ne (by decide) gL1302_0 rfl
                    have gL1344_1 : jGet L1344 1 = some (.int (i32 (nd))) := eL1344 ▸ jg_ne (by decide) gL1302_1 rfl
                    have gL1344_2 : jGet L1344 2 = some (.int (i32 (0))) := eL1344 ▸ jg_ne (by decide) gL1302_2 rfl
                    have gL1344_3 : jGet L1344 3 = some (.int (i32 (G 12))) := eL1344 ▸ jg_ne (by decide) gL1302_3 rfl
                    have gL1344_4 : jGet L1344 4 = some (.int (i32 (r1249))) := eL1344 ▸ jg_ne (by decide) gL1302_4 rfl
                    have gL1344_6 : jGet L1344 6 = some (.int (i32 (1))) := eL1344 ▸ jg_ne (by decide) gL1302_6 rfl
                    have gL1344_5 : jGet L1344 5 = some (.int (i32 (r1312))) := eL1344 ▸ jg_eq
                    refine jx_ld (pc' := 100) (l' := L1344) (st' := [.ref 66]) rfl (jl_aloadn gL1344_0) ?_
                    refine jx_vr (pc' := 103) (as := []) (st := []) rfl rfl rfl rfl ⟨rfl, rfl, Nat.le_of_ble_eq_true rfl⟩ rfl rfl (c_bad (dd := d) (hd := by omega) (hW := hW1318)  (fk := fk2_1314) (e_fk := show G1310 16 = fk2_1314 from (e1323))    ) (fun o V' hq => ?_)
                    obtain ⟨r1345, rfl, rfl, b1346, q1347⟩ := hq
                    refine .inr ⟨_, rfl, ?_⟩
                    rcases q1347 with ⟨rfl, a1348⟩ | ⟨rfl, a1349⟩
                    · have _q : True := trivial
                      refine jx_if_eq (pc' := 106) (tg := 108) rfl rfl rfl (by decide) (by decide) (fun h1350 => ?_) (fun h1350 => ?_)
                      · have _q := h1350
                        exact absurd h1350 (by omega)
                      · have _q := h1350
                        refine jx_ar (pc' := 107) (st' := [.int (i32 (0))]) rfl rfl rfl rfl ?_
                        refine jx_rt (v := some (.int (i32 (0)))) rfl rfl rfl rfl rfl rfl ?_
                        exact ⟨_, _, _, at2_1313, fk2_1314, nd2_1316, ln, rfl, rfl, hW1318, hF1334, hP1335, by omega, (e1322), (e1323), (e1325), ((hF1319.1 9 rfl).trans ((hF1284.1 9 rfl).trans ((hF1252.1 9 rfl).trans ((hF1189.1 9 rfl).trans (e_ln))))), by omega, by omega, by omega, by omega, by omega, by first | exact Or.inl (⟨by omega, by omega, by omega⟩)⟩
                    · have _q : True := trivial
                      exfalso
                      omega
                  · have _q : True := trivial
                    refine jx_ld (pc' := 99) (l' := jSto1 L1302 5 (.int (i32 (r1312)))) (st' := []) rfl rfl ?_
                    obtain ⟨L1351, eL1351⟩ : ∃ q, q = jSto1 L1302 5 (.int (i32 (r1312))) := ⟨_, rfl⟩
                    rw [← eL1351]
                    have gL1351_0 : jGet L1351 0 = some (.ref 66) := eL1351 ▸ jg_ne (by decide) gL1302_0 rfl
                    have gL1351_1 : jGet L1351 1 = some (.int (i32 (nd))) := eL1351 ▸ jg_ne (by decide) gL1302_1 rfl
                    have gL1351_2 : jGet L1351 2 = some (.int (i32 (0))) := eL1351 ▸ jg_ne (by decide) gL1302_2 rfl
                    have gL1351_3 : jGet L1351 3 = some (.int (i32 (G 12))) := eL1351 ▸ jg_ne (by decide) gL1302_3 rfl
                    have gL1351_4 : jGet L1351 4 = some (.int (i32 (r1249))) := eL1351 ▸ jg_ne (by decide) gL1302_4 rfl
                    have gL1351_6 : jGet L1351 6 = some (.int (i32 (1))) := eL1351 ▸ jg_ne (by decide) gL1302_6 rfl
                    have gL1351_5 : jGet L1351 5 = some (.int (i32 (r1312))) := eL1351 ▸ jg_eq
                    refine jx_ld (pc' := 100) (l' := L1351) (st' := [.ref 66]) rfl (jl_aloadn gL1351_0) ?_
                    refine jx_vr (pc' := 103) (as := []) (st := []) rfl rfl rfl rfl ⟨rfl, rfl, Nat.le_of_ble_eq_true rfl⟩ rfl rfl (c_bad (dd := d) (hd := by omega) (hW := hW1318)  (fk := fk2_1314) (e_fk := show G1310 16 = fk2_1314 from (e1323))    ) (fun o V' hq => ?_)
                    obtain ⟨r1352, rfl, rfl, b1353, q1354⟩ := hq
                    refine .inr ⟨_, rfl, ?_⟩
                    rcases q1354 with ⟨rfl, a1355⟩ | ⟨rfl, a1356⟩
                    · have _q : True := trivial
                      exfalso
                      omega
                    · have _q : True := trivial
                      refine jx_if_eq (pc' := 106) (tg := 108) rfl rfl rfl (by decide) (by decide) (fun h1357 => ?_) (fun h1357 => ?_)
                      · have _q := h1357
                        have z1358 := tz_f (tk2_1317)
                        exact c_readGuard_at_108_1 (X := X) (d := d) (Vs := Vs) (sb := sb) (c0 := c0) (c1 := c1) (G := G) (A := A) (T := T) (ln := ln) (le := le) (at0 := at0) (fk := fk) (op0 := op0) (nd := nd) (tk0 := tk0) (li := li) (hd := hd) (hW := hW) (e_ln := e_ln) (e_le := e_le) (e_at0 := e_at0) (e_fk := e_fk) (e_op0 := e_op0) (e_nd := e_nd) (e_tk0 := e_tk0) (e_li := e_li) (i_SV := i_SV) (p_0 := p_0) (p_1 := p_1) (p_2 := p_2) (p_3 := p_3) (p_4 := p_4) L1351 G1310 A1311 (nd) (G 12) (r1249) (r1312) (at2_1313) (tk2_1317) (fk2_1314) (nd2_1316) (op2_1315) (A 7 (r1249).toNat) gL1351_0 gL1351_6 gL1351_1 gL1351_3 gL1351_4 gL1351_5 hW1318 hF1334 hP1335 ((e1322)) ((e1326)) ((e1323)) ((e1325)) ((e1324)) ((congrFun ((hF1319.2 7 rfl).trans ((hF1284.2 7 rfl).trans ((hF1252.2 7 rfl).trans (hF1189.2 7 rfl)))) _)) (((hF1319.1 9 rfl).trans ((hF1284.1 9 rfl).trans ((hF1252.1 9 rfl).trans ((hF1189.1 9 rfl).trans (e_ln)))))) (by omega) (by omega) (by omega) (by omega) (by omega) (by omega) (by omega) (by omega) (by omega) (by omega) (by omega) (by omega) (by omega) (by omega) (a1264) (sf1336) ((wE_mono (by omega) (by omega) (by omega) a1343))
                      · have _q := h1357
                        exact absurd h1357 (by omega)
                · have _q := h1309
                  exact absurd h1309 (by omega)
              · have _q : True := trivial
                refine jx_if_ne (pc' := 74) (tg := 93) rfl rfl rfl (by decide) (by decide) (fun h1359 => ?_) (fun h1359 => ?_)
                · have _q := h1359
                  exact absurd h1359 (by omega)
                · have _q := h1359
                  refine jx_ld (pc' := 75) (l' := L1302) (st' := [.ref 66]) rfl (jl_aloadn gL1302_0) ?_
                  refine jr_get (pc' := 78) (i := 21) (v := .ref 74) rfl rfl (by decide) rfl rfl ?_
                  refine jx_ld (pc' := 80) (l' := L1302) (st' := [.int (i32 (r1249)), .ref 74]) rfl (jl_iload gL1302_4) ?_
                  refine jr_ldv (pc' := 81) (i := 7) (m := 260) (z := r1249) (y := A 7 (r1249).toNat) rfl (by decide) rfl (by decide) (by omega) (by omega) rfl (show A1280 7 (r1249).toNat = A 7 (r1249).toNat from (congrFun ((hF1284.2 7 rfl).trans ((hF1252.2 7 rfl).trans (hF1189.2 7 rfl))) _)) ?_
                  refine jx_ar (pc' := 82) (st' := [.int (i32 (4)), .int (i32 (A 7 (r1249).toNat))]) rfl rfl rfl rfl ?_
                  refine jx_icmp_eq (pc' := 85) (tg := 93) rfl rfl rfl (Int.le_trans (by decide : (-2147483648 : Int) ≤ 0) b1304.1) (Int.le_trans b1304.2 (by decide : (14 : Int) ≤ 2147483647)) (by decide) (by decide) (fun h1360 => ?_) (fun h1360 => ?_)
                  · have _q := h1360
                    refine jx_ld (pc' := 94) (l' := L1302) (st' := [.ref 66]) rfl (jl_aloadn gL1302_0) ?_
                    refine jx_vr (pc' := 97) (as := []) (st := []) rfl rfl rfl rfl ⟨rfl, rfl, Nat.le_of_ble_eq_true rfl⟩ rfl rfl (c_readIndex (dd := d) (k := 9) (hE := RE_all X 9) (hd := by omega) (hW := hW1283)  (ln := ln) (e_ln := show G1279 9 = ln from ((hF1284.1 9 rfl).trans ((hF1252.1 9 rfl).trans ((hF1189.1 9 rfl).trans (e_ln))))) (le := le) (e_le := show A1280 4 (ln).toNat = le from (congrFun ((hF1284.2 4 rfl).trans ((hF1252.2 4 rfl).trans (hF1189.2 4 rfl))) _).trans (e_le)) (at0 := at2_1281) (e_at0 := show G1279 10 = at2_1281 from (e1285)) (fk := fk2_1250) (e_fk := show G1279 16 = fk2_1250 from ((hF1284.1 16 rfl).trans (e1254))) (op0 := op0) (e_op0 := show G1279 15 = op0 from ((hF1284.1 15 rfl).trans ((hF1252.1 15 rfl).trans ((hF1189.1 15 rfl).trans (e_op0))))) (nd := nd2_1187) (e_nd := show G1279 31 = nd2_1187 from ((hF1284.1 31 rfl).trans ((hF1252.1 31 rfl).trans (e1191)))) (tk0 := tk2_1282) (e_tk0 := show G1279 11 = tk2_1282 from (e1286)) (i_SV := (SV_ext (((hF1284.1 29 rfl).trans ((hF1252.1 29 rfl).trans (hF1189.1 29 rfl)))) (((hF1284.2 14 rfl).trans ((hF1252.2 14 rfl).trans (hF1189.2 14 rfl)))) i_SV))   (p_0 := by omega) (p_1 := by omega) (p_2 := by omega) (p_3 := by omega) (p_4 := by omega) (p_5 := by omega) (p_6 := by omega) (p_7 := by omega) (p_8 := by omega)) (fun o V' hq => ?_)
                    obtain ⟨G1361, A1362, r1363, at2_1364, fk2_1365, op2_1366, nd2_1367, tk2_1368, rfl, rfl, hW1369, hF1370, hQ1371, b1372, e1373, e1374, e1375, e1376, e1377, p1378, p1379, p1380, p1381, p1382, p1383, q1384⟩ := hq
                    have hF1385 := Fr_tr hF1291 hF1370 (Fr_sub (by decide)) (Fr_sub (by decide))
                    have hP1386 := Pf_tr hP1292 hQ1371 (by omega)
                    have sf1387 : ND A1362 (nd) (33) (0) (0) (0) (0) (0) (0) := ND_ag (by omega) (Ag_pf hQ1371 (by omega)) sf1293
                    have bat2_1364 : (0 : Int) ≤ at2_1364 ∧ at2_1364 ≤ 3002 := e1373 ▸ hW1369.1 10
                    have bfk2_1365 : (0 : Int) ≤ fk2_1365 ∧ fk2_1365 ≤ 6 := e1374 ▸ hW1369.1 16
                    have bop2_1366 : (-2147483648 : Int) ≤ op2_1366 ∧ op2_1366 ≤ 2147483647 := e1375 ▸ hW1369.1 15
                    have bnd2_1367 : (0 : Int) ≤ nd2_1367 ∧ nd2_1367 ≤ 6999 := e1376 ▸ hW1369.1 31
                    have ztk2_1368 := tz_b tk2_1368
                    have btk2_1368 : (0 : Int) ≤ tk2_1368 ∧ tk2_1368 ≤ 5 := e1377 ▸ hW1369.1 11
                    refine .inr ⟨_, rfl, ?_⟩
                    rcases q1384 with ⟨a1388, a1389, a1390⟩ | ⟨a1391, a1392, a1393, a1394⟩
                    · have _q : True := trivial
                      refine jx_ld (pc' := 99) (l' := jSto1 L1302 5 (.int (i32 (r1363)))) (st' := []) rfl rfl ?_
                      obtain ⟨L1395, eL1395⟩ : ∃ q, q = jSto1 L1302 5 (.int (i32 (r1363))) := ⟨_, rfl⟩
                      rw [← eL1395]
                      have gL1395_0 : jGet L1395 0 = some (.ref 66) := eL1395 ▸ jg_ne (by decide) gL1302_0 rfl
                      have gL1395_1 : jGet L1395 1 = some (.int (i32 (nd))) := eL1395 ▸ jg_ne (by decide) gL1302_1 rfl
                      have gL1395_2 : jGet L1395 2 = some (.int (i32 (0))) := eL1395 ▸ jg_ne (by decide) gL1302_2 rfl
                      have gL1395_3 : jGet L1395 3 = some (.int (i32 (G 12))) := eL1395 ▸ jg_ne (by decide) gL1302_3 rfl
                      have gL1395_4 : jGet L1395 4 = some (.int (i32 (r1249))) := eL1395 ▸ jg_ne (by decide) gL1302_4 rfl
                      have gL1395_6 : jGet L1395 6 = some (.int (i32 (1))) := eL1395 ▸ jg_ne (by decide) gL1302_6 rfl
                      have gL1395_5 : jGet L1395 5 = some (.int (i32 (r1363))) := eL1395 ▸ jg_eq
                      refine jx_ld (pc' := 100) (l' := L1395) (st' := [.ref 66]) rfl (jl_aloadn gL1395_0) ?_
                      refine jx_vr (pc' := 103) (as := []) (st := []) rfl rfl rfl rfl ⟨rfl, rfl, Nat.le_of_ble_eq_true rfl⟩ rfl rfl (c_bad (dd := d) (hd := by omega) (hW := hW1369)  (fk := fk2_1365) (e_fk := show G1361 16 = fk2_1365 from (e1374))    ) (fun o V' hq => ?_)
                      obtain ⟨r1396, rfl, rfl, b1397, q1398⟩ := hq
                      refine .inr ⟨_, rfl, ?_⟩
                      rcases q1398 with ⟨rfl, a1399⟩ | ⟨rfl, a1400⟩
                      · have _q : True := trivial
                        refine jx_if_eq (pc' := 106) (tg := 108) rfl rfl rfl (by decide) (by decide) (fun h1401 => ?_) (fun h1401 => ?_)
                        · have _q := h1401
                          exact absurd h1401 (by omega)
                        · have _q := h1401
                          refine jx_ar (pc' := 107) (st' := [.int (i32 (0))]) rfl rfl rfl rfl ?_
                          refine jx_rt (v := some (.int (i32 (0)))) rfl rfl rfl rfl rfl rfl ?_
                          exact ⟨_, _, _, at2_1364, fk2_1365, nd2_1367, ln, rfl, rfl, hW1369, hF1385, hP1386, by omega, (e1373), (e1374), (e1376), ((hF1370.1 9 rfl).trans ((hF1284.1 9 rfl).trans ((hF1252.1 9 rfl).trans ((hF1189.1 9 rfl).trans (e_ln))))), by omega, by omega, by omega, by omega, by omega, by first | exact Or.inl (⟨by omega, by omega, by omega⟩)⟩
                      · have _q : True := trivial
                        exfalso
                        omega
                    · have _q : True := trivial
                      refine jx_ld (pc' := 99) (l' := jSto1 L1302 5 (.int (i32 (r1363)))) (st' := []) rfl rfl ?_
                      obtain ⟨L1402, eL1402⟩ : ∃ q, q = jSto1 L1302 5 (.int (i32 (r1363))) := ⟨_, rfl⟩
                      rw [← eL1402]
                      have gL1402_0 : jGet L1402 0 = some (.ref 66) := eL1402 ▸ jg_ne (by decide) gL1302_0 rfl
                      have gL1402_1 : jGet L1402 1 = some (.int (i32 (nd))) := eL1402 ▸ jg_ne (by decide) gL1302_1 rfl
                      have gL1402_2 : jGet L1402 2 = some (.int (i32 (0))) := eL1402 ▸ jg_ne (by decide) gL1302_2 rfl
                      have gL1402_3 : jGet L1402 3 = some (.int (i32 (G 12))) := eL1402 ▸ jg_ne (by decide) gL1302_3 rfl
                      have gL1402_4 : jGet L1402 4 = some (.int (i32 (r1249))) := eL1402 ▸ jg_ne (by decide) gL1302_4 rfl
                      have gL1402_6 : jGet L1402 6 = some (.int (i32 (1))) := eL1402 ▸ jg_ne (by decide) gL1302_6 rfl
                      have gL1402_5 : jGet L1402 5 = some (.int (i32 (r1363))) := eL1402 ▸ jg_eq
                      refine jx_ld (pc' := 100) (l' := L1402) (st' := [.ref 66]) rfl (jl_aloadn gL1402_0) ?_
                      refine jx_vr (pc' := 103) (as := []) (st := []) rfl rfl rfl rfl ⟨rfl, rfl, Nat.le_of_ble_eq_true rfl⟩ rfl rfl (c_bad (dd := d) (hd := by omega) (hW := hW1369)  (fk := fk2_1365) (e_fk := show G1361 16 = fk2_1365 from (e1374))    ) (fun o V' hq => ?_)
                      obtain ⟨r1403, rfl, rfl, b1404, q1405⟩ := hq
                      refine .inr ⟨_, rfl, ?_⟩
                      rcases q1405 with ⟨rfl, a1406⟩ | ⟨rfl, a1407⟩
                      · have _q : True := trivial
                        exfalso
                        omega
                      · have _q : True := trivial
                        refine jx_if_eq (pc' := 106) (tg := 108) rfl rfl rfl (by decide) (by decide) (fun h1408 => ?_) (fun h1408 => ?_)
                        · have _q := h1408
                          have z1409 := tz_f (tk2_1368)
                          exact c_readGuard_at_108_1 (X := X) (d := d) (Vs := Vs) (sb := sb) (c0 := c0) (c1 := c1) (G := G) (A := A) (T := T) (ln := ln) (le := le) (at0 := at0) (fk := fk) (op0 := op0) (nd := nd) (tk0 := tk0) (li := li) (hd := hd) (hW := hW) (e_ln := e_ln) (e_le := e_le) (e_at0 := e_at0) (e_fk := e_fk) (e_op0 := e_op0) (e_nd := e_nd) (e_tk0 := e_tk0) (e_li := e_li) (i_SV := i_SV) (p_0 := p_0) (p_1 := p_1) (p_2 := p_2) (p_3 := p_3) (p_4 := p_4) L1402 G1361 A1362 (nd) (G 12) (r1249) (r1363) (at2_1364) (tk2_1368) (fk2_1365) (nd2_1367) (op2_1366) (A 7 (r1249).toNat) gL1402_0 gL1402_6 gL1402_1 gL1402_3 gL1402_4 gL1402_5 hW1369 hF1385 hP1386 ((e1373)) ((e1377)) ((e1374)) ((e1376)) ((e1375)) ((congrFun ((hF1370.2 7 rfl).trans ((hF1284.2 7 rfl).trans ((hF1252.2 7 rfl).trans (hF1189.2 7 rfl)))) _)) (((hF1370.1 9 rfl).trans ((hF1284.1 9 rfl).trans ((hF1252.1 9 rfl).trans ((hF1189.1 9 rfl).trans (e_ln)))))) (by omega) (by omega) (by omega) (by omega) (by omega) (by omega) (by omega) (by omega) (by omega) (by omega) (by omega) (by omega) (by omega) (by omega) (a1264) (sf1387) ((wE_mono (by omega) (by omega) (by omega) a1394))
                        · have _q := h1408
                          exact absurd h1408 (by omega)
                  · have _q := h1360
                    refine jx_ld (pc' := 86) (l' := L1302) (st' := [.ref 66]) rfl (jl_aloadn gL1302_0) ?_
                    refine jx_ar (pc' := 87) (st' := [.int (i32 (4)), .ref 66]) rfl rfl rfl rfl ?_
                    refine jx_ld (pc' := 88) (l' := L1302) (st' := [.int (i32 (G 12)), .int (i32 (4)), .ref 66]) rfl (jl_iloadn gL1302_3) ?_
                    refine jx_vr (pc' := 91) (as := [.int (i32 (4)), .int (i32 (G 12))]) (st := []) rfl rfl rfl rfl ⟨rfl, rfl, Nat.le_of_ble_eq_true rfl⟩ rfl rfl (c_fail (dd := d) (hd := by omega) (hW := hW1283) (kind := 4) (place := G 12) (fk := fk2_1250) (e_fk := show G1279 16 = fk2_1250 from ((hF1284.1 16 rfl).trans (e1254)))  (h_kind := ⟨(by decide), (by decide)⟩) (h_place := ⟨(Int.le_trans (by decide : (-2147483648 : Int) ≤ -3000) b1245.1), (Int.le_trans b1245.2 (by decide : (3002 : Int) ≤ 2147483647))⟩)  (p_0 := by omega) (p_1 := by omega)) (fun o V' hq => ?_)
                    obtain ⟨G1410, A1411, fk2_1412, rfl, rfl, hW1413, hF1414, e1415, p1416, -⟩ := hq
                    have hF1418 := Fr_tr hF1291 hF1414 (Fr_sub (by decide)) (Fr_sub (by decide))
                    have hP1419 := Pf_f hP1292 hF1414 (by decide)
                    have sf1420 : ND A1411 (nd) (33) (0) (0) (0) (0) (0) (0) := ND_ag (by omega) (Ag_fr hF1414 (by decide)) sf1293
                    have bfk2_1412 : (0 : Int) ≤ fk2_1412 ∧ fk2_1412 ≤ 6 := e1415 ▸ hW1413.1 16
                    refine .inl ⟨rfl, ?_⟩
                    refine jx_ar (pc' := 92) (st' := [.int (i32 (0))]) rfl rfl rfl rfl ?_
                    refine jx_rt (v := some (.int (i32 (0)))) rfl rfl rfl rfl rfl rfl ?_
                    exact ⟨_, _, _, at2_1281, fk2_1412, nd2_1187, ln, rfl, rfl, hW1413, hF1418, hP1419, by omega, ((hF1414.1 10 rfl).trans (e1285)), (e1415), ((hF1414.1 31 rfl).trans ((hF1284.1 31 rfl).trans ((hF1252.1 31 rfl).trans (e1191)))), ((hF1414.1 9 rfl).trans ((hF1284.1 9 rfl).trans ((hF1252.1 9 rfl).trans ((hF1189.1 9 rfl).trans (e_ln))))), by omega, by omega, by omega, by omega, by omega, by first | exact Or.inl (⟨by omega, by omega, by omega⟩)⟩
          · have _q : True := trivial
            refine jx_ld (pc' := 56) (l' := jSto1 L1294 6 (.int (i32 (0)))) (st' := []) rfl rfl ?_
            obtain ⟨L1421, eL1421⟩ : ∃ q, q = jSto1 L1294 6 (.int (i32 (0))) := ⟨_, rfl⟩
            rw [← eL1421]
            have gL1421_0 : jGet L1421 0 = some (.ref 66) := eL1421 ▸ jg_ne (by decide) gL1294_0 rfl
            have gL1421_1 : jGet L1421 1 = some (.int (i32 (nd))) := eL1421 ▸ jg_ne (by decide) gL1294_1 rfl
            have gL1421_2 : jGet L1421 2 = some (.int (i32 (0))) := eL1421 ▸ jg_ne (by decide) gL1294_2 rfl
            have gL1421_3 : jGet L1421 3 = some (.int (i32 (G 12))) := eL1421 ▸ jg_ne (by decide) gL1294_3 rfl
            have gL1421_4 : jGet L1421 4 = some (.int (i32 (r1249))) := eL1421 ▸ jg_ne (by decide) gL1294_4 rfl
            have gL1421_5 : jGet L1421 5 = some (.int (i32 (0))) := eL1421 ▸ jg_ne (by decide) gL1294_5 rfl
            have gL1421_6 : jGet L1421 6 = some (.int (i32 (0))) := eL1421 ▸ jg_eq
            refine jx_ld (pc' := 58) (l' := L1421) (st' := [.int (i32 (0))]) rfl (jl_iload gL1421_6) ?_
            refine jx_if_eq (pc' := 61) (tg := 99) rfl rfl rfl (by decide) (by decide) (fun h1422 => ?_) (fun h1422 => ?_)
            · have _q := h1422
              refine jx_ld (pc' := 100) (l' := L1421) (st' := [.ref 66]) rfl (jl_aloadn gL1421_0) ?_
              refine jx_vr (pc' := 103) (as := []) (st := []) rfl rfl rfl rfl ⟨rfl, rfl, Nat.le_of_ble_eq_true rfl⟩ rfl rfl (c_bad (dd := d) (hd := by omega) (hW := hW1283)  (fk := fk2_1250) (e_fk := show G1279 16 = fk2_1250 from ((hF1284.1 16 rfl).trans (e1254)))    ) (fun o V' hq => ?_)
              obtain ⟨r1423, rfl, rfl, b1424, q1425⟩ := hq
              refine .inr ⟨_, rfl, ?_⟩
              rcases q1425 with ⟨rfl, a1426⟩ | ⟨rfl, a1427⟩
              · have _q : True := trivial
                exfalso
                omega
              · have _q : True := trivial
                refine jx_if_eq (pc' := 106) (tg := 108) rfl rfl rfl (by decide) (by decide) (fun h1428 => ?_) (fun h1428 => ?_)
                · have _q := h1428
                  have z1429 := tz_f (tk2_1282)
                  exact c_readGuard_at_108_0 (X := X) (d := d) (Vs := Vs) (sb := sb) (c0 := c0) (c1 := c1) (G := G) (A := A) (T := T) (ln := ln) (le := le) (at0 := at0) (fk := fk) (op0 := op0) (nd := nd) (tk0 := tk0) (li := li) (hd := hd) (hW := hW) (e_ln := e_ln) (e_le := e_le) (e_at0 := e_at0) (e_fk := e_fk) (e_op0 := e_op0) (e_nd := e_nd) (e_tk0 := e_tk0) (e_li := e_li) (i_SV := i_SV) (p_0 := p_0) (p_1 := p_1) (p_2 := p_2) (p_3 := p_3) (p_4 := p_4) L1421 G1279 A1280 (nd) (G 12) (r1249) (at2_1281) (tk2_1282) (fk2_1250) (nd2_1187) (op0) (A 7 (r1249).toNat) gL1421_0 gL1421_6 gL1421_5 gL1421_1 gL1421_3 gL1421_4 hW1283 hF1291 hP1292 ((e1285)) ((e1286)) (((hF1284.1 16 rfl).trans (e1254))) (((hF1284.1 31 rfl).trans ((hF1252.1 31 rfl).trans (e1191)))) (((hF1284.1 15 rfl).trans ((hF1252.1 15 rfl).trans ((hF1189.1 15 rfl).trans (e_op0))))) ((congrFun ((hF1284.2 7 rfl).trans ((hF1252.2 7 rfl).trans (hF1189.2 7 rfl))) _)) (((hF1284.1 9 rfl).trans ((hF1252.1 9 rfl).trans ((hF1189.1 9 rfl).trans (e_ln))))) (by omega) (by omega) (by omega) (by omega) (by omega) (by omega) (by omega) (by omega) (by omega) (by omega) (by omega) (by omega) (by omega) (a1264) (sf1293)
                · have _q := h1428
                  exact absurd h1428 (by omega)
            · have _q := h1422
              exact absurd h1422 (by omega)
        · have _q := h1278
          exact absurd h1278 (by omega)
