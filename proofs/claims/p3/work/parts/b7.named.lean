set_option maxRecDepth 20000 in
set_option maxHeartbeats 4000000 in
theorem c_readNamed_w_at_259_1 {X : jX} {d : Nat} {Vs : Nat → Prop} {sb pb : Int} {c0 c1 : jC} {G : Nat → Int} {A : Nat → Nat → Int} {T : jH} {ln le at0 fk op0 nd tk0 li ec sy : Int} (hd : 72 ≤ d + 1) (hW : Wk G A) (e_ln : G 9 = ln) (e_le : A 4 (ln).toNat = le) (e_at0 : G 10 = at0) (e_fk : G 16 = fk) (e_op0 : G 15 = op0) (e_nd : G 31 = nd) (e_tk0 : G 11 = tk0) (e_li : G 3 = li) (e_ec : ecn A (G 31) = ec) (e_sy : G 19 = sy) (i_SV : SV Vs sb G A) (i_PQ : PQ Vs sb pb G A) (p_0 : 0 ≤ op0 ∧ op0 ≤ 8) (p_1 : fk = 0) (p_2 : nd ≤ 2 * at0 - tz tk0 + 42) (p_3 : at0 ≤ le) (p_4 : ln < li) (p_5 : tk0 = 1) : ∀ (L : jL) (Gx : Nat → Int) (Ax : Nat → Nat → Int) (s ix at1 tk1 fk1 nd1 op1 ks ec1 : Int), jGet L 0 = some (.ref 66) → jGet L 5 = some (.int (i32 (1))) → jGet L 2 = some (.int (i32 s)) → jGet L 4 = some (.int (i32 ix)) → Wk Gx Ax → Fr [9, 10, 11, 12, 13, 14, 15, 16, 17, 18, 31] [15, 16, 17, 18, 19, 20, 21, 22, 24, 28] G A Gx Ax → Pf nd A Ax → Gx 10 = at1 → Gx 11 = tk1 → Gx 16 = fk1 → Gx 31 = nd1 → Gx 15 = op1 → Ax 7 (s).toNat = ks → ecn Ax (Gx 31) = ec1 → Gx 9 = ln → ((-2147483648 : Int) ≤ s ∧ s ≤ 2147483647) → ((-2147483648 : Int) ≤ ix ∧ ix ≤ 2147483647) → (at0 ≤ at1) → (at1 ≤ le) → (nd ≤ nd1) → (op1 = op0) → (fk1 = 0) → (nd1 - nd ≤ (2 * at1 - tz tk1) - (2 * at0 - tz tk0) - 1) → (tz tk1 = 1) → (0 ≤ s ∧ s ≤ 201) → (SY Vs sb (s)) → (ks = 4) → (wE Ax Vs sb (20) (ix) (nd) (nd1)) → (ix + 1 = nd1) → (nd1 - nd + 5 * (ec1 - ec) ≤ (2 * at1 - tz tk1) - (2 * at0 - tz tk0) - 6 - tz tk1) → (NdM Ax (nd) (nd1) (sy)) → wj X d jm304 (259, L, [], rV c0 c1 Gx Ax T) (fun o V_q => ∃ (G_q : Nat → Int) (A_q : Nat → Nat → Int) (r : Int) (at2 : Int) (fk2 : Int) (nd2 : Int) (ln2 : Int) (ec2 : Int), V_q = rV c0 c1 G_q A_q T ∧ o = .inl (some (.int (i32 r))) ∧ Wk G_q A_q ∧ Fr [9, 10, 11, 12, 13, 14, 15, 16, 17, 18, 31] [15, 16, 17, 18, 19, 20, 21, 22, 24, 28] G A G_q A_q ∧ Pf nd A A_q ∧ ((-2147483648 : Int) ≤ r ∧ r ≤ 2147483647) ∧ G_q 10 = at2 ∧ G_q 16 = fk2 ∧ G_q 31 = nd2 ∧ G_q 9 = ln2 ∧ ecn A_q (G_q 31) = ec2 ∧ (at0 ≤ at2) ∧ (at2 ≤ le) ∧ (nd ≤ nd2) ∧ (0 ≤ r) ∧ (r ≤ nd2) ∧ (((1 ≤ fk2) ∧ (ln2 = ln) ∧ (nd2 - nd ≤ 2 * at2 - 2 * at0 + 8)) ∨ ((fk2 = 0) ∧ (ln2 = ln + 1) ∧ (nd2 - nd ≤ 2 * at2 - (2 * at0 - tz tk0) + 0) ∧ (nd ≤ r) ∧ (r < nd2) ∧ (wL A_q sb pb Vs (r) (nd) (nd2)) ∧ (NX A_q (r)) ∧ (nd2 - nd + 5 * (ec2 - ec) ≤ 2 * at2 - (2 * at0 - tz tk0) + 0) ∧ (NdM A_q (nd) (nd2) (sy))))) := by
  have hF0 : Fr [9, 10, 11, 12, 13, 14, 15, 16, 17, 18, 31] [15, 16, 17, 18, 19, 20, 21, 22, 24, 28] G A G A := Fr_rf
  have hP0 : Pf nd A A := Pf_rf
  have b_ln : (0 : Int) ≤ ln ∧ ln ≤ 3000 := e_ln ▸ hW.1 9
  have b_le : (0 : Int) ≤ le ∧ le ≤ 3000 := e_le ▸ hW.2 4 _
  have b_at0 : (0 : Int) ≤ at0 ∧ at0 ≤ 3002 := e_at0 ▸ hW.1 10
  have b_fk : (0 : Int) ≤ fk ∧ fk ≤ 6 := e_fk ▸ hW.1 16
  have b_op0 : (-2147483648 : Int) ≤ op0 ∧ op0 ≤ 2147483647 := e_op0 ▸ hW.1 15
  have b_nd : (0 : Int) ≤ nd ∧ nd ≤ 6999 := e_nd ▸ hW.1 31
  have z_tk0 := tz_f tk0
  have b_tk0 : (0 : Int) ≤ tk0 ∧ tk0 ≤ 5 := e_tk0 ▸ hW.1 11
  have b_li : (0 : Int) ≤ li ∧ li ≤ 3000 := e_li ▸ hW.1 3
  have b_sy : (0 : Int) ≤ sy ∧ sy ≤ 202 := e_sy ▸ hW.1 19
  intro L Gx Ax s ix at1 tk1 fk1 nd1 op1 ks ec1 gL_0 gL_5 gL_2 gL_4 hWx hFx hPx ex_at1 ex_tk1 ex_fk1 ex_nd1 ex_op1 ex_ks ex_ec1 fx_9 rx_s rx_ix iv_0 iv_1 iv_2 iv_3 iv_4 iv_5 iv_6 iv_7 iv_8 iv_9 iv_10 iv_11 iv_12 iv_13
  have b_at1 : (0 : Int) ≤ at1 ∧ at1 ≤ 3002 := ex_at1 ▸ hWx.1 10
  have z_tk1 := tz_f tk1
  have b_tk1 : (0 : Int) ≤ tk1 ∧ tk1 ≤ 5 := ex_tk1 ▸ hWx.1 11
  have b_fk1 : (0 : Int) ≤ fk1 ∧ fk1 ≤ 6 := ex_fk1 ▸ hWx.1 16
  have b_nd1 : (0 : Int) ≤ nd1 ∧ nd1 ≤ 6999 := ex_nd1 ▸ hWx.1 31
  have b_op1 : (-2147483648 : Int) ≤ op1 ∧ op1 ≤ 2147483647 := ex_op1 ▸ hWx.1 15
  have b_ks : (0 : Int) ≤ ks ∧ ks ≤ 14 := ex_ks ▸ hWx.2 7 _
  refine jx_ld (pc_q := 260) (l_q := L) (st_q := [.ref 66]) rfl (jl_aloadn gL_0) ?_
  refine jx_ar (pc_q := 262) (st_q := [.int (i32 (33)), .ref 66]) rfl rfl rfl rfl ?_
  have b1 : (-2147483648 : Int) ≤ Gx 13 ∧ Gx 13 ≤ 2147483647 := hWx.1 13
  refine jx_vr (pc_q := 265) (as := [.int (i32 (33))]) (st := []) rfl rfl rfl rfl ⟨rfl, rfl, Nat.le_of_ble_eq_true rfl⟩ rfl rfl (c_is (dd := d) (hd := by omega) (hW := hWx) (k := 33) (tk := tk1) (e_tk := show Gx 11 = tk1 from (ex_tk1)) (tn := Gx 13) (e_tn := show Gx 13 = Gx 13 from rfl)  (h_k := ⟨(by decide), (by decide)⟩)  ) (fun o V_q hq => ?_)
  obtain ⟨r2, rfl, rfl, b3, q4⟩ := hq
  refine .inr ⟨_, rfl, ?_⟩
  rcases q4 with ⟨rfl, a5, a6, a7⟩ | rfl
  · have _q : True := trivial
    refine jx_ld (pc_q := 267) (l_q := jSto1 L 6 (.int (i32 (1)))) (st_q := []) rfl rfl ?_
    obtain ⟨L8, eL8⟩ : ∃ q, q = jSto1 L 6 (.int (i32 (1))) := ⟨_, rfl⟩
    rw [← eL8]
    have gL8_0 : jGet L8 0 = some (.ref 66) := eL8 ▸ jg_ne (by decide) gL_0 rfl
    have gL8_5 : jGet L8 5 = some (.int (i32 (1))) := eL8 ▸ jg_ne (by decide) gL_5 rfl
    have gL8_2 : jGet L8 2 = some (.int (i32 (s))) := eL8 ▸ jg_ne (by decide) gL_2 rfl
    have gL8_4 : jGet L8 4 = some (.int (i32 (ix))) := eL8 ▸ jg_ne (by decide) gL_4 rfl
    have gL8_6 : jGet L8 6 = some (.int (i32 (1))) := eL8 ▸ jg_eq
    refine jx_ld (pc_q := 268) (l_q := L8) (st_q := [.ref 66]) rfl (jl_aloadn gL8_0) ?_
    refine jx_ld (pc_q := 270) (l_q := L8) (st_q := [.int (i32 (1)), .ref 66]) rfl (jl_iload gL8_6) ?_
    refine jx_if_eq (pc_q := 273) (tg := 278) rfl rfl rfl (by decide) (by decide) (fun h9 => ?_) (fun h9 => ?_)
    · have _q := h9
      exact absurd h9 (by omega)
    · have _q := h9
      refine jx_ar (pc_q := 275) (st_q := [.int (i32 (23)), .ref 66]) rfl rfl rfl rfl ?_
      refine jx_go (tg := 280) rfl rfl ?_
      refine jx_ld (pc_q := 281) (l_q := L8) (st_q := [.ref 66, .int (i32 (23)), .ref 66]) rfl (jl_aloadn gL8_0) ?_
      refine jx_ld (pc_q := 283) (l_q := L8) (st_q := [.int (i32 (1)), .ref 66, .int (i32 (23)), .ref 66]) rfl (jl_iload gL8_5) ?_
      refine jx_if_eq (pc_q := 286) (tg := 290) rfl rfl rfl (by decide) (by decide) (fun h10 => ?_) (fun h10 => ?_)
      · have _q := h10
        exact absurd h10 (by omega)
      · have _q := h10
        refine jx_ar (pc_q := 287) (st_q := [.int (i32 (3)), .ref 66, .int (i32 (23)), .ref 66]) rfl rfl rfl rfl ?_
        refine jx_go (tg := 291) rfl rfl ?_
        refine jx_ld (pc_q := 292) (l_q := L8) (st_q := [.int (i32 (s)), .int (i32 (3)), .ref 66, .int (i32 (23)), .ref 66]) rfl (jl_iloadn gL8_2) ?_
        refine jx_ld (pc_q := 294) (l_q := L8) (st_q := [.int (i32 (ix)), .int (i32 (s)), .int (i32 (3)), .ref 66, .int (i32 (23)), .ref 66]) rfl (jl_iload gL8_4) ?_
        refine jx_ar (pc_q := 295) (st_q := [.int (i32 (0)), .int (i32 (ix)), .int (i32 (s)), .int (i32 (3)), .ref 66, .int (i32 (23)), .ref 66]) rfl rfl rfl rfl ?_
        refine jx_ar (pc_q := 296) (st_q := [.int (i32 (0)), .int (i32 (0)), .int (i32 (ix)), .int (i32 (s)), .int (i32 (3)), .ref 66, .int (i32 (23)), .ref 66]) rfl rfl rfl rfl ?_
        refine jx_vr (pc_q := 299) (as := [.int (i32 (3)), .int (i32 (s)), .int (i32 (ix)), .int (i32 (0)), .int (i32 (0))]) (st := [.int (i32 (23)), .ref 66]) rfl rfl rfl rfl ⟨rfl, rfl, Nat.le_of_ble_eq_true rfl⟩ rfl rfl (c_node_e (dd := d) (hd := by omega) (hW := hWx) (kind := 3) (a := s) (b := ix) (c := 0) (e := 0) (nd := nd1) (e_nd := show Gx 31 = nd1 from (ex_nd1)) (ec := ec1) (e_ec := show ecn Ax (Gx 31) = ec1 from ex_ec1) (sy := sy) (e_sy := show Gx 19 = sy from ((hFx.1 19 rfl).trans (e_sy))) (fk := fk1) (e_fk := show Gx 16 = fk1 from (ex_fk1))  (h_kind := ⟨(by decide), (by decide)⟩) (h_a := ⟨(Int.le_trans (by decide : (-2147483648 : Int) ≤ -2147483648) rx_s.1), (Int.le_trans rx_s.2 (by decide : (2147483647 : Int) ≤ 2147483647))⟩) (h_b := ⟨(Int.le_trans (by decide : (-2147483648 : Int) ≤ -2147483648) rx_ix.1), (Int.le_trans rx_ix.2 (by decide : (2147483647 : Int) ≤ 2147483647))⟩) (h_c := ⟨(by decide), (by decide)⟩) (h_e := ⟨(by decide), (by decide)⟩)  (p_0 := by omega) (p_1 := by omega) (p_2 := by omega) (p_3 := by omega)) (fun o V_q hq => ?_)
        obtain ⟨G11, A12, nd2_13, ec2_14, rfl, rfl, hW15, hF16, hQ17, e18, e19, p20, p21, p22, p23, -⟩ := hq
        have hF25 := Fr_tr hFx hF16 (Fr_sub (by decide)) (Fr_sub (by decide))
        have hP26 := Pf_tr hPx hQ17 (by omega)
        have sf27 : wE A12 Vs sb (20) (ix) (nd) (nd1) := wE_ag (by omega) (Sg_fr hF16 (by decide)) (Ag_pf hQ17 (by omega)) iv_10
        have sf28 : NdM A12 (nd) (nd1) (sy) := NdM_pf hQ17 (by omega) (by omega) iv_13
        have bnd2_13 : (0 : Int) ≤ nd2_13 ∧ nd2_13 ≤ 6999 := e18 ▸ hW15.1 31
        refine .inr ⟨_, rfl, ?_⟩
        refine jx_ar (pc_q := 300) (st_q := [.int (i32 (0)), .int (i32 (nd1)), .int (i32 (23)), .ref 66]) rfl rfl rfl rfl ?_
        refine jx_ar (pc_q := 301) (st_q := [.int (i32 (0)), .int (i32 (0)), .int (i32 (nd1)), .int (i32 (23)), .ref 66]) rfl rfl rfl rfl ?_
        refine jx_ar (pc_q := 302) (st_q := [.int (i32 (0)), .int (i32 (0)), .int (i32 (0)), .int (i32 (nd1)), .int (i32 (23)), .ref 66]) rfl rfl rfl rfl ?_
        refine jx_vr (pc_q := 305) (as := [.int (i32 (23)), .int (i32 (nd1)), .int (i32 (0)), .int (i32 (0)), .int (i32 (0))]) (st := []) rfl rfl rfl rfl ⟨rfl, rfl, Nat.le_of_ble_eq_true rfl⟩ rfl rfl (c_node_l (dd := d) (hd := by omega) (hW := hW15) (kind := 23) (a := nd1) (b := 0) (c := 0) (e := 0) (nd := nd2_13) (e_nd := show G11 31 = nd2_13 from (e18)) (ec := ec2_14) (e_ec := show ecn A12 (G11 31) = ec2_14 from e19) (sy := sy) (e_sy := show G11 19 = sy from ((hF16.1 19 rfl).trans ((hFx.1 19 rfl).trans (e_sy)))) (ln := ln) (e_ln := show G11 9 = ln from ((hF16.1 9 rfl).trans (fx_9))) (li := li) (e_li := show G11 3 = li from ((hF16.1 3 rfl).trans ((hFx.1 3 rfl).trans (e_li))))  (h_kind := ⟨(by decide), (by decide)⟩) (h_a := ⟨(Int.le_trans (by decide : (-2147483648 : Int) ≤ 0) b_nd1.1), (Int.le_trans b_nd1.2 (by decide : (6999 : Int) ≤ 2147483647))⟩) (h_b := ⟨(by decide), (by decide)⟩) (h_c := ⟨(by decide), (by decide)⟩) (h_e := ⟨(by decide), (by decide)⟩)  (p_0 := by omega) (p_1 := by omega) (p_2 := by omega) (p_3 := by omega)) (fun o V_q hq => ?_)
        obtain ⟨G29, A30, nd2_31, ec2_32, rfl, rfl, hW33, hF34, hQ35, e36, e37, p38, p39, p40, p41, -⟩ := hq
        have hF43 := Fr_tr hF25 hF34 (Fr_sub (by decide)) (Fr_sub (by decide))
        have hP44 := Pf_tr hP26 hQ35 (by omega)
        have sf45 : wE A30 Vs sb (20) (ix) (nd) (nd1) := wE_ag (by omega) (Sg_fr hF34 (by decide)) (Ag_pf hQ35 (by omega)) sf27
        have sf46 : NdM A30 (nd) (nd1) (sy) := NdM_pf hQ35 (by omega) (by omega) sf28
        have sf47 : ND A30 (nd1) (3) (s) (ix) (0) (0) (0) (0) := ND_ag (by omega) (Ag_pf hQ35 (by omega)) p22
        have sf48 : NdM A30 (nd1) (nd1 + 1) (sy) := NdM_pf hQ35 (by omega) (by omega) (p23 (by omega))
        have bnd2_31 : (0 : Int) ≤ nd2_31 ∧ nd2_31 ≤ 6999 := e36 ▸ hW33.1 31
        refine .inr ⟨_, rfl, ?_⟩
        refine jx_ld (pc_q := 307) (l_q := jSto1 L8 7 (.int (i32 (nd2_13)))) (st_q := []) rfl rfl ?_
        obtain ⟨L49, eL49⟩ : ∃ q, q = jSto1 L8 7 (.int (i32 (nd2_13))) := ⟨_, rfl⟩
        rw [← eL49]
        have gL49_0 : jGet L49 0 = some (.ref 66) := eL49 ▸ jg_ne (by decide) gL8_0 rfl
        have gL49_5 : jGet L49 5 = some (.int (i32 (1))) := eL49 ▸ jg_ne (by decide) gL8_5 rfl
        have gL49_2 : jGet L49 2 = some (.int (i32 (s))) := eL49 ▸ jg_ne (by decide) gL8_2 rfl
        have gL49_4 : jGet L49 4 = some (.int (i32 (ix))) := eL49 ▸ jg_ne (by decide) gL8_4 rfl
        have gL49_6 : jGet L49 6 = some (.int (i32 (1))) := eL49 ▸ jg_ne (by decide) gL8_6 rfl
        have gL49_7 : jGet L49 7 = some (.int (i32 (nd2_13))) := eL49 ▸ jg_eq
        refine jx_ld (pc_q := 308) (l_q := L49) (st_q := [.ref 66]) rfl (jl_aloadn gL49_0) ?_
        refine jx_vr (pc_q := 311) (as := []) (st := []) rfl rfl rfl rfl ⟨rfl, rfl, Nat.le_of_ble_eq_true rfl⟩ rfl rfl (c_next (dd := d) (hd := by omega) (hW := hW33)  (ln := ln) (e_ln := show G29 9 = ln from ((hF34.1 9 rfl).trans ((hF16.1 9 rfl).trans (fx_9)))) (le := le) (e_le := show A30 4 (ln).toNat = le from (congrFun ((hF34.2 4 rfl).trans ((hF16.2 4 rfl).trans (hFx.2 4 rfl))) _).trans (e_le)) (at0 := at1) (e_at0 := show G29 10 = at1 from ((hF34.1 10 rfl).trans ((hF16.1 10 rfl).trans (ex_at1))))    (p_0 := by omega)) (fun o V_q hq => ?_)
        obtain ⟨G50, A51, at2_52, tk2_53, rfl, rfl, hW54, hF55, e56, e57, p58, p59, p60, -⟩ := hq
        have hF62 := Fr_tr hF43 hF55 (Fr_sub (by decide)) (Fr_sub (by decide))
        have hP63 := Pf_f hP44 hF55 (by decide)
        have sf64 : wE A51 Vs sb (20) (ix) (nd) (nd1) := wE_ag (by omega) (Sg_fr hF55 (by decide)) (Ag_fr hF55 (by decide)) sf45
        have sf65 : NdM A51 (nd) (nd1) (sy) := NdM_f hF55 (by decide) sf46
        have sf66 : ND A51 (nd1) (3) (s) (ix) (0) (0) (0) (0) := ND_ag (by omega) (Ag_fr hF55 (by decide)) sf47
        have sf67 : NdM A51 (nd1) (nd1 + 1) (sy) := NdM_f hF55 (by decide) sf48
        have sf68 : ND A51 (nd2_13) (23) (nd1) (0) (0) (0) (0) (0) := ND_ag (by omega) (Ag_fr hF55 (by decide)) p40
        have sf69 : NdM A51 (nd2_13) (nd2_13 + 1) (sy) := NdM_f hF55 (by decide) p41
        have ec70 : ecn A51 (G50 31) = ec2_32 := (ecn_f (hF55.2 15 rfl) (hF55.1 31 rfl)).trans e37
        have bat2_52 : (0 : Int) ≤ at2_52 ∧ at2_52 ≤ 3002 := e56 ▸ hW54.1 10
        have ztk2_53 := tz_b tk2_53
        have btk2_53 : (0 : Int) ≤ tk2_53 ∧ tk2_53 ≤ 5 := e57 ▸ hW54.1 11
        refine .inl ⟨rfl, ?_⟩
        have pz71 : at1 + tz tk2_53 ≤ at2_52 := by omega
        refine jx_ld (pc_q := 312) (l_q := L49) (st_q := [.ref 66]) rfl (jl_aloadn gL49_0) ?_
        refine jr_get (pc_q := 315) (i := 35) (v := .ref 85) rfl rfl (by decide) rfl rfl ?_
        refine jx_ld (pc_q := 317) (l_q := L49) (st_q := [.int (i32 (nd2_13)), .ref 85]) rfl (jl_iload gL49_7) ?_
        refine jx_ld (pc_q := 319) (l_q := L49) (st_q := [.int (i32 (1)), .int (i32 (nd2_13)), .ref 85]) rfl (jl_iload gL49_6) ?_
        refine jx_if_eq (pc_q := 322) (tg := 329) rfl rfl rfl (by decide) (by decide) (fun h72 => ?_) (fun h72 => ?_)
        · have _q := h72
          exact absurd h72 (by omega)
        · have _q := h72
          refine jx_ld (pc_q := 323) (l_q := L49) (st_q := [.ref 66, .int (i32 (nd2_13)), .ref 85]) rfl (jl_aloadn gL49_0) ?_
          refine jx_vr (pc_q := 326) (as := []) (st := [.int (i32 (nd2_13)), .ref 85]) rfl rfl rfl rfl ⟨rfl, rfl, Nat.le_of_ble_eq_true rfl⟩ rfl rfl (REw_all X 9 (dd := d) (hd := by omega) (hW := hW54)  (ln := ln) (e_ln := show G50 9 = ln from ((hF55.1 9 rfl).trans ((hF34.1 9 rfl).trans ((hF16.1 9 rfl).trans (fx_9))))) (le := le) (e_le := show A51 4 (ln).toNat = le from (congrFun ((hF55.2 4 rfl).trans ((hF34.2 4 rfl).trans ((hF16.2 4 rfl).trans (hFx.2 4 rfl)))) _).trans (e_le)) (at0 := at2_52) (e_at0 := show G50 10 = at2_52 from (e56)) (fk := fk1) (e_fk := show G50 16 = fk1 from ((hF55.1 16 rfl).trans ((hF34.1 16 rfl).trans ((hF16.1 16 rfl).trans (ex_fk1))))) (op0 := op1) (e_op0 := show G50 15 = op1 from ((hF55.1 15 rfl).trans ((hF34.1 15 rfl).trans ((hF16.1 15 rfl).trans (ex_op1))))) (nd := nd2_31) (e_nd := show G50 31 = nd2_31 from ((hF55.1 31 rfl).trans (e36))) (tk0 := tk2_53) (e_tk0 := show G50 11 = tk2_53 from (e57)) (ec := ec2_32) (e_ec := show ecn A51 (G50 31) = ec2_32 from ec70) (sy := sy) (e_sy := show G50 19 = sy from ((hF55.1 19 rfl).trans ((hF34.1 19 rfl).trans ((hF16.1 19 rfl).trans ((hFx.1 19 rfl).trans (e_sy)))))) (i_SV := (SV_ext (((hF55.1 29 rfl).trans ((hF34.1 29 rfl).trans ((hF16.1 29 rfl).trans (hFx.1 29 rfl))))) (((hF55.2 14 rfl).trans ((hF34.2 14 rfl).trans ((hF16.2 14 rfl).trans (hFx.2 14 rfl))))) i_SV))   (p_0 := by omega) (p_1 := by omega) (p_2 := by omega) (p_3 := by omega) (p_4 := by omega) (p_5 := by omega)) (fun o V_q hq => ?_)
          obtain ⟨G73, A74, r75, at2_76, fk2_77, op2_78, nd2_79, tk2_80, ec2_81, rfl, rfl, hW82, hF83, hQ84, b85, e86, e87, e88, e89, e90, e91, p92, p93, p94, p95, p96, p97, q98⟩ := hq
          have hF99 := Fr_tr hF62 hF83 (Fr_sub (by decide)) (Fr_sub (by decide))
          have hP100 := Pf_tr hP63 hQ84 (by omega)
          have sf101 : wE A74 Vs sb (20) (ix) (nd) (nd1) := wE_ag (by omega) (Sg_fr hF83 (by decide)) (Ag_pf hQ84 (by omega)) sf64
          have sf102 : NdM A74 (nd) (nd1) (sy) := NdM_pf hQ84 (by omega) (by omega) sf65
          have sf103 : ND A74 (nd1) (3) (s) (ix) (0) (0) (0) (0) := ND_ag (by omega) (Ag_pf hQ84 (by omega)) sf66
          have sf104 : NdM A74 (nd1) (nd1 + 1) (sy) := NdM_pf hQ84 (by omega) (by omega) sf67
          have sf105 : ND A74 (nd2_13) (23) (nd1) (0) (0) (0) (0) (0) := ND_ag (by omega) (Ag_pf hQ84 (by omega)) sf68
          have sf106 : NdM A74 (nd2_13) (nd2_13 + 1) (sy) := NdM_pf hQ84 (by omega) (by omega) sf69
          have bat2_76 : (0 : Int) ≤ at2_76 ∧ at2_76 ≤ 3002 := e86 ▸ hW82.1 10
          have bfk2_77 : (0 : Int) ≤ fk2_77 ∧ fk2_77 ≤ 6 := e87 ▸ hW82.1 16
          have bop2_78 : (-2147483648 : Int) ≤ op2_78 ∧ op2_78 ≤ 2147483647 := e88 ▸ hW82.1 15
          have bnd2_79 : (0 : Int) ≤ nd2_79 ∧ nd2_79 ≤ 6999 := e89 ▸ hW82.1 31
          have ztk2_80 := tz_b tk2_80
          have btk2_80 : (0 : Int) ≤ tk2_80 ∧ tk2_80 ≤ 5 := e90 ▸ hW82.1 11
          refine .inr ⟨_, rfl, ?_⟩
          rcases q98 with ⟨a107, a108, a109, a110, a111, a112⟩ | ⟨a113, a114, a115⟩ | ⟨a116, a117, a118, a119, a120, a121, a122, a123⟩
          · have _q : True := trivial
            exfalso
            omega
          · have _q : True := trivial
            refine jx_go (tg := 334) rfl rfl ?_
            refine jr_st (pc_q := 335) (i := 18) (m := 7000) (z := nd2_13) (y := r75) rfl (by decide) rfl (by decide) (by omega) (by omega) rfl ?_
            have hW125 : Wk G73 (uA A74 18 (nd2_13).toNat (r75)) := Wk_a hW82 (show (-2147483648 : Int) ≤ r75 by omega) (show r75 ≤ (2147483647 : Int) by omega)
            have hF126 := Fr_a (z := r75) (k := 18) (n := (nd2_13).toNat) hF99 (by decide)
            obtain ⟨A124, eA124⟩ : ∃ q, q = uA A74 18 (nd2_13).toNat (r75) := ⟨_, rfl⟩
            rw [← eA124]
            rw [← eA124] at hW125 hF126
            have q127 : A124 18 (nd2_13).toNat = r75 := by rw [eA124]; exact uA_eq
            have hP128 : Pf nd A A124 := eA124 ▸ Pf_a hP100 (z := nd2_13) (by omega) (by omega)
            have sf129 : wE A124 Vs sb (20) (ix) (nd) (nd1) := wE_ag (by omega) (Sg_ne eA124 rfl) (Ag_st eA124 (by omega) (by omega)) sf101
            have sf130 : NdM A124 (nd) (nd1) (sy) := NdM_18 eA124 sf105.1 (by decide) sf102
            have sf131 : ND A124 (nd1) (3) (s) (ix) (0) (0) (0) (0) := ND_ag (by omega) (Ag_st eA124 (by omega) (by omega)) sf103
            have sf132 : NdM A124 (nd1) (nd1 + 1) (sy) := NdM_18 eA124 sf105.1 (by decide) sf104
            have sf133 : ND A124 (nd2_13) (23) (nd1) (r75) (0) (0) (0) (0) := ND_b eA124 sf105
            have sf134 : NdM A124 (nd2_13) (nd2_13 + 1) (sy) := NdM_18 eA124 sf105.1 (by decide) sf106
            have ec135 : ecn A124 (G73 31) = ec2_81 := (ecn_e ((congrFun eA124 15).trans (uA_ne (by decide)))).trans e91
            refine jx_ld (pc_q := 336) (l_q := L49) (st_q := [.ref 66]) rfl (jl_aloadn gL49_0) ?_
            refine jx_vr (pc_q := 339) (as := []) (st := []) rfl rfl rfl rfl ⟨rfl, rfl, Nat.le_of_ble_eq_true rfl⟩ rfl rfl (c_endLine (dd := d) (hd := by omega) (hW := hW125)  (ln := ln) (e_ln := show G73 9 = ln from ((hF83.1 9 rfl).trans ((hF55.1 9 rfl).trans ((hF34.1 9 rfl).trans ((hF16.1 9 rfl).trans (fx_9)))))) (li := li) (e_li := show G73 3 = li from ((hF83.1 3 rfl).trans ((hF55.1 3 rfl).trans ((hF34.1 3 rfl).trans ((hF16.1 3 rfl).trans ((hFx.1 3 rfl).trans (e_li))))))) (fk := fk2_77) (e_fk := show G73 16 = fk2_77 from (e87)) (tk0 := tk2_80) (e_tk0 := show G73 11 = tk2_80 from (e90))    (p_0 := by omega)) (fun o V_q hq => ?_)
            obtain ⟨G136, A137, ln2_138, fk2_139, rfl, rfl, hW140, hF141, e142, e143, q144⟩ := hq
            have hF145 := Fr_tr hF126 hF141 (Fr_sub (by decide)) (Fr_sub (by decide))
            have hP146 := Pf_f hP128 hF141 (by decide)
            have sf147 : wE A137 Vs sb (20) (ix) (nd) (nd1) := wE_ag (by omega) (Sg_fr hF141 (by decide)) (Ag_fr hF141 (by decide)) sf129
            have sf148 : NdM A137 (nd) (nd1) (sy) := NdM_f hF141 (by decide) sf130
            have sf149 : ND A137 (nd1) (3) (s) (ix) (0) (0) (0) (0) := ND_ag (by omega) (Ag_fr hF141 (by decide)) sf131
            have sf150 : NdM A137 (nd1) (nd1 + 1) (sy) := NdM_f hF141 (by decide) sf132
            have sf151 : ND A137 (nd2_13) (23) (nd1) (r75) (0) (0) (0) (0) := ND_ag (by omega) (Ag_fr hF141 (by decide)) sf133
            have sf152 : NdM A137 (nd2_13) (nd2_13 + 1) (sy) := NdM_f hF141 (by decide) sf134
            have ec153 : ecn A137 (G136 31) = ec2_81 := (ecn_f (hF141.2 15 rfl) (hF141.1 31 rfl)).trans ec135
            have bln2_138 : (0 : Int) ≤ ln2_138 ∧ ln2_138 ≤ 3000 := e142 ▸ hW140.1 9
            have bfk2_139 : (0 : Int) ≤ fk2_139 ∧ fk2_139 ≤ 6 := e143 ▸ hW140.1 16
            refine .inl ⟨rfl, ?_⟩
            rcases q144 with ⟨a154, a155, a156, a157, a158⟩ | ⟨a159, a160⟩
            · have _q : True := trivial
              exfalso
              omega
            · have _q : True := trivial
              refine jx_ld (pc_q := 341) (l_q := L49) (st_q := [.int (i32 (nd2_13))]) rfl (jl_iload gL49_7) ?_
              refine jx_rt (v := some (.int (i32 (nd2_13)))) rfl rfl rfl rfl rfl rfl ?_
              exact ⟨_, _, _, at2_76, fk2_139, nd2_79, ln2_138, ec2_81, rfl, rfl, hW140, hF145, hP146, by omega, ((hF141.1 10 rfl).trans (e86)), (e143), ((hF141.1 31 rfl).trans (e89)), (e142), ec153, by omega, by omega, by omega, by omega, by omega, by first | exact Or.inl (⟨by omega, by omega, by omega⟩)⟩
          · have _q : True := trivial
            refine jx_go (tg := 334) rfl rfl ?_
            refine jr_st (pc_q := 335) (i := 18) (m := 7000) (z := nd2_13) (y := r75) rfl (by decide) rfl (by decide) (by omega) (by omega) rfl ?_
            have hW162 : Wk G73 (uA A74 18 (nd2_13).toNat (r75)) := Wk_a hW82 (show (-2147483648 : Int) ≤ r75 by omega) (show r75 ≤ (2147483647 : Int) by omega)
            have hF163 := Fr_a (z := r75) (k := 18) (n := (nd2_13).toNat) hF99 (by decide)
            obtain ⟨A161, eA161⟩ : ∃ q, q = uA A74 18 (nd2_13).toNat (r75) := ⟨_, rfl⟩
            rw [← eA161]
            rw [← eA161] at hW162 hF163
            have q164 : A161 18 (nd2_13).toNat = r75 := by rw [eA161]; exact uA_eq
            have hP165 : Pf nd A A161 := eA161 ▸ Pf_a hP100 (z := nd2_13) (by omega) (by omega)
            have sf166 : wE A161 Vs sb (20) (ix) (nd) (nd1) := wE_ag (by omega) (Sg_ne eA161 rfl) (Ag_st eA161 (by omega) (by omega)) sf101
            have sf167 : NdM A161 (nd) (nd1) (sy) := NdM_18 eA161 sf105.1 (by decide) sf102
            have sf168 : ND A161 (nd1) (3) (s) (ix) (0) (0) (0) (0) := ND_ag (by omega) (Ag_st eA161 (by omega) (by omega)) sf103
            have sf169 : NdM A161 (nd1) (nd1 + 1) (sy) := NdM_18 eA161 sf105.1 (by decide) sf104
            have sf170 : ND A161 (nd2_13) (23) (nd1) (r75) (0) (0) (0) (0) := ND_b eA161 sf105
            have sf171 : NdM A161 (nd2_13) (nd2_13 + 1) (sy) := NdM_18 eA161 sf105.1 (by decide) sf106
            have sf172 : wE A161 Vs sb (2 * 9 + 2) (r75) (nd2_31) (nd2_79) := wE_ag (by omega) (Sg_ne eA161 rfl) (Ag_st eA161 (by omega) (by omega)) a119
            have sf173 : NdM A161 (nd2_31) (nd2_79) (sy) := NdM_18 eA161 sf105.1 (by decide) a121
            have ec174 : ecn A161 (G73 31) = ec2_81 := (ecn_e ((congrFun eA161 15).trans (uA_ne (by decide)))).trans e91
            refine jx_ld (pc_q := 336) (l_q := L49) (st_q := [.ref 66]) rfl (jl_aloadn gL49_0) ?_
            refine jx_vr (pc_q := 339) (as := []) (st := []) rfl rfl rfl rfl ⟨rfl, rfl, Nat.le_of_ble_eq_true rfl⟩ rfl rfl (c_endLine (dd := d) (hd := by omega) (hW := hW162)  (ln := ln) (e_ln := show G73 9 = ln from ((hF83.1 9 rfl).trans ((hF55.1 9 rfl).trans ((hF34.1 9 rfl).trans ((hF16.1 9 rfl).trans (fx_9)))))) (li := li) (e_li := show G73 3 = li from ((hF83.1 3 rfl).trans ((hF55.1 3 rfl).trans ((hF34.1 3 rfl).trans ((hF16.1 3 rfl).trans ((hFx.1 3 rfl).trans (e_li))))))) (fk := fk2_77) (e_fk := show G73 16 = fk2_77 from (e87)) (tk0 := tk2_80) (e_tk0 := show G73 11 = tk2_80 from (e90))    (p_0 := by omega)) (fun o V_q hq => ?_)
            obtain ⟨G175, A176, ln2_177, fk2_178, rfl, rfl, hW179, hF180, e181, e182, q183⟩ := hq
            have hF184 := Fr_tr hF163 hF180 (Fr_sub (by decide)) (Fr_sub (by decide))
            have hP185 := Pf_f hP165 hF180 (by decide)
            have sf186 : wE A176 Vs sb (20) (ix) (nd) (nd1) := wE_ag (by omega) (Sg_fr hF180 (by decide)) (Ag_fr hF180 (by decide)) sf166
            have sf187 : NdM A176 (nd) (nd1) (sy) := NdM_f hF180 (by decide) sf167
            have sf188 : ND A176 (nd1) (3) (s) (ix) (0) (0) (0) (0) := ND_ag (by omega) (Ag_fr hF180 (by decide)) sf168
            have sf189 : NdM A176 (nd1) (nd1 + 1) (sy) := NdM_f hF180 (by decide) sf169
            have sf190 : ND A176 (nd2_13) (23) (nd1) (r75) (0) (0) (0) (0) := ND_ag (by omega) (Ag_fr hF180 (by decide)) sf170
            have sf191 : NdM A176 (nd2_13) (nd2_13 + 1) (sy) := NdM_f hF180 (by decide) sf171
            have sf192 : wE A176 Vs sb (2 * 9 + 2) (r75) (nd2_31) (nd2_79) := wE_ag (by omega) (Sg_fr hF180 (by decide)) (Ag_fr hF180 (by decide)) sf172
            have sf193 : NdM A176 (nd2_31) (nd2_79) (sy) := NdM_f hF180 (by decide) sf173
            have ec194 : ecn A176 (G175 31) = ec2_81 := (ecn_f (hF180.2 15 rfl) (hF180.1 31 rfl)).trans ec174
            have bln2_177 : (0 : Int) ≤ ln2_177 ∧ ln2_177 ≤ 3000 := e181 ▸ hW179.1 9
            have bfk2_178 : (0 : Int) ≤ fk2_178 ∧ fk2_178 ≤ 6 := e182 ▸ hW179.1 16
            refine .inl ⟨rfl, ?_⟩
            rcases q183 with ⟨a195, a196, a197, a198, a199⟩ | ⟨a200, a201⟩
            · have _q : True := trivial
              refine jx_ld (pc_q := 341) (l_q := L49) (st_q := [.int (i32 (nd2_13))]) rfl (jl_iload gL49_7) ?_
              refine jx_rt (v := some (.int (i32 (nd2_13)))) rfl rfl rfl rfl rfl rfl ?_
              exact ⟨_, _, _, at2_76, fk2_178, nd2_79, ln2_177, ec2_81, rfl, rfl, hW179, hF184, hP185, by omega, ((hF180.1 10 rfl).trans (e86)), (e182), ((hF180.1 31 rfl).trans (e89)), (e181), ec194, by omega, by omega, by omega, by omega, by omega, by first | exact Or.inr ((⟨by omega, by omega, by omega, by omega, by omega, (wL_out sf190 (by omega) (by omega) (wR_elem sf188 (by omega) (by omega) iv_8 (kq (P := kRow (1)) (show A176 7 (s).toNat = ks from (congrFun ((hF180.2 7 rfl).trans (((congrFun eA161 7).trans (uA_ne (by decide))).trans ((hF83.2 7 rfl).trans ((hF55.2 7 rfl).trans ((hF34.2 7 rfl).trans (hF16.2 7 rfl)))))) _).trans (ex_ks)) (by first | exact .inr ⟨by omega, by omega⟩)) (wE_mono (by omega) (by omega) (by omega) sf186)) (wE_mono (by omega) (by omega) (by omega) sf192)), (NX_nd sf190), by omega, (NdM_w (NdM_app (sy := sy) sf187 (NdM_app (sy := sy) sf189 (NdM_app (sy := sy) sf191 sf193 (by omega) (by omega) (by omega)) (by omega) (by omega) (by omega)) (by omega) (by omega) (by omega)) (by omega) (by omega) (by omega))⟩))⟩
            · have _q : True := trivial
              refine jx_ld (pc_q := 341) (l_q := L49) (st_q := [.int (i32 (nd2_13))]) rfl (jl_iload gL49_7) ?_
              refine jx_rt (v := some (.int (i32 (nd2_13)))) rfl rfl rfl rfl rfl rfl ?_
              exact ⟨_, _, _, at2_76, fk2_178, nd2_79, ln2_177, ec2_81, rfl, rfl, hW179, hF184, hP185, by omega, ((hF180.1 10 rfl).trans (e86)), (e182), ((hF180.1 31 rfl).trans (e89)), (e181), ec194, by omega, by omega, by omega, by omega, by omega, by first | exact Or.inl (⟨by omega, by omega, by omega⟩)⟩
  · have _q : True := trivial
    refine jx_ld (pc_q := 267) (l_q := jSto1 L 6 (.int (i32 (0)))) (st_q := []) rfl rfl ?_
    obtain ⟨L202, eL202⟩ : ∃ q, q = jSto1 L 6 (.int (i32 (0))) := ⟨_, rfl⟩
    rw [← eL202]
    have gL202_0 : jGet L202 0 = some (.ref 66) := eL202 ▸ jg_ne (by decide) gL_0 rfl
    have gL202_5 : jGet L202 5 = some (.int (i32 (1))) := eL202 ▸ jg_ne (by decide) gL_5 rfl
    have gL202_2 : jGet L202 2 = some (.int (i32 (s))) := eL202 ▸ jg_ne (by decide) gL_2 rfl
    have gL202_4 : jGet L202 4 = some (.int (i32 (ix))) := eL202 ▸ jg_ne (by decide) gL_4 rfl
    have gL202_6 : jGet L202 6 = some (.int (i32 (0))) := eL202 ▸ jg_eq
    refine jx_ld (pc_q := 268) (l_q := L202) (st_q := [.ref 66]) rfl (jl_aloadn gL202_0) ?_
    refine jx_ld (pc_q := 270) (l_q := L202) (st_q := [.int (i32 (0)), .ref 66]) rfl (jl_iload gL202_6) ?_
    refine jx_if_eq (pc_q := 273) (tg := 278) rfl rfl rfl (by decide) (by decide) (fun h203 => ?_) (fun h203 => ?_)
    · have _q := h203
      refine jx_ar (pc_q := 280) (st_q := [.int (i32 (24)), .ref 66]) rfl rfl rfl rfl ?_
      refine jx_ld (pc_q := 281) (l_q := L202) (st_q := [.ref 66, .int (i32 (24)), .ref 66]) rfl (jl_aloadn gL202_0) ?_
      refine jx_ld (pc_q := 283) (l_q := L202) (st_q := [.int (i32 (1)), .ref 66, .int (i32 (24)), .ref 66]) rfl (jl_iload gL202_5) ?_
      refine jx_if_eq (pc_q := 286) (tg := 290) rfl rfl rfl (by decide) (by decide) (fun h204 => ?_) (fun h204 => ?_)
      · have _q := h204
        exact absurd h204 (by omega)
      · have _q := h204
        refine jx_ar (pc_q := 287) (st_q := [.int (i32 (3)), .ref 66, .int (i32 (24)), .ref 66]) rfl rfl rfl rfl ?_
        refine jx_go (tg := 291) rfl rfl ?_
        refine jx_ld (pc_q := 292) (l_q := L202) (st_q := [.int (i32 (s)), .int (i32 (3)), .ref 66, .int (i32 (24)), .ref 66]) rfl (jl_iloadn gL202_2) ?_
        refine jx_ld (pc_q := 294) (l_q := L202) (st_q := [.int (i32 (ix)), .int (i32 (s)), .int (i32 (3)), .ref 66, .int (i32 (24)), .ref 66]) rfl (jl_iload gL202_4) ?_
        refine jx_ar (pc_q := 295) (st_q := [.int (i32 (0)), .int (i32 (ix)), .int (i32 (s)), .int (i32 (3)), .ref 66, .int (i32 (24)), .ref 66]) rfl rfl rfl rfl ?_
        refine jx_ar (pc_q := 296) (st_q := [.int (i32 (0)), .int (i32 (0)), .int (i32 (ix)), .int (i32 (s)), .int (i32 (3)), .ref 66, .int (i32 (24)), .ref 66]) rfl rfl rfl rfl ?_
        refine jx_vr (pc_q := 299) (as := [.int (i32 (3)), .int (i32 (s)), .int (i32 (ix)), .int (i32 (0)), .int (i32 (0))]) (st := [.int (i32 (24)), .ref 66]) rfl rfl rfl rfl ⟨rfl, rfl, Nat.le_of_ble_eq_true rfl⟩ rfl rfl (c_node_e (dd := d) (hd := by omega) (hW := hWx) (kind := 3) (a := s) (b := ix) (c := 0) (e := 0) (nd := nd1) (e_nd := show Gx 31 = nd1 from (ex_nd1)) (ec := ec1) (e_ec := show ecn Ax (Gx 31) = ec1 from ex_ec1) (sy := sy) (e_sy := show Gx 19 = sy from ((hFx.1 19 rfl).trans (e_sy))) (fk := fk1) (e_fk := show Gx 16 = fk1 from (ex_fk1))  (h_kind := ⟨(by decide), (by decide)⟩) (h_a := ⟨(Int.le_trans (by decide : (-2147483648 : Int) ≤ -2147483648) rx_s.1), (Int.le_trans rx_s.2 (by decide : (2147483647 : Int) ≤ 2147483647))⟩) (h_b := ⟨(Int.le_trans (by decide : (-2147483648 : Int) ≤ -2147483648) rx_ix.1), (Int.le_trans rx_ix.2 (by decide : (2147483647 : Int) ≤ 2147483647))⟩) (h_c := ⟨(by decide), (by decide)⟩) (h_e := ⟨(by decide), (by decide)⟩)  (p_0 := by omega) (p_1 := by omega) (p_2 := by omega) (p_3 := by omega)) (fun o V_q hq => ?_)
        obtain ⟨G205, A206, nd2_207, ec2_208, rfl, rfl, hW209, hF210, hQ211, e212, e213, p214, p215, p216, p217, -⟩ := hq
        have hF219 := Fr_tr hFx hF210 (Fr_sub (by decide)) (Fr_sub (by decide))
        have hP220 := Pf_tr hPx hQ211 (by omega)
        have sf221 : wE A206 Vs sb (20) (ix) (nd) (nd1) := wE_ag (by omega) (Sg_fr hF210 (by decide)) (Ag_pf hQ211 (by omega)) iv_10
        have sf222 : NdM A206 (nd) (nd1) (sy) := NdM_pf hQ211 (by omega) (by omega) iv_13
        have bnd2_207 : (0 : Int) ≤ nd2_207 ∧ nd2_207 ≤ 6999 := e212 ▸ hW209.1 31
        refine .inr ⟨_, rfl, ?_⟩
        refine jx_ar (pc_q := 300) (st_q := [.int (i32 (0)), .int (i32 (nd1)), .int (i32 (24)), .ref 66]) rfl rfl rfl rfl ?_
        refine jx_ar (pc_q := 301) (st_q := [.int (i32 (0)), .int (i32 (0)), .int (i32 (nd1)), .int (i32 (24)), .ref 66]) rfl rfl rfl rfl ?_
        refine jx_ar (pc_q := 302) (st_q := [.int (i32 (0)), .int (i32 (0)), .int (i32 (0)), .int (i32 (nd1)), .int (i32 (24)), .ref 66]) rfl rfl rfl rfl ?_
        refine jx_vr (pc_q := 305) (as := [.int (i32 (24)), .int (i32 (nd1)), .int (i32 (0)), .int (i32 (0)), .int (i32 (0))]) (st := []) rfl rfl rfl rfl ⟨rfl, rfl, Nat.le_of_ble_eq_true rfl⟩ rfl rfl (c_node_l (dd := d) (hd := by omega) (hW := hW209) (kind := 24) (a := nd1) (b := 0) (c := 0) (e := 0) (nd := nd2_207) (e_nd := show G205 31 = nd2_207 from (e212)) (ec := ec2_208) (e_ec := show ecn A206 (G205 31) = ec2_208 from e213) (sy := sy) (e_sy := show G205 19 = sy from ((hF210.1 19 rfl).trans ((hFx.1 19 rfl).trans (e_sy)))) (ln := ln) (e_ln := show G205 9 = ln from ((hF210.1 9 rfl).trans (fx_9))) (li := li) (e_li := show G205 3 = li from ((hF210.1 3 rfl).trans ((hFx.1 3 rfl).trans (e_li))))  (h_kind := ⟨(by decide), (by decide)⟩) (h_a := ⟨(Int.le_trans (by decide : (-2147483648 : Int) ≤ 0) b_nd1.1), (Int.le_trans b_nd1.2 (by decide : (6999 : Int) ≤ 2147483647))⟩) (h_b := ⟨(by decide), (by decide)⟩) (h_c := ⟨(by decide), (by decide)⟩) (h_e := ⟨(by decide), (by decide)⟩)  (p_0 := by omega) (p_1 := by omega) (p_2 := by omega) (p_3 := by omega)) (fun o V_q hq => ?_)
        obtain ⟨G223, A224, nd2_225, ec2_226, rfl, rfl, hW227, hF228, hQ229, e230, e231, p232, p233, p234, p235, -⟩ := hq
        have hF237 := Fr_tr hF219 hF228 (Fr_sub (by decide)) (Fr_sub (by decide))
        have hP238 := Pf_tr hP220 hQ229 (by omega)
        have sf239 : wE A224 Vs sb (20) (ix) (nd) (nd1) := wE_ag (by omega) (Sg_fr hF228 (by decide)) (Ag_pf hQ229 (by omega)) sf221
        have sf240 : NdM A224 (nd) (nd1) (sy) := NdM_pf hQ229 (by omega) (by omega) sf222
        have sf241 : ND A224 (nd1) (3) (s) (ix) (0) (0) (0) (0) := ND_ag (by omega) (Ag_pf hQ229 (by omega)) p216
        have sf242 : NdM A224 (nd1) (nd1 + 1) (sy) := NdM_pf hQ229 (by omega) (by omega) (p217 (by omega))
        have bnd2_225 : (0 : Int) ≤ nd2_225 ∧ nd2_225 ≤ 6999 := e230 ▸ hW227.1 31
        refine .inr ⟨_, rfl, ?_⟩
        refine jx_ld (pc_q := 307) (l_q := jSto1 L202 7 (.int (i32 (nd2_207)))) (st_q := []) rfl rfl ?_
        obtain ⟨L243, eL243⟩ : ∃ q, q = jSto1 L202 7 (.int (i32 (nd2_207))) := ⟨_, rfl⟩
        rw [← eL243]
        have gL243_0 : jGet L243 0 = some (.ref 66) := eL243 ▸ jg_ne (by decide) gL202_0 rfl
        have gL243_5 : jGet L243 5 = some (.int (i32 (1))) := eL243 ▸ jg_ne (by decide) gL202_5 rfl
        have gL243_2 : jGet L243 2 = some (.int (i32 (s))) := eL243 ▸ jg_ne (by decide) gL202_2 rfl
        have gL243_4 : jGet L243 4 = some (.int (i32 (ix))) := eL243 ▸ jg_ne (by decide) gL202_4 rfl
        have gL243_6 : jGet L243 6 = some (.int (i32 (0))) := eL243 ▸ jg_ne (by decide) gL202_6 rfl
        have gL243_7 : jGet L243 7 = some (.int (i32 (nd2_207))) := eL243 ▸ jg_eq
        refine jx_ld (pc_q := 308) (l_q := L243) (st_q := [.ref 66]) rfl (jl_aloadn gL243_0) ?_
        refine jx_vr (pc_q := 311) (as := []) (st := []) rfl rfl rfl rfl ⟨rfl, rfl, Nat.le_of_ble_eq_true rfl⟩ rfl rfl (c_next (dd := d) (hd := by omega) (hW := hW227)  (ln := ln) (e_ln := show G223 9 = ln from ((hF228.1 9 rfl).trans ((hF210.1 9 rfl).trans (fx_9)))) (le := le) (e_le := show A224 4 (ln).toNat = le from (congrFun ((hF228.2 4 rfl).trans ((hF210.2 4 rfl).trans (hFx.2 4 rfl))) _).trans (e_le)) (at0 := at1) (e_at0 := show G223 10 = at1 from ((hF228.1 10 rfl).trans ((hF210.1 10 rfl).trans (ex_at1))))    (p_0 := by omega)) (fun o V_q hq => ?_)
        obtain ⟨G244, A245, at2_246, tk2_247, rfl, rfl, hW248, hF249, e250, e251, p252, p253, p254, -⟩ := hq
        have hF256 := Fr_tr hF237 hF249 (Fr_sub (by decide)) (Fr_sub (by decide))
        have hP257 := Pf_f hP238 hF249 (by decide)
        have sf258 : wE A245 Vs sb (20) (ix) (nd) (nd1) := wE_ag (by omega) (Sg_fr hF249 (by decide)) (Ag_fr hF249 (by decide)) sf239
        have sf259 : NdM A245 (nd) (nd1) (sy) := NdM_f hF249 (by decide) sf240
        have sf260 : ND A245 (nd1) (3) (s) (ix) (0) (0) (0) (0) := ND_ag (by omega) (Ag_fr hF249 (by decide)) sf241
        have sf261 : NdM A245 (nd1) (nd1 + 1) (sy) := NdM_f hF249 (by decide) sf242
        have sf262 : ND A245 (nd2_207) (24) (nd1) (0) (0) (0) (0) (0) := ND_ag (by omega) (Ag_fr hF249 (by decide)) p234
        have sf263 : NdM A245 (nd2_207) (nd2_207 + 1) (sy) := NdM_f hF249 (by decide) p235
        have ec264 : ecn A245 (G244 31) = ec2_226 := (ecn_f (hF249.2 15 rfl) (hF249.1 31 rfl)).trans e231
        have bat2_246 : (0 : Int) ≤ at2_246 ∧ at2_246 ≤ 3002 := e250 ▸ hW248.1 10
        have ztk2_247 := tz_b tk2_247
        have btk2_247 : (0 : Int) ≤ tk2_247 ∧ tk2_247 ≤ 5 := e251 ▸ hW248.1 11
        refine .inl ⟨rfl, ?_⟩
        have pz265 : at1 + tz tk2_247 ≤ at2_246 := by omega
        refine jx_ld (pc_q := 312) (l_q := L243) (st_q := [.ref 66]) rfl (jl_aloadn gL243_0) ?_
        refine jr_get (pc_q := 315) (i := 35) (v := .ref 85) rfl rfl (by decide) rfl rfl ?_
        refine jx_ld (pc_q := 317) (l_q := L243) (st_q := [.int (i32 (nd2_207)), .ref 85]) rfl (jl_iload gL243_7) ?_
        refine jx_ld (pc_q := 319) (l_q := L243) (st_q := [.int (i32 (0)), .int (i32 (nd2_207)), .ref 85]) rfl (jl_iload gL243_6) ?_
        refine jx_if_eq (pc_q := 322) (tg := 329) rfl rfl rfl (by decide) (by decide) (fun h266 => ?_) (fun h266 => ?_)
        · have _q := h266
          refine jx_ld (pc_q := 330) (l_q := L243) (st_q := [.ref 66, .int (i32 (nd2_207)), .ref 85]) rfl (jl_aloadn gL243_0) ?_
          refine jx_ar (pc_q := 331) (st_q := [.int (i32 (0)), .ref 66, .int (i32 (nd2_207)), .ref 85]) rfl rfl rfl rfl ?_
          refine jx_vr (pc_q := 334) (as := [.int (i32 (0))]) (st := [.int (i32 (nd2_207)), .ref 85]) rfl rfl rfl rfl ⟨rfl, rfl, Nat.le_of_ble_eq_true rfl⟩ rfl rfl (c_readReference_w (dd := d) (hd := by omega) (hW := hW248) (ch := 0) (ln := ln) (e_ln := show G244 9 = ln from ((hF249.1 9 rfl).trans ((hF228.1 9 rfl).trans ((hF210.1 9 rfl).trans (fx_9))))) (le := le) (e_le := show A245 4 (ln).toNat = le from (congrFun ((hF249.2 4 rfl).trans ((hF228.2 4 rfl).trans ((hF210.2 4 rfl).trans (hFx.2 4 rfl)))) _).trans (e_le)) (at0 := at2_246) (e_at0 := show G244 10 = at2_246 from (e250)) (fk := fk1) (e_fk := show G244 16 = fk1 from ((hF249.1 16 rfl).trans ((hF228.1 16 rfl).trans ((hF210.1 16 rfl).trans (ex_fk1))))) (op0 := op1) (e_op0 := show G244 15 = op1 from ((hF249.1 15 rfl).trans ((hF228.1 15 rfl).trans ((hF210.1 15 rfl).trans (ex_op1))))) (nd := nd2_225) (e_nd := show G244 31 = nd2_225 from ((hF249.1 31 rfl).trans (e230))) (tk0 := tk2_247) (e_tk0 := show G244 11 = tk2_247 from (e251)) (ec := ec2_226) (e_ec := show ecn A245 (G244 31) = ec2_226 from ec264) (sy := sy) (e_sy := show G244 19 = sy from ((hF249.1 19 rfl).trans ((hF228.1 19 rfl).trans ((hF210.1 19 rfl).trans ((hFx.1 19 rfl).trans (e_sy)))))) (i_SV := (SV_ext (((hF249.1 29 rfl).trans ((hF228.1 29 rfl).trans ((hF210.1 29 rfl).trans (hFx.1 29 rfl))))) (((hF249.2 14 rfl).trans ((hF228.2 14 rfl).trans ((hF210.2 14 rfl).trans (hFx.2 14 rfl))))) i_SV)) (h_ch := ⟨(by decide), (by decide)⟩)  (p_0 := by omega) (p_1 := by omega) (p_2 := by omega) (p_3 := by omega) (p_4 := by omega)) (fun o V_q hq => ?_)
          obtain ⟨G267, A268, r269, at2_270, fk2_271, op2_272, nd2_273, tk2_274, ec2_275, rfl, rfl, hW276, hF277, hQ278, b279, e280, e281, e282, e283, e284, e285, p286, p287, p288, p289, p290, p291, q292⟩ := hq
          have hF293 := Fr_tr hF256 hF277 (Fr_sub (by decide)) (Fr_sub (by decide))
          have hP294 := Pf_tr hP257 hQ278 (by omega)
          have sf295 : wE A268 Vs sb (20) (ix) (nd) (nd1) := wE_ag (by omega) (Sg_fr hF277 (by decide)) (Ag_pf hQ278 (by omega)) sf258
          have sf296 : NdM A268 (nd) (nd1) (sy) := NdM_pf hQ278 (by omega) (by omega) sf259
          have sf297 : ND A268 (nd1) (3) (s) (ix) (0) (0) (0) (0) := ND_ag (by omega) (Ag_pf hQ278 (by omega)) sf260
          have sf298 : NdM A268 (nd1) (nd1 + 1) (sy) := NdM_pf hQ278 (by omega) (by omega) sf261
          have sf299 : ND A268 (nd2_207) (24) (nd1) (0) (0) (0) (0) (0) := ND_ag (by omega) (Ag_pf hQ278 (by omega)) sf262
          have sf300 : NdM A268 (nd2_207) (nd2_207 + 1) (sy) := NdM_pf hQ278 (by omega) (by omega) sf263
          have bat2_270 : (0 : Int) ≤ at2_270 ∧ at2_270 ≤ 3002 := e280 ▸ hW276.1 10
          have bfk2_271 : (0 : Int) ≤ fk2_271 ∧ fk2_271 ≤ 6 := e281 ▸ hW276.1 16
          have bop2_272 : (-2147483648 : Int) ≤ op2_272 ∧ op2_272 ≤ 2147483647 := e282 ▸ hW276.1 15
          have bnd2_273 : (0 : Int) ≤ nd2_273 ∧ nd2_273 ≤ 6999 := e283 ▸ hW276.1 31
          have ztk2_274 := tz_b tk2_274
          have btk2_274 : (0 : Int) ≤ tk2_274 ∧ tk2_274 ≤ 5 := e284 ▸ hW276.1 11
          refine .inr ⟨_, rfl, ?_⟩
          rcases q292 with ⟨a301, a302, a303, a304, a305, a306⟩ | ⟨a307, a308, a309⟩ | ⟨a310, a311, a312, a313, a314, a315, a316⟩
          · have _q : True := trivial
            exfalso
            omega
          · have _q : True := trivial
            refine jr_st (pc_q := 335) (i := 18) (m := 7000) (z := nd2_207) (y := r269) rfl (by decide) rfl (by decide) (by omega) (by omega) rfl ?_
            have hW318 : Wk G267 (uA A268 18 (nd2_207).toNat (r269)) := Wk_a hW276 (show (-2147483648 : Int) ≤ r269 by omega) (show r269 ≤ (2147483647 : Int) by omega)
            have hF319 := Fr_a (z := r269) (k := 18) (n := (nd2_207).toNat) hF293 (by decide)
            obtain ⟨A317, eA317⟩ : ∃ q, q = uA A268 18 (nd2_207).toNat (r269) := ⟨_, rfl⟩
            rw [← eA317]
            rw [← eA317] at hW318 hF319
            have q320 : A317 18 (nd2_207).toNat = r269 := by rw [eA317]; exact uA_eq
            have hP321 : Pf nd A A317 := eA317 ▸ Pf_a hP294 (z := nd2_207) (by omega) (by omega)
            have sf322 : wE A317 Vs sb (20) (ix) (nd) (nd1) := wE_ag (by omega) (Sg_ne eA317 rfl) (Ag_st eA317 (by omega) (by omega)) sf295
            have sf323 : NdM A317 (nd) (nd1) (sy) := NdM_18 eA317 sf299.1 (by decide) sf296
            have sf324 : ND A317 (nd1) (3) (s) (ix) (0) (0) (0) (0) := ND_ag (by omega) (Ag_st eA317 (by omega) (by omega)) sf297
            have sf325 : NdM A317 (nd1) (nd1 + 1) (sy) := NdM_18 eA317 sf299.1 (by decide) sf298
            have sf326 : ND A317 (nd2_207) (24) (nd1) (r269) (0) (0) (0) (0) := ND_b eA317 sf299
            have sf327 : NdM A317 (nd2_207) (nd2_207 + 1) (sy) := NdM_18 eA317 sf299.1 (by decide) sf300
            have ec328 : ecn A317 (G267 31) = ec2_275 := (ecn_e ((congrFun eA317 15).trans (uA_ne (by decide)))).trans e285
            refine jx_ld (pc_q := 336) (l_q := L243) (st_q := [.ref 66]) rfl (jl_aloadn gL243_0) ?_
            refine jx_vr (pc_q := 339) (as := []) (st := []) rfl rfl rfl rfl ⟨rfl, rfl, Nat.le_of_ble_eq_true rfl⟩ rfl rfl (c_endLine (dd := d) (hd := by omega) (hW := hW318)  (ln := ln) (e_ln := show G267 9 = ln from ((hF277.1 9 rfl).trans ((hF249.1 9 rfl).trans ((hF228.1 9 rfl).trans ((hF210.1 9 rfl).trans (fx_9)))))) (li := li) (e_li := show G267 3 = li from ((hF277.1 3 rfl).trans ((hF249.1 3 rfl).trans ((hF228.1 3 rfl).trans ((hF210.1 3 rfl).trans ((hFx.1 3 rfl).trans (e_li))))))) (fk := fk2_271) (e_fk := show G267 16 = fk2_271 from (e281)) (tk0 := tk2_274) (e_tk0 := show G267 11 = tk2_274 from (e284))    (p_0 := by omega)) (fun o V_q hq => ?_)
            obtain ⟨G329, A330, ln2_331, fk2_332, rfl, rfl, hW333, hF334, e335, e336, q337⟩ := hq
            have hF338 := Fr_tr hF319 hF334 (Fr_sub (by decide)) (Fr_sub (by decide))
            have hP339 := Pf_f hP321 hF334 (by decide)
            have sf340 : wE A330 Vs sb (20) (ix) (nd) (nd1) := wE_ag (by omega) (Sg_fr hF334 (by decide)) (Ag_fr hF334 (by decide)) sf322
            have sf341 : NdM A330 (nd) (nd1) (sy) := NdM_f hF334 (by decide) sf323
            have sf342 : ND A330 (nd1) (3) (s) (ix) (0) (0) (0) (0) := ND_ag (by omega) (Ag_fr hF334 (by decide)) sf324
            have sf343 : NdM A330 (nd1) (nd1 + 1) (sy) := NdM_f hF334 (by decide) sf325
            have sf344 : ND A330 (nd2_207) (24) (nd1) (r269) (0) (0) (0) (0) := ND_ag (by omega) (Ag_fr hF334 (by decide)) sf326
            have sf345 : NdM A330 (nd2_207) (nd2_207 + 1) (sy) := NdM_f hF334 (by decide) sf327
            have ec346 : ecn A330 (G329 31) = ec2_275 := (ecn_f (hF334.2 15 rfl) (hF334.1 31 rfl)).trans ec328
            have bln2_331 : (0 : Int) ≤ ln2_331 ∧ ln2_331 ≤ 3000 := e335 ▸ hW333.1 9
            have bfk2_332 : (0 : Int) ≤ fk2_332 ∧ fk2_332 ≤ 6 := e336 ▸ hW333.1 16
            refine .inl ⟨rfl, ?_⟩
            rcases q337 with ⟨a347, a348, a349, a350, a351⟩ | ⟨a352, a353⟩
            · have _q : True := trivial
              exfalso
              omega
            · have _q : True := trivial
              refine jx_ld (pc_q := 341) (l_q := L243) (st_q := [.int (i32 (nd2_207))]) rfl (jl_iload gL243_7) ?_
              refine jx_rt (v := some (.int (i32 (nd2_207)))) rfl rfl rfl rfl rfl rfl ?_
              exact ⟨_, _, _, at2_270, fk2_332, nd2_273, ln2_331, ec2_275, rfl, rfl, hW333, hF338, hP339, by omega, ((hF334.1 10 rfl).trans (e280)), (e336), ((hF334.1 31 rfl).trans (e283)), (e335), ec346, by omega, by omega, by omega, by omega, by omega, by first | exact Or.inl (⟨by omega, by omega, by omega⟩)⟩
          · have _q : True := trivial
            refine jr_st (pc_q := 335) (i := 18) (m := 7000) (z := nd2_207) (y := r269) rfl (by decide) rfl (by decide) (by omega) (by omega) rfl ?_
            have hW355 : Wk G267 (uA A268 18 (nd2_207).toNat (r269)) := Wk_a hW276 (show (-2147483648 : Int) ≤ r269 by omega) (show r269 ≤ (2147483647 : Int) by omega)
            have hF356 := Fr_a (z := r269) (k := 18) (n := (nd2_207).toNat) hF293 (by decide)
            obtain ⟨A354, eA354⟩ : ∃ q, q = uA A268 18 (nd2_207).toNat (r269) := ⟨_, rfl⟩
            rw [← eA354]
            rw [← eA354] at hW355 hF356
            have q357 : A354 18 (nd2_207).toNat = r269 := by rw [eA354]; exact uA_eq
            have hP358 : Pf nd A A354 := eA354 ▸ Pf_a hP294 (z := nd2_207) (by omega) (by omega)
            have sf359 : wE A354 Vs sb (20) (ix) (nd) (nd1) := wE_ag (by omega) (Sg_ne eA354 rfl) (Ag_st eA354 (by omega) (by omega)) sf295
            have sf360 : NdM A354 (nd) (nd1) (sy) := NdM_18 eA354 sf299.1 (by decide) sf296
            have sf361 : ND A354 (nd1) (3) (s) (ix) (0) (0) (0) (0) := ND_ag (by omega) (Ag_st eA354 (by omega) (by omega)) sf297
            have sf362 : NdM A354 (nd1) (nd1 + 1) (sy) := NdM_18 eA354 sf299.1 (by decide) sf298
            have sf363 : ND A354 (nd2_207) (24) (nd1) (r269) (0) (0) (0) (0) := ND_b eA354 sf299
            have sf364 : NdM A354 (nd2_207) (nd2_207 + 1) (sy) := NdM_18 eA354 sf299.1 (by decide) sf300
            have sf365 : wR A354 Vs sb (20) (0) (r269) (nd2_225) (nd2_273) := wR_ag (by omega) (Sg_ne eA354 rfl) (Ag_st eA354 (by omega) (by omega)) a313
            have sf366 : NdM A354 (nd2_225) (nd2_273) (sy) := NdM_18 eA354 sf299.1 (by decide) a315
            have ec367 : ecn A354 (G267 31) = ec2_275 := (ecn_e ((congrFun eA354 15).trans (uA_ne (by decide)))).trans e285
            refine jx_ld (pc_q := 336) (l_q := L243) (st_q := [.ref 66]) rfl (jl_aloadn gL243_0) ?_
            refine jx_vr (pc_q := 339) (as := []) (st := []) rfl rfl rfl rfl ⟨rfl, rfl, Nat.le_of_ble_eq_true rfl⟩ rfl rfl (c_endLine (dd := d) (hd := by omega) (hW := hW355)  (ln := ln) (e_ln := show G267 9 = ln from ((hF277.1 9 rfl).trans ((hF249.1 9 rfl).trans ((hF228.1 9 rfl).trans ((hF210.1 9 rfl).trans (fx_9)))))) (li := li) (e_li := show G267 3 = li from ((hF277.1 3 rfl).trans ((hF249.1 3 rfl).trans ((hF228.1 3 rfl).trans ((hF210.1 3 rfl).trans ((hFx.1 3 rfl).trans (e_li))))))) (fk := fk2_271) (e_fk := show G267 16 = fk2_271 from (e281)) (tk0 := tk2_274) (e_tk0 := show G267 11 = tk2_274 from (e284))    (p_0 := by omega)) (fun o V_q hq => ?_)
            obtain ⟨G368, A369, ln2_370, fk2_371, rfl, rfl, hW372, hF373, e374, e375, q376⟩ := hq
            have hF377 := Fr_tr hF356 hF373 (Fr_sub (by decide)) (Fr_sub (by decide))
            have hP378 := Pf_f hP358 hF373 (by decide)
            have sf379 : wE A369 Vs sb (20) (ix) (nd) (nd1) := wE_ag (by omega) (Sg_fr hF373 (by decide)) (Ag_fr hF373 (by decide)) sf359
            have sf380 : NdM A369 (nd) (nd1) (sy) := NdM_f hF373 (by decide) sf360
            have sf381 : ND A369 (nd1) (3) (s) (ix) (0) (0) (0) (0) := ND_ag (by omega) (Ag_fr hF373 (by decide)) sf361
            have sf382 : NdM A369 (nd1) (nd1 + 1) (sy) := NdM_f hF373 (by decide) sf362
            have sf383 : ND A369 (nd2_207) (24) (nd1) (r269) (0) (0) (0) (0) := ND_ag (by omega) (Ag_fr hF373 (by decide)) sf363
            have sf384 : NdM A369 (nd2_207) (nd2_207 + 1) (sy) := NdM_f hF373 (by decide) sf364
            have sf385 : wR A369 Vs sb (20) (0) (r269) (nd2_225) (nd2_273) := wR_ag (by omega) (Sg_fr hF373 (by decide)) (Ag_fr hF373 (by decide)) sf365
            have sf386 : NdM A369 (nd2_225) (nd2_273) (sy) := NdM_f hF373 (by decide) sf366
            have ec387 : ecn A369 (G368 31) = ec2_275 := (ecn_f (hF373.2 15 rfl) (hF373.1 31 rfl)).trans ec367
            have bln2_370 : (0 : Int) ≤ ln2_370 ∧ ln2_370 ≤ 3000 := e374 ▸ hW372.1 9
            have bfk2_371 : (0 : Int) ≤ fk2_371 ∧ fk2_371 ≤ 6 := e375 ▸ hW372.1 16
            refine .inl ⟨rfl, ?_⟩
            rcases q376 with ⟨a388, a389, a390, a391, a392⟩ | ⟨a393, a394⟩
            · have _q : True := trivial
              refine jx_ld (pc_q := 341) (l_q := L243) (st_q := [.int (i32 (nd2_207))]) rfl (jl_iload gL243_7) ?_
              refine jx_rt (v := some (.int (i32 (nd2_207)))) rfl rfl rfl rfl rfl rfl ?_
              exact ⟨_, _, _, at2_270, fk2_371, nd2_273, ln2_370, ec2_275, rfl, rfl, hW372, hF377, hP378, by omega, ((hF373.1 10 rfl).trans (e280)), (e375), ((hF373.1 31 rfl).trans (e283)), (e374), ec387, by omega, by omega, by omega, by omega, by omega, by first | exact Or.inr ((⟨by omega, by omega, by omega, by omega, by omega, (wL_in sf383 (by omega) (by omega) (wR_elem sf381 (by omega) (by omega) iv_8 (kq (P := kRow (1)) (show A369 7 (s).toNat = ks from (congrFun ((hF373.2 7 rfl).trans (((congrFun eA354 7).trans (uA_ne (by decide))).trans ((hF277.2 7 rfl).trans ((hF249.2 7 rfl).trans ((hF228.2 7 rfl).trans (hF210.2 7 rfl)))))) _).trans (ex_ks)) (by first | exact .inr ⟨by omega, by omega⟩)) (wE_mono (by omega) (by omega) (by omega) sf379)) (wR_mono (by omega) (by omega) (by omega) sf385)), (NX_nd sf383), by omega, (NdM_w (NdM_app (sy := sy) sf380 (NdM_app (sy := sy) sf382 (NdM_app (sy := sy) sf384 sf386 (by omega) (by omega) (by omega)) (by omega) (by omega) (by omega)) (by omega) (by omega) (by omega)) (by omega) (by omega) (by omega))⟩))⟩
            · have _q : True := trivial
              refine jx_ld (pc_q := 341) (l_q := L243) (st_q := [.int (i32 (nd2_207))]) rfl (jl_iload gL243_7) ?_
              refine jx_rt (v := some (.int (i32 (nd2_207)))) rfl rfl rfl rfl rfl rfl ?_
              exact ⟨_, _, _, at2_270, fk2_371, nd2_273, ln2_370, ec2_275, rfl, rfl, hW372, hF377, hP378, by omega, ((hF373.1 10 rfl).trans (e280)), (e375), ((hF373.1 31 rfl).trans (e283)), (e374), ec387, by omega, by omega, by omega, by omega, by omega, by first | exact Or.inl (⟨by omega, by omega, by omega⟩)⟩
        · have _q := h266
          exact absurd h266 (by omega)
    · have _q := h203
      exact absurd h203 (by omega)
set_option maxRecDepth 20000 in
set_option maxHeartbeats 4000000 in
theorem c_readNamed_w_at_259_0 {X : jX} {d : Nat} {Vs : Nat → Prop} {sb pb : Int} {c0 c1 : jC} {G : Nat → Int} {A : Nat → Nat → Int} {T : jH} {ln le at0 fk op0 nd tk0 li ec sy : Int} (hd : 72 ≤ d + 1) (hW : Wk G A) (e_ln : G 9 = ln) (e_le : A 4 (ln).toNat = le) (e_at0 : G 10 = at0) (e_fk : G 16 = fk) (e_op0 : G 15 = op0) (e_nd : G 31 = nd) (e_tk0 : G 11 = tk0) (e_li : G 3 = li) (e_ec : ecn A (G 31) = ec) (e_sy : G 19 = sy) (i_SV : SV Vs sb G A) (i_PQ : PQ Vs sb pb G A) (p_0 : 0 ≤ op0 ∧ op0 ≤ 8) (p_1 : fk = 0) (p_2 : nd ≤ 2 * at0 - tz tk0 + 42) (p_3 : at0 ≤ le) (p_4 : ln < li) (p_5 : tk0 = 1) : ∀ (L : jL) (Gx : Nat → Int) (Ax : Nat → Nat → Int) (s at1 tk1 fk1 nd1 op1 ks ec1 : Int), jGet L 0 = some (.ref 66) → jGet L 5 = some (.int (i32 (0))) → jGet L 4 = some (.int (i32 (0))) → jGet L 2 = some (.int (i32 s)) → Wk Gx Ax → Fr [9, 10, 11, 12, 13, 14, 15, 16, 17, 18, 31] [15, 16, 17, 18, 19, 20, 21, 22, 24, 28] G A Gx Ax → Pf nd A Ax → Gx 10 = at1 → Gx 11 = tk1 → Gx 16 = fk1 → Gx 31 = nd1 → Gx 15 = op1 → Ax 7 (s).toNat = ks → ecn Ax (Gx 31) = ec1 → Gx 9 = ln → ((-2147483648 : Int) ≤ s ∧ s ≤ 2147483647) → (at0 ≤ at1) → (at1 ≤ le) → (nd ≤ nd1) → (op1 = op0) → (fk1 = 0) → (nd1 - nd ≤ (2 * at1 - tz tk1) - (2 * at0 - tz tk0) - 1) → (tz tk1 = 1) → (0 ≤ s ∧ s ≤ 201) → (SY Vs sb (s)) → (kCh (ks)) → (nd1 - nd + 5 * (ec1 - ec) ≤ (2 * at1 - tz tk1) - (2 * at0 - tz tk0) - 1 - tz tk1) → (NdM Ax (nd) (nd1) (sy)) → wj X d jm304 (259, L, [], rV c0 c1 Gx Ax T) (fun o V_q => ∃ (G_q : Nat → Int) (A_q : Nat → Nat → Int) (r : Int) (at2 : Int) (fk2 : Int) (nd2 : Int) (ln2 : Int) (ec2 : Int), V_q = rV c0 c1 G_q A_q T ∧ o = .inl (some (.int (i32 r))) ∧ Wk G_q A_q ∧ Fr [9, 10, 11, 12, 13, 14, 15, 16, 17, 18, 31] [15, 16, 17, 18, 19, 20, 21, 22, 24, 28] G A G_q A_q ∧ Pf nd A A_q ∧ ((-2147483648 : Int) ≤ r ∧ r ≤ 2147483647) ∧ G_q 10 = at2 ∧ G_q 16 = fk2 ∧ G_q 31 = nd2 ∧ G_q 9 = ln2 ∧ ecn A_q (G_q 31) = ec2 ∧ (at0 ≤ at2) ∧ (at2 ≤ le) ∧ (nd ≤ nd2) ∧ (0 ≤ r) ∧ (r ≤ nd2) ∧ (((1 ≤ fk2) ∧ (ln2 = ln) ∧ (nd2 - nd ≤ 2 * at2 - 2 * at0 + 8)) ∨ ((fk2 = 0) ∧ (ln2 = ln + 1) ∧ (nd2 - nd ≤ 2 * at2 - (2 * at0 - tz tk0) + 0) ∧ (nd ≤ r) ∧ (r < nd2) ∧ (wL A_q sb pb Vs (r) (nd) (nd2)) ∧ (NX A_q (r)) ∧ (nd2 - nd + 5 * (ec2 - ec) ≤ 2 * at2 - (2 * at0 - tz tk0) + 0) ∧ (NdM A_q (nd) (nd2) (sy))))) := by
  have hF0 : Fr [9, 10, 11, 12, 13, 14, 15, 16, 17, 18, 31] [15, 16, 17, 18, 19, 20, 21, 22, 24, 28] G A G A := Fr_rf
  have hP0 : Pf nd A A := Pf_rf
  have b_ln : (0 : Int) ≤ ln ∧ ln ≤ 3000 := e_ln ▸ hW.1 9
  have b_le : (0 : Int) ≤ le ∧ le ≤ 3000 := e_le ▸ hW.2 4 _
  have b_at0 : (0 : Int) ≤ at0 ∧ at0 ≤ 3002 := e_at0 ▸ hW.1 10
  have b_fk : (0 : Int) ≤ fk ∧ fk ≤ 6 := e_fk ▸ hW.1 16
  have b_op0 : (-2147483648 : Int) ≤ op0 ∧ op0 ≤ 2147483647 := e_op0 ▸ hW.1 15
  have b_nd : (0 : Int) ≤ nd ∧ nd ≤ 6999 := e_nd ▸ hW.1 31
  have z_tk0 := tz_f tk0
  have b_tk0 : (0 : Int) ≤ tk0 ∧ tk0 ≤ 5 := e_tk0 ▸ hW.1 11
  have b_li : (0 : Int) ≤ li ∧ li ≤ 3000 := e_li ▸ hW.1 3
  have b_sy : (0 : Int) ≤ sy ∧ sy ≤ 202 := e_sy ▸ hW.1 19
  intro L Gx Ax s at1 tk1 fk1 nd1 op1 ks ec1 gL_0 gL_5 gL_4 gL_2 hWx hFx hPx ex_at1 ex_tk1 ex_fk1 ex_nd1 ex_op1 ex_ks ex_ec1 fx_9 rx_s iv_0 iv_1 iv_2 iv_3 iv_4 iv_5 iv_6 iv_7 iv_8 iv_9 iv_10 iv_11
  have b_at1 : (0 : Int) ≤ at1 ∧ at1 ≤ 3002 := ex_at1 ▸ hWx.1 10
  have z_tk1 := tz_f tk1
  have b_tk1 : (0 : Int) ≤ tk1 ∧ tk1 ≤ 5 := ex_tk1 ▸ hWx.1 11
  have b_fk1 : (0 : Int) ≤ fk1 ∧ fk1 ≤ 6 := ex_fk1 ▸ hWx.1 16
  have b_nd1 : (0 : Int) ≤ nd1 ∧ nd1 ≤ 6999 := ex_nd1 ▸ hWx.1 31
  have b_op1 : (-2147483648 : Int) ≤ op1 ∧ op1 ≤ 2147483647 := ex_op1 ▸ hWx.1 15
  have b_ks : (0 : Int) ≤ ks ∧ ks ≤ 14 := ex_ks ▸ hWx.2 7 _
  refine jx_ld (pc_q := 260) (l_q := L) (st_q := [.ref 66]) rfl (jl_aloadn gL_0) ?_
  refine jx_ar (pc_q := 262) (st_q := [.int (i32 (33)), .ref 66]) rfl rfl rfl rfl ?_
  have b395 : (-2147483648 : Int) ≤ Gx 13 ∧ Gx 13 ≤ 2147483647 := hWx.1 13
  refine jx_vr (pc_q := 265) (as := [.int (i32 (33))]) (st := []) rfl rfl rfl rfl ⟨rfl, rfl, Nat.le_of_ble_eq_true rfl⟩ rfl rfl (c_is (dd := d) (hd := by omega) (hW := hWx) (k := 33) (tk := tk1) (e_tk := show Gx 11 = tk1 from (ex_tk1)) (tn := Gx 13) (e_tn := show Gx 13 = Gx 13 from rfl)  (h_k := ⟨(by decide), (by decide)⟩)  ) (fun o V_q hq => ?_)
  obtain ⟨r396, rfl, rfl, b397, q398⟩ := hq
  refine .inr ⟨_, rfl, ?_⟩
  rcases q398 with ⟨rfl, a399, a400, a401⟩ | rfl
  · have _q : True := trivial
    refine jx_ld (pc_q := 267) (l_q := jSto1 L 6 (.int (i32 (1)))) (st_q := []) rfl rfl ?_
    obtain ⟨L402, eL402⟩ : ∃ q, q = jSto1 L 6 (.int (i32 (1))) := ⟨_, rfl⟩
    rw [← eL402]
    have gL402_0 : jGet L402 0 = some (.ref 66) := eL402 ▸ jg_ne (by decide) gL_0 rfl
    have gL402_5 : jGet L402 5 = some (.int (i32 (0))) := eL402 ▸ jg_ne (by decide) gL_5 rfl
    have gL402_4 : jGet L402 4 = some (.int (i32 (0))) := eL402 ▸ jg_ne (by decide) gL_4 rfl
    have gL402_2 : jGet L402 2 = some (.int (i32 (s))) := eL402 ▸ jg_ne (by decide) gL_2 rfl
    have gL402_6 : jGet L402 6 = some (.int (i32 (1))) := eL402 ▸ jg_eq
    refine jx_ld (pc_q := 268) (l_q := L402) (st_q := [.ref 66]) rfl (jl_aloadn gL402_0) ?_
    refine jx_ld (pc_q := 270) (l_q := L402) (st_q := [.int (i32 (1)), .ref 66]) rfl (jl_iload gL402_6) ?_
    refine jx_if_eq (pc_q := 273) (tg := 278) rfl rfl rfl (by decide) (by decide) (fun h403 => ?_) (fun h403 => ?_)
    · have _q := h403
      exact absurd h403 (by omega)
    · have _q := h403
      refine jx_ar (pc_q := 275) (st_q := [.int (i32 (23)), .ref 66]) rfl rfl rfl rfl ?_
      refine jx_go (tg := 280) rfl rfl ?_
      refine jx_ld (pc_q := 281) (l_q := L402) (st_q := [.ref 66, .int (i32 (23)), .ref 66]) rfl (jl_aloadn gL402_0) ?_
      refine jx_ld (pc_q := 283) (l_q := L402) (st_q := [.int (i32 (0)), .ref 66, .int (i32 (23)), .ref 66]) rfl (jl_iload gL402_5) ?_
      refine jx_if_eq (pc_q := 286) (tg := 290) rfl rfl rfl (by decide) (by decide) (fun h404 => ?_) (fun h404 => ?_)
      · have _q := h404
        refine jx_ar (pc_q := 291) (st_q := [.int (i32 (2)), .ref 66, .int (i32 (23)), .ref 66]) rfl rfl rfl rfl ?_
        refine jx_ld (pc_q := 292) (l_q := L402) (st_q := [.int (i32 (s)), .int (i32 (2)), .ref 66, .int (i32 (23)), .ref 66]) rfl (jl_iloadn gL402_2) ?_
        refine jx_ld (pc_q := 294) (l_q := L402) (st_q := [.int (i32 (0)), .int (i32 (s)), .int (i32 (2)), .ref 66, .int (i32 (23)), .ref 66]) rfl (jl_iload gL402_4) ?_
        refine jx_ar (pc_q := 295) (st_q := [.int (i32 (0)), .int (i32 (0)), .int (i32 (s)), .int (i32 (2)), .ref 66, .int (i32 (23)), .ref 66]) rfl rfl rfl rfl ?_
        refine jx_ar (pc_q := 296) (st_q := [.int (i32 (0)), .int (i32 (0)), .int (i32 (0)), .int (i32 (s)), .int (i32 (2)), .ref 66, .int (i32 (23)), .ref 66]) rfl rfl rfl rfl ?_
        refine jx_vr (pc_q := 299) (as := [.int (i32 (2)), .int (i32 (s)), .int (i32 (0)), .int (i32 (0)), .int (i32 (0))]) (st := [.int (i32 (23)), .ref 66]) rfl rfl rfl rfl ⟨rfl, rfl, Nat.le_of_ble_eq_true rfl⟩ rfl rfl (c_node_o (dd := d) (hd := by omega) (hW := hWx) (kind := 2) (a := s) (b := 0) (c := 0) (e := 0) (nd := nd1) (e_nd := show Gx 31 = nd1 from (ex_nd1)) (ec := ec1) (e_ec := show ecn Ax (Gx 31) = ec1 from ex_ec1) (sy := sy) (e_sy := show Gx 19 = sy from ((hFx.1 19 rfl).trans (e_sy)))  (h_kind := ⟨(by decide), (by decide)⟩) (h_a := ⟨(Int.le_trans (by decide : (-2147483648 : Int) ≤ -2147483648) rx_s.1), (Int.le_trans rx_s.2 (by decide : (2147483647 : Int) ≤ 2147483647))⟩) (h_b := ⟨(by decide), (by decide)⟩) (h_c := ⟨(by decide), (by decide)⟩) (h_e := ⟨(by decide), (by decide)⟩)  (p_0 := by omega) (p_1 := by omega) (p_2 := by omega)) (fun o V_q hq => ?_)
        obtain ⟨G405, A406, nd2_407, ec2_408, rfl, rfl, hW409, hF410, hQ411, e412, e413, p414, p415, p416, p417, -⟩ := hq
        have hF419 := Fr_tr hFx hF410 (Fr_sub (by decide)) (Fr_sub (by decide))
        have hP420 := Pf_tr hPx hQ411 (by omega)
        have sf421 : NdM A406 (nd) (nd1) (sy) := NdM_pf hQ411 (by omega) (by omega) iv_11
        have bnd2_407 : (0 : Int) ≤ nd2_407 ∧ nd2_407 ≤ 6999 := e412 ▸ hW409.1 31
        refine .inr ⟨_, rfl, ?_⟩
        refine jx_ar (pc_q := 300) (st_q := [.int (i32 (0)), .int (i32 (nd1)), .int (i32 (23)), .ref 66]) rfl rfl rfl rfl ?_
        refine jx_ar (pc_q := 301) (st_q := [.int (i32 (0)), .int (i32 (0)), .int (i32 (nd1)), .int (i32 (23)), .ref 66]) rfl rfl rfl rfl ?_
        refine jx_ar (pc_q := 302) (st_q := [.int (i32 (0)), .int (i32 (0)), .int (i32 (0)), .int (i32 (nd1)), .int (i32 (23)), .ref 66]) rfl rfl rfl rfl ?_
        refine jx_vr (pc_q := 305) (as := [.int (i32 (23)), .int (i32 (nd1)), .int (i32 (0)), .int (i32 (0)), .int (i32 (0))]) (st := []) rfl rfl rfl rfl ⟨rfl, rfl, Nat.le_of_ble_eq_true rfl⟩ rfl rfl (c_node_l (dd := d) (hd := by omega) (hW := hW409) (kind := 23) (a := nd1) (b := 0) (c := 0) (e := 0) (nd := nd2_407) (e_nd := show G405 31 = nd2_407 from (e412)) (ec := ec2_408) (e_ec := show ecn A406 (G405 31) = ec2_408 from e413) (sy := sy) (e_sy := show G405 19 = sy from ((hF410.1 19 rfl).trans ((hFx.1 19 rfl).trans (e_sy)))) (ln := ln) (e_ln := show G405 9 = ln from ((hF410.1 9 rfl).trans (fx_9))) (li := li) (e_li := show G405 3 = li from ((hF410.1 3 rfl).trans ((hFx.1 3 rfl).trans (e_li))))  (h_kind := ⟨(by decide), (by decide)⟩) (h_a := ⟨(Int.le_trans (by decide : (-2147483648 : Int) ≤ 0) b_nd1.1), (Int.le_trans b_nd1.2 (by decide : (6999 : Int) ≤ 2147483647))⟩) (h_b := ⟨(by decide), (by decide)⟩) (h_c := ⟨(by decide), (by decide)⟩) (h_e := ⟨(by decide), (by decide)⟩)  (p_0 := by omega) (p_1 := by omega) (p_2 := by omega) (p_3 := by omega)) (fun o V_q hq => ?_)
        obtain ⟨G422, A423, nd2_424, ec2_425, rfl, rfl, hW426, hF427, hQ428, e429, e430, p431, p432, p433, p434, -⟩ := hq
        have hF436 := Fr_tr hF419 hF427 (Fr_sub (by decide)) (Fr_sub (by decide))
        have hP437 := Pf_tr hP420 hQ428 (by omega)
        have sf438 : NdM A423 (nd) (nd1) (sy) := NdM_pf hQ428 (by omega) (by omega) sf421
        have sf439 : ND A423 (nd1) (2) (s) (0) (0) (0) (0) (0) := ND_ag (by omega) (Ag_pf hQ428 (by omega)) p416
        have sf440 : NdM A423 (nd1) (nd1 + 1) (sy) := NdM_pf hQ428 (by omega) (by omega) p417
        have bnd2_424 : (0 : Int) ≤ nd2_424 ∧ nd2_424 ≤ 6999 := e429 ▸ hW426.1 31
        refine .inr ⟨_, rfl, ?_⟩
        refine jx_ld (pc_q := 307) (l_q := jSto1 L402 7 (.int (i32 (nd2_407)))) (st_q := []) rfl rfl ?_
        obtain ⟨L441, eL441⟩ : ∃ q, q = jSto1 L402 7 (.int (i32 (nd2_407))) := ⟨_, rfl⟩
        rw [← eL441]
        have gL441_0 : jGet L441 0 = some (.ref 66) := eL441 ▸ jg_ne (by decide) gL402_0 rfl
        have gL441_5 : jGet L441 5 = some (.int (i32 (0))) := eL441 ▸ jg_ne (by decide) gL402_5 rfl
        have gL441_4 : jGet L441 4 = some (.int (i32 (0))) := eL441 ▸ jg_ne (by decide) gL402_4 rfl
        have gL441_2 : jGet L441 2 = some (.int (i32 (s))) := eL441 ▸ jg_ne (by decide) gL402_2 rfl
        have gL441_6 : jGet L441 6 = some (.int (i32 (1))) := eL441 ▸ jg_ne (by decide) gL402_6 rfl
        have gL441_7 : jGet L441 7 = some (.int (i32 (nd2_407))) := eL441 ▸ jg_eq
        refine jx_ld (pc_q := 308) (l_q := L441) (st_q := [.ref 66]) rfl (jl_aloadn gL441_0) ?_
        refine jx_vr (pc_q := 311) (as := []) (st := []) rfl rfl rfl rfl ⟨rfl, rfl, Nat.le_of_ble_eq_true rfl⟩ rfl rfl (c_next (dd := d) (hd := by omega) (hW := hW426)  (ln := ln) (e_ln := show G422 9 = ln from ((hF427.1 9 rfl).trans ((hF410.1 9 rfl).trans (fx_9)))) (le := le) (e_le := show A423 4 (ln).toNat = le from (congrFun ((hF427.2 4 rfl).trans ((hF410.2 4 rfl).trans (hFx.2 4 rfl))) _).trans (e_le)) (at0 := at1) (e_at0 := show G422 10 = at1 from ((hF427.1 10 rfl).trans ((hF410.1 10 rfl).trans (ex_at1))))    (p_0 := by omega)) (fun o V_q hq => ?_)
        obtain ⟨G442, A443, at2_444, tk2_445, rfl, rfl, hW446, hF447, e448, e449, p450, p451, p452, -⟩ := hq
        have hF454 := Fr_tr hF436 hF447 (Fr_sub (by decide)) (Fr_sub (by decide))
        have hP455 := Pf_f hP437 hF447 (by decide)
        have sf456 : NdM A443 (nd) (nd1) (sy) := NdM_f hF447 (by decide) sf438
        have sf457 : ND A443 (nd1) (2) (s) (0) (0) (0) (0) (0) := ND_ag (by omega) (Ag_fr hF447 (by decide)) sf439
        have sf458 : NdM A443 (nd1) (nd1 + 1) (sy) := NdM_f hF447 (by decide) sf440
        have sf459 : ND A443 (nd2_407) (23) (nd1) (0) (0) (0) (0) (0) := ND_ag (by omega) (Ag_fr hF447 (by decide)) p433
        have sf460 : NdM A443 (nd2_407) (nd2_407 + 1) (sy) := NdM_f hF447 (by decide) p434
        have ec461 : ecn A443 (G442 31) = ec2_425 := (ecn_f (hF447.2 15 rfl) (hF447.1 31 rfl)).trans e430
        have bat2_444 : (0 : Int) ≤ at2_444 ∧ at2_444 ≤ 3002 := e448 ▸ hW446.1 10
        have ztk2_445 := tz_b tk2_445
        have btk2_445 : (0 : Int) ≤ tk2_445 ∧ tk2_445 ≤ 5 := e449 ▸ hW446.1 11
        refine .inl ⟨rfl, ?_⟩
        have pz462 : at1 + tz tk2_445 ≤ at2_444 := by omega
        refine jx_ld (pc_q := 312) (l_q := L441) (st_q := [.ref 66]) rfl (jl_aloadn gL441_0) ?_
        refine jr_get (pc_q := 315) (i := 35) (v := .ref 85) rfl rfl (by decide) rfl rfl ?_
        refine jx_ld (pc_q := 317) (l_q := L441) (st_q := [.int (i32 (nd2_407)), .ref 85]) rfl (jl_iload gL441_7) ?_
        refine jx_ld (pc_q := 319) (l_q := L441) (st_q := [.int (i32 (1)), .int (i32 (nd2_407)), .ref 85]) rfl (jl_iload gL441_6) ?_
        refine jx_if_eq (pc_q := 322) (tg := 329) rfl rfl rfl (by decide) (by decide) (fun h463 => ?_) (fun h463 => ?_)
        · have _q := h463
          exact absurd h463 (by omega)
        · have _q := h463
          refine jx_ld (pc_q := 323) (l_q := L441) (st_q := [.ref 66, .int (i32 (nd2_407)), .ref 85]) rfl (jl_aloadn gL441_0) ?_
          refine jx_vr (pc_q := 326) (as := []) (st := [.int (i32 (nd2_407)), .ref 85]) rfl rfl rfl rfl ⟨rfl, rfl, Nat.le_of_ble_eq_true rfl⟩ rfl rfl (REw_all X 9 (dd := d) (hd := by omega) (hW := hW446)  (ln := ln) (e_ln := show G442 9 = ln from ((hF447.1 9 rfl).trans ((hF427.1 9 rfl).trans ((hF410.1 9 rfl).trans (fx_9))))) (le := le) (e_le := show A443 4 (ln).toNat = le from (congrFun ((hF447.2 4 rfl).trans ((hF427.2 4 rfl).trans ((hF410.2 4 rfl).trans (hFx.2 4 rfl)))) _).trans (e_le)) (at0 := at2_444) (e_at0 := show G442 10 = at2_444 from (e448)) (fk := fk1) (e_fk := show G442 16 = fk1 from ((hF447.1 16 rfl).trans ((hF427.1 16 rfl).trans ((hF410.1 16 rfl).trans (ex_fk1))))) (op0 := op1) (e_op0 := show G442 15 = op1 from ((hF447.1 15 rfl).trans ((hF427.1 15 rfl).trans ((hF410.1 15 rfl).trans (ex_op1))))) (nd := nd2_424) (e_nd := show G442 31 = nd2_424 from ((hF447.1 31 rfl).trans (e429))) (tk0 := tk2_445) (e_tk0 := show G442 11 = tk2_445 from (e449)) (ec := ec2_425) (e_ec := show ecn A443 (G442 31) = ec2_425 from ec461) (sy := sy) (e_sy := show G442 19 = sy from ((hF447.1 19 rfl).trans ((hF427.1 19 rfl).trans ((hF410.1 19 rfl).trans ((hFx.1 19 rfl).trans (e_sy)))))) (i_SV := (SV_ext (((hF447.1 29 rfl).trans ((hF427.1 29 rfl).trans ((hF410.1 29 rfl).trans (hFx.1 29 rfl))))) (((hF447.2 14 rfl).trans ((hF427.2 14 rfl).trans ((hF410.2 14 rfl).trans (hFx.2 14 rfl))))) i_SV))   (p_0 := by omega) (p_1 := by omega) (p_2 := by omega) (p_3 := by omega) (p_4 := by omega) (p_5 := by omega)) (fun o V_q hq => ?_)
          obtain ⟨G464, A465, r466, at2_467, fk2_468, op2_469, nd2_470, tk2_471, ec2_472, rfl, rfl, hW473, hF474, hQ475, b476, e477, e478, e479, e480, e481, e482, p483, p484, p485, p486, p487, p488, q489⟩ := hq
          have hF490 := Fr_tr hF454 hF474 (Fr_sub (by decide)) (Fr_sub (by decide))
          have hP491 := Pf_tr hP455 hQ475 (by omega)
          have sf492 : NdM A465 (nd) (nd1) (sy) := NdM_pf hQ475 (by omega) (by omega) sf456
          have sf493 : ND A465 (nd1) (2) (s) (0) (0) (0) (0) (0) := ND_ag (by omega) (Ag_pf hQ475 (by omega)) sf457
          have sf494 : NdM A465 (nd1) (nd1 + 1) (sy) := NdM_pf hQ475 (by omega) (by omega) sf458
          have sf495 : ND A465 (nd2_407) (23) (nd1) (0) (0) (0) (0) (0) := ND_ag (by omega) (Ag_pf hQ475 (by omega)) sf459
          have sf496 : NdM A465 (nd2_407) (nd2_407 + 1) (sy) := NdM_pf hQ475 (by omega) (by omega) sf460
          have bat2_467 : (0 : Int) ≤ at2_467 ∧ at2_467 ≤ 3002 := e477 ▸ hW473.1 10
          have bfk2_468 : (0 : Int) ≤ fk2_468 ∧ fk2_468 ≤ 6 := e478 ▸ hW473.1 16
          have bop2_469 : (-2147483648 : Int) ≤ op2_469 ∧ op2_469 ≤ 2147483647 := e479 ▸ hW473.1 15
          have bnd2_470 : (0 : Int) ≤ nd2_470 ∧ nd2_470 ≤ 6999 := e480 ▸ hW473.1 31
          have ztk2_471 := tz_b tk2_471
          have btk2_471 : (0 : Int) ≤ tk2_471 ∧ tk2_471 ≤ 5 := e481 ▸ hW473.1 11
          refine .inr ⟨_, rfl, ?_⟩
          rcases q489 with ⟨a497, a498, a499, a500, a501, a502⟩ | ⟨a503, a504, a505⟩ | ⟨a506, a507, a508, a509, a510, a511, a512, a513⟩
          · have _q : True := trivial
            exfalso
            omega
          · have _q : True := trivial
            refine jx_go (tg := 334) rfl rfl ?_
            refine jr_st (pc_q := 335) (i := 18) (m := 7000) (z := nd2_407) (y := r466) rfl (by decide) rfl (by decide) (by omega) (by omega) rfl ?_
            have hW515 : Wk G464 (uA A465 18 (nd2_407).toNat (r466)) := Wk_a hW473 (show (-2147483648 : Int) ≤ r466 by omega) (show r466 ≤ (2147483647 : Int) by omega)
            have hF516 := Fr_a (z := r466) (k := 18) (n := (nd2_407).toNat) hF490 (by decide)
            obtain ⟨A514, eA514⟩ : ∃ q, q = uA A465 18 (nd2_407).toNat (r466) := ⟨_, rfl⟩
            rw [← eA514]
            rw [← eA514] at hW515 hF516
            have q517 : A514 18 (nd2_407).toNat = r466 := by rw [eA514]; exact uA_eq
            have hP518 : Pf nd A A514 := eA514 ▸ Pf_a hP491 (z := nd2_407) (by omega) (by omega)
            have sf519 : NdM A514 (nd) (nd1) (sy) := NdM_18 eA514 sf495.1 (by decide) sf492
            have sf520 : ND A514 (nd1) (2) (s) (0) (0) (0) (0) (0) := ND_ag (by omega) (Ag_st eA514 (by omega) (by omega)) sf493
            have sf521 : NdM A514 (nd1) (nd1 + 1) (sy) := NdM_18 eA514 sf495.1 (by decide) sf494
            have sf522 : ND A514 (nd2_407) (23) (nd1) (r466) (0) (0) (0) (0) := ND_b eA514 sf495
            have sf523 : NdM A514 (nd2_407) (nd2_407 + 1) (sy) := NdM_18 eA514 sf495.1 (by decide) sf496
            have ec524 : ecn A514 (G464 31) = ec2_472 := (ecn_e ((congrFun eA514 15).trans (uA_ne (by decide)))).trans e482
            refine jx_ld (pc_q := 336) (l_q := L441) (st_q := [.ref 66]) rfl (jl_aloadn gL441_0) ?_
            refine jx_vr (pc_q := 339) (as := []) (st := []) rfl rfl rfl rfl ⟨rfl, rfl, Nat.le_of_ble_eq_true rfl⟩ rfl rfl (c_endLine (dd := d) (hd := by omega) (hW := hW515)  (ln := ln) (e_ln := show G464 9 = ln from ((hF474.1 9 rfl).trans ((hF447.1 9 rfl).trans ((hF427.1 9 rfl).trans ((hF410.1 9 rfl).trans (fx_9)))))) (li := li) (e_li := show G464 3 = li from ((hF474.1 3 rfl).trans ((hF447.1 3 rfl).trans ((hF427.1 3 rfl).trans ((hF410.1 3 rfl).trans ((hFx.1 3 rfl).trans (e_li))))))) (fk := fk2_468) (e_fk := show G464 16 = fk2_468 from (e478)) (tk0 := tk2_471) (e_tk0 := show G464 11 = tk2_471 from (e481))    (p_0 := by omega)) (fun o V_q hq => ?_)
            obtain ⟨G525, A526, ln2_527, fk2_528, rfl, rfl, hW529, hF530, e531, e532, q533⟩ := hq
            have hF534 := Fr_tr hF516 hF530 (Fr_sub (by decide)) (Fr_sub (by decide))
            have hP535 := Pf_f hP518 hF530 (by decide)
            have sf536 : NdM A526 (nd) (nd1) (sy) := NdM_f hF530 (by decide) sf519
            have sf537 : ND A526 (nd1) (2) (s) (0) (0) (0) (0) (0) := ND_ag (by omega) (Ag_fr hF530 (by decide)) sf520
            have sf538 : NdM A526 (nd1) (nd1 + 1) (sy) := NdM_f hF530 (by decide) sf521
            have sf539 : ND A526 (nd2_407) (23) (nd1) (r466) (0) (0) (0) (0) := ND_ag (by omega) (Ag_fr hF530 (by decide)) sf522
            have sf540 : NdM A526 (nd2_407) (nd2_407 + 1) (sy) := NdM_f hF530 (by decide) sf523
            have ec541 : ecn A526 (G525 31) = ec2_472 := (ecn_f (hF530.2 15 rfl) (hF530.1 31 rfl)).trans ec524
            have bln2_527 : (0 : Int) ≤ ln2_527 ∧ ln2_527 ≤ 3000 := e531 ▸ hW529.1 9
            have bfk2_528 : (0 : Int) ≤ fk2_528 ∧ fk2_528 ≤ 6 := e532 ▸ hW529.1 16
            refine .inl ⟨rfl, ?_⟩
            rcases q533 with ⟨a542, a543, a544, a545, a546⟩ | ⟨a547, a548⟩
            · have _q : True := trivial
              exfalso
              omega
            · have _q : True := trivial
              refine jx_ld (pc_q := 341) (l_q := L441) (st_q := [.int (i32 (nd2_407))]) rfl (jl_iload gL441_7) ?_
              refine jx_rt (v := some (.int (i32 (nd2_407)))) rfl rfl rfl rfl rfl rfl ?_
              exact ⟨_, _, _, at2_467, fk2_528, nd2_470, ln2_527, ec2_472, rfl, rfl, hW529, hF534, hP535, by omega, ((hF530.1 10 rfl).trans (e477)), (e532), ((hF530.1 31 rfl).trans (e480)), (e531), ec541, by omega, by omega, by omega, by omega, by omega, by first | exact Or.inl (⟨by omega, by omega, by omega⟩)⟩
          · have _q : True := trivial
            refine jx_go (tg := 334) rfl rfl ?_
            refine jr_st (pc_q := 335) (i := 18) (m := 7000) (z := nd2_407) (y := r466) rfl (by decide) rfl (by decide) (by omega) (by omega) rfl ?_
            have hW550 : Wk G464 (uA A465 18 (nd2_407).toNat (r466)) := Wk_a hW473 (show (-2147483648 : Int) ≤ r466 by omega) (show r466 ≤ (2147483647 : Int) by omega)
            have hF551 := Fr_a (z := r466) (k := 18) (n := (nd2_407).toNat) hF490 (by decide)
            obtain ⟨A549, eA549⟩ : ∃ q, q = uA A465 18 (nd2_407).toNat (r466) := ⟨_, rfl⟩
            rw [← eA549]
            rw [← eA549] at hW550 hF551
            have q552 : A549 18 (nd2_407).toNat = r466 := by rw [eA549]; exact uA_eq
            have hP553 : Pf nd A A549 := eA549 ▸ Pf_a hP491 (z := nd2_407) (by omega) (by omega)
            have sf554 : NdM A549 (nd) (nd1) (sy) := NdM_18 eA549 sf495.1 (by decide) sf492
            have sf555 : ND A549 (nd1) (2) (s) (0) (0) (0) (0) (0) := ND_ag (by omega) (Ag_st eA549 (by omega) (by omega)) sf493
            have sf556 : NdM A549 (nd1) (nd1 + 1) (sy) := NdM_18 eA549 sf495.1 (by decide) sf494
            have sf557 : ND A549 (nd2_407) (23) (nd1) (r466) (0) (0) (0) (0) := ND_b eA549 sf495
            have sf558 : NdM A549 (nd2_407) (nd2_407 + 1) (sy) := NdM_18 eA549 sf495.1 (by decide) sf496
            have sf559 : wE A549 Vs sb (2 * 9 + 2) (r466) (nd2_424) (nd2_470) := wE_ag (by omega) (Sg_ne eA549 rfl) (Ag_st eA549 (by omega) (by omega)) a509
            have sf560 : NdM A549 (nd2_424) (nd2_470) (sy) := NdM_18 eA549 sf495.1 (by decide) a511
            have ec561 : ecn A549 (G464 31) = ec2_472 := (ecn_e ((congrFun eA549 15).trans (uA_ne (by decide)))).trans e482
            refine jx_ld (pc_q := 336) (l_q := L441) (st_q := [.ref 66]) rfl (jl_aloadn gL441_0) ?_
            refine jx_vr (pc_q := 339) (as := []) (st := []) rfl rfl rfl rfl ⟨rfl, rfl, Nat.le_of_ble_eq_true rfl⟩ rfl rfl (c_endLine (dd := d) (hd := by omega) (hW := hW550)  (ln := ln) (e_ln := show G464 9 = ln from ((hF474.1 9 rfl).trans ((hF447.1 9 rfl).trans ((hF427.1 9 rfl).trans ((hF410.1 9 rfl).trans (fx_9)))))) (li := li) (e_li := show G464 3 = li from ((hF474.1 3 rfl).trans ((hF447.1 3 rfl).trans ((hF427.1 3 rfl).trans ((hF410.1 3 rfl).trans ((hFx.1 3 rfl).trans (e_li))))))) (fk := fk2_468) (e_fk := show G464 16 = fk2_468 from (e478)) (tk0 := tk2_471) (e_tk0 := show G464 11 = tk2_471 from (e481))    (p_0 := by omega)) (fun o V_q hq => ?_)
            obtain ⟨G562, A563, ln2_564, fk2_565, rfl, rfl, hW566, hF567, e568, e569, q570⟩ := hq
            have hF571 := Fr_tr hF551 hF567 (Fr_sub (by decide)) (Fr_sub (by decide))
            have hP572 := Pf_f hP553 hF567 (by decide)
            have sf573 : NdM A563 (nd) (nd1) (sy) := NdM_f hF567 (by decide) sf554
            have sf574 : ND A563 (nd1) (2) (s) (0) (0) (0) (0) (0) := ND_ag (by omega) (Ag_fr hF567 (by decide)) sf555
            have sf575 : NdM A563 (nd1) (nd1 + 1) (sy) := NdM_f hF567 (by decide) sf556
            have sf576 : ND A563 (nd2_407) (23) (nd1) (r466) (0) (0) (0) (0) := ND_ag (by omega) (Ag_fr hF567 (by decide)) sf557
            have sf577 : NdM A563 (nd2_407) (nd2_407 + 1) (sy) := NdM_f hF567 (by decide) sf558
            have sf578 : wE A563 Vs sb (2 * 9 + 2) (r466) (nd2_424) (nd2_470) := wE_ag (by omega) (Sg_fr hF567 (by decide)) (Ag_fr hF567 (by decide)) sf559
            have sf579 : NdM A563 (nd2_424) (nd2_470) (sy) := NdM_f hF567 (by decide) sf560
            have ec580 : ecn A563 (G562 31) = ec2_472 := (ecn_f (hF567.2 15 rfl) (hF567.1 31 rfl)).trans ec561
            have bln2_564 : (0 : Int) ≤ ln2_564 ∧ ln2_564 ≤ 3000 := e568 ▸ hW566.1 9
            have bfk2_565 : (0 : Int) ≤ fk2_565 ∧ fk2_565 ≤ 6 := e569 ▸ hW566.1 16
            refine .inl ⟨rfl, ?_⟩
            rcases q570 with ⟨a581, a582, a583, a584, a585⟩ | ⟨a586, a587⟩
            · have _q : True := trivial
              refine jx_ld (pc_q := 341) (l_q := L441) (st_q := [.int (i32 (nd2_407))]) rfl (jl_iload gL441_7) ?_
              refine jx_rt (v := some (.int (i32 (nd2_407)))) rfl rfl rfl rfl rfl rfl ?_
              exact ⟨_, _, _, at2_467, fk2_565, nd2_470, ln2_564, ec2_472, rfl, rfl, hW566, hF571, hP572, by omega, ((hF567.1 10 rfl).trans (e477)), (e569), ((hF567.1 31 rfl).trans (e480)), (e568), ec580, by omega, by omega, by omega, by omega, by omega, by first | exact Or.inr ((⟨by omega, by omega, by omega, by omega, by omega, (wL_out sf576 (by omega) (by omega) (wR_var sf574 (by omega) (by omega) iv_8 (kq (P := kRef (1)) (show A563 7 (s).toNat = ks from (congrFun ((hF567.2 7 rfl).trans (((congrFun eA549 7).trans (uA_ne (by decide))).trans ((hF474.2 7 rfl).trans ((hF447.2 7 rfl).trans ((hF427.2 7 rfl).trans (hF410.2 7 rfl)))))) _).trans (ex_ks)) (by first | exact .inr ⟨by omega, iv_9⟩))) (wE_mono (by omega) (by omega) (by omega) sf578)), (NX_nd sf576), by omega, (NdM_w (NdM_app (sy := sy) sf573 (NdM_app (sy := sy) sf575 (NdM_app (sy := sy) sf577 sf579 (by omega) (by omega) (by omega)) (by omega) (by omega) (by omega)) (by omega) (by omega) (by omega)) (by omega) (by omega) (by omega))⟩))⟩
            · have _q : True := trivial
              refine jx_ld (pc_q := 341) (l_q := L441) (st_q := [.int (i32 (nd2_407))]) rfl (jl_iload gL441_7) ?_
              refine jx_rt (v := some (.int (i32 (nd2_407)))) rfl rfl rfl rfl rfl rfl ?_
              exact ⟨_, _, _, at2_467, fk2_565, nd2_470, ln2_564, ec2_472, rfl, rfl, hW566, hF571, hP572, by omega, ((hF567.1 10 rfl).trans (e477)), (e569), ((hF567.1 31 rfl).trans (e480)), (e568), ec580, by omega, by omega, by omega, by omega, by omega, by first | exact Or.inl (⟨by omega, by omega, by omega⟩)⟩
      · have _q := h404
        exact absurd h404 (by omega)
  · have _q : True := trivial
    refine jx_ld (pc_q := 267) (l_q := jSto1 L 6 (.int (i32 (0)))) (st_q := []) rfl rfl ?_
    obtain ⟨L588, eL588⟩ : ∃ q, q = jSto1 L 6 (.int (i32 (0))) := ⟨_, rfl⟩
    rw [← eL588]
    have gL588_0 : jGet L588 0 = some (.ref 66) := eL588 ▸ jg_ne (by decide) gL_0 rfl
    have gL588_5 : jGet L588 5 = some (.int (i32 (0))) := eL588 ▸ jg_ne (by decide) gL_5 rfl
    have gL588_4 : jGet L588 4 = some (.int (i32 (0))) := eL588 ▸ jg_ne (by decide) gL_4 rfl
    have gL588_2 : jGet L588 2 = some (.int (i32 (s))) := eL588 ▸ jg_ne (by decide) gL_2 rfl
    have gL588_6 : jGet L588 6 = some (.int (i32 (0))) := eL588 ▸ jg_eq
    refine jx_ld (pc_q := 268) (l_q := L588) (st_q := [.ref 66]) rfl (jl_aloadn gL588_0) ?_
    refine jx_ld (pc_q := 270) (l_q := L588) (st_q := [.int (i32 (0)), .ref 66]) rfl (jl_iload gL588_6) ?_
    refine jx_if_eq (pc_q := 273) (tg := 278) rfl rfl rfl (by decide) (by decide) (fun h589 => ?_) (fun h589 => ?_)
    · have _q := h589
      refine jx_ar (pc_q := 280) (st_q := [.int (i32 (24)), .ref 66]) rfl rfl rfl rfl ?_
      refine jx_ld (pc_q := 281) (l_q := L588) (st_q := [.ref 66, .int (i32 (24)), .ref 66]) rfl (jl_aloadn gL588_0) ?_
      refine jx_ld (pc_q := 283) (l_q := L588) (st_q := [.int (i32 (0)), .ref 66, .int (i32 (24)), .ref 66]) rfl (jl_iload gL588_5) ?_
      refine jx_if_eq (pc_q := 286) (tg := 290) rfl rfl rfl (by decide) (by decide) (fun h590 => ?_) (fun h590 => ?_)
      · have _q := h590
        refine jx_ar (pc_q := 291) (st_q := [.int (i32 (2)), .ref 66, .int (i32 (24)), .ref 66]) rfl rfl rfl rfl ?_
        refine jx_ld (pc_q := 292) (l_q := L588) (st_q := [.int (i32 (s)), .int (i32 (2)), .ref 66, .int (i32 (24)), .ref 66]) rfl (jl_iloadn gL588_2) ?_
        refine jx_ld (pc_q := 294) (l_q := L588) (st_q := [.int (i32 (0)), .int (i32 (s)), .int (i32 (2)), .ref 66, .int (i32 (24)), .ref 66]) rfl (jl_iload gL588_4) ?_
        refine jx_ar (pc_q := 295) (st_q := [.int (i32 (0)), .int (i32 (0)), .int (i32 (s)), .int (i32 (2)), .ref 66, .int (i32 (24)), .ref 66]) rfl rfl rfl rfl ?_
        refine jx_ar (pc_q := 296) (st_q := [.int (i32 (0)), .int (i32 (0)), .int (i32 (0)), .int (i32 (s)), .int (i32 (2)), .ref 66, .int (i32 (24)), .ref 66]) rfl rfl rfl rfl ?_
        refine jx_vr (pc_q := 299) (as := [.int (i32 (2)), .int (i32 (s)), .int (i32 (0)), .int (i32 (0)), .int (i32 (0))]) (st := [.int (i32 (24)), .ref 66]) rfl rfl rfl rfl ⟨rfl, rfl, Nat.le_of_ble_eq_true rfl⟩ rfl rfl (c_node_o (dd := d) (hd := by omega) (hW := hWx) (kind := 2) (a := s) (b := 0) (c := 0) (e := 0) (nd := nd1) (e_nd := show Gx 31 = nd1 from (ex_nd1)) (ec := ec1) (e_ec := show ecn Ax (Gx 31) = ec1 from ex_ec1) (sy := sy) (e_sy := show Gx 19 = sy from ((hFx.1 19 rfl).trans (e_sy)))  (h_kind := ⟨(by decide), (by decide)⟩) (h_a := ⟨(Int.le_trans (by decide : (-2147483648 : Int) ≤ -2147483648) rx_s.1), (Int.le_trans rx_s.2 (by decide : (2147483647 : Int) ≤ 2147483647))⟩) (h_b := ⟨(by decide), (by decide)⟩) (h_c := ⟨(by decide), (by decide)⟩) (h_e := ⟨(by decide), (by decide)⟩)  (p_0 := by omega) (p_1 := by omega) (p_2 := by omega)) (fun o V_q hq => ?_)
        obtain ⟨G591, A592, nd2_593, ec2_594, rfl, rfl, hW595, hF596, hQ597, e598, e599, p600, p601, p602, p603, -⟩ := hq
        have hF605 := Fr_tr hFx hF596 (Fr_sub (by decide)) (Fr_sub (by decide))
        have hP606 := Pf_tr hPx hQ597 (by omega)
        have sf607 : NdM A592 (nd) (nd1) (sy) := NdM_pf hQ597 (by omega) (by omega) iv_11
        have bnd2_593 : (0 : Int) ≤ nd2_593 ∧ nd2_593 ≤ 6999 := e598 ▸ hW595.1 31
        refine .inr ⟨_, rfl, ?_⟩
        refine jx_ar (pc_q := 300) (st_q := [.int (i32 (0)), .int (i32 (nd1)), .int (i32 (24)), .ref 66]) rfl rfl rfl rfl ?_
        refine jx_ar (pc_q := 301) (st_q := [.int (i32 (0)), .int (i32 (0)), .int (i32 (nd1)), .int (i32 (24)), .ref 66]) rfl rfl rfl rfl ?_
        refine jx_ar (pc_q := 302) (st_q := [.int (i32 (0)), .int (i32 (0)), .int (i32 (0)), .int (i32 (nd1)), .int (i32 (24)), .ref 66]) rfl rfl rfl rfl ?_
        refine jx_vr (pc_q := 305) (as := [.int (i32 (24)), .int (i32 (nd1)), .int (i32 (0)), .int (i32 (0)), .int (i32 (0))]) (st := []) rfl rfl rfl rfl ⟨rfl, rfl, Nat.le_of_ble_eq_true rfl⟩ rfl rfl (c_node_l (dd := d) (hd := by omega) (hW := hW595) (kind := 24) (a := nd1) (b := 0) (c := 0) (e := 0) (nd := nd2_593) (e_nd := show G591 31 = nd2_593 from (e598)) (ec := ec2_594) (e_ec := show ecn A592 (G591 31) = ec2_594 from e599) (sy := sy) (e_sy := show G591 19 = sy from ((hF596.1 19 rfl).trans ((hFx.1 19 rfl).trans (e_sy)))) (ln := ln) (e_ln := show G591 9 = ln from ((hF596.1 9 rfl).trans (fx_9))) (li := li) (e_li := show G591 3 = li from ((hF596.1 3 rfl).trans ((hFx.1 3 rfl).trans (e_li))))  (h_kind := ⟨(by decide), (by decide)⟩) (h_a := ⟨(Int.le_trans (by decide : (-2147483648 : Int) ≤ 0) b_nd1.1), (Int.le_trans b_nd1.2 (by decide : (6999 : Int) ≤ 2147483647))⟩) (h_b := ⟨(by decide), (by decide)⟩) (h_c := ⟨(by decide), (by decide)⟩) (h_e := ⟨(by decide), (by decide)⟩)  (p_0 := by omega) (p_1 := by omega) (p_2 := by omega) (p_3 := by omega)) (fun o V_q hq => ?_)
        obtain ⟨G608, A609, nd2_610, ec2_611, rfl, rfl, hW612, hF613, hQ614, e615, e616, p617, p618, p619, p620, -⟩ := hq
        have hF622 := Fr_tr hF605 hF613 (Fr_sub (by decide)) (Fr_sub (by decide))
        have hP623 := Pf_tr hP606 hQ614 (by omega)
        have sf624 : NdM A609 (nd) (nd1) (sy) := NdM_pf hQ614 (by omega) (by omega) sf607
        have sf625 : ND A609 (nd1) (2) (s) (0) (0) (0) (0) (0) := ND_ag (by omega) (Ag_pf hQ614 (by omega)) p602
        have sf626 : NdM A609 (nd1) (nd1 + 1) (sy) := NdM_pf hQ614 (by omega) (by omega) p603
        have bnd2_610 : (0 : Int) ≤ nd2_610 ∧ nd2_610 ≤ 6999 := e615 ▸ hW612.1 31
        refine .inr ⟨_, rfl, ?_⟩
        refine jx_ld (pc_q := 307) (l_q := jSto1 L588 7 (.int (i32 (nd2_593)))) (st_q := []) rfl rfl ?_
        obtain ⟨L627, eL627⟩ : ∃ q, q = jSto1 L588 7 (.int (i32 (nd2_593))) := ⟨_, rfl⟩
        rw [← eL627]
        have gL627_0 : jGet L627 0 = some (.ref 66) := eL627 ▸ jg_ne (by decide) gL588_0 rfl
        have gL627_5 : jGet L627 5 = some (.int (i32 (0))) := eL627 ▸ jg_ne (by decide) gL588_5 rfl
        have gL627_4 : jGet L627 4 = some (.int (i32 (0))) := eL627 ▸ jg_ne (by decide) gL588_4 rfl
        have gL627_2 : jGet L627 2 = some (.int (i32 (s))) := eL627 ▸ jg_ne (by decide) gL588_2 rfl
        have gL627_6 : jGet L627 6 = some (.int (i32 (0))) := eL627 ▸ jg_ne (by decide) gL588_6 rfl
        have gL627_7 : jGet L627 7 = some (.int (i32 (nd2_593))) := eL627 ▸ jg_eq
        refine jx_ld (pc_q := 308) (l_q := L627) (st_q := [.ref 66]) rfl (jl_aloadn gL627_0) ?_
        refine jx_vr (pc_q := 311) (as := []) (st := []) rfl rfl rfl rfl ⟨rfl, rfl, Nat.le_of_ble_eq_true rfl⟩ rfl rfl (c_next (dd := d) (hd := by omega) (hW := hW612)  (ln := ln) (e_ln := show G608 9 = ln from ((hF613.1 9 rfl).trans ((hF596.1 9 rfl).trans (fx_9)))) (le := le) (e_le := show A609 4 (ln).toNat = le from (congrFun ((hF613.2 4 rfl).trans ((hF596.2 4 rfl).trans (hFx.2 4 rfl))) _).trans (e_le)) (at0 := at1) (e_at0 := show G608 10 = at1 from ((hF613.1 10 rfl).trans ((hF596.1 10 rfl).trans (ex_at1))))    (p_0 := by omega)) (fun o V_q hq => ?_)
        obtain ⟨G628, A629, at2_630, tk2_631, rfl, rfl, hW632, hF633, e634, e635, p636, p637, p638, -⟩ := hq
        have hF640 := Fr_tr hF622 hF633 (Fr_sub (by decide)) (Fr_sub (by decide))
        have hP641 := Pf_f hP623 hF633 (by decide)
        have sf642 : NdM A629 (nd) (nd1) (sy) := NdM_f hF633 (by decide) sf624
        have sf643 : ND A629 (nd1) (2) (s) (0) (0) (0) (0) (0) := ND_ag (by omega) (Ag_fr hF633 (by decide)) sf625
        have sf644 : NdM A629 (nd1) (nd1 + 1) (sy) := NdM_f hF633 (by decide) sf626
        have sf645 : ND A629 (nd2_593) (24) (nd1) (0) (0) (0) (0) (0) := ND_ag (by omega) (Ag_fr hF633 (by decide)) p619
        have sf646 : NdM A629 (nd2_593) (nd2_593 + 1) (sy) := NdM_f hF633 (by decide) p620
        have ec647 : ecn A629 (G628 31) = ec2_611 := (ecn_f (hF633.2 15 rfl) (hF633.1 31 rfl)).trans e616
        have bat2_630 : (0 : Int) ≤ at2_630 ∧ at2_630 ≤ 3002 := e634 ▸ hW632.1 10
        have ztk2_631 := tz_b tk2_631
        have btk2_631 : (0 : Int) ≤ tk2_631 ∧ tk2_631 ≤ 5 := e635 ▸ hW632.1 11
        refine .inl ⟨rfl, ?_⟩
        have pz648 : at1 + tz tk2_631 ≤ at2_630 := by omega
        refine jx_ld (pc_q := 312) (l_q := L627) (st_q := [.ref 66]) rfl (jl_aloadn gL627_0) ?_
        refine jr_get (pc_q := 315) (i := 35) (v := .ref 85) rfl rfl (by decide) rfl rfl ?_
        refine jx_ld (pc_q := 317) (l_q := L627) (st_q := [.int (i32 (nd2_593)), .ref 85]) rfl (jl_iload gL627_7) ?_
        refine jx_ld (pc_q := 319) (l_q := L627) (st_q := [.int (i32 (0)), .int (i32 (nd2_593)), .ref 85]) rfl (jl_iload gL627_6) ?_
        refine jx_if_eq (pc_q := 322) (tg := 329) rfl rfl rfl (by decide) (by decide) (fun h649 => ?_) (fun h649 => ?_)
        · have _q := h649
          refine jx_ld (pc_q := 330) (l_q := L627) (st_q := [.ref 66, .int (i32 (nd2_593)), .ref 85]) rfl (jl_aloadn gL627_0) ?_
          refine jx_ar (pc_q := 331) (st_q := [.int (i32 (0)), .ref 66, .int (i32 (nd2_593)), .ref 85]) rfl rfl rfl rfl ?_
          refine jx_vr (pc_q := 334) (as := [.int (i32 (0))]) (st := [.int (i32 (nd2_593)), .ref 85]) rfl rfl rfl rfl ⟨rfl, rfl, Nat.le_of_ble_eq_true rfl⟩ rfl rfl (c_readReference_w (dd := d) (hd := by omega) (hW := hW632) (ch := 0) (ln := ln) (e_ln := show G628 9 = ln from ((hF633.1 9 rfl).trans ((hF613.1 9 rfl).trans ((hF596.1 9 rfl).trans (fx_9))))) (le := le) (e_le := show A629 4 (ln).toNat = le from (congrFun ((hF633.2 4 rfl).trans ((hF613.2 4 rfl).trans ((hF596.2 4 rfl).trans (hFx.2 4 rfl)))) _).trans (e_le)) (at0 := at2_630) (e_at0 := show G628 10 = at2_630 from (e634)) (fk := fk1) (e_fk := show G628 16 = fk1 from ((hF633.1 16 rfl).trans ((hF613.1 16 rfl).trans ((hF596.1 16 rfl).trans (ex_fk1))))) (op0 := op1) (e_op0 := show G628 15 = op1 from ((hF633.1 15 rfl).trans ((hF613.1 15 rfl).trans ((hF596.1 15 rfl).trans (ex_op1))))) (nd := nd2_610) (e_nd := show G628 31 = nd2_610 from ((hF633.1 31 rfl).trans (e615))) (tk0 := tk2_631) (e_tk0 := show G628 11 = tk2_631 from (e635)) (ec := ec2_611) (e_ec := show ecn A629 (G628 31) = ec2_611 from ec647) (sy := sy) (e_sy := show G628 19 = sy from ((hF633.1 19 rfl).trans ((hF613.1 19 rfl).trans ((hF596.1 19 rfl).trans ((hFx.1 19 rfl).trans (e_sy)))))) (i_SV := (SV_ext (((hF633.1 29 rfl).trans ((hF613.1 29 rfl).trans ((hF596.1 29 rfl).trans (hFx.1 29 rfl))))) (((hF633.2 14 rfl).trans ((hF613.2 14 rfl).trans ((hF596.2 14 rfl).trans (hFx.2 14 rfl))))) i_SV)) (h_ch := ⟨(by decide), (by decide)⟩)  (p_0 := by omega) (p_1 := by omega) (p_2 := by omega) (p_3 := by omega) (p_4 := by omega)) (fun o V_q hq => ?_)
          obtain ⟨G650, A651, r652, at2_653, fk2_654, op2_655, nd2_656, tk2_657, ec2_658, rfl, rfl, hW659, hF660, hQ661, b662, e663, e664, e665, e666, e667, e668, p669, p670, p671, p672, p673, p674, q675⟩ := hq
          have hF676 := Fr_tr hF640 hF660 (Fr_sub (by decide)) (Fr_sub (by decide))
          have hP677 := Pf_tr hP641 hQ661 (by omega)
          have sf678 : NdM A651 (nd) (nd1) (sy) := NdM_pf hQ661 (by omega) (by omega) sf642
          have sf679 : ND A651 (nd1) (2) (s) (0) (0) (0) (0) (0) := ND_ag (by omega) (Ag_pf hQ661 (by omega)) sf643
          have sf680 : NdM A651 (nd1) (nd1 + 1) (sy) := NdM_pf hQ661 (by omega) (by omega) sf644
          have sf681 : ND A651 (nd2_593) (24) (nd1) (0) (0) (0) (0) (0) := ND_ag (by omega) (Ag_pf hQ661 (by omega)) sf645
          have sf682 : NdM A651 (nd2_593) (nd2_593 + 1) (sy) := NdM_pf hQ661 (by omega) (by omega) sf646
          have bat2_653 : (0 : Int) ≤ at2_653 ∧ at2_653 ≤ 3002 := e663 ▸ hW659.1 10
          have bfk2_654 : (0 : Int) ≤ fk2_654 ∧ fk2_654 ≤ 6 := e664 ▸ hW659.1 16
          have bop2_655 : (-2147483648 : Int) ≤ op2_655 ∧ op2_655 ≤ 2147483647 := e665 ▸ hW659.1 15
          have bnd2_656 : (0 : Int) ≤ nd2_656 ∧ nd2_656 ≤ 6999 := e666 ▸ hW659.1 31
          have ztk2_657 := tz_b tk2_657
          have btk2_657 : (0 : Int) ≤ tk2_657 ∧ tk2_657 ≤ 5 := e667 ▸ hW659.1 11
          refine .inr ⟨_, rfl, ?_⟩
          rcases q675 with ⟨a683, a684, a685, a686, a687, a688⟩ | ⟨a689, a690, a691⟩ | ⟨a692, a693, a694, a695, a696, a697, a698⟩
          · have _q : True := trivial
            exfalso
            omega
          · have _q : True := trivial
            refine jr_st (pc_q := 335) (i := 18) (m := 7000) (z := nd2_593) (y := r652) rfl (by decide) rfl (by decide) (by omega) (by omega) rfl ?_
            have hW700 : Wk G650 (uA A651 18 (nd2_593).toNat (r652)) := Wk_a hW659 (show (-2147483648 : Int) ≤ r652 by omega) (show r652 ≤ (2147483647 : Int) by omega)
            have hF701 := Fr_a (z := r652) (k := 18) (n := (nd2_593).toNat) hF676 (by decide)
            obtain ⟨A699, eA699⟩ : ∃ q, q = uA A651 18 (nd2_593).toNat (r652) := ⟨_, rfl⟩
            rw [← eA699]
            rw [← eA699] at hW700 hF701
            have q702 : A699 18 (nd2_593).toNat = r652 := by rw [eA699]; exact uA_eq
            have hP703 : Pf nd A A699 := eA699 ▸ Pf_a hP677 (z := nd2_593) (by omega) (by omega)
            have sf704 : NdM A699 (nd) (nd1) (sy) := NdM_18 eA699 sf681.1 (by decide) sf678
            have sf705 : ND A699 (nd1) (2) (s) (0) (0) (0) (0) (0) := ND_ag (by omega) (Ag_st eA699 (by omega) (by omega)) sf679
            have sf706 : NdM A699 (nd1) (nd1 + 1) (sy) := NdM_18 eA699 sf681.1 (by decide) sf680
            have sf707 : ND A699 (nd2_593) (24) (nd1) (r652) (0) (0) (0) (0) := ND_b eA699 sf681
            have sf708 : NdM A699 (nd2_593) (nd2_593 + 1) (sy) := NdM_18 eA699 sf681.1 (by decide) sf682
            have ec709 : ecn A699 (G650 31) = ec2_658 := (ecn_e ((congrFun eA699 15).trans (uA_ne (by decide)))).trans e668
            refine jx_ld (pc_q := 336) (l_q := L627) (st_q := [.ref 66]) rfl (jl_aloadn gL627_0) ?_
            refine jx_vr (pc_q := 339) (as := []) (st := []) rfl rfl rfl rfl ⟨rfl, rfl, Nat.le_of_ble_eq_true rfl⟩ rfl rfl (c_endLine (dd := d) (hd := by omega) (hW := hW700)  (ln := ln) (e_ln := show G650 9 = ln from ((hF660.1 9 rfl).trans ((hF633.1 9 rfl).trans ((hF613.1 9 rfl).trans ((hF596.1 9 rfl).trans (fx_9)))))) (li := li) (e_li := show G650 3 = li from ((hF660.1 3 rfl).trans ((hF633.1 3 rfl).trans ((hF613.1 3 rfl).trans ((hF596.1 3 rfl).trans ((hFx.1 3 rfl).trans (e_li))))))) (fk := fk2_654) (e_fk := show G650 16 = fk2_654 from (e664)) (tk0 := tk2_657) (e_tk0 := show G650 11 = tk2_657 from (e667))    (p_0 := by omega)) (fun o V_q hq => ?_)
            obtain ⟨G710, A711, ln2_712, fk2_713, rfl, rfl, hW714, hF715, e716, e717, q718⟩ := hq
            have hF719 := Fr_tr hF701 hF715 (Fr_sub (by decide)) (Fr_sub (by decide))
            have hP720 := Pf_f hP703 hF715 (by decide)
            have sf721 : NdM A711 (nd) (nd1) (sy) := NdM_f hF715 (by decide) sf704
            have sf722 : ND A711 (nd1) (2) (s) (0) (0) (0) (0) (0) := ND_ag (by omega) (Ag_fr hF715 (by decide)) sf705
            have sf723 : NdM A711 (nd1) (nd1 + 1) (sy) := NdM_f hF715 (by decide) sf706
            have sf724 : ND A711 (nd2_593) (24) (nd1) (r652) (0) (0) (0) (0) := ND_ag (by omega) (Ag_fr hF715 (by decide)) sf707
            have sf725 : NdM A711 (nd2_593) (nd2_593 + 1) (sy) := NdM_f hF715 (by decide) sf708
            have ec726 : ecn A711 (G710 31) = ec2_658 := (ecn_f (hF715.2 15 rfl) (hF715.1 31 rfl)).trans ec709
            have bln2_712 : (0 : Int) ≤ ln2_712 ∧ ln2_712 ≤ 3000 := e716 ▸ hW714.1 9
            have bfk2_713 : (0 : Int) ≤ fk2_713 ∧ fk2_713 ≤ 6 := e717 ▸ hW714.1 16
            refine .inl ⟨rfl, ?_⟩
            rcases q718 with ⟨a727, a728, a729, a730, a731⟩ | ⟨a732, a733⟩
            · have _q : True := trivial
              exfalso
              omega
            · have _q : True := trivial
              refine jx_ld (pc_q := 341) (l_q := L627) (st_q := [.int (i32 (nd2_593))]) rfl (jl_iload gL627_7) ?_
              refine jx_rt (v := some (.int (i32 (nd2_593)))) rfl rfl rfl rfl rfl rfl ?_
              exact ⟨_, _, _, at2_653, fk2_713, nd2_656, ln2_712, ec2_658, rfl, rfl, hW714, hF719, hP720, by omega, ((hF715.1 10 rfl).trans (e663)), (e717), ((hF715.1 31 rfl).trans (e666)), (e716), ec726, by omega, by omega, by omega, by omega, by omega, by first | exact Or.inl (⟨by omega, by omega, by omega⟩)⟩
          · have _q : True := trivial
            refine jr_st (pc_q := 335) (i := 18) (m := 7000) (z := nd2_593) (y := r652) rfl (by decide) rfl (by decide) (by omega) (by omega) rfl ?_
            have hW735 : Wk G650 (uA A651 18 (nd2_593).toNat (r652)) := Wk_a hW659 (show (-2147483648 : Int) ≤ r652 by omega) (show r652 ≤ (2147483647 : Int) by omega)
            have hF736 := Fr_a (z := r652) (k := 18) (n := (nd2_593).toNat) hF676 (by decide)
            obtain ⟨A734, eA734⟩ : ∃ q, q = uA A651 18 (nd2_593).toNat (r652) := ⟨_, rfl⟩
            rw [← eA734]
            rw [← eA734] at hW735 hF736
            have q737 : A734 18 (nd2_593).toNat = r652 := by rw [eA734]; exact uA_eq
            have hP738 : Pf nd A A734 := eA734 ▸ Pf_a hP677 (z := nd2_593) (by omega) (by omega)
            have sf739 : NdM A734 (nd) (nd1) (sy) := NdM_18 eA734 sf681.1 (by decide) sf678
            have sf740 : ND A734 (nd1) (2) (s) (0) (0) (0) (0) (0) := ND_ag (by omega) (Ag_st eA734 (by omega) (by omega)) sf679
            have sf741 : NdM A734 (nd1) (nd1 + 1) (sy) := NdM_18 eA734 sf681.1 (by decide) sf680
            have sf742 : ND A734 (nd2_593) (24) (nd1) (r652) (0) (0) (0) (0) := ND_b eA734 sf681
            have sf743 : NdM A734 (nd2_593) (nd2_593 + 1) (sy) := NdM_18 eA734 sf681.1 (by decide) sf682
            have sf744 : wR A734 Vs sb (20) (0) (r652) (nd2_610) (nd2_656) := wR_ag (by omega) (Sg_ne eA734 rfl) (Ag_st eA734 (by omega) (by omega)) a695
            have sf745 : NdM A734 (nd2_610) (nd2_656) (sy) := NdM_18 eA734 sf681.1 (by decide) a697
            have ec746 : ecn A734 (G650 31) = ec2_658 := (ecn_e ((congrFun eA734 15).trans (uA_ne (by decide)))).trans e668
            refine jx_ld (pc_q := 336) (l_q := L627) (st_q := [.ref 66]) rfl (jl_aloadn gL627_0) ?_
            refine jx_vr (pc_q := 339) (as := []) (st := []) rfl rfl rfl rfl ⟨rfl, rfl, Nat.le_of_ble_eq_true rfl⟩ rfl rfl (c_endLine (dd := d) (hd := by omega) (hW := hW735)  (ln := ln) (e_ln := show G650 9 = ln from ((hF660.1 9 rfl).trans ((hF633.1 9 rfl).trans ((hF613.1 9 rfl).trans ((hF596.1 9 rfl).trans (fx_9)))))) (li := li) (e_li := show G650 3 = li from ((hF660.1 3 rfl).trans ((hF633.1 3 rfl).trans ((hF613.1 3 rfl).trans ((hF596.1 3 rfl).trans ((hFx.1 3 rfl).trans (e_li))))))) (fk := fk2_654) (e_fk := show G650 16 = fk2_654 from (e664)) (tk0 := tk2_657) (e_tk0 := show G650 11 = tk2_657 from (e667))    (p_0 := by omega)) (fun o V_q hq => ?_)
            obtain ⟨G747, A748, ln2_749, fk2_750, rfl, rfl, hW751, hF752, e753, e754, q755⟩ := hq
            have hF756 := Fr_tr hF736 hF752 (Fr_sub (by decide)) (Fr_sub (by decide))
            have hP757 := Pf_f hP738 hF752 (by decide)
            have sf758 : NdM A748 (nd) (nd1) (sy) := NdM_f hF752 (by decide) sf739
            have sf759 : ND A748 (nd1) (2) (s) (0) (0) (0) (0) (0) := ND_ag (by omega) (Ag_fr hF752 (by decide)) sf740
            have sf760 : NdM A748 (nd1) (nd1 + 1) (sy) := NdM_f hF752 (by decide) sf741
            have sf761 : ND A748 (nd2_593) (24) (nd1) (r652) (0) (0) (0) (0) := ND_ag (by omega) (Ag_fr hF752 (by decide)) sf742
            have sf762 : NdM A748 (nd2_593) (nd2_593 + 1) (sy) := NdM_f hF752 (by decide) sf743
            have sf763 : wR A748 Vs sb (20) (0) (r652) (nd2_610) (nd2_656) := wR_ag (by omega) (Sg_fr hF752 (by decide)) (Ag_fr hF752 (by decide)) sf744
            have sf764 : NdM A748 (nd2_610) (nd2_656) (sy) := NdM_f hF752 (by decide) sf745
            have ec765 : ecn A748 (G747 31) = ec2_658 := (ecn_f (hF752.2 15 rfl) (hF752.1 31 rfl)).trans ec746
            have bln2_749 : (0 : Int) ≤ ln2_749 ∧ ln2_749 ≤ 3000 := e753 ▸ hW751.1 9
            have bfk2_750 : (0 : Int) ≤ fk2_750 ∧ fk2_750 ≤ 6 := e754 ▸ hW751.1 16
            refine .inl ⟨rfl, ?_⟩
            rcases q755 with ⟨a766, a767, a768, a769, a770⟩ | ⟨a771, a772⟩
            · have _q : True := trivial
              refine jx_ld (pc_q := 341) (l_q := L627) (st_q := [.int (i32 (nd2_593))]) rfl (jl_iload gL627_7) ?_
              refine jx_rt (v := some (.int (i32 (nd2_593)))) rfl rfl rfl rfl rfl rfl ?_
              exact ⟨_, _, _, at2_653, fk2_750, nd2_656, ln2_749, ec2_658, rfl, rfl, hW751, hF756, hP757, by omega, ((hF752.1 10 rfl).trans (e663)), (e754), ((hF752.1 31 rfl).trans (e666)), (e753), ec765, by omega, by omega, by omega, by omega, by omega, by first | exact Or.inr ((⟨by omega, by omega, by omega, by omega, by omega, (wL_in sf761 (by omega) (by omega) (wR_var sf759 (by omega) (by omega) iv_8 (kq (P := kRef (1)) (show A748 7 (s).toNat = ks from (congrFun ((hF752.2 7 rfl).trans (((congrFun eA734 7).trans (uA_ne (by decide))).trans ((hF660.2 7 rfl).trans ((hF633.2 7 rfl).trans ((hF613.2 7 rfl).trans (hF596.2 7 rfl)))))) _).trans (ex_ks)) (by first | exact .inr ⟨by omega, iv_9⟩))) (wR_mono (by omega) (by omega) (by omega) sf763)), (NX_nd sf761), by omega, (NdM_w (NdM_app (sy := sy) sf758 (NdM_app (sy := sy) sf760 (NdM_app (sy := sy) sf762 sf764 (by omega) (by omega) (by omega)) (by omega) (by omega) (by omega)) (by omega) (by omega) (by omega)) (by omega) (by omega) (by omega))⟩))⟩
            · have _q : True := trivial
              refine jx_ld (pc_q := 341) (l_q := L627) (st_q := [.int (i32 (nd2_593))]) rfl (jl_iload gL627_7) ?_
              refine jx_rt (v := some (.int (i32 (nd2_593)))) rfl rfl rfl rfl rfl rfl ?_
              exact ⟨_, _, _, at2_653, fk2_750, nd2_656, ln2_749, ec2_658, rfl, rfl, hW751, hF756, hP757, by omega, ((hF752.1 10 rfl).trans (e663)), (e754), ((hF752.1 31 rfl).trans (e666)), (e753), ec765, by omega, by omega, by omega, by omega, by omega, by first | exact Or.inl (⟨by omega, by omega, by omega⟩)⟩
        · have _q := h649
          exact absurd h649 (by omega)
      · have _q := h590
        exact absurd h590 (by omega)
    · have _q := h589
      exact absurd h589 (by omega)
set_option maxRecDepth 20000 in
set_option maxHeartbeats 4000000 in
theorem c_readNamed_w_at_231_1 {X : jX} {d : Nat} {Vs : Nat → Prop} {sb pb : Int} {c0 c1 : jC} {G : Nat → Int} {A : Nat → Nat → Int} {T : jH} {ln le at0 fk op0 nd tk0 li ec sy : Int} (hd : 72 ≤ d + 1) (hW : Wk G A) (e_ln : G 9 = ln) (e_le : A 4 (ln).toNat = le) (e_at0 : G 10 = at0) (e_fk : G 16 = fk) (e_op0 : G 15 = op0) (e_nd : G 31 = nd) (e_tk0 : G 11 = tk0) (e_li : G 3 = li) (e_ec : ecn A (G 31) = ec) (e_sy : G 19 = sy) (i_SV : SV Vs sb G A) (i_PQ : PQ Vs sb pb G A) (p_0 : 0 ≤ op0 ∧ op0 ≤ 8) (p_1 : fk = 0) (p_2 : nd ≤ 2 * at0 - tz tk0 + 42) (p_3 : at0 ≤ le) (p_4 : ln < li) (p_5 : tk0 = 1) : ∀ (L : jL) (Gx : Nat → Int) (Ax : Nat → Nat → Int) (pl s ix at1 tk1 fk1 nd1 op1 ks ec1 : Int), jGet L 0 = some (.ref 66) → jGet L 5 = some (.int (i32 (1))) → jGet L 3 = some (.int (i32 (ks))) → jGet L 1 = some (.int (i32 pl)) → jGet L 2 = some (.int (i32 s)) → jGet L 4 = some (.int (i32 ix)) → Wk Gx Ax → Fr [9, 10, 11, 12, 13, 14, 15, 16, 17, 18, 31] [15, 16, 17, 18, 19, 20, 21, 22, 24, 28] G A Gx Ax → Pf nd A Ax → Gx 10 = at1 → Gx 11 = tk1 → Gx 16 = fk1 → Gx 31 = nd1 → Gx 15 = op1 → Ax 7 (s).toNat = ks → ecn Ax (Gx 31) = ec1 → Gx 9 = ln → ((-2147483648 : Int) ≤ pl ∧ pl ≤ 2147483647) → ((-2147483648 : Int) ≤ s ∧ s ≤ 2147483647) → ((-2147483648 : Int) ≤ ix ∧ ix ≤ 2147483647) → (at0 ≤ at1) → (at1 ≤ le) → (nd ≤ nd1) → (op1 = op0) → (fk1 = 0) → (nd1 - nd ≤ (2 * at1 - tz tk1) - (2 * at0 - tz tk0) - 1) → (tz tk1 = 1) → (0 ≤ s ∧ s ≤ 201) → (-3000 ≤ pl ∧ pl ≤ 3002) → (SY Vs sb (s)) → (wE Ax Vs sb (20) (ix) (nd) (nd1)) → (ix + 1 = nd1) → (nd1 - nd + 5 * (ec1 - ec) ≤ (2 * at1 - tz tk1) - (2 * at0 - tz tk0) - 6 - tz tk1) → (NdM Ax (nd) (nd1) (sy)) → wj X d jm304 (231, L, [], rV c0 c1 Gx Ax T) (fun o V_q => ∃ (G_q : Nat → Int) (A_q : Nat → Nat → Int) (r : Int) (at2 : Int) (fk2 : Int) (nd2 : Int) (ln2 : Int) (ec2 : Int), V_q = rV c0 c1 G_q A_q T ∧ o = .inl (some (.int (i32 r))) ∧ Wk G_q A_q ∧ Fr [9, 10, 11, 12, 13, 14, 15, 16, 17, 18, 31] [15, 16, 17, 18, 19, 20, 21, 22, 24, 28] G A G_q A_q ∧ Pf nd A A_q ∧ ((-2147483648 : Int) ≤ r ∧ r ≤ 2147483647) ∧ G_q 10 = at2 ∧ G_q 16 = fk2 ∧ G_q 31 = nd2 ∧ G_q 9 = ln2 ∧ ecn A_q (G_q 31) = ec2 ∧ (at0 ≤ at2) ∧ (at2 ≤ le) ∧ (nd ≤ nd2) ∧ (0 ≤ r) ∧ (r ≤ nd2) ∧ (((1 ≤ fk2) ∧ (ln2 = ln) ∧ (nd2 - nd ≤ 2 * at2 - 2 * at0 + 8)) ∨ ((fk2 = 0) ∧ (ln2 = ln + 1) ∧ (nd2 - nd ≤ 2 * at2 - (2 * at0 - tz tk0) + 0) ∧ (nd ≤ r) ∧ (r < nd2) ∧ (wL A_q sb pb Vs (r) (nd) (nd2)) ∧ (NX A_q (r)) ∧ (nd2 - nd + 5 * (ec2 - ec) ≤ 2 * at2 - (2 * at0 - tz tk0) + 0) ∧ (NdM A_q (nd) (nd2) (sy))))) := by
  have hF0 : Fr [9, 10, 11, 12, 13, 14, 15, 16, 17, 18, 31] [15, 16, 17, 18, 19, 20, 21, 22, 24, 28] G A G A := Fr_rf
  have hP0 : Pf nd A A := Pf_rf
  have b_ln : (0 : Int) ≤ ln ∧ ln ≤ 3000 := e_ln ▸ hW.1 9
  have b_le : (0 : Int) ≤ le ∧ le ≤ 3000 := e_le ▸ hW.2 4 _
  have b_at0 : (0 : Int) ≤ at0 ∧ at0 ≤ 3002 := e_at0 ▸ hW.1 10
  have b_fk : (0 : Int) ≤ fk ∧ fk ≤ 6 := e_fk ▸ hW.1 16
  have b_op0 : (-2147483648 : Int) ≤ op0 ∧ op0 ≤ 2147483647 := e_op0 ▸ hW.1 15
  have b_nd : (0 : Int) ≤ nd ∧ nd ≤ 6999 := e_nd ▸ hW.1 31
  have z_tk0 := tz_f tk0
  have b_tk0 : (0 : Int) ≤ tk0 ∧ tk0 ≤ 5 := e_tk0 ▸ hW.1 11
  have b_li : (0 : Int) ≤ li ∧ li ≤ 3000 := e_li ▸ hW.1 3
  have b_sy : (0 : Int) ≤ sy ∧ sy ≤ 202 := e_sy ▸ hW.1 19
  intro L Gx Ax pl s ix at1 tk1 fk1 nd1 op1 ks ec1 gL_0 gL_5 gL_3 gL_1 gL_2 gL_4 hWx hFx hPx ex_at1 ex_tk1 ex_fk1 ex_nd1 ex_op1 ex_ks ex_ec1 fx_9 rx_pl rx_s rx_ix iv_0 iv_1 iv_2 iv_3 iv_4 iv_5 iv_6 iv_7 iv_8 iv_9 iv_10 iv_11 iv_12 iv_13
  have b_at1 : (0 : Int) ≤ at1 ∧ at1 ≤ 3002 := ex_at1 ▸ hWx.1 10
  have z_tk1 := tz_f tk1
  have b_tk1 : (0 : Int) ≤ tk1 ∧ tk1 ≤ 5 := ex_tk1 ▸ hWx.1 11
  have b_fk1 : (0 : Int) ≤ fk1 ∧ fk1 ≤ 6 := ex_fk1 ▸ hWx.1 16
  have b_nd1 : (0 : Int) ≤ nd1 ∧ nd1 ≤ 6999 := ex_nd1 ▸ hWx.1 31
  have b_op1 : (-2147483648 : Int) ≤ op1 ∧ op1 ≤ 2147483647 := ex_op1 ▸ hWx.1 15
  have b_ks : (0 : Int) ≤ ks ∧ ks ≤ 14 := ex_ks ▸ hWx.2 7 _
  refine jx_ld (pc_q := 233) (l_q := L) (st_q := [.int (i32 (1))]) rfl (jl_iload gL_5) ?_
  refine jx_if_eq (pc_q := 236) (tg := 244) rfl rfl rfl (by decide) (by decide) (fun h773 => ?_) (fun h773 => ?_)
  · have _q := h773
    exact absurd h773 (by omega)
  · have _q := h773
    refine jx_ld (pc_q := 237) (l_q := L) (st_q := [.int (i32 (ks))]) rfl (jl_iloadn gL_3) ?_
    refine jx_ar (pc_q := 238) (st_q := [.int (i32 (4)), .int (i32 (ks))]) rfl rfl rfl rfl ?_
    refine jx_icmp_eq (pc_q := 241) (tg := 259) rfl rfl rfl (Int.le_trans (by decide : (-2147483648 : Int) ≤ 0) b_ks.1) (Int.le_trans b_ks.2 (by decide : (14 : Int) ≤ 2147483647)) (by decide) (by decide) (fun h774 => ?_) (fun h774 => ?_)
    · have _q := h774
      have z775 := tz_f (tk1)
      exact c_readNamed_w_at_259_1 (X := X) (d := d) (Vs := Vs) (sb := sb) (pb := pb) (c0 := c0) (c1 := c1) (G := G) (A := A) (T := T) (ln := ln) (le := le) (at0 := at0) (fk := fk) (op0 := op0) (nd := nd) (tk0 := tk0) (li := li) (ec := ec) (sy := sy) (hd := hd) (hW := hW) (e_ln := e_ln) (e_le := e_le) (e_at0 := e_at0) (e_fk := e_fk) (e_op0 := e_op0) (e_nd := e_nd) (e_tk0 := e_tk0) (e_li := e_li) (e_ec := e_ec) (e_sy := e_sy) (i_SV := i_SV) (i_PQ := i_PQ) (p_0 := p_0) (p_1 := p_1) (p_2 := p_2) (p_3 := p_3) (p_4 := p_4) (p_5 := p_5) L Gx Ax (s) (ix) (at1) (tk1) (fk1) (nd1) (op1) (ks) (ec1) gL_0 gL_5 gL_2 gL_4 hWx hFx hPx ((ex_at1)) ((ex_tk1)) ((ex_fk1)) ((ex_nd1)) ((ex_op1)) ((ex_ks)) (ex_ec1) ((fx_9)) (by omega) (by omega) (by omega) (by omega) (by omega) (by omega) (by omega) (by omega) (by omega) (by omega) (iv_9) (by omega) (iv_10) (by omega) (by omega) (iv_13)
    · have _q := h774
      refine jx_go (tg := 251) rfl rfl ?_
      refine jx_ld (pc_q := 252) (l_q := L) (st_q := [.ref 66]) rfl (jl_aloadn gL_0) ?_
      refine jx_ar (pc_q := 253) (st_q := [.int (i32 (4)), .ref 66]) rfl rfl rfl rfl ?_
      refine jx_ld (pc_q := 254) (l_q := L) (st_q := [.int (i32 (pl)), .int (i32 (4)), .ref 66]) rfl (jl_iloadn gL_1) ?_
      refine jx_vr (pc_q := 257) (as := [.int (i32 (4)), .int (i32 (pl))]) (st := []) rfl rfl rfl rfl ⟨rfl, rfl, Nat.le_of_ble_eq_true rfl⟩ rfl rfl (c_fail (dd := d) (hd := by omega) (hW := hWx) (kind := 4) (place := pl) (fk := fk1) (e_fk := show Gx 16 = fk1 from (ex_fk1))  (h_kind := ⟨(by decide), (by decide)⟩) (h_place := ⟨(Int.le_trans (by decide : (-2147483648 : Int) ≤ -2147483648) rx_pl.1), (Int.le_trans rx_pl.2 (by decide : (2147483647 : Int) ≤ 2147483647))⟩)  (p_0 := by omega) (p_1 := by omega)) (fun o V_q hq => ?_)
      obtain ⟨G776, A777, fk2_778, rfl, rfl, hW779, hF780, e781, p782, -⟩ := hq
      have hF784 := Fr_tr hFx hF780 (Fr_sub (by decide)) (Fr_sub (by decide))
      have hP785 := Pf_f hPx hF780 (by decide)
      have sf786 : wE A777 Vs sb (20) (ix) (nd) (nd1) := wE_ag (by omega) (Sg_fr hF780 (by decide)) (Ag_fr hF780 (by decide)) iv_10
      have sf787 : NdM A777 (nd) (nd1) (sy) := NdM_f hF780 (by decide) iv_13
      have ec788 : ecn A777 (G776 31) = ec1 := (ecn_f (hF780.2 15 rfl) (hF780.1 31 rfl)).trans ex_ec1
      have bfk2_778 : (0 : Int) ≤ fk2_778 ∧ fk2_778 ≤ 6 := e781 ▸ hW779.1 16
      refine .inl ⟨rfl, ?_⟩
      refine jx_ar (pc_q := 258) (st_q := [.int (i32 (0))]) rfl rfl rfl rfl ?_
      refine jx_rt (v := some (.int (i32 (0)))) rfl rfl rfl rfl rfl rfl ?_
      exact ⟨_, _, _, at1, fk2_778, nd1, ln, ec1, rfl, rfl, hW779, hF784, hP785, by omega, ((hF780.1 10 rfl).trans (ex_at1)), (e781), ((hF780.1 31 rfl).trans (ex_nd1)), ((hF780.1 9 rfl).trans (fx_9)), ec788, by omega, by omega, by omega, by omega, by omega, by first | exact Or.inl (⟨by omega, by omega, by omega⟩)⟩
set_option maxRecDepth 20000 in
set_option maxHeartbeats 4000000 in
theorem c_readNamed_w_at_231_0 {X : jX} {d : Nat} {Vs : Nat → Prop} {sb pb : Int} {c0 c1 : jC} {G : Nat → Int} {A : Nat → Nat → Int} {T : jH} {ln le at0 fk op0 nd tk0 li ec sy : Int} (hd : 72 ≤ d + 1) (hW : Wk G A) (e_ln : G 9 = ln) (e_le : A 4 (ln).toNat = le) (e_at0 : G 10 = at0) (e_fk : G 16 = fk) (e_op0 : G 15 = op0) (e_nd : G 31 = nd) (e_tk0 : G 11 = tk0) (e_li : G 3 = li) (e_ec : ecn A (G 31) = ec) (e_sy : G 19 = sy) (i_SV : SV Vs sb G A) (i_PQ : PQ Vs sb pb G A) (p_0 : 0 ≤ op0 ∧ op0 ≤ 8) (p_1 : fk = 0) (p_2 : nd ≤ 2 * at0 - tz tk0 + 42) (p_3 : at0 ≤ le) (p_4 : ln < li) (p_5 : tk0 = 1) : ∀ (L : jL) (Gx : Nat → Int) (Ax : Nat → Nat → Int) (pl s at1 tk1 fk1 nd1 op1 ks ec1 : Int), jGet L 0 = some (.ref 66) → jGet L 5 = some (.int (i32 (0))) → jGet L 3 = some (.int (i32 (ks))) → jGet L 4 = some (.int (i32 (0))) → jGet L 1 = some (.int (i32 pl)) → jGet L 2 = some (.int (i32 s)) → Wk Gx Ax → Fr [9, 10, 11, 12, 13, 14, 15, 16, 17, 18, 31] [15, 16, 17, 18, 19, 20, 21, 22, 24, 28] G A Gx Ax → Pf nd A Ax → Gx 10 = at1 → Gx 11 = tk1 → Gx 16 = fk1 → Gx 31 = nd1 → Gx 15 = op1 → Ax 7 (s).toNat = ks → ecn Ax (Gx 31) = ec1 → Gx 9 = ln → ((-2147483648 : Int) ≤ pl ∧ pl ≤ 2147483647) → ((-2147483648 : Int) ≤ s ∧ s ≤ 2147483647) → (at0 ≤ at1) → (at1 ≤ le) → (nd ≤ nd1) → (op1 = op0) → (fk1 = 0) → (nd1 - nd ≤ (2 * at1 - tz tk1) - (2 * at0 - tz tk0) - 1) → (tz tk1 = 1) → (0 ≤ s ∧ s ≤ 201) → (-3000 ≤ pl ∧ pl ≤ 3002) → (SY Vs sb (s)) → (nd1 - nd + 5 * (ec1 - ec) ≤ (2 * at1 - tz tk1) - (2 * at0 - tz tk0) - 1 - tz tk1) → (NdM Ax (nd) (nd1) (sy)) → wj X d jm304 (231, L, [], rV c0 c1 Gx Ax T) (fun o V_q => ∃ (G_q : Nat → Int) (A_q : Nat → Nat → Int) (r : Int) (at2 : Int) (fk2 : Int) (nd2 : Int) (ln2 : Int) (ec2 : Int), V_q = rV c0 c1 G_q A_q T ∧ o = .inl (some (.int (i32 r))) ∧ Wk G_q A_q ∧ Fr [9, 10, 11, 12, 13, 14, 15, 16, 17, 18, 31] [15, 16, 17, 18, 19, 20, 21, 22, 24, 28] G A G_q A_q ∧ Pf nd A A_q ∧ ((-2147483648 : Int) ≤ r ∧ r ≤ 2147483647) ∧ G_q 10 = at2 ∧ G_q 16 = fk2 ∧ G_q 31 = nd2 ∧ G_q 9 = ln2 ∧ ecn A_q (G_q 31) = ec2 ∧ (at0 ≤ at2) ∧ (at2 ≤ le) ∧ (nd ≤ nd2) ∧ (0 ≤ r) ∧ (r ≤ nd2) ∧ (((1 ≤ fk2) ∧ (ln2 = ln) ∧ (nd2 - nd ≤ 2 * at2 - 2 * at0 + 8)) ∨ ((fk2 = 0) ∧ (ln2 = ln + 1) ∧ (nd2 - nd ≤ 2 * at2 - (2 * at0 - tz tk0) + 0) ∧ (nd ≤ r) ∧ (r < nd2) ∧ (wL A_q sb pb Vs (r) (nd) (nd2)) ∧ (NX A_q (r)) ∧ (nd2 - nd + 5 * (ec2 - ec) ≤ 2 * at2 - (2 * at0 - tz tk0) + 0) ∧ (NdM A_q (nd) (nd2) (sy))))) := by
  have hF0 : Fr [9, 10, 11, 12, 13, 14, 15, 16, 17, 18, 31] [15, 16, 17, 18, 19, 20, 21, 22, 24, 28] G A G A := Fr_rf
  have hP0 : Pf nd A A := Pf_rf
  have b_ln : (0 : Int) ≤ ln ∧ ln ≤ 3000 := e_ln ▸ hW.1 9
  have b_le : (0 : Int) ≤ le ∧ le ≤ 3000 := e_le ▸ hW.2 4 _
  have b_at0 : (0 : Int) ≤ at0 ∧ at0 ≤ 3002 := e_at0 ▸ hW.1 10
  have b_fk : (0 : Int) ≤ fk ∧ fk ≤ 6 := e_fk ▸ hW.1 16
  have b_op0 : (-2147483648 : Int) ≤ op0 ∧ op0 ≤ 2147483647 := e_op0 ▸ hW.1 15
  have b_nd : (0 : Int) ≤ nd ∧ nd ≤ 6999 := e_nd ▸ hW.1 31
  have z_tk0 := tz_f tk0
  have b_tk0 : (0 : Int) ≤ tk0 ∧ tk0 ≤ 5 := e_tk0 ▸ hW.1 11
  have b_li : (0 : Int) ≤ li ∧ li ≤ 3000 := e_li ▸ hW.1 3
  have b_sy : (0 : Int) ≤ sy ∧ sy ≤ 202 := e_sy ▸ hW.1 19
  intro L Gx Ax pl s at1 tk1 fk1 nd1 op1 ks ec1 gL_0 gL_5 gL_3 gL_4 gL_1 gL_2 hWx hFx hPx ex_at1 ex_tk1 ex_fk1 ex_nd1 ex_op1 ex_ks ex_ec1 fx_9 rx_pl rx_s iv_0 iv_1 iv_2 iv_3 iv_4 iv_5 iv_6 iv_7 iv_8 iv_9 iv_10 iv_11
  have b_at1 : (0 : Int) ≤ at1 ∧ at1 ≤ 3002 := ex_at1 ▸ hWx.1 10
  have z_tk1 := tz_f tk1
  have b_tk1 : (0 : Int) ≤ tk1 ∧ tk1 ≤ 5 := ex_tk1 ▸ hWx.1 11
  have b_fk1 : (0 : Int) ≤ fk1 ∧ fk1 ≤ 6 := ex_fk1 ▸ hWx.1 16
  have b_nd1 : (0 : Int) ≤ nd1 ∧ nd1 ≤ 6999 := ex_nd1 ▸ hWx.1 31
  have b_op1 : (-2147483648 : Int) ≤ op1 ∧ op1 ≤ 2147483647 := ex_op1 ▸ hWx.1 15
  have b_ks : (0 : Int) ≤ ks ∧ ks ≤ 14 := ex_ks ▸ hWx.2 7 _
  refine jx_ld (pc_q := 233) (l_q := L) (st_q := [.int (i32 (0))]) rfl (jl_iload gL_5) ?_
  refine jx_if_eq (pc_q := 236) (tg := 244) rfl rfl rfl (by decide) (by decide) (fun h789 => ?_) (fun h789 => ?_)
  · have _q := h789
    refine jx_ld (pc_q := 245) (l_q := L) (st_q := [.int (i32 (ks))]) rfl (jl_iloadn gL_3) ?_
    refine jx_st (pc_q := 248) (as := [.int (i32 (ks))]) (st := []) rfl rfl ⟨rfl, Nat.le_of_ble_eq_true rfl⟩ rfl rfl rfl (c_isChannel (dd := d) (hd := by omega) (k := ks)   (h_k := ⟨(Int.le_trans (by decide : (-2147483648 : Int) ≤ 0) b_ks.1), (Int.le_trans b_ks.2 (by decide : (14 : Int) ≤ 2147483647))⟩)  ) (fun o V_q hq => ?_)
    obtain ⟨r790, rfl, rfl, b791, q792⟩ := hq
    refine .inr ⟨_, rfl, ?_⟩
    rcases q792 with ⟨rfl, a793⟩ | rfl
    · have _q : True := trivial
      refine jx_if_ne (pc_q := 251) (tg := 259) rfl rfl rfl (by decide) (by decide) (fun h794 => ?_) (fun h794 => ?_)
      · have _q := h794
        have z795 := tz_f (tk1)
        exact c_readNamed_w_at_259_0 (X := X) (d := d) (Vs := Vs) (sb := sb) (pb := pb) (c0 := c0) (c1 := c1) (G := G) (A := A) (T := T) (ln := ln) (le := le) (at0 := at0) (fk := fk) (op0 := op0) (nd := nd) (tk0 := tk0) (li := li) (ec := ec) (sy := sy) (hd := hd) (hW := hW) (e_ln := e_ln) (e_le := e_le) (e_at0 := e_at0) (e_fk := e_fk) (e_op0 := e_op0) (e_nd := e_nd) (e_tk0 := e_tk0) (e_li := e_li) (e_ec := e_ec) (e_sy := e_sy) (i_SV := i_SV) (i_PQ := i_PQ) (p_0 := p_0) (p_1 := p_1) (p_2 := p_2) (p_3 := p_3) (p_4 := p_4) (p_5 := p_5) L Gx Ax (s) (at1) (tk1) (fk1) (nd1) (op1) (ks) (ec1) gL_0 gL_5 gL_4 gL_2 hWx hFx hPx ((ex_at1)) ((ex_tk1)) ((ex_fk1)) ((ex_nd1)) ((ex_op1)) ((ex_ks)) (ex_ec1) ((fx_9)) (by omega) (by omega) (by omega) (by omega) (by omega) (by omega) (by omega) (by omega) (by omega) (iv_9) (a793) (by omega) (iv_11)
      · have _q := h794
        exact absurd h794 (by omega)
    · have _q : True := trivial
      refine jx_if_ne (pc_q := 251) (tg := 259) rfl rfl rfl (by decide) (by decide) (fun h796 => ?_) (fun h796 => ?_)
      · have _q := h796
        exact absurd h796 (by omega)
      · have _q := h796
        refine jx_ld (pc_q := 252) (l_q := L) (st_q := [.ref 66]) rfl (jl_aloadn gL_0) ?_
        refine jx_ar (pc_q := 253) (st_q := [.int (i32 (4)), .ref 66]) rfl rfl rfl rfl ?_
        refine jx_ld (pc_q := 254) (l_q := L) (st_q := [.int (i32 (pl)), .int (i32 (4)), .ref 66]) rfl (jl_iloadn gL_1) ?_
        refine jx_vr (pc_q := 257) (as := [.int (i32 (4)), .int (i32 (pl))]) (st := []) rfl rfl rfl rfl ⟨rfl, rfl, Nat.le_of_ble_eq_true rfl⟩ rfl rfl (c_fail (dd := d) (hd := by omega) (hW := hWx) (kind := 4) (place := pl) (fk := fk1) (e_fk := show Gx 16 = fk1 from (ex_fk1))  (h_kind := ⟨(by decide), (by decide)⟩) (h_place := ⟨(Int.le_trans (by decide : (-2147483648 : Int) ≤ -2147483648) rx_pl.1), (Int.le_trans rx_pl.2 (by decide : (2147483647 : Int) ≤ 2147483647))⟩)  (p_0 := by omega) (p_1 := by omega)) (fun o V_q hq => ?_)
        obtain ⟨G797, A798, fk2_799, rfl, rfl, hW800, hF801, e802, p803, -⟩ := hq
        have hF805 := Fr_tr hFx hF801 (Fr_sub (by decide)) (Fr_sub (by decide))
        have hP806 := Pf_f hPx hF801 (by decide)
        have sf807 : NdM A798 (nd) (nd1) (sy) := NdM_f hF801 (by decide) iv_11
        have ec808 : ecn A798 (G797 31) = ec1 := (ecn_f (hF801.2 15 rfl) (hF801.1 31 rfl)).trans ex_ec1
        have bfk2_799 : (0 : Int) ≤ fk2_799 ∧ fk2_799 ≤ 6 := e802 ▸ hW800.1 16
        refine .inl ⟨rfl, ?_⟩
        refine jx_ar (pc_q := 258) (st_q := [.int (i32 (0))]) rfl rfl rfl rfl ?_
        refine jx_rt (v := some (.int (i32 (0)))) rfl rfl rfl rfl rfl rfl ?_
        exact ⟨_, _, _, at1, fk2_799, nd1, ln, ec1, rfl, rfl, hW800, hF805, hP806, by omega, ((hF801.1 10 rfl).trans (ex_at1)), (e802), ((hF801.1 31 rfl).trans (ex_nd1)), ((hF801.1 9 rfl).trans (fx_9)), ec808, by omega, by omega, by omega, by omega, by omega, by first | exact Or.inl (⟨by omega, by omega, by omega⟩)⟩
  · have _q := h789
    exact absurd h789 (by omega)
set_option maxRecDepth 20000 in
set_option maxHeartbeats 4000000 in
theorem c_readNamed_w_at_150_1 {X : jX} {d : Nat} {Vs : Nat → Prop} {sb pb : Int} {c0 c1 : jC} {G : Nat → Int} {A : Nat → Nat → Int} {T : jH} {ln le at0 fk op0 nd tk0 li ec sy : Int} (hd : 72 ≤ d + 1) (hW : Wk G A) (e_ln : G 9 = ln) (e_le : A 4 (ln).toNat = le) (e_at0 : G 10 = at0) (e_fk : G 16 = fk) (e_op0 : G 15 = op0) (e_nd : G 31 = nd) (e_tk0 : G 11 = tk0) (e_li : G 3 = li) (e_ec : ecn A (G 31) = ec) (e_sy : G 19 = sy) (i_SV : SV Vs sb G A) (i_PQ : PQ Vs sb pb G A) (p_0 : 0 ≤ op0 ∧ op0 ≤ 8) (p_1 : fk = 0) (p_2 : nd ≤ 2 * at0 - tz tk0 + 42) (p_3 : at0 ≤ le) (p_4 : ln < li) (p_5 : tk0 = 1) : ∀ (L : jL) (Gx : Nat → Int) (Ax : Nat → Nat → Int) (s ix at1 tk1 fk1 nd1 op1 ks ec1 : Int), jGet L 0 = some (.ref 66) → jGet L 5 = some (.int (i32 (1))) → jGet L 2 = some (.int (i32 s)) → jGet L 4 = some (.int (i32 ix)) → Wk Gx Ax → Fr [9, 10, 11, 12, 13, 14, 15, 16, 17, 18, 31] [15, 16, 17, 18, 19, 20, 21, 22, 24, 28] G A Gx Ax → Pf nd A Ax → Gx 10 = at1 → Gx 11 = tk1 → Gx 16 = fk1 → Gx 31 = nd1 → Gx 15 = op1 → Ax 7 (s).toNat = ks → ecn Ax (Gx 31) = ec1 → Gx 9 = ln → ((-2147483648 : Int) ≤ s ∧ s ≤ 2147483647) → ((-2147483648 : Int) ≤ ix ∧ ix ≤ 2147483647) → (at0 ≤ at1) → (at1 ≤ le) → (nd ≤ nd1) → (op1 = op0) → (fk1 = 0) → (nd1 - nd ≤ (2 * at1 - tz tk1) - (2 * at0 - tz tk0) - 1) → (tz tk1 = 1) → (0 ≤ s ∧ s ≤ 201) → (SY Vs sb (s)) → (kArr (ks)) → (wE Ax Vs sb (20) (ix) (nd) (nd1)) → (ix + 1 = nd1) → (nd1 - nd + 5 * (ec1 - ec) ≤ (2 * at1 - tz tk1) - (2 * at0 - tz tk0) - 6 - tz tk1) → (NdM Ax (nd) (nd1) (sy)) → wj X d jm304 (150, L, [], rV c0 c1 Gx Ax T) (fun o V_q => ∃ (G_q : Nat → Int) (A_q : Nat → Nat → Int) (r : Int) (at2 : Int) (fk2 : Int) (nd2 : Int) (ln2 : Int) (ec2 : Int), V_q = rV c0 c1 G_q A_q T ∧ o = .inl (some (.int (i32 r))) ∧ Wk G_q A_q ∧ Fr [9, 10, 11, 12, 13, 14, 15, 16, 17, 18, 31] [15, 16, 17, 18, 19, 20, 21, 22, 24, 28] G A G_q A_q ∧ Pf nd A A_q ∧ ((-2147483648 : Int) ≤ r ∧ r ≤ 2147483647) ∧ G_q 10 = at2 ∧ G_q 16 = fk2 ∧ G_q 31 = nd2 ∧ G_q 9 = ln2 ∧ ecn A_q (G_q 31) = ec2 ∧ (at0 ≤ at2) ∧ (at2 ≤ le) ∧ (nd ≤ nd2) ∧ (0 ≤ r) ∧ (r ≤ nd2) ∧ (((1 ≤ fk2) ∧ (ln2 = ln) ∧ (nd2 - nd ≤ 2 * at2 - 2 * at0 + 8)) ∨ ((fk2 = 0) ∧ (ln2 = ln + 1) ∧ (nd2 - nd ≤ 2 * at2 - (2 * at0 - tz tk0) + 0) ∧ (nd ≤ r) ∧ (r < nd2) ∧ (wL A_q sb pb Vs (r) (nd) (nd2)) ∧ (NX A_q (r)) ∧ (nd2 - nd + 5 * (ec2 - ec) ≤ 2 * at2 - (2 * at0 - tz tk0) + 0) ∧ (NdM A_q (nd) (nd2) (sy))))) := by
  have hF0 : Fr [9, 10, 11, 12, 13, 14, 15, 16, 17, 18, 31] [15, 16, 17, 18, 19, 20, 21, 22, 24, 28] G A G A := Fr_rf
  have hP0 : Pf nd A A := Pf_rf
  have b_ln : (0 : Int) ≤ ln ∧ ln ≤ 3000 := e_ln ▸ hW.1 9
  have b_le : (0 : Int) ≤ le ∧ le ≤ 3000 := e_le ▸ hW.2 4 _
  have b_at0 : (0 : Int) ≤ at0 ∧ at0 ≤ 3002 := e_at0 ▸ hW.1 10
  have b_fk : (0 : Int) ≤ fk ∧ fk ≤ 6 := e_fk ▸ hW.1 16
  have b_op0 : (-2147483648 : Int) ≤ op0 ∧ op0 ≤ 2147483647 := e_op0 ▸ hW.1 15
  have b_nd : (0 : Int) ≤ nd ∧ nd ≤ 6999 := e_nd ▸ hW.1 31
  have z_tk0 := tz_f tk0
  have b_tk0 : (0 : Int) ≤ tk0 ∧ tk0 ≤ 5 := e_tk0 ▸ hW.1 11
  have b_li : (0 : Int) ≤ li ∧ li ≤ 3000 := e_li ▸ hW.1 3
  have b_sy : (0 : Int) ≤ sy ∧ sy ≤ 202 := e_sy ▸ hW.1 19
  intro L Gx Ax s ix at1 tk1 fk1 nd1 op1 ks ec1 gL_0 gL_5 gL_2 gL_4 hWx hFx hPx ex_at1 ex_tk1 ex_fk1 ex_nd1 ex_op1 ex_ks ex_ec1 fx_9 rx_s rx_ix iv_0 iv_1 iv_2 iv_3 iv_4 iv_5 iv_6 iv_7 iv_8 iv_9 iv_10 iv_11 iv_12 iv_13
  have b_at1 : (0 : Int) ≤ at1 ∧ at1 ≤ 3002 := ex_at1 ▸ hWx.1 10
  have z_tk1 := tz_f tk1
  have b_tk1 : (0 : Int) ≤ tk1 ∧ tk1 ≤ 5 := ex_tk1 ▸ hWx.1 11
  have b_fk1 : (0 : Int) ≤ fk1 ∧ fk1 ≤ 6 := ex_fk1 ▸ hWx.1 16
  have b_nd1 : (0 : Int) ≤ nd1 ∧ nd1 ≤ 6999 := ex_nd1 ▸ hWx.1 31
  have b_op1 : (-2147483648 : Int) ≤ op1 ∧ op1 ≤ 2147483647 := ex_op1 ▸ hWx.1 15
  have b_ks : (0 : Int) ≤ ks ∧ ks ≤ 14 := ex_ks ▸ hWx.2 7 _
  refine jx_ld (pc_q := 151) (l_q := L) (st_q := [.ref 66]) rfl (jl_aloadn gL_0) ?_
  refine jx_ar (pc_q := 153) (st_q := [.int (i32 (22)), .ref 66]) rfl rfl rfl rfl ?_
  refine jx_ld (pc_q := 154) (l_q := L) (st_q := [.ref 66, .int (i32 (22)), .ref 66]) rfl (jl_aloadn gL_0) ?_
  refine jx_ld (pc_q := 156) (l_q := L) (st_q := [.int (i32 (1)), .ref 66, .int (i32 (22)), .ref 66]) rfl (jl_iload gL_5) ?_
  refine jx_if_eq (pc_q := 159) (tg := 163) rfl rfl rfl (by decide) (by decide) (fun h809 => ?_) (fun h809 => ?_)
  · have _q := h809
    exact absurd h809 (by omega)
  · have _q := h809
    refine jx_ar (pc_q := 160) (st_q := [.int (i32 (3)), .ref 66, .int (i32 (22)), .ref 66]) rfl rfl rfl rfl ?_
    refine jx_go (tg := 164) rfl rfl ?_
    refine jx_ld (pc_q := 165) (l_q := L) (st_q := [.int (i32 (s)), .int (i32 (3)), .ref 66, .int (i32 (22)), .ref 66]) rfl (jl_iloadn gL_2) ?_
    refine jx_ld (pc_q := 167) (l_q := L) (st_q := [.int (i32 (ix)), .int (i32 (s)), .int (i32 (3)), .ref 66, .int (i32 (22)), .ref 66]) rfl (jl_iload gL_4) ?_
    refine jx_ar (pc_q := 168) (st_q := [.int (i32 (0)), .int (i32 (ix)), .int (i32 (s)), .int (i32 (3)), .ref 66, .int (i32 (22)), .ref 66]) rfl rfl rfl rfl ?_
    refine jx_ar (pc_q := 169) (st_q := [.int (i32 (0)), .int (i32 (0)), .int (i32 (ix)), .int (i32 (s)), .int (i32 (3)), .ref 66, .int (i32 (22)), .ref 66]) rfl rfl rfl rfl ?_
    refine jx_vr (pc_q := 172) (as := [.int (i32 (3)), .int (i32 (s)), .int (i32 (ix)), .int (i32 (0)), .int (i32 (0))]) (st := [.int (i32 (22)), .ref 66]) rfl rfl rfl rfl ⟨rfl, rfl, Nat.le_of_ble_eq_true rfl⟩ rfl rfl (c_node_e (dd := d) (hd := by omega) (hW := hWx) (kind := 3) (a := s) (b := ix) (c := 0) (e := 0) (nd := nd1) (e_nd := show Gx 31 = nd1 from (ex_nd1)) (ec := ec1) (e_ec := show ecn Ax (Gx 31) = ec1 from ex_ec1) (sy := sy) (e_sy := show Gx 19 = sy from ((hFx.1 19 rfl).trans (e_sy))) (fk := fk1) (e_fk := show Gx 16 = fk1 from (ex_fk1))  (h_kind := ⟨(by decide), (by decide)⟩) (h_a := ⟨(Int.le_trans (by decide : (-2147483648 : Int) ≤ -2147483648) rx_s.1), (Int.le_trans rx_s.2 (by decide : (2147483647 : Int) ≤ 2147483647))⟩) (h_b := ⟨(Int.le_trans (by decide : (-2147483648 : Int) ≤ -2147483648) rx_ix.1), (Int.le_trans rx_ix.2 (by decide : (2147483647 : Int) ≤ 2147483647))⟩) (h_c := ⟨(by decide), (by decide)⟩) (h_e := ⟨(by decide), (by decide)⟩)  (p_0 := by omega) (p_1 := by omega) (p_2 := by omega) (p_3 := by omega)) (fun o V_q hq => ?_)
    obtain ⟨G810, A811, nd2_812, ec2_813, rfl, rfl, hW814, hF815, hQ816, e817, e818, p819, p820, p821, p822, -⟩ := hq
    have hF824 := Fr_tr hFx hF815 (Fr_sub (by decide)) (Fr_sub (by decide))
    have hP825 := Pf_tr hPx hQ816 (by omega)
    have sf826 : wE A811 Vs sb (20) (ix) (nd) (nd1) := wE_ag (by omega) (Sg_fr hF815 (by decide)) (Ag_pf hQ816 (by omega)) iv_10
    have sf827 : NdM A811 (nd) (nd1) (sy) := NdM_pf hQ816 (by omega) (by omega) iv_13
    have bnd2_812 : (0 : Int) ≤ nd2_812 ∧ nd2_812 ≤ 6999 := e817 ▸ hW814.1 31
    refine .inr ⟨_, rfl, ?_⟩
    refine jx_ar (pc_q := 173) (st_q := [.int (i32 (0)), .int (i32 (nd1)), .int (i32 (22)), .ref 66]) rfl rfl rfl rfl ?_
    refine jx_ar (pc_q := 174) (st_q := [.int (i32 (0)), .int (i32 (0)), .int (i32 (nd1)), .int (i32 (22)), .ref 66]) rfl rfl rfl rfl ?_
    refine jx_ar (pc_q := 175) (st_q := [.int (i32 (0)), .int (i32 (0)), .int (i32 (0)), .int (i32 (nd1)), .int (i32 (22)), .ref 66]) rfl rfl rfl rfl ?_
    refine jx_vr (pc_q := 178) (as := [.int (i32 (22)), .int (i32 (nd1)), .int (i32 (0)), .int (i32 (0)), .int (i32 (0))]) (st := []) rfl rfl rfl rfl ⟨rfl, rfl, Nat.le_of_ble_eq_true rfl⟩ rfl rfl (c_node_o (dd := d) (hd := by omega) (hW := hW814) (kind := 22) (a := nd1) (b := 0) (c := 0) (e := 0) (nd := nd2_812) (e_nd := show G810 31 = nd2_812 from (e817)) (ec := ec2_813) (e_ec := show ecn A811 (G810 31) = ec2_813 from e818) (sy := sy) (e_sy := show G810 19 = sy from ((hF815.1 19 rfl).trans ((hFx.1 19 rfl).trans (e_sy))))  (h_kind := ⟨(by decide), (by decide)⟩) (h_a := ⟨(Int.le_trans (by decide : (-2147483648 : Int) ≤ 0) b_nd1.1), (Int.le_trans b_nd1.2 (by decide : (6999 : Int) ≤ 2147483647))⟩) (h_b := ⟨(by decide), (by decide)⟩) (h_c := ⟨(by decide), (by decide)⟩) (h_e := ⟨(by decide), (by decide)⟩)  (p_0 := by omega) (p_1 := by omega) (p_2 := by omega)) (fun o V_q hq => ?_)
    obtain ⟨G828, A829, nd2_830, ec2_831, rfl, rfl, hW832, hF833, hQ834, e835, e836, p837, p838, p839, p840, -⟩ := hq
    have hF842 := Fr_tr hF824 hF833 (Fr_sub (by decide)) (Fr_sub (by decide))
    have hP843 := Pf_tr hP825 hQ834 (by omega)
    have sf844 : wE A829 Vs sb (20) (ix) (nd) (nd1) := wE_ag (by omega) (Sg_fr hF833 (by decide)) (Ag_pf hQ834 (by omega)) sf826
    have sf845 : NdM A829 (nd) (nd1) (sy) := NdM_pf hQ834 (by omega) (by omega) sf827
    have sf846 : ND A829 (nd1) (3) (s) (ix) (0) (0) (0) (0) := ND_ag (by omega) (Ag_pf hQ834 (by omega)) p821
    have sf847 : NdM A829 (nd1) (nd1 + 1) (sy) := NdM_pf hQ834 (by omega) (by omega) (p822 (by omega))
    have bnd2_830 : (0 : Int) ≤ nd2_830 ∧ nd2_830 ≤ 6999 := e835 ▸ hW832.1 31
    refine .inr ⟨_, rfl, ?_⟩
    refine jx_ld (pc_q := 180) (l_q := jSto1 L 6 (.int (i32 (nd2_812)))) (st_q := []) rfl rfl ?_
    obtain ⟨L848, eL848⟩ : ∃ q, q = jSto1 L 6 (.int (i32 (nd2_812))) := ⟨_, rfl⟩
    rw [← eL848]
    have gL848_0 : jGet L848 0 = some (.ref 66) := eL848 ▸ jg_ne (by decide) gL_0 rfl
    have gL848_5 : jGet L848 5 = some (.int (i32 (1))) := eL848 ▸ jg_ne (by decide) gL_5 rfl
    have gL848_2 : jGet L848 2 = some (.int (i32 (s))) := eL848 ▸ jg_ne (by decide) gL_2 rfl
    have gL848_4 : jGet L848 4 = some (.int (i32 (ix))) := eL848 ▸ jg_ne (by decide) gL_4 rfl
    have gL848_6 : jGet L848 6 = some (.int (i32 (nd2_812))) := eL848 ▸ jg_eq
    refine jx_ld (pc_q := 181) (l_q := L848) (st_q := [.ref 66]) rfl (jl_aloadn gL848_0) ?_
    refine jx_vr (pc_q := 184) (as := []) (st := []) rfl rfl rfl rfl ⟨rfl, rfl, Nat.le_of_ble_eq_true rfl⟩ rfl rfl (c_next (dd := d) (hd := by omega) (hW := hW832)  (ln := ln) (e_ln := show G828 9 = ln from ((hF833.1 9 rfl).trans ((hF815.1 9 rfl).trans (fx_9)))) (le := le) (e_le := show A829 4 (ln).toNat = le from (congrFun ((hF833.2 4 rfl).trans ((hF815.2 4 rfl).trans (hFx.2 4 rfl))) _).trans (e_le)) (at0 := at1) (e_at0 := show G828 10 = at1 from ((hF833.1 10 rfl).trans ((hF815.1 10 rfl).trans (ex_at1))))    (p_0 := by omega)) (fun o V_q hq => ?_)
    obtain ⟨G849, A850, at2_851, tk2_852, rfl, rfl, hW853, hF854, e855, e856, p857, p858, p859, -⟩ := hq
    have hF861 := Fr_tr hF842 hF854 (Fr_sub (by decide)) (Fr_sub (by decide))
    have hP862 := Pf_f hP843 hF854 (by decide)
    have sf863 : wE A850 Vs sb (20) (ix) (nd) (nd1) := wE_ag (by omega) (Sg_fr hF854 (by decide)) (Ag_fr hF854 (by decide)) sf844
    have sf864 : NdM A850 (nd) (nd1) (sy) := NdM_f hF854 (by decide) sf845
    have sf865 : ND A850 (nd1) (3) (s) (ix) (0) (0) (0) (0) := ND_ag (by omega) (Ag_fr hF854 (by decide)) sf846
    have sf866 : NdM A850 (nd1) (nd1 + 1) (sy) := NdM_f hF854 (by decide) sf847
    have sf867 : ND A850 (nd2_812) (22) (nd1) (0) (0) (0) (0) (0) := ND_ag (by omega) (Ag_fr hF854 (by decide)) p839
    have sf868 : NdM A850 (nd2_812) (nd2_812 + 1) (sy) := NdM_f hF854 (by decide) p840
    have ec869 : ecn A850 (G849 31) = ec2_831 := (ecn_f (hF854.2 15 rfl) (hF854.1 31 rfl)).trans e836
    have bat2_851 : (0 : Int) ≤ at2_851 ∧ at2_851 ≤ 3002 := e855 ▸ hW853.1 10
    have ztk2_852 := tz_b tk2_852
    have btk2_852 : (0 : Int) ≤ tk2_852 ∧ tk2_852 ≤ 5 := e856 ▸ hW853.1 11
    refine .inl ⟨rfl, ?_⟩
    have pz870 : at1 + tz tk2_852 ≤ at2_851 := by omega
    refine jx_ld (pc_q := 185) (l_q := L848) (st_q := [.ref 66]) rfl (jl_aloadn gL848_0) ?_
    refine jr_get (pc_q := 188) (i := 35) (v := .ref 85) rfl rfl (by decide) rfl rfl ?_
    refine jx_ld (pc_q := 190) (l_q := L848) (st_q := [.int (i32 (nd2_812)), .ref 85]) rfl (jl_iload gL848_6) ?_
    refine jx_ld (pc_q := 191) (l_q := L848) (st_q := [.ref 66, .int (i32 (nd2_812)), .ref 85]) rfl (jl_aloadn gL848_0) ?_
    refine jx_vr (pc_q := 194) (as := []) (st := [.int (i32 (nd2_812)), .ref 85]) rfl rfl rfl rfl ⟨rfl, rfl, Nat.le_of_ble_eq_true rfl⟩ rfl rfl (REw_all X 9 (dd := d) (hd := by omega) (hW := hW853)  (ln := ln) (e_ln := show G849 9 = ln from ((hF854.1 9 rfl).trans ((hF833.1 9 rfl).trans ((hF815.1 9 rfl).trans (fx_9))))) (le := le) (e_le := show A850 4 (ln).toNat = le from (congrFun ((hF854.2 4 rfl).trans ((hF833.2 4 rfl).trans ((hF815.2 4 rfl).trans (hFx.2 4 rfl)))) _).trans (e_le)) (at0 := at2_851) (e_at0 := show G849 10 = at2_851 from (e855)) (fk := fk1) (e_fk := show G849 16 = fk1 from ((hF854.1 16 rfl).trans ((hF833.1 16 rfl).trans ((hF815.1 16 rfl).trans (ex_fk1))))) (op0 := op1) (e_op0 := show G849 15 = op1 from ((hF854.1 15 rfl).trans ((hF833.1 15 rfl).trans ((hF815.1 15 rfl).trans (ex_op1))))) (nd := nd2_830) (e_nd := show G849 31 = nd2_830 from ((hF854.1 31 rfl).trans (e835))) (tk0 := tk2_852) (e_tk0 := show G849 11 = tk2_852 from (e856)) (ec := ec2_831) (e_ec := show ecn A850 (G849 31) = ec2_831 from ec869) (sy := sy) (e_sy := show G849 19 = sy from ((hF854.1 19 rfl).trans ((hF833.1 19 rfl).trans ((hF815.1 19 rfl).trans ((hFx.1 19 rfl).trans (e_sy)))))) (i_SV := (SV_ext (((hF854.1 29 rfl).trans ((hF833.1 29 rfl).trans ((hF815.1 29 rfl).trans (hFx.1 29 rfl))))) (((hF854.2 14 rfl).trans ((hF833.2 14 rfl).trans ((hF815.2 14 rfl).trans (hFx.2 14 rfl))))) i_SV))   (p_0 := by omega) (p_1 := by omega) (p_2 := by omega) (p_3 := by omega) (p_4 := by omega) (p_5 := by omega)) (fun o V_q hq => ?_)
    obtain ⟨G871, A872, r873, at2_874, fk2_875, op2_876, nd2_877, tk2_878, ec2_879, rfl, rfl, hW880, hF881, hQ882, b883, e884, e885, e886, e887, e888, e889, p890, p891, p892, p893, p894, p895, q896⟩ := hq
    have hF897 := Fr_tr hF861 hF881 (Fr_sub (by decide)) (Fr_sub (by decide))
    have hP898 := Pf_tr hP862 hQ882 (by omega)
    have sf899 : wE A872 Vs sb (20) (ix) (nd) (nd1) := wE_ag (by omega) (Sg_fr hF881 (by decide)) (Ag_pf hQ882 (by omega)) sf863
    have sf900 : NdM A872 (nd) (nd1) (sy) := NdM_pf hQ882 (by omega) (by omega) sf864
    have sf901 : ND A872 (nd1) (3) (s) (ix) (0) (0) (0) (0) := ND_ag (by omega) (Ag_pf hQ882 (by omega)) sf865
    have sf902 : NdM A872 (nd1) (nd1 + 1) (sy) := NdM_pf hQ882 (by omega) (by omega) sf866
    have sf903 : ND A872 (nd2_812) (22) (nd1) (0) (0) (0) (0) (0) := ND_ag (by omega) (Ag_pf hQ882 (by omega)) sf867
    have sf904 : NdM A872 (nd2_812) (nd2_812 + 1) (sy) := NdM_pf hQ882 (by omega) (by omega) sf868
    have bat2_874 : (0 : Int) ≤ at2_874 ∧ at2_874 ≤ 3002 := e884 ▸ hW880.1 10
    have bfk2_875 : (0 : Int) ≤ fk2_875 ∧ fk2_875 ≤ 6 := e885 ▸ hW880.1 16
    have bop2_876 : (-2147483648 : Int) ≤ op2_876 ∧ op2_876 ≤ 2147483647 := e886 ▸ hW880.1 15
    have bnd2_877 : (0 : Int) ≤ nd2_877 ∧ nd2_877 ≤ 6999 := e887 ▸ hW880.1 31
    have ztk2_878 := tz_b tk2_878
    have btk2_878 : (0 : Int) ≤ tk2_878 ∧ tk2_878 ≤ 5 := e888 ▸ hW880.1 11
    refine .inr ⟨_, rfl, ?_⟩
    rcases q896 with ⟨a905, a906, a907, a908, a909, a910⟩ | ⟨a911, a912, a913⟩ | ⟨a914, a915, a916, a917, a918, a919, a920, a921⟩
    · have _q : True := trivial
      exfalso
      omega
    · have _q : True := trivial
      refine jr_st (pc_q := 195) (i := 18) (m := 7000) (z := nd2_812) (y := r873) rfl (by decide) rfl (by decide) (by omega) (by omega) rfl ?_
      have hW923 : Wk G871 (uA A872 18 (nd2_812).toNat (r873)) := Wk_a hW880 (show (-2147483648 : Int) ≤ r873 by omega) (show r873 ≤ (2147483647 : Int) by omega)
      have hF924 := Fr_a (z := r873) (k := 18) (n := (nd2_812).toNat) hF897 (by decide)
      obtain ⟨A922, eA922⟩ : ∃ q, q = uA A872 18 (nd2_812).toNat (r873) := ⟨_, rfl⟩
      rw [← eA922]
      rw [← eA922] at hW923 hF924
      have q925 : A922 18 (nd2_812).toNat = r873 := by rw [eA922]; exact uA_eq
      have hP926 : Pf nd A A922 := eA922 ▸ Pf_a hP898 (z := nd2_812) (by omega) (by omega)
      have sf927 : wE A922 Vs sb (20) (ix) (nd) (nd1) := wE_ag (by omega) (Sg_ne eA922 rfl) (Ag_st eA922 (by omega) (by omega)) sf899
      have sf928 : NdM A922 (nd) (nd1) (sy) := NdM_18 eA922 sf903.1 (by decide) sf900
      have sf929 : ND A922 (nd1) (3) (s) (ix) (0) (0) (0) (0) := ND_ag (by omega) (Ag_st eA922 (by omega) (by omega)) sf901
      have sf930 : NdM A922 (nd1) (nd1 + 1) (sy) := NdM_18 eA922 sf903.1 (by decide) sf902
      have sf931 : ND A922 (nd2_812) (22) (nd1) (r873) (0) (0) (0) (0) := ND_b eA922 sf903
      have sf932 : NdM A922 (nd2_812) (nd2_812 + 1) (sy) := NdM_18 eA922 sf903.1 (by decide) sf904
      have ec933 : ecn A922 (G871 31) = ec2_879 := (ecn_e ((congrFun eA922 15).trans (uA_ne (by decide)))).trans e889
      refine jx_ld (pc_q := 196) (l_q := L848) (st_q := [.ref 66]) rfl (jl_aloadn gL848_0) ?_
      refine jx_vr (pc_q := 199) (as := []) (st := []) rfl rfl rfl rfl ⟨rfl, rfl, Nat.le_of_ble_eq_true rfl⟩ rfl rfl (c_endLine (dd := d) (hd := by omega) (hW := hW923)  (ln := ln) (e_ln := show G871 9 = ln from ((hF881.1 9 rfl).trans ((hF854.1 9 rfl).trans ((hF833.1 9 rfl).trans ((hF815.1 9 rfl).trans (fx_9)))))) (li := li) (e_li := show G871 3 = li from ((hF881.1 3 rfl).trans ((hF854.1 3 rfl).trans ((hF833.1 3 rfl).trans ((hF815.1 3 rfl).trans ((hFx.1 3 rfl).trans (e_li))))))) (fk := fk2_875) (e_fk := show G871 16 = fk2_875 from (e885)) (tk0 := tk2_878) (e_tk0 := show G871 11 = tk2_878 from (e888))    (p_0 := by omega)) (fun o V_q hq => ?_)
      obtain ⟨G934, A935, ln2_936, fk2_937, rfl, rfl, hW938, hF939, e940, e941, q942⟩ := hq
      have hF943 := Fr_tr hF924 hF939 (Fr_sub (by decide)) (Fr_sub (by decide))
      have hP944 := Pf_f hP926 hF939 (by decide)
      have sf945 : wE A935 Vs sb (20) (ix) (nd) (nd1) := wE_ag (by omega) (Sg_fr hF939 (by decide)) (Ag_fr hF939 (by decide)) sf927
      have sf946 : NdM A935 (nd) (nd1) (sy) := NdM_f hF939 (by decide) sf928
      have sf947 : ND A935 (nd1) (3) (s) (ix) (0) (0) (0) (0) := ND_ag (by omega) (Ag_fr hF939 (by decide)) sf929
      have sf948 : NdM A935 (nd1) (nd1 + 1) (sy) := NdM_f hF939 (by decide) sf930
      have sf949 : ND A935 (nd2_812) (22) (nd1) (r873) (0) (0) (0) (0) := ND_ag (by omega) (Ag_fr hF939 (by decide)) sf931
      have sf950 : NdM A935 (nd2_812) (nd2_812 + 1) (sy) := NdM_f hF939 (by decide) sf932
      have ec951 : ecn A935 (G934 31) = ec2_879 := (ecn_f (hF939.2 15 rfl) (hF939.1 31 rfl)).trans ec933
      have bln2_936 : (0 : Int) ≤ ln2_936 ∧ ln2_936 ≤ 3000 := e940 ▸ hW938.1 9
      have bfk2_937 : (0 : Int) ≤ fk2_937 ∧ fk2_937 ≤ 6 := e941 ▸ hW938.1 16
      refine .inl ⟨rfl, ?_⟩
      rcases q942 with ⟨a952, a953, a954, a955, a956⟩ | ⟨a957, a958⟩
      · have _q : True := trivial
        exfalso
        omega
      · have _q : True := trivial
        refine jx_ld (pc_q := 201) (l_q := L848) (st_q := [.int (i32 (nd2_812))]) rfl (jl_iload gL848_6) ?_
        refine jx_rt (v := some (.int (i32 (nd2_812)))) rfl rfl rfl rfl rfl rfl ?_
        exact ⟨_, _, _, at2_874, fk2_937, nd2_877, ln2_936, ec2_879, rfl, rfl, hW938, hF943, hP944, by omega, ((hF939.1 10 rfl).trans (e884)), (e941), ((hF939.1 31 rfl).trans (e887)), (e940), ec951, by omega, by omega, by omega, by omega, by omega, by first | exact Or.inl (⟨by omega, by omega, by omega⟩)⟩
    · have _q : True := trivial
      refine jr_st (pc_q := 195) (i := 18) (m := 7000) (z := nd2_812) (y := r873) rfl (by decide) rfl (by decide) (by omega) (by omega) rfl ?_
      have hW960 : Wk G871 (uA A872 18 (nd2_812).toNat (r873)) := Wk_a hW880 (show (-2147483648 : Int) ≤ r873 by omega) (show r873 ≤ (2147483647 : Int) by omega)
      have hF961 := Fr_a (z := r873) (k := 18) (n := (nd2_812).toNat) hF897 (by decide)
      obtain ⟨A959, eA959⟩ : ∃ q, q = uA A872 18 (nd2_812).toNat (r873) := ⟨_, rfl⟩
      rw [← eA959]
      rw [← eA959] at hW960 hF961
      have q962 : A959 18 (nd2_812).toNat = r873 := by rw [eA959]; exact uA_eq
      have hP963 : Pf nd A A959 := eA959 ▸ Pf_a hP898 (z := nd2_812) (by omega) (by omega)
      have sf964 : wE A959 Vs sb (20) (ix) (nd) (nd1) := wE_ag (by omega) (Sg_ne eA959 rfl) (Ag_st eA959 (by omega) (by omega)) sf899
      have sf965 : NdM A959 (nd) (nd1) (sy) := NdM_18 eA959 sf903.1 (by decide) sf900
      have sf966 : ND A959 (nd1) (3) (s) (ix) (0) (0) (0) (0) := ND_ag (by omega) (Ag_st eA959 (by omega) (by omega)) sf901
      have sf967 : NdM A959 (nd1) (nd1 + 1) (sy) := NdM_18 eA959 sf903.1 (by decide) sf902
      have sf968 : ND A959 (nd2_812) (22) (nd1) (r873) (0) (0) (0) (0) := ND_b eA959 sf903
      have sf969 : NdM A959 (nd2_812) (nd2_812 + 1) (sy) := NdM_18 eA959 sf903.1 (by decide) sf904
      have sf970 : wE A959 Vs sb (2 * 9 + 2) (r873) (nd2_830) (nd2_877) := wE_ag (by omega) (Sg_ne eA959 rfl) (Ag_st eA959 (by omega) (by omega)) a917
      have sf971 : NdM A959 (nd2_830) (nd2_877) (sy) := NdM_18 eA959 sf903.1 (by decide) a919
      have ec972 : ecn A959 (G871 31) = ec2_879 := (ecn_e ((congrFun eA959 15).trans (uA_ne (by decide)))).trans e889
      refine jx_ld (pc_q := 196) (l_q := L848) (st_q := [.ref 66]) rfl (jl_aloadn gL848_0) ?_
      refine jx_vr (pc_q := 199) (as := []) (st := []) rfl rfl rfl rfl ⟨rfl, rfl, Nat.le_of_ble_eq_true rfl⟩ rfl rfl (c_endLine (dd := d) (hd := by omega) (hW := hW960)  (ln := ln) (e_ln := show G871 9 = ln from ((hF881.1 9 rfl).trans ((hF854.1 9 rfl).trans ((hF833.1 9 rfl).trans ((hF815.1 9 rfl).trans (fx_9)))))) (li := li) (e_li := show G871 3 = li from ((hF881.1 3 rfl).trans ((hF854.1 3 rfl).trans ((hF833.1 3 rfl).trans ((hF815.1 3 rfl).trans ((hFx.1 3 rfl).trans (e_li))))))) (fk := fk2_875) (e_fk := show G871 16 = fk2_875 from (e885)) (tk0 := tk2_878) (e_tk0 := show G871 11 = tk2_878 from (e888))    (p_0 := by omega)) (fun o V_q hq => ?_)
      obtain ⟨G973, A974, ln2_975, fk2_976, rfl, rfl, hW977, hF978, e979, e980, q981⟩ := hq
      have hF982 := Fr_tr hF961 hF978 (Fr_sub (by decide)) (Fr_sub (by decide))
      have hP983 := Pf_f hP963 hF978 (by decide)
      have sf984 : wE A974 Vs sb (20) (ix) (nd) (nd1) := wE_ag (by omega) (Sg_fr hF978 (by decide)) (Ag_fr hF978 (by decide)) sf964
      have sf985 : NdM A974 (nd) (nd1) (sy) := NdM_f hF978 (by decide) sf965
      have sf986 : ND A974 (nd1) (3) (s) (ix) (0) (0) (0) (0) := ND_ag (by omega) (Ag_fr hF978 (by decide)) sf966
      have sf987 : NdM A974 (nd1) (nd1 + 1) (sy) := NdM_f hF978 (by decide) sf967
      have sf988 : ND A974 (nd2_812) (22) (nd1) (r873) (0) (0) (0) (0) := ND_ag (by omega) (Ag_fr hF978 (by decide)) sf968
      have sf989 : NdM A974 (nd2_812) (nd2_812 + 1) (sy) := NdM_f hF978 (by decide) sf969
      have sf990 : wE A974 Vs sb (2 * 9 + 2) (r873) (nd2_830) (nd2_877) := wE_ag (by omega) (Sg_fr hF978 (by decide)) (Ag_fr hF978 (by decide)) sf970
      have sf991 : NdM A974 (nd2_830) (nd2_877) (sy) := NdM_f hF978 (by decide) sf971
      have ec992 : ecn A974 (G973 31) = ec2_879 := (ecn_f (hF978.2 15 rfl) (hF978.1 31 rfl)).trans ec972
      have bln2_975 : (0 : Int) ≤ ln2_975 ∧ ln2_975 ≤ 3000 := e979 ▸ hW977.1 9
      have bfk2_976 : (0 : Int) ≤ fk2_976 ∧ fk2_976 ≤ 6 := e980 ▸ hW977.1 16
      refine .inl ⟨rfl, ?_⟩
      rcases q981 with ⟨a993, a994, a995, a996, a997⟩ | ⟨a998, a999⟩
      · have _q : True := trivial
        refine jx_ld (pc_q := 201) (l_q := L848) (st_q := [.int (i32 (nd2_812))]) rfl (jl_iload gL848_6) ?_
        refine jx_rt (v := some (.int (i32 (nd2_812)))) rfl rfl rfl rfl rfl rfl ?_
        exact ⟨_, _, _, at2_874, fk2_976, nd2_877, ln2_975, ec2_879, rfl, rfl, hW977, hF982, hP983, by omega, ((hF978.1 10 rfl).trans (e884)), (e980), ((hF978.1 31 rfl).trans (e887)), (e979), ec992, by omega, by omega, by omega, by omega, by omega, by first | exact Or.inr ((⟨by omega, by omega, by omega, by omega, by omega, (wL_set sf988 (by omega) (by omega) (wR_elem sf986 (by omega) (by omega) iv_8 (kq (P := kRow (0)) (show A974 7 (s).toNat = ks from (congrFun ((hF978.2 7 rfl).trans (((congrFun eA959 7).trans (uA_ne (by decide))).trans ((hF881.2 7 rfl).trans ((hF854.2 7 rfl).trans ((hF833.2 7 rfl).trans (hF815.2 7 rfl)))))) _).trans (ex_ks)) (by first | exact .inl ⟨by omega, iv_9⟩ | exact .inr ⟨by omega, by omega⟩)) (wE_mono (by omega) (by omega) (by omega) sf984)) (wE_mono (by omega) (by omega) (by omega) sf990)), (NX_nd sf988), by omega, (NdM_w (NdM_app (sy := sy) sf985 (NdM_app (sy := sy) sf987 (NdM_app (sy := sy) sf989 sf991 (by omega) (by omega) (by omega)) (by omega) (by omega) (by omega)) (by omega) (by omega) (by omega)) (by omega) (by omega) (by omega))⟩))⟩
      · have _q : True := trivial
        refine jx_ld (pc_q := 201) (l_q := L848) (st_q := [.int (i32 (nd2_812))]) rfl (jl_iload gL848_6) ?_
        refine jx_rt (v := some (.int (i32 (nd2_812)))) rfl rfl rfl rfl rfl rfl ?_
        exact ⟨_, _, _, at2_874, fk2_976, nd2_877, ln2_975, ec2_879, rfl, rfl, hW977, hF982, hP983, by omega, ((hF978.1 10 rfl).trans (e884)), (e980), ((hF978.1 31 rfl).trans (e887)), (e979), ec992, by omega, by omega, by omega, by omega, by omega, by first | exact Or.inl (⟨by omega, by omega, by omega⟩)⟩
set_option maxRecDepth 20000 in
set_option maxHeartbeats 4000000 in
theorem c_readNamed_w_at_150_0 {X : jX} {d : Nat} {Vs : Nat → Prop} {sb pb : Int} {c0 c1 : jC} {G : Nat → Int} {A : Nat → Nat → Int} {T : jH} {ln le at0 fk op0 nd tk0 li ec sy : Int} (hd : 72 ≤ d + 1) (hW : Wk G A) (e_ln : G 9 = ln) (e_le : A 4 (ln).toNat = le) (e_at0 : G 10 = at0) (e_fk : G 16 = fk) (e_op0 : G 15 = op0) (e_nd : G 31 = nd) (e_tk0 : G 11 = tk0) (e_li : G 3 = li) (e_ec : ecn A (G 31) = ec) (e_sy : G 19 = sy) (i_SV : SV Vs sb G A) (i_PQ : PQ Vs sb pb G A) (p_0 : 0 ≤ op0 ∧ op0 ≤ 8) (p_1 : fk = 0) (p_2 : nd ≤ 2 * at0 - tz tk0 + 42) (p_3 : at0 ≤ le) (p_4 : ln < li) (p_5 : tk0 = 1) : ∀ (L : jL) (Gx : Nat → Int) (Ax : Nat → Nat → Int) (s at1 tk1 fk1 nd1 op1 ks ec1 : Int), jGet L 0 = some (.ref 66) → jGet L 5 = some (.int (i32 (0))) → jGet L 4 = some (.int (i32 (0))) → jGet L 2 = some (.int (i32 s)) → Wk Gx Ax → Fr [9, 10, 11, 12, 13, 14, 15, 16, 17, 18, 31] [15, 16, 17, 18, 19, 20, 21, 22, 24, 28] G A Gx Ax → Pf nd A Ax → Gx 10 = at1 → Gx 11 = tk1 → Gx 16 = fk1 → Gx 31 = nd1 → Gx 15 = op1 → Ax 7 (s).toNat = ks → ecn Ax (Gx 31) = ec1 → Gx 9 = ln → ((-2147483648 : Int) ≤ s ∧ s ≤ 2147483647) → (at0 ≤ at1) → (at1 ≤ le) → (nd ≤ nd1) → (op1 = op0) → (fk1 = 0) → (nd1 - nd ≤ (2 * at1 - tz tk1) - (2 * at0 - tz tk0) - 1) → (tz tk1 = 1) → (0 ≤ s ∧ s ≤ 201) → (SY Vs sb (s)) → (kVar (ks)) → (nd1 - nd + 5 * (ec1 - ec) ≤ (2 * at1 - tz tk1) - (2 * at0 - tz tk0) - 1 - tz tk1) → (NdM Ax (nd) (nd1) (sy)) → wj X d jm304 (150, L, [], rV c0 c1 Gx Ax T) (fun o V_q => ∃ (G_q : Nat → Int) (A_q : Nat → Nat → Int) (r : Int) (at2 : Int) (fk2 : Int) (nd2 : Int) (ln2 : Int) (ec2 : Int), V_q = rV c0 c1 G_q A_q T ∧ o = .inl (some (.int (i32 r))) ∧ Wk G_q A_q ∧ Fr [9, 10, 11, 12, 13, 14, 15, 16, 17, 18, 31] [15, 16, 17, 18, 19, 20, 21, 22, 24, 28] G A G_q A_q ∧ Pf nd A A_q ∧ ((-2147483648 : Int) ≤ r ∧ r ≤ 2147483647) ∧ G_q 10 = at2 ∧ G_q 16 = fk2 ∧ G_q 31 = nd2 ∧ G_q 9 = ln2 ∧ ecn A_q (G_q 31) = ec2 ∧ (at0 ≤ at2) ∧ (at2 ≤ le) ∧ (nd ≤ nd2) ∧ (0 ≤ r) ∧ (r ≤ nd2) ∧ (((1 ≤ fk2) ∧ (ln2 = ln) ∧ (nd2 - nd ≤ 2 * at2 - 2 * at0 + 8)) ∨ ((fk2 = 0) ∧ (ln2 = ln + 1) ∧ (nd2 - nd ≤ 2 * at2 - (2 * at0 - tz tk0) + 0) ∧ (nd ≤ r) ∧ (r < nd2) ∧ (wL A_q sb pb Vs (r) (nd) (nd2)) ∧ (NX A_q (r)) ∧ (nd2 - nd + 5 * (ec2 - ec) ≤ 2 * at2 - (2 * at0 - tz tk0) + 0) ∧ (NdM A_q (nd) (nd2) (sy))))) := by
  have hF0 : Fr [9, 10, 11, 12, 13, 14, 15, 16, 17, 18, 31] [15, 16, 17, 18, 19, 20, 21, 22, 24, 28] G A G A := Fr_rf
  have hP0 : Pf nd A A := Pf_rf
  have b_ln : (0 : Int) ≤ ln ∧ ln ≤ 3000 := e_ln ▸ hW.1 9
  have b_le : (0 : Int) ≤ le ∧ le ≤ 3000 := e_le ▸ hW.2 4 _
  have b_at0 : (0 : Int) ≤ at0 ∧ at0 ≤ 3002 := e_at0 ▸ hW.1 10
  have b_fk : (0 : Int) ≤ fk ∧ fk ≤ 6 := e_fk ▸ hW.1 16
  have b_op0 : (-2147483648 : Int) ≤ op0 ∧ op0 ≤ 2147483647 := e_op0 ▸ hW.1 15
  have b_nd : (0 : Int) ≤ nd ∧ nd ≤ 6999 := e_nd ▸ hW.1 31
  have z_tk0 := tz_f tk0
  have b_tk0 : (0 : Int) ≤ tk0 ∧ tk0 ≤ 5 := e_tk0 ▸ hW.1 11
  have b_li : (0 : Int) ≤ li ∧ li ≤ 3000 := e_li ▸ hW.1 3
  have b_sy : (0 : Int) ≤ sy ∧ sy ≤ 202 := e_sy ▸ hW.1 19
  intro L Gx Ax s at1 tk1 fk1 nd1 op1 ks ec1 gL_0 gL_5 gL_4 gL_2 hWx hFx hPx ex_at1 ex_tk1 ex_fk1 ex_nd1 ex_op1 ex_ks ex_ec1 fx_9 rx_s iv_0 iv_1 iv_2 iv_3 iv_4 iv_5 iv_6 iv_7 iv_8 iv_9 iv_10 iv_11
  have b_at1 : (0 : Int) ≤ at1 ∧ at1 ≤ 3002 := ex_at1 ▸ hWx.1 10
  have z_tk1 := tz_f tk1
  have b_tk1 : (0 : Int) ≤ tk1 ∧ tk1 ≤ 5 := ex_tk1 ▸ hWx.1 11
  have b_fk1 : (0 : Int) ≤ fk1 ∧ fk1 ≤ 6 := ex_fk1 ▸ hWx.1 16
  have b_nd1 : (0 : Int) ≤ nd1 ∧ nd1 ≤ 6999 := ex_nd1 ▸ hWx.1 31
  have b_op1 : (-2147483648 : Int) ≤ op1 ∧ op1 ≤ 2147483647 := ex_op1 ▸ hWx.1 15
  have b_ks : (0 : Int) ≤ ks ∧ ks ≤ 14 := ex_ks ▸ hWx.2 7 _
  refine jx_ld (pc_q := 151) (l_q := L) (st_q := [.ref 66]) rfl (jl_aloadn gL_0) ?_
  refine jx_ar (pc_q := 153) (st_q := [.int (i32 (22)), .ref 66]) rfl rfl rfl rfl ?_
  refine jx_ld (pc_q := 154) (l_q := L) (st_q := [.ref 66, .int (i32 (22)), .ref 66]) rfl (jl_aloadn gL_0) ?_
  refine jx_ld (pc_q := 156) (l_q := L) (st_q := [.int (i32 (0)), .ref 66, .int (i32 (22)), .ref 66]) rfl (jl_iload gL_5) ?_
  refine jx_if_eq (pc_q := 159) (tg := 163) rfl rfl rfl (by decide) (by decide) (fun h1000 => ?_) (fun h1000 => ?_)
  · have _q := h1000
    refine jx_ar (pc_q := 164) (st_q := [.int (i32 (2)), .ref 66, .int (i32 (22)), .ref 66]) rfl rfl rfl rfl ?_
    refine jx_ld (pc_q := 165) (l_q := L) (st_q := [.int (i32 (s)), .int (i32 (2)), .ref 66, .int (i32 (22)), .ref 66]) rfl (jl_iloadn gL_2) ?_
    refine jx_ld (pc_q := 167) (l_q := L) (st_q := [.int (i32 (0)), .int (i32 (s)), .int (i32 (2)), .ref 66, .int (i32 (22)), .ref 66]) rfl (jl_iload gL_4) ?_
    refine jx_ar (pc_q := 168) (st_q := [.int (i32 (0)), .int (i32 (0)), .int (i32 (s)), .int (i32 (2)), .ref 66, .int (i32 (22)), .ref 66]) rfl rfl rfl rfl ?_
    refine jx_ar (pc_q := 169) (st_q := [.int (i32 (0)), .int (i32 (0)), .int (i32 (0)), .int (i32 (s)), .int (i32 (2)), .ref 66, .int (i32 (22)), .ref 66]) rfl rfl rfl rfl ?_
    refine jx_vr (pc_q := 172) (as := [.int (i32 (2)), .int (i32 (s)), .int (i32 (0)), .int (i32 (0)), .int (i32 (0))]) (st := [.int (i32 (22)), .ref 66]) rfl rfl rfl rfl ⟨rfl, rfl, Nat.le_of_ble_eq_true rfl⟩ rfl rfl (c_node_o (dd := d) (hd := by omega) (hW := hWx) (kind := 2) (a := s) (b := 0) (c := 0) (e := 0) (nd := nd1) (e_nd := show Gx 31 = nd1 from (ex_nd1)) (ec := ec1) (e_ec := show ecn Ax (Gx 31) = ec1 from ex_ec1) (sy := sy) (e_sy := show Gx 19 = sy from ((hFx.1 19 rfl).trans (e_sy)))  (h_kind := ⟨(by decide), (by decide)⟩) (h_a := ⟨(Int.le_trans (by decide : (-2147483648 : Int) ≤ -2147483648) rx_s.1), (Int.le_trans rx_s.2 (by decide : (2147483647 : Int) ≤ 2147483647))⟩) (h_b := ⟨(by decide), (by decide)⟩) (h_c := ⟨(by decide), (by decide)⟩) (h_e := ⟨(by decide), (by decide)⟩)  (p_0 := by omega) (p_1 := by omega) (p_2 := by omega)) (fun o V_q hq => ?_)
    obtain ⟨G1001, A1002, nd2_1003, ec2_1004, rfl, rfl, hW1005, hF1006, hQ1007, e1008, e1009, p1010, p1011, p1012, p1013, -⟩ := hq
    have hF1015 := Fr_tr hFx hF1006 (Fr_sub (by decide)) (Fr_sub (by decide))
    have hP1016 := Pf_tr hPx hQ1007 (by omega)
    have sf1017 : NdM A1002 (nd) (nd1) (sy) := NdM_pf hQ1007 (by omega) (by omega) iv_11
    have bnd2_1003 : (0 : Int) ≤ nd2_1003 ∧ nd2_1003 ≤ 6999 := e1008 ▸ hW1005.1 31
    refine .inr ⟨_, rfl, ?_⟩
    refine jx_ar (pc_q := 173) (st_q := [.int (i32 (0)), .int (i32 (nd1)), .int (i32 (22)), .ref 66]) rfl rfl rfl rfl ?_
    refine jx_ar (pc_q := 174) (st_q := [.int (i32 (0)), .int (i32 (0)), .int (i32 (nd1)), .int (i32 (22)), .ref 66]) rfl rfl rfl rfl ?_
    refine jx_ar (pc_q := 175) (st_q := [.int (i32 (0)), .int (i32 (0)), .int (i32 (0)), .int (i32 (nd1)), .int (i32 (22)), .ref 66]) rfl rfl rfl rfl ?_
    refine jx_vr (pc_q := 178) (as := [.int (i32 (22)), .int (i32 (nd1)), .int (i32 (0)), .int (i32 (0)), .int (i32 (0))]) (st := []) rfl rfl rfl rfl ⟨rfl, rfl, Nat.le_of_ble_eq_true rfl⟩ rfl rfl (c_node_o (dd := d) (hd := by omega) (hW := hW1005) (kind := 22) (a := nd1) (b := 0) (c := 0) (e := 0) (nd := nd2_1003) (e_nd := show G1001 31 = nd2_1003 from (e1008)) (ec := ec2_1004) (e_ec := show ecn A1002 (G1001 31) = ec2_1004 from e1009) (sy := sy) (e_sy := show G1001 19 = sy from ((hF1006.1 19 rfl).trans ((hFx.1 19 rfl).trans (e_sy))))  (h_kind := ⟨(by decide), (by decide)⟩) (h_a := ⟨(Int.le_trans (by decide : (-2147483648 : Int) ≤ 0) b_nd1.1), (Int.le_trans b_nd1.2 (by decide : (6999 : Int) ≤ 2147483647))⟩) (h_b := ⟨(by decide), (by decide)⟩) (h_c := ⟨(by decide), (by decide)⟩) (h_e := ⟨(by decide), (by decide)⟩)  (p_0 := by omega) (p_1 := by omega) (p_2 := by omega)) (fun o V_q hq => ?_)
    obtain ⟨G1018, A1019, nd2_1020, ec2_1021, rfl, rfl, hW1022, hF1023, hQ1024, e1025, e1026, p1027, p1028, p1029, p1030, -⟩ := hq
    have hF1032 := Fr_tr hF1015 hF1023 (Fr_sub (by decide)) (Fr_sub (by decide))
    have hP1033 := Pf_tr hP1016 hQ1024 (by omega)
    have sf1034 : NdM A1019 (nd) (nd1) (sy) := NdM_pf hQ1024 (by omega) (by omega) sf1017
    have sf1035 : ND A1019 (nd1) (2) (s) (0) (0) (0) (0) (0) := ND_ag (by omega) (Ag_pf hQ1024 (by omega)) p1012
    have sf1036 : NdM A1019 (nd1) (nd1 + 1) (sy) := NdM_pf hQ1024 (by omega) (by omega) p1013
    have bnd2_1020 : (0 : Int) ≤ nd2_1020 ∧ nd2_1020 ≤ 6999 := e1025 ▸ hW1022.1 31
    refine .inr ⟨_, rfl, ?_⟩
    refine jx_ld (pc_q := 180) (l_q := jSto1 L 6 (.int (i32 (nd2_1003)))) (st_q := []) rfl rfl ?_
    obtain ⟨L1037, eL1037⟩ : ∃ q, q = jSto1 L 6 (.int (i32 (nd2_1003))) := ⟨_, rfl⟩
    rw [← eL1037]
    have gL1037_0 : jGet L1037 0 = some (.ref 66) := eL1037 ▸ jg_ne (by decide) gL_0 rfl
    have gL1037_5 : jGet L1037 5 = some (.int (i32 (0))) := eL1037 ▸ jg_ne (by decide) gL_5 rfl
    have gL1037_4 : jGet L1037 4 = some (.int (i32 (0))) := eL1037 ▸ jg_ne (by decide) gL_4 rfl
    have gL1037_2 : jGet L1037 2 = some (.int (i32 (s))) := eL1037 ▸ jg_ne (by decide) gL_2 rfl
    have gL1037_6 : jGet L1037 6 = some (.int (i32 (nd2_1003))) := eL1037 ▸ jg_eq
    refine jx_ld (pc_q := 181) (l_q := L1037) (st_q := [.ref 66]) rfl (jl_aloadn gL1037_0) ?_
    refine jx_vr (pc_q := 184) (as := []) (st := []) rfl rfl rfl rfl ⟨rfl, rfl, Nat.le_of_ble_eq_true rfl⟩ rfl rfl (c_next (dd := d) (hd := by omega) (hW := hW1022)  (ln := ln) (e_ln := show G1018 9 = ln from ((hF1023.1 9 rfl).trans ((hF1006.1 9 rfl).trans (fx_9)))) (le := le) (e_le := show A1019 4 (ln).toNat = le from (congrFun ((hF1023.2 4 rfl).trans ((hF1006.2 4 rfl).trans (hFx.2 4 rfl))) _).trans (e_le)) (at0 := at1) (e_at0 := show G1018 10 = at1 from ((hF1023.1 10 rfl).trans ((hF1006.1 10 rfl).trans (ex_at1))))    (p_0 := by omega)) (fun o V_q hq => ?_)
    obtain ⟨G1038, A1039, at2_1040, tk2_1041, rfl, rfl, hW1042, hF1043, e1044, e1045, p1046, p1047, p1048, -⟩ := hq
    have hF1050 := Fr_tr hF1032 hF1043 (Fr_sub (by decide)) (Fr_sub (by decide))
    have hP1051 := Pf_f hP1033 hF1043 (by decide)
    have sf1052 : NdM A1039 (nd) (nd1) (sy) := NdM_f hF1043 (by decide) sf1034
    have sf1053 : ND A1039 (nd1) (2) (s) (0) (0) (0) (0) (0) := ND_ag (by omega) (Ag_fr hF1043 (by decide)) sf1035
    have sf1054 : NdM A1039 (nd1) (nd1 + 1) (sy) := NdM_f hF1043 (by decide) sf1036
    have sf1055 : ND A1039 (nd2_1003) (22) (nd1) (0) (0) (0) (0) (0) := ND_ag (by omega) (Ag_fr hF1043 (by decide)) p1029
    have sf1056 : NdM A1039 (nd2_1003) (nd2_1003 + 1) (sy) := NdM_f hF1043 (by decide) p1030
    have ec1057 : ecn A1039 (G1038 31) = ec2_1021 := (ecn_f (hF1043.2 15 rfl) (hF1043.1 31 rfl)).trans e1026
    have bat2_1040 : (0 : Int) ≤ at2_1040 ∧ at2_1040 ≤ 3002 := e1044 ▸ hW1042.1 10
    have ztk2_1041 := tz_b tk2_1041
    have btk2_1041 : (0 : Int) ≤ tk2_1041 ∧ tk2_1041 ≤ 5 := e1045 ▸ hW1042.1 11
    refine .inl ⟨rfl, ?_⟩
    have pz1058 : at1 + tz tk2_1041 ≤ at2_1040 := by omega
    refine jx_ld (pc_q := 185) (l_q := L1037) (st_q := [.ref 66]) rfl (jl_aloadn gL1037_0) ?_
    refine jr_get (pc_q := 188) (i := 35) (v := .ref 85) rfl rfl (by decide) rfl rfl ?_
    refine jx_ld (pc_q := 190) (l_q := L1037) (st_q := [.int (i32 (nd2_1003)), .ref 85]) rfl (jl_iload gL1037_6) ?_
    refine jx_ld (pc_q := 191) (l_q := L1037) (st_q := [.ref 66, .int (i32 (nd2_1003)), .ref 85]) rfl (jl_aloadn gL1037_0) ?_
    refine jx_vr (pc_q := 194) (as := []) (st := [.int (i32 (nd2_1003)), .ref 85]) rfl rfl rfl rfl ⟨rfl, rfl, Nat.le_of_ble_eq_true rfl⟩ rfl rfl (REw_all X 9 (dd := d) (hd := by omega) (hW := hW1042)  (ln := ln) (e_ln := show G1038 9 = ln from ((hF1043.1 9 rfl).trans ((hF1023.1 9 rfl).trans ((hF1006.1 9 rfl).trans (fx_9))))) (le := le) (e_le := show A1039 4 (ln).toNat = le from (congrFun ((hF1043.2 4 rfl).trans ((hF1023.2 4 rfl).trans ((hF1006.2 4 rfl).trans (hFx.2 4 rfl)))) _).trans (e_le)) (at0 := at2_1040) (e_at0 := show G1038 10 = at2_1040 from (e1044)) (fk := fk1) (e_fk := show G1038 16 = fk1 from ((hF1043.1 16 rfl).trans ((hF1023.1 16 rfl).trans ((hF1006.1 16 rfl).trans (ex_fk1))))) (op0 := op1) (e_op0 := show G1038 15 = op1 from ((hF1043.1 15 rfl).trans ((hF1023.1 15 rfl).trans ((hF1006.1 15 rfl).trans (ex_op1))))) (nd := nd2_1020) (e_nd := show G1038 31 = nd2_1020 from ((hF1043.1 31 rfl).trans (e1025))) (tk0 := tk2_1041) (e_tk0 := show G1038 11 = tk2_1041 from (e1045)) (ec := ec2_1021) (e_ec := show ecn A1039 (G1038 31) = ec2_1021 from ec1057) (sy := sy) (e_sy := show G1038 19 = sy from ((hF1043.1 19 rfl).trans ((hF1023.1 19 rfl).trans ((hF1006.1 19 rfl).trans ((hFx.1 19 rfl).trans (e_sy)))))) (i_SV := (SV_ext (((hF1043.1 29 rfl).trans ((hF1023.1 29 rfl).trans ((hF1006.1 29 rfl).trans (hFx.1 29 rfl))))) (((hF1043.2 14 rfl).trans ((hF1023.2 14 rfl).trans ((hF1006.2 14 rfl).trans (hFx.2 14 rfl))))) i_SV))   (p_0 := by omega) (p_1 := by omega) (p_2 := by omega) (p_3 := by omega) (p_4 := by omega) (p_5 := by omega)) (fun o V_q hq => ?_)
    obtain ⟨G1059, A1060, r1061, at2_1062, fk2_1063, op2_1064, nd2_1065, tk2_1066, ec2_1067, rfl, rfl, hW1068, hF1069, hQ1070, b1071, e1072, e1073, e1074, e1075, e1076, e1077, p1078, p1079, p1080, p1081, p1082, p1083, q1084⟩ := hq
    have hF1085 := Fr_tr hF1050 hF1069 (Fr_sub (by decide)) (Fr_sub (by decide))
    have hP1086 := Pf_tr hP1051 hQ1070 (by omega)
    have sf1087 : NdM A1060 (nd) (nd1) (sy) := NdM_pf hQ1070 (by omega) (by omega) sf1052
    have sf1088 : ND A1060 (nd1) (2) (s) (0) (0) (0) (0) (0) := ND_ag (by omega) (Ag_pf hQ1070 (by omega)) sf1053
    have sf1089 : NdM A1060 (nd1) (nd1 + 1) (sy) := NdM_pf hQ1070 (by omega) (by omega) sf1054
    have sf1090 : ND A1060 (nd2_1003) (22) (nd1) (0) (0) (0) (0) (0) := ND_ag (by omega) (Ag_pf hQ1070 (by omega)) sf1055
    have sf1091 : NdM A1060 (nd2_1003) (nd2_1003 + 1) (sy) := NdM_pf hQ1070 (by omega) (by omega) sf1056
    have bat2_1062 : (0 : Int) ≤ at2_1062 ∧ at2_1062 ≤ 3002 := e1072 ▸ hW1068.1 10
    have bfk2_1063 : (0 : Int) ≤ fk2_1063 ∧ fk2_1063 ≤ 6 := e1073 ▸ hW1068.1 16
    have bop2_1064 : (-2147483648 : Int) ≤ op2_1064 ∧ op2_1064 ≤ 2147483647 := e1074 ▸ hW1068.1 15
    have bnd2_1065 : (0 : Int) ≤ nd2_1065 ∧ nd2_1065 ≤ 6999 := e1075 ▸ hW1068.1 31
    have ztk2_1066 := tz_b tk2_1066
    have btk2_1066 : (0 : Int) ≤ tk2_1066 ∧ tk2_1066 ≤ 5 := e1076 ▸ hW1068.1 11
    refine .inr ⟨_, rfl, ?_⟩
    rcases q1084 with ⟨a1092, a1093, a1094, a1095, a1096, a1097⟩ | ⟨a1098, a1099, a1100⟩ | ⟨a1101, a1102, a1103, a1104, a1105, a1106, a1107, a1108⟩
    · have _q : True := trivial
      exfalso
      omega
    · have _q : True := trivial
      refine jr_st (pc_q := 195) (i := 18) (m := 7000) (z := nd2_1003) (y := r1061) rfl (by decide) rfl (by decide) (by omega) (by omega) rfl ?_
      have hW1110 : Wk G1059 (uA A1060 18 (nd2_1003).toNat (r1061)) := Wk_a hW1068 (show (-2147483648 : Int) ≤ r1061 by omega) (show r1061 ≤ (2147483647 : Int) by omega)
      have hF1111 := Fr_a (z := r1061) (k := 18) (n := (nd2_1003).toNat) hF1085 (by decide)
      obtain ⟨A1109, eA1109⟩ : ∃ q, q = uA A1060 18 (nd2_1003).toNat (r1061) := ⟨_, rfl⟩
      rw [← eA1109]
      rw [← eA1109] at hW1110 hF1111
      have q1112 : A1109 18 (nd2_1003).toNat = r1061 := by rw [eA1109]; exact uA_eq
      have hP1113 : Pf nd A A1109 := eA1109 ▸ Pf_a hP1086 (z := nd2_1003) (by omega) (by omega)
      have sf1114 : NdM A1109 (nd) (nd1) (sy) := NdM_18 eA1109 sf1090.1 (by decide) sf1087
      have sf1115 : ND A1109 (nd1) (2) (s) (0) (0) (0) (0) (0) := ND_ag (by omega) (Ag_st eA1109 (by omega) (by omega)) sf1088
      have sf1116 : NdM A1109 (nd1) (nd1 + 1) (sy) := NdM_18 eA1109 sf1090.1 (by decide) sf1089
      have sf1117 : ND A1109 (nd2_1003) (22) (nd1) (r1061) (0) (0) (0) (0) := ND_b eA1109 sf1090
      have sf1118 : NdM A1109 (nd2_1003) (nd2_1003 + 1) (sy) := NdM_18 eA1109 sf1090.1 (by decide) sf1091
      have ec1119 : ecn A1109 (G1059 31) = ec2_1067 := (ecn_e ((congrFun eA1109 15).trans (uA_ne (by decide)))).trans e1077
      refine jx_ld (pc_q := 196) (l_q := L1037) (st_q := [.ref 66]) rfl (jl_aloadn gL1037_0) ?_
      refine jx_vr (pc_q := 199) (as := []) (st := []) rfl rfl rfl rfl ⟨rfl, rfl, Nat.le_of_ble_eq_true rfl⟩ rfl rfl (c_endLine (dd := d) (hd := by omega) (hW := hW1110)  (ln := ln) (e_ln := show G1059 9 = ln from ((hF1069.1 9 rfl).trans ((hF1043.1 9 rfl).trans ((hF1023.1 9 rfl).trans ((hF1006.1 9 rfl).trans (fx_9)))))) (li := li) (e_li := show G1059 3 = li from ((hF1069.1 3 rfl).trans ((hF1043.1 3 rfl).trans ((hF1023.1 3 rfl).trans ((hF1006.1 3 rfl).trans ((hFx.1 3 rfl).trans (e_li))))))) (fk := fk2_1063) (e_fk := show G1059 16 = fk2_1063 from (e1073)) (tk0 := tk2_1066) (e_tk0 := show G1059 11 = tk2_1066 from (e1076))    (p_0 := by omega)) (fun o V_q hq => ?_)
      obtain ⟨G1120, A1121, ln2_1122, fk2_1123, rfl, rfl, hW1124, hF1125, e1126, e1127, q1128⟩ := hq
      have hF1129 := Fr_tr hF1111 hF1125 (Fr_sub (by decide)) (Fr_sub (by decide))
      have hP1130 := Pf_f hP1113 hF1125 (by decide)
      have sf1131 : NdM A1121 (nd) (nd1) (sy) := NdM_f hF1125 (by decide) sf1114
      have sf1132 : ND A1121 (nd1) (2) (s) (0) (0) (0) (0) (0) := ND_ag (by omega) (Ag_fr hF1125 (by decide)) sf1115
      have sf1133 : NdM A1121 (nd1) (nd1 + 1) (sy) := NdM_f hF1125 (by decide) sf1116
      have sf1134 : ND A1121 (nd2_1003) (22) (nd1) (r1061) (0) (0) (0) (0) := ND_ag (by omega) (Ag_fr hF1125 (by decide)) sf1117
      have sf1135 : NdM A1121 (nd2_1003) (nd2_1003 + 1) (sy) := NdM_f hF1125 (by decide) sf1118
      have ec1136 : ecn A1121 (G1120 31) = ec2_1067 := (ecn_f (hF1125.2 15 rfl) (hF1125.1 31 rfl)).trans ec1119
      have bln2_1122 : (0 : Int) ≤ ln2_1122 ∧ ln2_1122 ≤ 3000 := e1126 ▸ hW1124.1 9
      have bfk2_1123 : (0 : Int) ≤ fk2_1123 ∧ fk2_1123 ≤ 6 := e1127 ▸ hW1124.1 16
      refine .inl ⟨rfl, ?_⟩
      rcases q1128 with ⟨a1137, a1138, a1139, a1140, a1141⟩ | ⟨a1142, a1143⟩
      · have _q : True := trivial
        exfalso
        omega
      · have _q : True := trivial
        refine jx_ld (pc_q := 201) (l_q := L1037) (st_q := [.int (i32 (nd2_1003))]) rfl (jl_iload gL1037_6) ?_
        refine jx_rt (v := some (.int (i32 (nd2_1003)))) rfl rfl rfl rfl rfl rfl ?_
        exact ⟨_, _, _, at2_1062, fk2_1123, nd2_1065, ln2_1122, ec2_1067, rfl, rfl, hW1124, hF1129, hP1130, by omega, ((hF1125.1 10 rfl).trans (e1072)), (e1127), ((hF1125.1 31 rfl).trans (e1075)), (e1126), ec1136, by omega, by omega, by omega, by omega, by omega, by first | exact Or.inl (⟨by omega, by omega, by omega⟩)⟩
    · have _q : True := trivial
      refine jr_st (pc_q := 195) (i := 18) (m := 7000) (z := nd2_1003) (y := r1061) rfl (by decide) rfl (by decide) (by omega) (by omega) rfl ?_
      have hW1145 : Wk G1059 (uA A1060 18 (nd2_1003).toNat (r1061)) := Wk_a hW1068 (show (-2147483648 : Int) ≤ r1061 by omega) (show r1061 ≤ (2147483647 : Int) by omega)
      have hF1146 := Fr_a (z := r1061) (k := 18) (n := (nd2_1003).toNat) hF1085 (by decide)
      obtain ⟨A1144, eA1144⟩ : ∃ q, q = uA A1060 18 (nd2_1003).toNat (r1061) := ⟨_, rfl⟩
      rw [← eA1144]
      rw [← eA1144] at hW1145 hF1146
      have q1147 : A1144 18 (nd2_1003).toNat = r1061 := by rw [eA1144]; exact uA_eq
      have hP1148 : Pf nd A A1144 := eA1144 ▸ Pf_a hP1086 (z := nd2_1003) (by omega) (by omega)
      have sf1149 : NdM A1144 (nd) (nd1) (sy) := NdM_18 eA1144 sf1090.1 (by decide) sf1087
      have sf1150 : ND A1144 (nd1) (2) (s) (0) (0) (0) (0) (0) := ND_ag (by omega) (Ag_st eA1144 (by omega) (by omega)) sf1088
      have sf1151 : NdM A1144 (nd1) (nd1 + 1) (sy) := NdM_18 eA1144 sf1090.1 (by decide) sf1089
      have sf1152 : ND A1144 (nd2_1003) (22) (nd1) (r1061) (0) (0) (0) (0) := ND_b eA1144 sf1090
      have sf1153 : NdM A1144 (nd2_1003) (nd2_1003 + 1) (sy) := NdM_18 eA1144 sf1090.1 (by decide) sf1091
      have sf1154 : wE A1144 Vs sb (2 * 9 + 2) (r1061) (nd2_1020) (nd2_1065) := wE_ag (by omega) (Sg_ne eA1144 rfl) (Ag_st eA1144 (by omega) (by omega)) a1104
      have sf1155 : NdM A1144 (nd2_1020) (nd2_1065) (sy) := NdM_18 eA1144 sf1090.1 (by decide) a1106
      have ec1156 : ecn A1144 (G1059 31) = ec2_1067 := (ecn_e ((congrFun eA1144 15).trans (uA_ne (by decide)))).trans e1077
      refine jx_ld (pc_q := 196) (l_q := L1037) (st_q := [.ref 66]) rfl (jl_aloadn gL1037_0) ?_
      refine jx_vr (pc_q := 199) (as := []) (st := []) rfl rfl rfl rfl ⟨rfl, rfl, Nat.le_of_ble_eq_true rfl⟩ rfl rfl (c_endLine (dd := d) (hd := by omega) (hW := hW1145)  (ln := ln) (e_ln := show G1059 9 = ln from ((hF1069.1 9 rfl).trans ((hF1043.1 9 rfl).trans ((hF1023.1 9 rfl).trans ((hF1006.1 9 rfl).trans (fx_9)))))) (li := li) (e_li := show G1059 3 = li from ((hF1069.1 3 rfl).trans ((hF1043.1 3 rfl).trans ((hF1023.1 3 rfl).trans ((hF1006.1 3 rfl).trans ((hFx.1 3 rfl).trans (e_li))))))) (fk := fk2_1063) (e_fk := show G1059 16 = fk2_1063 from (e1073)) (tk0 := tk2_1066) (e_tk0 := show G1059 11 = tk2_1066 from (e1076))    (p_0 := by omega)) (fun o V_q hq => ?_)
      obtain ⟨G1157, A1158, ln2_1159, fk2_1160, rfl, rfl, hW1161, hF1162, e1163, e1164, q1165⟩ := hq
      have hF1166 := Fr_tr hF1146 hF1162 (Fr_sub (by decide)) (Fr_sub (by decide))
      have hP1167 := Pf_f hP1148 hF1162 (by decide)
      have sf1168 : NdM A1158 (nd) (nd1) (sy) := NdM_f hF1162 (by decide) sf1149
      have sf1169 : ND A1158 (nd1) (2) (s) (0) (0) (0) (0) (0) := ND_ag (by omega) (Ag_fr hF1162 (by decide)) sf1150
      have sf1170 : NdM A1158 (nd1) (nd1 + 1) (sy) := NdM_f hF1162 (by decide) sf1151
      have sf1171 : ND A1158 (nd2_1003) (22) (nd1) (r1061) (0) (0) (0) (0) := ND_ag (by omega) (Ag_fr hF1162 (by decide)) sf1152
      have sf1172 : NdM A1158 (nd2_1003) (nd2_1003 + 1) (sy) := NdM_f hF1162 (by decide) sf1153
      have sf1173 : wE A1158 Vs sb (2 * 9 + 2) (r1061) (nd2_1020) (nd2_1065) := wE_ag (by omega) (Sg_fr hF1162 (by decide)) (Ag_fr hF1162 (by decide)) sf1154
      have sf1174 : NdM A1158 (nd2_1020) (nd2_1065) (sy) := NdM_f hF1162 (by decide) sf1155
      have ec1175 : ecn A1158 (G1157 31) = ec2_1067 := (ecn_f (hF1162.2 15 rfl) (hF1162.1 31 rfl)).trans ec1156
      have bln2_1159 : (0 : Int) ≤ ln2_1159 ∧ ln2_1159 ≤ 3000 := e1163 ▸ hW1161.1 9
      have bfk2_1160 : (0 : Int) ≤ fk2_1160 ∧ fk2_1160 ≤ 6 := e1164 ▸ hW1161.1 16
      refine .inl ⟨rfl, ?_⟩
      rcases q1165 with ⟨a1176, a1177, a1178, a1179, a1180⟩ | ⟨a1181, a1182⟩
      · have _q : True := trivial
        refine jx_ld (pc_q := 201) (l_q := L1037) (st_q := [.int (i32 (nd2_1003))]) rfl (jl_iload gL1037_6) ?_
        refine jx_rt (v := some (.int (i32 (nd2_1003)))) rfl rfl rfl rfl rfl rfl ?_
        exact ⟨_, _, _, at2_1062, fk2_1160, nd2_1065, ln2_1159, ec2_1067, rfl, rfl, hW1161, hF1166, hP1167, by omega, ((hF1162.1 10 rfl).trans (e1072)), (e1164), ((hF1162.1 31 rfl).trans (e1075)), (e1163), ec1175, by omega, by omega, by omega, by omega, by omega, by first | exact Or.inr ((⟨by omega, by omega, by omega, by omega, by omega, (wL_set sf1171 (by omega) (by omega) (wR_var sf1169 (by omega) (by omega) iv_8 (kq (P := kRef (0)) (show A1158 7 (s).toNat = ks from (congrFun ((hF1162.2 7 rfl).trans (((congrFun eA1144 7).trans (uA_ne (by decide))).trans ((hF1069.2 7 rfl).trans ((hF1043.2 7 rfl).trans ((hF1023.2 7 rfl).trans (hF1006.2 7 rfl)))))) _).trans (ex_ks)) (by first | exact .inl ⟨by omega, iv_9⟩))) (wE_mono (by omega) (by omega) (by omega) sf1173)), (NX_nd sf1171), by omega, (NdM_w (NdM_app (sy := sy) sf1168 (NdM_app (sy := sy) sf1170 (NdM_app (sy := sy) sf1172 sf1174 (by omega) (by omega) (by omega)) (by omega) (by omega) (by omega)) (by omega) (by omega) (by omega)) (by omega) (by omega) (by omega))⟩))⟩
      · have _q : True := trivial
        refine jx_ld (pc_q := 201) (l_q := L1037) (st_q := [.int (i32 (nd2_1003))]) rfl (jl_iload gL1037_6) ?_
        refine jx_rt (v := some (.int (i32 (nd2_1003)))) rfl rfl rfl rfl rfl rfl ?_
        exact ⟨_, _, _, at2_1062, fk2_1160, nd2_1065, ln2_1159, ec2_1067, rfl, rfl, hW1161, hF1166, hP1167, by omega, ((hF1162.1 10 rfl).trans (e1072)), (e1164), ((hF1162.1 31 rfl).trans (e1075)), (e1163), ec1175, by omega, by omega, by omega, by omega, by omega, by first | exact Or.inl (⟨by omega, by omega, by omega⟩)⟩
  · have _q := h1000
    exact absurd h1000 (by omega)
set_option maxRecDepth 20000 in
set_option maxHeartbeats 4000000 in
theorem c_readNamed_w_at_110_1 {X : jX} {d : Nat} {Vs : Nat → Prop} {sb pb : Int} {c0 c1 : jC} {G : Nat → Int} {A : Nat → Nat → Int} {T : jH} {ln le at0 fk op0 nd tk0 li ec sy : Int} (hd : 72 ≤ d + 1) (hW : Wk G A) (e_ln : G 9 = ln) (e_le : A 4 (ln).toNat = le) (e_at0 : G 10 = at0) (e_fk : G 16 = fk) (e_op0 : G 15 = op0) (e_nd : G 31 = nd) (e_tk0 : G 11 = tk0) (e_li : G 3 = li) (e_ec : ecn A (G 31) = ec) (e_sy : G 19 = sy) (i_SV : SV Vs sb G A) (i_PQ : PQ Vs sb pb G A) (p_0 : 0 ≤ op0 ∧ op0 ≤ 8) (p_1 : fk = 0) (p_2 : nd ≤ 2 * at0 - tz tk0 + 42) (p_3 : at0 ≤ le) (p_4 : ln < li) (p_5 : tk0 = 1) : ∀ (L : jL) (Gx : Nat → Int) (Ax : Nat → Nat → Int) (pl s ix at1 tk1 fk1 nd1 op1 ks ec1 : Int), jGet L 0 = some (.ref 66) → jGet L 5 = some (.int (i32 (1))) → jGet L 3 = some (.int (i32 (ks))) → jGet L 1 = some (.int (i32 pl)) → jGet L 2 = some (.int (i32 s)) → jGet L 4 = some (.int (i32 ix)) → Wk Gx Ax → Fr [9, 10, 11, 12, 13, 14, 15, 16, 17, 18, 31] [15, 16, 17, 18, 19, 20, 21, 22, 24, 28] G A Gx Ax → Pf nd A Ax → Gx 10 = at1 → Gx 11 = tk1 → Gx 16 = fk1 → Gx 31 = nd1 → Gx 15 = op1 → Ax 7 (s).toNat = ks → ecn Ax (Gx 31) = ec1 → Gx 9 = ln → ((-2147483648 : Int) ≤ pl ∧ pl ≤ 2147483647) → ((-2147483648 : Int) ≤ s ∧ s ≤ 2147483647) → ((-2147483648 : Int) ≤ ix ∧ ix ≤ 2147483647) → (at0 ≤ at1) → (at1 ≤ le) → (nd ≤ nd1) → (op1 = op0) → (fk1 = 0) → (nd1 - nd ≤ (2 * at1 - tz tk1) - (2 * at0 - tz tk0) - 1) → (0 ≤ s ∧ s ≤ 201) → (-3000 ≤ pl ∧ pl ≤ 3002) → (SY Vs sb (s)) → (wE Ax Vs sb (20) (ix) (nd) (nd1)) → (ix + 1 = nd1) → (nd1 - nd + 5 * (ec1 - ec) ≤ (2 * at1 - tz tk1) - (2 * at0 - tz tk0) - 6 - tz tk1) → (NdM Ax (nd) (nd1) (sy)) → wj X d jm304 (110, L, [], rV c0 c1 Gx Ax T) (fun o V_q => ∃ (G_q : Nat → Int) (A_q : Nat → Nat → Int) (r : Int) (at2 : Int) (fk2 : Int) (nd2 : Int) (ln2 : Int) (ec2 : Int), V_q = rV c0 c1 G_q A_q T ∧ o = .inl (some (.int (i32 r))) ∧ Wk G_q A_q ∧ Fr [9, 10, 11, 12, 13, 14, 15, 16, 17, 18, 31] [15, 16, 17, 18, 19, 20, 21, 22, 24, 28] G A G_q A_q ∧ Pf nd A A_q ∧ ((-2147483648 : Int) ≤ r ∧ r ≤ 2147483647) ∧ G_q 10 = at2 ∧ G_q 16 = fk2 ∧ G_q 31 = nd2 ∧ G_q 9 = ln2 ∧ ecn A_q (G_q 31) = ec2 ∧ (at0 ≤ at2) ∧ (at2 ≤ le) ∧ (nd ≤ nd2) ∧ (0 ≤ r) ∧ (r ≤ nd2) ∧ (((1 ≤ fk2) ∧ (ln2 = ln) ∧ (nd2 - nd ≤ 2 * at2 - 2 * at0 + 8)) ∨ ((fk2 = 0) ∧ (ln2 = ln + 1) ∧ (nd2 - nd ≤ 2 * at2 - (2 * at0 - tz tk0) + 0) ∧ (nd ≤ r) ∧ (r < nd2) ∧ (wL A_q sb pb Vs (r) (nd) (nd2)) ∧ (NX A_q (r)) ∧ (nd2 - nd + 5 * (ec2 - ec) ≤ 2 * at2 - (2 * at0 - tz tk0) + 0) ∧ (NdM A_q (nd) (nd2) (sy))))) := by
  have hF0 : Fr [9, 10, 11, 12, 13, 14, 15, 16, 17, 18, 31] [15, 16, 17, 18, 19, 20, 21, 22, 24, 28] G A G A := Fr_rf
  have hP0 : Pf nd A A := Pf_rf
  have b_ln : (0 : Int) ≤ ln ∧ ln ≤ 3000 := e_ln ▸ hW.1 9
  have b_le : (0 : Int) ≤ le ∧ le ≤ 3000 := e_le ▸ hW.2 4 _
  have b_at0 : (0 : Int) ≤ at0 ∧ at0 ≤ 3002 := e_at0 ▸ hW.1 10
  have b_fk : (0 : Int) ≤ fk ∧ fk ≤ 6 := e_fk ▸ hW.1 16
  have b_op0 : (-2147483648 : Int) ≤ op0 ∧ op0 ≤ 2147483647 := e_op0 ▸ hW.1 15
  have b_nd : (0 : Int) ≤ nd ∧ nd ≤ 6999 := e_nd ▸ hW.1 31
  have z_tk0 := tz_f tk0
  have b_tk0 : (0 : Int) ≤ tk0 ∧ tk0 ≤ 5 := e_tk0 ▸ hW.1 11
  have b_li : (0 : Int) ≤ li ∧ li ≤ 3000 := e_li ▸ hW.1 3
  have b_sy : (0 : Int) ≤ sy ∧ sy ≤ 202 := e_sy ▸ hW.1 19
  intro L Gx Ax pl s ix at1 tk1 fk1 nd1 op1 ks ec1 gL_0 gL_5 gL_3 gL_1 gL_2 gL_4 hWx hFx hPx ex_at1 ex_tk1 ex_fk1 ex_nd1 ex_op1 ex_ks ex_ec1 fx_9 rx_pl rx_s rx_ix iv_0 iv_1 iv_2 iv_3 iv_4 iv_5 iv_6 iv_7 iv_8 iv_9 iv_10 iv_11 iv_12
  have b_at1 : (0 : Int) ≤ at1 ∧ at1 ≤ 3002 := ex_at1 ▸ hWx.1 10
  have z_tk1 := tz_f tk1
  have b_tk1 : (0 : Int) ≤ tk1 ∧ tk1 ≤ 5 := ex_tk1 ▸ hWx.1 11
  have b_fk1 : (0 : Int) ≤ fk1 ∧ fk1 ≤ 6 := ex_fk1 ▸ hWx.1 16
  have b_nd1 : (0 : Int) ≤ nd1 ∧ nd1 ≤ 6999 := ex_nd1 ▸ hWx.1 31
  have b_op1 : (-2147483648 : Int) ≤ op1 ∧ op1 ≤ 2147483647 := ex_op1 ▸ hWx.1 15
  have b_ks : (0 : Int) ≤ ks ∧ ks ≤ 14 := ex_ks ▸ hWx.2 7 _
  refine jx_ld (pc_q := 111) (l_q := L) (st_q := [.ref 66]) rfl (jl_aloadn gL_0) ?_
  refine jx_ar (pc_q := 114) (st_q := [.int (i32 (300)), .ref 66]) rfl rfl rfl rfl ?_
  have b1183 : (-2147483648 : Int) ≤ Gx 13 ∧ Gx 13 ≤ 2147483647 := hWx.1 13
  refine jx_vr (pc_q := 117) (as := [.int (i32 (300))]) (st := []) rfl rfl rfl rfl ⟨rfl, rfl, Nat.le_of_ble_eq_true rfl⟩ rfl rfl (c_is (dd := d) (hd := by omega) (hW := hWx) (k := 300) (tk := tk1) (e_tk := show Gx 11 = tk1 from (ex_tk1)) (tn := Gx 13) (e_tn := show Gx 13 = Gx 13 from rfl)  (h_k := ⟨(by decide), (by decide)⟩)  ) (fun o V_q hq => ?_)
  obtain ⟨r1184, rfl, rfl, b1185, q1186⟩ := hq
  refine .inr ⟨_, rfl, ?_⟩
  rcases q1186 with ⟨rfl, a1187, a1188, a1189⟩ | rfl
  · have _q : True := trivial
    refine jx_if_eq (pc_q := 120) (tg := 202) rfl rfl rfl (by decide) (by decide) (fun h1190 => ?_) (fun h1190 => ?_)
    · have _q := h1190
      exact absurd h1190 (by omega)
    · have _q := h1190
      refine jx_ld (pc_q := 122) (l_q := L) (st_q := [.int (i32 (1))]) rfl (jl_iload gL_5) ?_
      refine jx_if_eq (pc_q := 125) (tg := 135) rfl rfl rfl (by decide) (by decide) (fun h1191 => ?_) (fun h1191 => ?_)
      · have _q := h1191
        exact absurd h1191 (by omega)
      · have _q := h1191
        refine jx_ld (pc_q := 126) (l_q := L) (st_q := [.int (i32 (ks))]) rfl (jl_iloadn gL_3) ?_
        refine jx_st (pc_q := 129) (as := [.int (i32 (ks))]) (st := []) rfl rfl ⟨rfl, Nat.le_of_ble_eq_true rfl⟩ rfl rfl rfl (c_isArray (dd := d) (hd := by omega) (k := ks)   (h_k := ⟨(Int.le_trans (by decide : (-2147483648 : Int) ≤ 0) b_ks.1), (Int.le_trans b_ks.2 (by decide : (14 : Int) ≤ 2147483647))⟩)  ) (fun o V_q hq => ?_)
        obtain ⟨r1192, rfl, rfl, b1193, q1194⟩ := hq
        refine .inr ⟨_, rfl, ?_⟩
        rcases q1194 with ⟨rfl, a1195⟩ | rfl
        · have _q : True := trivial
          refine jx_if_ne (pc_q := 132) (tg := 150) rfl rfl rfl (by decide) (by decide) (fun h1196 => ?_) (fun h1196 => ?_)
          · have _q := h1196
            have z1197 := tz_f (tk1)
            exact c_readNamed_w_at_150_1 (X := X) (d := d) (Vs := Vs) (sb := sb) (pb := pb) (c0 := c0) (c1 := c1) (G := G) (A := A) (T := T) (ln := ln) (le := le) (at0 := at0) (fk := fk) (op0 := op0) (nd := nd) (tk0 := tk0) (li := li) (ec := ec) (sy := sy) (hd := hd) (hW := hW) (e_ln := e_ln) (e_le := e_le) (e_at0 := e_at0) (e_fk := e_fk) (e_op0 := e_op0) (e_nd := e_nd) (e_tk0 := e_tk0) (e_li := e_li) (e_ec := e_ec) (e_sy := e_sy) (i_SV := i_SV) (i_PQ := i_PQ) (p_0 := p_0) (p_1 := p_1) (p_2 := p_2) (p_3 := p_3) (p_4 := p_4) (p_5 := p_5) L Gx Ax (s) (ix) (at1) (tk1) (fk1) (nd1) (op1) (ks) (ec1) gL_0 gL_5 gL_2 gL_4 hWx hFx hPx ((ex_at1)) ((ex_tk1)) ((ex_fk1)) ((ex_nd1)) ((ex_op1)) ((ex_ks)) (ex_ec1) ((fx_9)) (by omega) (by omega) (by omega) (by omega) (by omega) (by omega) (by omega) (by omega) (by omega) (by omega) (iv_8) (a1195) (iv_9) (by omega) (by omega) (iv_12)
          · have _q := h1196
            exact absurd h1196 (by omega)
        · have _q : True := trivial
          refine jx_if_ne (pc_q := 132) (tg := 150) rfl rfl rfl (by decide) (by decide) (fun h1198 => ?_) (fun h1198 => ?_)
          · have _q := h1198
            exact absurd h1198 (by omega)
          · have _q := h1198
            refine jx_go (tg := 142) rfl rfl ?_
            refine jx_ld (pc_q := 143) (l_q := L) (st_q := [.ref 66]) rfl (jl_aloadn gL_0) ?_
            refine jx_ar (pc_q := 144) (st_q := [.int (i32 (4)), .ref 66]) rfl rfl rfl rfl ?_
            refine jx_ld (pc_q := 145) (l_q := L) (st_q := [.int (i32 (pl)), .int (i32 (4)), .ref 66]) rfl (jl_iloadn gL_1) ?_
            refine jx_vr (pc_q := 148) (as := [.int (i32 (4)), .int (i32 (pl))]) (st := []) rfl rfl rfl rfl ⟨rfl, rfl, Nat.le_of_ble_eq_true rfl⟩ rfl rfl (c_fail (dd := d) (hd := by omega) (hW := hWx) (kind := 4) (place := pl) (fk := fk1) (e_fk := show Gx 16 = fk1 from (ex_fk1))  (h_kind := ⟨(by decide), (by decide)⟩) (h_place := ⟨(Int.le_trans (by decide : (-2147483648 : Int) ≤ -2147483648) rx_pl.1), (Int.le_trans rx_pl.2 (by decide : (2147483647 : Int) ≤ 2147483647))⟩)  (p_0 := by omega) (p_1 := by omega)) (fun o V_q hq => ?_)
            obtain ⟨G1199, A1200, fk2_1201, rfl, rfl, hW1202, hF1203, e1204, p1205, -⟩ := hq
            have hF1207 := Fr_tr hFx hF1203 (Fr_sub (by decide)) (Fr_sub (by decide))
            have hP1208 := Pf_f hPx hF1203 (by decide)
            have sf1209 : wE A1200 Vs sb (20) (ix) (nd) (nd1) := wE_ag (by omega) (Sg_fr hF1203 (by decide)) (Ag_fr hF1203 (by decide)) iv_9
            have sf1210 : NdM A1200 (nd) (nd1) (sy) := NdM_f hF1203 (by decide) iv_12
            have ec1211 : ecn A1200 (G1199 31) = ec1 := (ecn_f (hF1203.2 15 rfl) (hF1203.1 31 rfl)).trans ex_ec1
            have bfk2_1201 : (0 : Int) ≤ fk2_1201 ∧ fk2_1201 ≤ 6 := e1204 ▸ hW1202.1 16
            refine .inl ⟨rfl, ?_⟩
            refine jx_ar (pc_q := 149) (st_q := [.int (i32 (0))]) rfl rfl rfl rfl ?_
            refine jx_rt (v := some (.int (i32 (0)))) rfl rfl rfl rfl rfl rfl ?_
            exact ⟨_, _, _, at1, fk2_1201, nd1, ln, ec1, rfl, rfl, hW1202, hF1207, hP1208, by omega, ((hF1203.1 10 rfl).trans (ex_at1)), (e1204), ((hF1203.1 31 rfl).trans (ex_nd1)), ((hF1203.1 9 rfl).trans (fx_9)), ec1211, by omega, by omega, by omega, by omega, by omega, by first | exact Or.inl (⟨by omega, by omega, by omega⟩)⟩
  · have _q : True := trivial
    refine jx_if_eq (pc_q := 120) (tg := 202) rfl rfl rfl (by decide) (by decide) (fun h1212 => ?_) (fun h1212 => ?_)
    · have _q := h1212
      refine jx_ld (pc_q := 203) (l_q := L) (st_q := [.ref 66]) rfl (jl_aloadn gL_0) ?_
      refine jx_ar (pc_q := 205) (st_q := [.int (i32 (33)), .ref 66]) rfl rfl rfl rfl ?_
      refine jx_vr (pc_q := 208) (as := [.int (i32 (33))]) (st := []) rfl rfl rfl rfl ⟨rfl, rfl, Nat.le_of_ble_eq_true rfl⟩ rfl rfl (c_is (dd := d) (hd := by omega) (hW := hWx) (k := 33) (tk := tk1) (e_tk := show Gx 11 = tk1 from (ex_tk1)) (tn := Gx 13) (e_tn := show Gx 13 = Gx 13 from rfl)  (h_k := ⟨(by decide), (by decide)⟩)  ) (fun o V_q hq => ?_)
      obtain ⟨r1213, rfl, rfl, b1214, q1215⟩ := hq
      refine .inr ⟨_, rfl, ?_⟩
      rcases q1215 with ⟨rfl, a1216, a1217, a1218⟩ | rfl
      · have _q : True := trivial
        refine jx_if_ne (pc_q := 211) (tg := 231) rfl rfl rfl (by decide) (by decide) (fun h1219 => ?_) (fun h1219 => ?_)
        · have _q := h1219
          have z1220 := tz_f (tk1)
          exact c_readNamed_w_at_231_1 (X := X) (d := d) (Vs := Vs) (sb := sb) (pb := pb) (c0 := c0) (c1 := c1) (G := G) (A := A) (T := T) (ln := ln) (le := le) (at0 := at0) (fk := fk) (op0 := op0) (nd := nd) (tk0 := tk0) (li := li) (ec := ec) (sy := sy) (hd := hd) (hW := hW) (e_ln := e_ln) (e_le := e_le) (e_at0 := e_at0) (e_fk := e_fk) (e_op0 := e_op0) (e_nd := e_nd) (e_tk0 := e_tk0) (e_li := e_li) (e_ec := e_ec) (e_sy := e_sy) (i_SV := i_SV) (i_PQ := i_PQ) (p_0 := p_0) (p_1 := p_1) (p_2 := p_2) (p_3 := p_3) (p_4 := p_4) (p_5 := p_5) L Gx Ax (pl) (s) (ix) (at1) (tk1) (fk1) (nd1) (op1) (ks) (ec1) gL_0 gL_5 gL_3 gL_1 gL_2 gL_4 hWx hFx hPx ((ex_at1)) ((ex_tk1)) ((ex_fk1)) ((ex_nd1)) ((ex_op1)) ((ex_ks)) (ex_ec1) ((fx_9)) (by omega) (by omega) (by omega) (by omega) (by omega) (by omega) (by omega) (by omega) (by omega) (by omega) (by omega) (by omega) (iv_8) (iv_9) (by omega) (by omega) (iv_12)
        · have _q := h1219
          exact absurd h1219 (by omega)
      · have _q : True := trivial
        refine jx_if_ne (pc_q := 211) (tg := 231) rfl rfl rfl (by decide) (by decide) (fun h1221 => ?_) (fun h1221 => ?_)
        · have _q := h1221
          exact absurd h1221 (by omega)
        · have _q := h1221
          refine jx_ld (pc_q := 212) (l_q := L) (st_q := [.ref 66]) rfl (jl_aloadn gL_0) ?_
          refine jx_ar (pc_q := 214) (st_q := [.int (i32 (63)), .ref 66]) rfl rfl rfl rfl ?_
          refine jx_vr (pc_q := 217) (as := [.int (i32 (63))]) (st := []) rfl rfl rfl rfl ⟨rfl, rfl, Nat.le_of_ble_eq_true rfl⟩ rfl rfl (c_is (dd := d) (hd := by omega) (hW := hWx) (k := 63) (tk := tk1) (e_tk := show Gx 11 = tk1 from (ex_tk1)) (tn := Gx 13) (e_tn := show Gx 13 = Gx 13 from rfl)  (h_k := ⟨(by decide), (by decide)⟩)  ) (fun o V_q hq => ?_)
          obtain ⟨r1222, rfl, rfl, b1223, q1224⟩ := hq
          refine .inr ⟨_, rfl, ?_⟩
          rcases q1224 with ⟨rfl, a1225, a1226, a1227⟩ | rfl
          · have _q : True := trivial
            refine jx_if_ne (pc_q := 220) (tg := 231) rfl rfl rfl (by decide) (by decide) (fun h1228 => ?_) (fun h1228 => ?_)
            · have _q := h1228
              have z1229 := tz_f (tk1)
              exact c_readNamed_w_at_231_1 (X := X) (d := d) (Vs := Vs) (sb := sb) (pb := pb) (c0 := c0) (c1 := c1) (G := G) (A := A) (T := T) (ln := ln) (le := le) (at0 := at0) (fk := fk) (op0 := op0) (nd := nd) (tk0 := tk0) (li := li) (ec := ec) (sy := sy) (hd := hd) (hW := hW) (e_ln := e_ln) (e_le := e_le) (e_at0 := e_at0) (e_fk := e_fk) (e_op0 := e_op0) (e_nd := e_nd) (e_tk0 := e_tk0) (e_li := e_li) (e_ec := e_ec) (e_sy := e_sy) (i_SV := i_SV) (i_PQ := i_PQ) (p_0 := p_0) (p_1 := p_1) (p_2 := p_2) (p_3 := p_3) (p_4 := p_4) (p_5 := p_5) L Gx Ax (pl) (s) (ix) (at1) (tk1) (fk1) (nd1) (op1) (ks) (ec1) gL_0 gL_5 gL_3 gL_1 gL_2 gL_4 hWx hFx hPx ((ex_at1)) ((ex_tk1)) ((ex_fk1)) ((ex_nd1)) ((ex_op1)) ((ex_ks)) (ex_ec1) ((fx_9)) (by omega) (by omega) (by omega) (by omega) (by omega) (by omega) (by omega) (by omega) (by omega) (by omega) (by omega) (by omega) (iv_8) (iv_9) (by omega) (by omega) (iv_12)
            · have _q := h1228
              exact absurd h1228 (by omega)
          · have _q : True := trivial
            refine jx_if_ne (pc_q := 220) (tg := 231) rfl rfl rfl (by decide) (by decide) (fun h1230 => ?_) (fun h1230 => ?_)
            · have _q := h1230
              exact absurd h1230 (by omega)
            · have _q := h1230
              refine jx_ld (pc_q := 221) (l_q := L) (st_q := [.ref 66]) rfl (jl_aloadn gL_0) ?_
              refine jx_ar (pc_q := 222) (st_q := [.int (i32 (1)), .ref 66]) rfl rfl rfl rfl ?_
              refine jx_ld (pc_q := 223) (l_q := L) (st_q := [.ref 66, .int (i32 (1)), .ref 66]) rfl (jl_aloadn gL_0) ?_
              have b1231 : (-3000 : Int) ≤ Gx 12 ∧ Gx 12 ≤ 3002 := hWx.1 12
              refine jr_get (pc_q := 226) (i := 12) (v := .int (i32 (Gx 12))) rfl rfl (by decide) rfl rfl ?_
              refine jx_vr (pc_q := 229) (as := [.int (i32 (1)), .int (i32 (Gx 12))]) (st := []) rfl rfl rfl rfl ⟨rfl, rfl, Nat.le_of_ble_eq_true rfl⟩ rfl rfl (c_fail (dd := d) (hd := by omega) (hW := hWx) (kind := 1) (place := Gx 12) (fk := fk1) (e_fk := show Gx 16 = fk1 from (ex_fk1))  (h_kind := ⟨(by decide), (by decide)⟩) (h_place := ⟨(Int.le_trans (by decide : (-2147483648 : Int) ≤ -3000) b1231.1), (Int.le_trans b1231.2 (by decide : (3002 : Int) ≤ 2147483647))⟩)  (p_0 := by omega) (p_1 := by omega)) (fun o V_q hq => ?_)
              obtain ⟨G1232, A1233, fk2_1234, rfl, rfl, hW1235, hF1236, e1237, p1238, -⟩ := hq
              have hF1240 := Fr_tr hFx hF1236 (Fr_sub (by decide)) (Fr_sub (by decide))
              have hP1241 := Pf_f hPx hF1236 (by decide)
              have sf1242 : wE A1233 Vs sb (20) (ix) (nd) (nd1) := wE_ag (by omega) (Sg_fr hF1236 (by decide)) (Ag_fr hF1236 (by decide)) iv_9
              have sf1243 : NdM A1233 (nd) (nd1) (sy) := NdM_f hF1236 (by decide) iv_12
              have ec1244 : ecn A1233 (G1232 31) = ec1 := (ecn_f (hF1236.2 15 rfl) (hF1236.1 31 rfl)).trans ex_ec1
              have bfk2_1234 : (0 : Int) ≤ fk2_1234 ∧ fk2_1234 ≤ 6 := e1237 ▸ hW1235.1 16
              refine .inl ⟨rfl, ?_⟩
              refine jx_ar (pc_q := 230) (st_q := [.int (i32 (0))]) rfl rfl rfl rfl ?_
              refine jx_rt (v := some (.int (i32 (0)))) rfl rfl rfl rfl rfl rfl ?_
              exact ⟨_, _, _, at1, fk2_1234, nd1, ln, ec1, rfl, rfl, hW1235, hF1240, hP1241, by omega, ((hF1236.1 10 rfl).trans (ex_at1)), (e1237), ((hF1236.1 31 rfl).trans (ex_nd1)), ((hF1236.1 9 rfl).trans (fx_9)), ec1244, by omega, by omega, by omega, by omega, by omega, by first | exact Or.inl (⟨by omega, by omega, by omega⟩)⟩
    · have _q := h1212
      exact absurd h1212 (by omega)
set_option maxRecDepth 20000 in
set_option maxHeartbeats 4000000 in
theorem c_readNamed_w_at_110_0 {X : jX} {d : Nat} {Vs : Nat → Prop} {sb pb : Int} {c0 c1 : jC} {G : Nat → Int} {A : Nat → Nat → Int} {T : jH} {ln le at0 fk op0 nd tk0 li ec sy : Int} (hd : 72 ≤ d + 1) (hW : Wk G A) (e_ln : G 9 = ln) (e_le : A 4 (ln).toNat = le) (e_at0 : G 10 = at0) (e_fk : G 16 = fk) (e_op0 : G 15 = op0) (e_nd : G 31 = nd) (e_tk0 : G 11 = tk0) (e_li : G 3 = li) (e_ec : ecn A (G 31) = ec) (e_sy : G 19 = sy) (i_SV : SV Vs sb G A) (i_PQ : PQ Vs sb pb G A) (p_0 : 0 ≤ op0 ∧ op0 ≤ 8) (p_1 : fk = 0) (p_2 : nd ≤ 2 * at0 - tz tk0 + 42) (p_3 : at0 ≤ le) (p_4 : ln < li) (p_5 : tk0 = 1) : ∀ (L : jL) (Gx : Nat → Int) (Ax : Nat → Nat → Int) (pl s at1 tk1 fk1 nd1 op1 ks ec1 : Int), jGet L 0 = some (.ref 66) → jGet L 5 = some (.int (i32 (0))) → jGet L 3 = some (.int (i32 (ks))) → jGet L 4 = some (.int (i32 (0))) → jGet L 1 = some (.int (i32 pl)) → jGet L 2 = some (.int (i32 s)) → Wk Gx Ax → Fr [9, 10, 11, 12, 13, 14, 15, 16, 17, 18, 31] [15, 16, 17, 18, 19, 20, 21, 22, 24, 28] G A Gx Ax → Pf nd A Ax → Gx 10 = at1 → Gx 11 = tk1 → Gx 16 = fk1 → Gx 31 = nd1 → Gx 15 = op1 → Ax 7 (s).toNat = ks → ecn Ax (Gx 31) = ec1 → Gx 9 = ln → ((-2147483648 : Int) ≤ pl ∧ pl ≤ 2147483647) → ((-2147483648 : Int) ≤ s ∧ s ≤ 2147483647) → (at0 ≤ at1) → (at1 ≤ le) → (nd ≤ nd1) → (op1 = op0) → (fk1 = 0) → (nd1 - nd ≤ (2 * at1 - tz tk1) - (2 * at0 - tz tk0) - 1) → (0 ≤ s ∧ s ≤ 201) → (-3000 ≤ pl ∧ pl ≤ 3002) → (SY Vs sb (s)) → (nd1 - nd + 5 * (ec1 - ec) ≤ (2 * at1 - tz tk1) - (2 * at0 - tz tk0) - 1 - tz tk1) → (NdM Ax (nd) (nd1) (sy)) → wj X d jm304 (110, L, [], rV c0 c1 Gx Ax T) (fun o V_q => ∃ (G_q : Nat → Int) (A_q : Nat → Nat → Int) (r : Int) (at2 : Int) (fk2 : Int) (nd2 : Int) (ln2 : Int) (ec2 : Int), V_q = rV c0 c1 G_q A_q T ∧ o = .inl (some (.int (i32 r))) ∧ Wk G_q A_q ∧ Fr [9, 10, 11, 12, 13, 14, 15, 16, 17, 18, 31] [15, 16, 17, 18, 19, 20, 21, 22, 24, 28] G A G_q A_q ∧ Pf nd A A_q ∧ ((-2147483648 : Int) ≤ r ∧ r ≤ 2147483647) ∧ G_q 10 = at2 ∧ G_q 16 = fk2 ∧ G_q 31 = nd2 ∧ G_q 9 = ln2 ∧ ecn A_q (G_q 31) = ec2 ∧ (at0 ≤ at2) ∧ (at2 ≤ le) ∧ (nd ≤ nd2) ∧ (0 ≤ r) ∧ (r ≤ nd2) ∧ (((1 ≤ fk2) ∧ (ln2 = ln) ∧ (nd2 - nd ≤ 2 * at2 - 2 * at0 + 8)) ∨ ((fk2 = 0) ∧ (ln2 = ln + 1) ∧ (nd2 - nd ≤ 2 * at2 - (2 * at0 - tz tk0) + 0) ∧ (nd ≤ r) ∧ (r < nd2) ∧ (wL A_q sb pb Vs (r) (nd) (nd2)) ∧ (NX A_q (r)) ∧ (nd2 - nd + 5 * (ec2 - ec) ≤ 2 * at2 - (2 * at0 - tz tk0) + 0) ∧ (NdM A_q (nd) (nd2) (sy))))) := by
  have hF0 : Fr [9, 10, 11, 12, 13, 14, 15, 16, 17, 18, 31] [15, 16, 17, 18, 19, 20, 21, 22, 24, 28] G A G A := Fr_rf
  have hP0 : Pf nd A A := Pf_rf
  have b_ln : (0 : Int) ≤ ln ∧ ln ≤ 3000 := e_ln ▸ hW.1 9
  have b_le : (0 : Int) ≤ le ∧ le ≤ 3000 := e_le ▸ hW.2 4 _
  have b_at0 : (0 : Int) ≤ at0 ∧ at0 ≤ 3002 := e_at0 ▸ hW.1 10
  have b_fk : (0 : Int) ≤ fk ∧ fk ≤ 6 := e_fk ▸ hW.1 16
  have b_op0 : (-2147483648 : Int) ≤ op0 ∧ op0 ≤ 2147483647 := e_op0 ▸ hW.1 15
  have b_nd : (0 : Int) ≤ nd ∧ nd ≤ 6999 := e_nd ▸ hW.1 31
  have z_tk0 := tz_f tk0
  have b_tk0 : (0 : Int) ≤ tk0 ∧ tk0 ≤ 5 := e_tk0 ▸ hW.1 11
  have b_li : (0 : Int) ≤ li ∧ li ≤ 3000 := e_li ▸ hW.1 3
  have b_sy : (0 : Int) ≤ sy ∧ sy ≤ 202 := e_sy ▸ hW.1 19
  intro L Gx Ax pl s at1 tk1 fk1 nd1 op1 ks ec1 gL_0 gL_5 gL_3 gL_4 gL_1 gL_2 hWx hFx hPx ex_at1 ex_tk1 ex_fk1 ex_nd1 ex_op1 ex_ks ex_ec1 fx_9 rx_pl rx_s iv_0 iv_1 iv_2 iv_3 iv_4 iv_5 iv_6 iv_7 iv_8 iv_9 iv_10
  have b_at1 : (0 : Int) ≤ at1 ∧ at1 ≤ 3002 := ex_at1 ▸ hWx.1 10
  have z_tk1 := tz_f tk1
  have b_tk1 : (0 : Int) ≤ tk1 ∧ tk1 ≤ 5 := ex_tk1 ▸ hWx.1 11
  have b_fk1 : (0 : Int) ≤ fk1 ∧ fk1 ≤ 6 := ex_fk1 ▸ hWx.1 16
  have b_nd1 : (0 : Int) ≤ nd1 ∧ nd1 ≤ 6999 := ex_nd1 ▸ hWx.1 31
  have b_op1 : (-2147483648 : Int) ≤ op1 ∧ op1 ≤ 2147483647 := ex_op1 ▸ hWx.1 15
  have b_ks : (0 : Int) ≤ ks ∧ ks ≤ 14 := ex_ks ▸ hWx.2 7 _
  refine jx_ld (pc_q := 111) (l_q := L) (st_q := [.ref 66]) rfl (jl_aloadn gL_0) ?_
  refine jx_ar (pc_q := 114) (st_q := [.int (i32 (300)), .ref 66]) rfl rfl rfl rfl ?_
  have b1245 : (-2147483648 : Int) ≤ Gx 13 ∧ Gx 13 ≤ 2147483647 := hWx.1 13
  refine jx_vr (pc_q := 117) (as := [.int (i32 (300))]) (st := []) rfl rfl rfl rfl ⟨rfl, rfl, Nat.le_of_ble_eq_true rfl⟩ rfl rfl (c_is (dd := d) (hd := by omega) (hW := hWx) (k := 300) (tk := tk1) (e_tk := show Gx 11 = tk1 from (ex_tk1)) (tn := Gx 13) (e_tn := show Gx 13 = Gx 13 from rfl)  (h_k := ⟨(by decide), (by decide)⟩)  ) (fun o V_q hq => ?_)
  obtain ⟨r1246, rfl, rfl, b1247, q1248⟩ := hq
  refine .inr ⟨_, rfl, ?_⟩
  rcases q1248 with ⟨rfl, a1249, a1250, a1251⟩ | rfl
  · have _q : True := trivial
    refine jx_if_eq (pc_q := 120) (tg := 202) rfl rfl rfl (by decide) (by decide) (fun h1252 => ?_) (fun h1252 => ?_)
    · have _q := h1252
      exact absurd h1252 (by omega)
    · have _q := h1252
      refine jx_ld (pc_q := 122) (l_q := L) (st_q := [.int (i32 (0))]) rfl (jl_iload gL_5) ?_
      refine jx_if_eq (pc_q := 125) (tg := 135) rfl rfl rfl (by decide) (by decide) (fun h1253 => ?_) (fun h1253 => ?_)
      · have _q := h1253
        refine jx_ld (pc_q := 136) (l_q := L) (st_q := [.int (i32 (ks))]) rfl (jl_iloadn gL_3) ?_
        refine jx_st (pc_q := 139) (as := [.int (i32 (ks))]) (st := []) rfl rfl ⟨rfl, Nat.le_of_ble_eq_true rfl⟩ rfl rfl rfl (c_isVariable (dd := d) (hd := by omega) (k := ks)   (h_k := ⟨(Int.le_trans (by decide : (-2147483648 : Int) ≤ 0) b_ks.1), (Int.le_trans b_ks.2 (by decide : (14 : Int) ≤ 2147483647))⟩)  ) (fun o V_q hq => ?_)
        obtain ⟨r1254, rfl, rfl, b1255, q1256⟩ := hq
        refine .inr ⟨_, rfl, ?_⟩
        rcases q1256 with ⟨rfl, a1257⟩ | rfl
        · have _q : True := trivial
          refine jx_if_ne (pc_q := 142) (tg := 150) rfl rfl rfl (by decide) (by decide) (fun h1258 => ?_) (fun h1258 => ?_)
          · have _q := h1258
            have z1259 := tz_f (tk1)
            exact c_readNamed_w_at_150_0 (X := X) (d := d) (Vs := Vs) (sb := sb) (pb := pb) (c0 := c0) (c1 := c1) (G := G) (A := A) (T := T) (ln := ln) (le := le) (at0 := at0) (fk := fk) (op0 := op0) (nd := nd) (tk0 := tk0) (li := li) (ec := ec) (sy := sy) (hd := hd) (hW := hW) (e_ln := e_ln) (e_le := e_le) (e_at0 := e_at0) (e_fk := e_fk) (e_op0 := e_op0) (e_nd := e_nd) (e_tk0 := e_tk0) (e_li := e_li) (e_ec := e_ec) (e_sy := e_sy) (i_SV := i_SV) (i_PQ := i_PQ) (p_0 := p_0) (p_1 := p_1) (p_2 := p_2) (p_3 := p_3) (p_4 := p_4) (p_5 := p_5) L Gx Ax (s) (at1) (tk1) (fk1) (nd1) (op1) (ks) (ec1) gL_0 gL_5 gL_4 gL_2 hWx hFx hPx ((ex_at1)) ((ex_tk1)) ((ex_fk1)) ((ex_nd1)) ((ex_op1)) ((ex_ks)) (ex_ec1) ((fx_9)) (by omega) (by omega) (by omega) (by omega) (by omega) (by omega) (by omega) (by omega) (by omega) (iv_8) (a1257) (by omega) (iv_10)
          · have _q := h1258
            exact absurd h1258 (by omega)
        · have _q : True := trivial
          refine jx_if_ne (pc_q := 142) (tg := 150) rfl rfl rfl (by decide) (by decide) (fun h1260 => ?_) (fun h1260 => ?_)
          · have _q := h1260
            exact absurd h1260 (by omega)
          · have _q := h1260
            refine jx_ld (pc_q := 143) (l_q := L) (st_q := [.ref 66]) rfl (jl_aloadn gL_0) ?_
            refine jx_ar (pc_q := 144) (st_q := [.int (i32 (4)), .ref 66]) rfl rfl rfl rfl ?_
            refine jx_ld (pc_q := 145) (l_q := L) (st_q := [.int (i32 (pl)), .int (i32 (4)), .ref 66]) rfl (jl_iloadn gL_1) ?_
            refine jx_vr (pc_q := 148) (as := [.int (i32 (4)), .int (i32 (pl))]) (st := []) rfl rfl rfl rfl ⟨rfl, rfl, Nat.le_of_ble_eq_true rfl⟩ rfl rfl (c_fail (dd := d) (hd := by omega) (hW := hWx) (kind := 4) (place := pl) (fk := fk1) (e_fk := show Gx 16 = fk1 from (ex_fk1))  (h_kind := ⟨(by decide), (by decide)⟩) (h_place := ⟨(Int.le_trans (by decide : (-2147483648 : Int) ≤ -2147483648) rx_pl.1), (Int.le_trans rx_pl.2 (by decide : (2147483647 : Int) ≤ 2147483647))⟩)  (p_0 := by omega) (p_1 := by omega)) (fun o V_q hq => ?_)
            obtain ⟨G1261, A1262, fk2_1263, rfl, rfl, hW1264, hF1265, e1266, p1267, -⟩ := hq
            have hF1269 := Fr_tr hFx hF1265 (Fr_sub (by decide)) (Fr_sub (by decide))
            have hP1270 := Pf_f hPx hF1265 (by decide)
            have sf1271 : NdM A1262 (nd) (nd1) (sy) := NdM_f hF1265 (by decide) iv_10
            have ec1272 : ecn A1262 (G1261 31) = ec1 := (ecn_f (hF1265.2 15 rfl) (hF1265.1 31 rfl)).trans ex_ec1
            have bfk2_1263 : (0 : Int) ≤ fk2_1263 ∧ fk2_1263 ≤ 6 := e1266 ▸ hW1264.1 16
            refine .inl ⟨rfl, ?_⟩
            refine jx_ar (pc_q := 149) (st_q := [.int (i32 (0))]) rfl rfl rfl rfl ?_
            refine jx_rt (v := some (.int (i32 (0)))) rfl rfl rfl rfl rfl rfl ?_
            exact ⟨_, _, _, at1, fk2_1263, nd1, ln, ec1, rfl, rfl, hW1264, hF1269, hP1270, by omega, ((hF1265.1 10 rfl).trans (ex_at1)), (e1266), ((hF1265.1 31 rfl).trans (ex_nd1)), ((hF1265.1 9 rfl).trans (fx_9)), ec1272, by omega, by omega, by omega, by omega, by omega, by first | exact Or.inl (⟨by omega, by omega, by omega⟩)⟩
      · have _q := h1253
        exact absurd h1253 (by omega)
  · have _q : True := trivial
    refine jx_if_eq (pc_q := 120) (tg := 202) rfl rfl rfl (by decide) (by decide) (fun h1273 => ?_) (fun h1273 => ?_)
    · have _q := h1273
      refine jx_ld (pc_q := 203) (l_q := L) (st_q := [.ref 66]) rfl (jl_aloadn gL_0) ?_
      refine jx_ar (pc_q := 205) (st_q := [.int (i32 (33)), .ref 66]) rfl rfl rfl rfl ?_
      refine jx_vr (pc_q := 208) (as := [.int (i32 (33))]) (st := []) rfl rfl rfl rfl ⟨rfl, rfl, Nat.le_of_ble_eq_true rfl⟩ rfl rfl (c_is (dd := d) (hd := by omega) (hW := hWx) (k := 33) (tk := tk1) (e_tk := show Gx 11 = tk1 from (ex_tk1)) (tn := Gx 13) (e_tn := show Gx 13 = Gx 13 from rfl)  (h_k := ⟨(by decide), (by decide)⟩)  ) (fun o V_q hq => ?_)
      obtain ⟨r1274, rfl, rfl, b1275, q1276⟩ := hq
      refine .inr ⟨_, rfl, ?_⟩
      rcases q1276 with ⟨rfl, a1277, a1278, a1279⟩ | rfl
      · have _q : True := trivial
        refine jx_if_ne (pc_q := 211) (tg := 231) rfl rfl rfl (by decide) (by decide) (fun h1280 => ?_) (fun h1280 => ?_)
        · have _q := h1280
          have z1281 := tz_f (tk1)
          exact c_readNamed_w_at_231_0 (X := X) (d := d) (Vs := Vs) (sb := sb) (pb := pb) (c0 := c0) (c1 := c1) (G := G) (A := A) (T := T) (ln := ln) (le := le) (at0 := at0) (fk := fk) (op0 := op0) (nd := nd) (tk0 := tk0) (li := li) (ec := ec) (sy := sy) (hd := hd) (hW := hW) (e_ln := e_ln) (e_le := e_le) (e_at0 := e_at0) (e_fk := e_fk) (e_op0 := e_op0) (e_nd := e_nd) (e_tk0 := e_tk0) (e_li := e_li) (e_ec := e_ec) (e_sy := e_sy) (i_SV := i_SV) (i_PQ := i_PQ) (p_0 := p_0) (p_1 := p_1) (p_2 := p_2) (p_3 := p_3) (p_4 := p_4) (p_5 := p_5) L Gx Ax (pl) (s) (at1) (tk1) (fk1) (nd1) (op1) (ks) (ec1) gL_0 gL_5 gL_3 gL_4 gL_1 gL_2 hWx hFx hPx ((ex_at1)) ((ex_tk1)) ((ex_fk1)) ((ex_nd1)) ((ex_op1)) ((ex_ks)) (ex_ec1) ((fx_9)) (by omega) (by omega) (by omega) (by omega) (by omega) (by omega) (by omega) (by omega) (by omega) (by omega) (by omega) (iv_8) (by omega) (iv_10)
        · have _q := h1280
          exact absurd h1280 (by omega)
      · have _q : True := trivial
        refine jx_if_ne (pc_q := 211) (tg := 231) rfl rfl rfl (by decide) (by decide) (fun h1282 => ?_) (fun h1282 => ?_)
        · have _q := h1282
          exact absurd h1282 (by omega)
        · have _q := h1282
          refine jx_ld (pc_q := 212) (l_q := L) (st_q := [.ref 66]) rfl (jl_aloadn gL_0) ?_
          refine jx_ar (pc_q := 214) (st_q := [.int (i32 (63)), .ref 66]) rfl rfl rfl rfl ?_
          refine jx_vr (pc_q := 217) (as := [.int (i32 (63))]) (st := []) rfl rfl rfl rfl ⟨rfl, rfl, Nat.le_of_ble_eq_true rfl⟩ rfl rfl (c_is (dd := d) (hd := by omega) (hW := hWx) (k := 63) (tk := tk1) (e_tk := show Gx 11 = tk1 from (ex_tk1)) (tn := Gx 13) (e_tn := show Gx 13 = Gx 13 from rfl)  (h_k := ⟨(by decide), (by decide)⟩)  ) (fun o V_q hq => ?_)
          obtain ⟨r1283, rfl, rfl, b1284, q1285⟩ := hq
          refine .inr ⟨_, rfl, ?_⟩
          rcases q1285 with ⟨rfl, a1286, a1287, a1288⟩ | rfl
          · have _q : True := trivial
            refine jx_if_ne (pc_q := 220) (tg := 231) rfl rfl rfl (by decide) (by decide) (fun h1289 => ?_) (fun h1289 => ?_)
            · have _q := h1289
              have z1290 := tz_f (tk1)
              exact c_readNamed_w_at_231_0 (X := X) (d := d) (Vs := Vs) (sb := sb) (pb := pb) (c0 := c0) (c1 := c1) (G := G) (A := A) (T := T) (ln := ln) (le := le) (at0 := at0) (fk := fk) (op0 := op0) (nd := nd) (tk0 := tk0) (li := li) (ec := ec) (sy := sy) (hd := hd) (hW := hW) (e_ln := e_ln) (e_le := e_le) (e_at0 := e_at0) (e_fk := e_fk) (e_op0 := e_op0) (e_nd := e_nd) (e_tk0 := e_tk0) (e_li := e_li) (e_ec := e_ec) (e_sy := e_sy) (i_SV := i_SV) (i_PQ := i_PQ) (p_0 := p_0) (p_1 := p_1) (p_2 := p_2) (p_3 := p_3) (p_4 := p_4) (p_5 := p_5) L Gx Ax (pl) (s) (at1) (tk1) (fk1) (nd1) (op1) (ks) (ec1) gL_0 gL_5 gL_3 gL_4 gL_1 gL_2 hWx hFx hPx ((ex_at1)) ((ex_tk1)) ((ex_fk1)) ((ex_nd1)) ((ex_op1)) ((ex_ks)) (ex_ec1) ((fx_9)) (by omega) (by omega) (by omega) (by omega) (by omega) (by omega) (by omega) (by omega) (by omega) (by omega) (by omega) (iv_8) (by omega) (iv_10)
            · have _q := h1289
              exact absurd h1289 (by omega)
          · have _q : True := trivial
            refine jx_if_ne (pc_q := 220) (tg := 231) rfl rfl rfl (by decide) (by decide) (fun h1291 => ?_) (fun h1291 => ?_)
            · have _q := h1291
              exact absurd h1291 (by omega)
            · have _q := h1291
              refine jx_ld (pc_q := 221) (l_q := L) (st_q := [.ref 66]) rfl (jl_aloadn gL_0) ?_
              refine jx_ar (pc_q := 222) (st_q := [.int (i32 (1)), .ref 66]) rfl rfl rfl rfl ?_
              refine jx_ld (pc_q := 223) (l_q := L) (st_q := [.ref 66, .int (i32 (1)), .ref 66]) rfl (jl_aloadn gL_0) ?_
              have b1292 : (-3000 : Int) ≤ Gx 12 ∧ Gx 12 ≤ 3002 := hWx.1 12
              refine jr_get (pc_q := 226) (i := 12) (v := .int (i32 (Gx 12))) rfl rfl (by decide) rfl rfl ?_
              refine jx_vr (pc_q := 229) (as := [.int (i32 (1)), .int (i32 (Gx 12))]) (st := []) rfl rfl rfl rfl ⟨rfl, rfl, Nat.le_of_ble_eq_true rfl⟩ rfl rfl (c_fail (dd := d) (hd := by omega) (hW := hWx) (kind := 1) (place := Gx 12) (fk := fk1) (e_fk := show Gx 16 = fk1 from (ex_fk1))  (h_kind := ⟨(by decide), (by decide)⟩) (h_place := ⟨(Int.le_trans (by decide : (-2147483648 : Int) ≤ -3000) b1292.1), (Int.le_trans b1292.2 (by decide : (3002 : Int) ≤ 2147483647))⟩)  (p_0 := by omega) (p_1 := by omega)) (fun o V_q hq => ?_)
              obtain ⟨G1293, A1294, fk2_1295, rfl, rfl, hW1296, hF1297, e1298, p1299, -⟩ := hq
              have hF1301 := Fr_tr hFx hF1297 (Fr_sub (by decide)) (Fr_sub (by decide))
              have hP1302 := Pf_f hPx hF1297 (by decide)
              have sf1303 : NdM A1294 (nd) (nd1) (sy) := NdM_f hF1297 (by decide) iv_10
              have ec1304 : ecn A1294 (G1293 31) = ec1 := (ecn_f (hF1297.2 15 rfl) (hF1297.1 31 rfl)).trans ex_ec1
              have bfk2_1295 : (0 : Int) ≤ fk2_1295 ∧ fk2_1295 ≤ 6 := e1298 ▸ hW1296.1 16
              refine .inl ⟨rfl, ?_⟩
              refine jx_ar (pc_q := 230) (st_q := [.int (i32 (0))]) rfl rfl rfl rfl ?_
              refine jx_rt (v := some (.int (i32 (0)))) rfl rfl rfl rfl rfl rfl ?_
              exact ⟨_, _, _, at1, fk2_1295, nd1, ln, ec1, rfl, rfl, hW1296, hF1301, hP1302, by omega, ((hF1297.1 10 rfl).trans (ex_at1)), (e1298), ((hF1297.1 31 rfl).trans (ex_nd1)), ((hF1297.1 9 rfl).trans (fx_9)), ec1304, by omega, by omega, by omega, by omega, by omega, by first | exact Or.inl (⟨by omega, by omega, by omega⟩)⟩
    · have _q := h1273
      exact absurd h1273 (by omega)
set_option maxRecDepth 20000 in
set_option maxHeartbeats 4000000 in
theorem c_readNamed_w {X : jX} {dd : Nat} {Vs : Nat → Prop} {sb pb : Int} {c0 c1 : jC} {G : Nat → Int} {A : Nat → Nat → Int} {T : jH} {ln le at0 fk op0 nd tk0 li ec sy : Int} (hd : 72 ≤ dd) (hW : Wk G A) (e_ln : G 9 = ln) (e_le : A 4 (ln).toNat = le) (e_at0 : G 10 = at0) (e_fk : G 16 = fk) (e_op0 : G 15 = op0) (e_nd : G 31 = nd) (e_tk0 : G 11 = tk0) (e_li : G 3 = li) (e_ec : ecn A (G 31) = ec) (e_sy : G 19 = sy) (i_SV : SV Vs sb G A) (i_PQ : PQ Vs sb pb G A) (p_0 : 0 ≤ op0 ∧ op0 ≤ 8) (p_1 : fk = 0) (p_2 : nd ≤ 2 * at0 - tz tk0 + 42) (p_3 : at0 ≤ le) (p_4 : ln < li) (p_5 : tk0 = 1) : wk X dd 304 [.ref 66] (rV c0 c1 G A T) (fun o V_q => ∃ (G_q : Nat → Int) (A_q : Nat → Nat → Int) (r : Int) (at2 : Int) (fk2 : Int) (nd2 : Int) (ln2 : Int) (ec2 : Int), V_q = rV c0 c1 G_q A_q T ∧ o = .inl (some (.int (i32 r))) ∧ Wk G_q A_q ∧ Fr [9, 10, 11, 12, 13, 14, 15, 16, 17, 18, 31] [15, 16, 17, 18, 19, 20, 21, 22, 24, 28] G A G_q A_q ∧ Pf nd A A_q ∧ ((-2147483648 : Int) ≤ r ∧ r ≤ 2147483647) ∧ G_q 10 = at2 ∧ G_q 16 = fk2 ∧ G_q 31 = nd2 ∧ G_q 9 = ln2 ∧ ecn A_q (G_q 31) = ec2 ∧ (at0 ≤ at2) ∧ (at2 ≤ le) ∧ (nd ≤ nd2) ∧ (0 ≤ r) ∧ (r ≤ nd2) ∧ (((1 ≤ fk2) ∧ (ln2 = ln) ∧ (nd2 - nd ≤ 2 * at2 - 2 * at0 + 8)) ∨ ((fk2 = 0) ∧ (ln2 = ln + 1) ∧ (nd2 - nd ≤ 2 * at2 - (2 * at0 - tz tk0) + 0) ∧ (nd ≤ r) ∧ (r < nd2) ∧ (wL A_q sb pb Vs (r) (nd) (nd2)) ∧ (NX A_q (r)) ∧ (nd2 - nd + 5 * (ec2 - ec) ≤ 2 * at2 - (2 * at0 - tz tk0) + 0) ∧ (NdM A_q (nd) (nd2) (sy))))) := by
  obtain ⟨d, rfl⟩ : ∃ d, dd = d + 1 := ⟨dd - 1, by omega⟩
  refine wk_of (e := jm304) rfl (Nat.le_of_ble_eq_true rfl) ?_
  show wj X d jm304 (0, [(0, .ref 66)], [], rV c0 c1 G A T) _
  have hF0 : Fr [9, 10, 11, 12, 13, 14, 15, 16, 17, 18, 31] [15, 16, 17, 18, 19, 20, 21, 22, 24, 28] G A G A := Fr_rf
  have hP0 : Pf nd A A := Pf_rf
  have b_ln : (0 : Int) ≤ ln ∧ ln ≤ 3000 := e_ln ▸ hW.1 9
  have b_le : (0 : Int) ≤ le ∧ le ≤ 3000 := e_le ▸ hW.2 4 _
  have b_at0 : (0 : Int) ≤ at0 ∧ at0 ≤ 3002 := e_at0 ▸ hW.1 10
  have b_fk : (0 : Int) ≤ fk ∧ fk ≤ 6 := e_fk ▸ hW.1 16
  have b_op0 : (-2147483648 : Int) ≤ op0 ∧ op0 ≤ 2147483647 := e_op0 ▸ hW.1 15
  have b_nd : (0 : Int) ≤ nd ∧ nd ≤ 6999 := e_nd ▸ hW.1 31
  have z_tk0 := tz_f tk0
  have b_tk0 : (0 : Int) ≤ tk0 ∧ tk0 ≤ 5 := e_tk0 ▸ hW.1 11
  have b_li : (0 : Int) ≤ li ∧ li ≤ 3000 := e_li ▸ hW.1 3
  have b_sy : (0 : Int) ≤ sy ∧ sy ≤ 202 := e_sy ▸ hW.1 19
  refine jx_ld (pc_q := 1) (l_q := [(0, .ref 66)]) (st_q := [.ref 66]) rfl (jl_aloadn rfl) ?_
  have b1305 : (-3000 : Int) ≤ G 12 ∧ G 12 ≤ 3002 := hW.1 12
  refine jr_get (pc_q := 4) (i := 12) (v := .int (i32 (G 12))) rfl rfl (by decide) rfl rfl ?_
  refine jx_ld (pc_q := 5) (l_q := jSto1 [(0, .ref 66)] 1 (.int (i32 (G 12)))) (st_q := []) rfl rfl ?_
  obtain ⟨L1306, eL1306⟩ : ∃ q, q = jSto1 [(0, .ref 66)] 1 (.int (i32 (G 12))) := ⟨_, rfl⟩
  rw [← eL1306]
  have gL1306_0 : jGet L1306 0 = some (.ref 66) := eL1306 ▸ jg_ne (by decide) (rfl : jGet [(0, .ref 66)] 0 = some (.ref 66)) rfl
  have gL1306_1 : jGet L1306 1 = some (.int (i32 (G 12))) := eL1306 ▸ jg_eq
  refine jx_ld (pc_q := 6) (l_q := L1306) (st_q := [.ref 66]) rfl (jl_aloadn gL1306_0) ?_
  refine jx_vr (pc_q := 9) (as := []) (st := []) rfl rfl rfl rfl ⟨rfl, rfl, Nat.le_of_ble_eq_true rfl⟩ rfl rfl (c_lookUp (dd := d) (hd := by omega) (hW := hW)  (fk := fk) (e_fk := show G 16 = fk from (e_fk)) (i_SV := (SV_ext (rfl) (rfl) i_SV))   ) (fun o V_q hq => ?_)
  obtain ⟨G1307, A1308, r1309, fk2_1310, rfl, rfl, hW1311, hF1312, b1313, e1314, q1315⟩ := hq
  have hF1316 := Fr_tr hF0 hF1312 (Fr_sub (by decide)) (Fr_sub (by decide))
  have hP1317 := Pf_f hP0 hF1312 (by decide)
  have ec1318 : ecn A1308 (G1307 31) = ec := (ecn_f (hF1312.2 15 rfl) (hF1312.1 31 rfl)).trans e_ec
  have bfk2_1310 : (0 : Int) ≤ fk2_1310 ∧ fk2_1310 ≤ 6 := e1314 ▸ hW1311.1 16
  refine .inr ⟨_, rfl, ?_⟩
  rcases q1315 with ⟨a1319, a1320⟩ | ⟨a1321, a1322, a1323, a1324⟩
  · have _q : True := trivial
    refine jx_ld (pc_q := 10) (l_q := jSto1 L1306 2 (.int (i32 (r1309)))) (st_q := []) rfl rfl ?_
    obtain ⟨L1325, eL1325⟩ : ∃ q, q = jSto1 L1306 2 (.int (i32 (r1309))) := ⟨_, rfl⟩
    rw [← eL1325]
    have gL1325_0 : jGet L1325 0 = some (.ref 66) := eL1325 ▸ jg_ne (by decide) gL1306_0 rfl
    have gL1325_1 : jGet L1325 1 = some (.int (i32 (G 12))) := eL1325 ▸ jg_ne (by decide) gL1306_1 rfl
    have gL1325_2 : jGet L1325 2 = some (.int (i32 (r1309))) := eL1325 ▸ jg_eq
    refine jx_ld (pc_q := 11) (l_q := L1325) (st_q := [.ref 66]) rfl (jl_aloadn gL1325_0) ?_
    refine jx_vr (pc_q := 14) (as := []) (st := []) rfl rfl rfl rfl ⟨rfl, rfl, Nat.le_of_ble_eq_true rfl⟩ rfl rfl (c_bad (dd := d) (hd := by omega) (hW := hW1311)  (fk := fk2_1310) (e_fk := show G1307 16 = fk2_1310 from (e1314))    ) (fun o V_q hq => ?_)
    obtain ⟨r1326, rfl, rfl, b1327, q1328⟩ := hq
    refine .inr ⟨_, rfl, ?_⟩
    rcases q1328 with ⟨rfl, a1329⟩ | ⟨rfl, a1330⟩
    · have _q : True := trivial
      refine jx_if_eq (pc_q := 17) (tg := 19) rfl rfl rfl (by decide) (by decide) (fun h1331 => ?_) (fun h1331 => ?_)
      · have _q := h1331
        exact absurd h1331 (by omega)
      · have _q := h1331
        refine jx_ar (pc_q := 18) (st_q := [.int (i32 (0))]) rfl rfl rfl rfl ?_
        refine jx_rt (v := some (.int (i32 (0)))) rfl rfl rfl rfl rfl rfl ?_
        exact ⟨_, _, _, at0, fk2_1310, nd, ln, ec, rfl, rfl, hW1311, hF1316, hP1317, by omega, ((hF1312.1 10 rfl).trans (e_at0)), (e1314), ((hF1312.1 31 rfl).trans (e_nd)), ((hF1312.1 9 rfl).trans (e_ln)), ec1318, by omega, by omega, by omega, by omega, by omega, by first | exact Or.inl (⟨by omega, by omega, by omega⟩)⟩
    · have _q : True := trivial
      exfalso
      omega
  · have _q : True := trivial
    refine jx_ld (pc_q := 10) (l_q := jSto1 L1306 2 (.int (i32 (r1309)))) (st_q := []) rfl rfl ?_
    obtain ⟨L1332, eL1332⟩ : ∃ q, q = jSto1 L1306 2 (.int (i32 (r1309))) := ⟨_, rfl⟩
    rw [← eL1332]
    have gL1332_0 : jGet L1332 0 = some (.ref 66) := eL1332 ▸ jg_ne (by decide) gL1306_0 rfl
    have gL1332_1 : jGet L1332 1 = some (.int (i32 (G 12))) := eL1332 ▸ jg_ne (by decide) gL1306_1 rfl
    have gL1332_2 : jGet L1332 2 = some (.int (i32 (r1309))) := eL1332 ▸ jg_eq
    refine jx_ld (pc_q := 11) (l_q := L1332) (st_q := [.ref 66]) rfl (jl_aloadn gL1332_0) ?_
    refine jx_vr (pc_q := 14) (as := []) (st := []) rfl rfl rfl rfl ⟨rfl, rfl, Nat.le_of_ble_eq_true rfl⟩ rfl rfl (c_bad (dd := d) (hd := by omega) (hW := hW1311)  (fk := fk2_1310) (e_fk := show G1307 16 = fk2_1310 from (e1314))    ) (fun o V_q hq => ?_)
    obtain ⟨r1333, rfl, rfl, b1334, q1335⟩ := hq
    refine .inr ⟨_, rfl, ?_⟩
    rcases q1335 with ⟨rfl, a1336⟩ | ⟨rfl, a1337⟩
    · have _q : True := trivial
      exfalso
      omega
    · have _q : True := trivial
      refine jx_if_eq (pc_q := 17) (tg := 19) rfl rfl rfl (by decide) (by decide) (fun h1338 => ?_) (fun h1338 => ?_)
      · have _q := h1338
        refine jx_ld (pc_q := 20) (l_q := L1332) (st_q := [.ref 66]) rfl (jl_aloadn gL1332_0) ?_
        refine jr_get (pc_q := 23) (i := 21) (v := .ref 74) rfl rfl (by decide) rfl rfl ?_
        refine jx_ld (pc_q := 24) (l_q := L1332) (st_q := [.int (i32 (r1309)), .ref 74]) rfl (jl_iloadn gL1332_2) ?_
        have b1339 : (0 : Int) ≤ A 7 (r1309).toNat ∧ A 7 (r1309).toNat ≤ 14 := hW.2 7 _
        refine jr_ldv (pc_q := 25) (i := 7) (m := 260) (z := r1309) (y := A 7 (r1309).toNat) rfl (by decide) rfl (by decide) (by omega) (by omega) rfl (show A1308 7 (r1309).toNat = A 7 (r1309).toNat from (congrFun (hF1312.2 7 rfl) _)) ?_
        refine jx_ld (pc_q := 26) (l_q := jSto1 L1332 3 (.int (i32 (A 7 (r1309).toNat)))) (st_q := []) rfl rfl ?_
        obtain ⟨L1340, eL1340⟩ : ∃ q, q = jSto1 L1332 3 (.int (i32 (A 7 (r1309).toNat))) := ⟨_, rfl⟩
        rw [← eL1340]
        have gL1340_0 : jGet L1340 0 = some (.ref 66) := eL1340 ▸ jg_ne (by decide) gL1332_0 rfl
        have gL1340_1 : jGet L1340 1 = some (.int (i32 (G 12))) := eL1340 ▸ jg_ne (by decide) gL1332_1 rfl
        have gL1340_2 : jGet L1340 2 = some (.int (i32 (r1309))) := eL1340 ▸ jg_ne (by decide) gL1332_2 rfl
        have gL1340_3 : jGet L1340 3 = some (.int (i32 (A 7 (r1309).toNat))) := eL1340 ▸ jg_eq
        refine jx_ld (pc_q := 27) (l_q := L1340) (st_q := [.ref 66]) rfl (jl_aloadn gL1340_0) ?_
        refine jx_vr (pc_q := 30) (as := []) (st := []) rfl rfl rfl rfl ⟨rfl, rfl, Nat.le_of_ble_eq_true rfl⟩ rfl rfl (c_next (dd := d) (hd := by omega) (hW := hW1311)  (ln := ln) (e_ln := show G1307 9 = ln from ((hF1312.1 9 rfl).trans (e_ln))) (le := le) (e_le := show A1308 4 (ln).toNat = le from (congrFun (hF1312.2 4 rfl) _).trans (e_le)) (at0 := at0) (e_at0 := show G1307 10 = at0 from ((hF1312.1 10 rfl).trans (e_at0)))    (p_0 := by omega)) (fun o V_q hq => ?_)
        obtain ⟨G1341, A1342, at2_1343, tk2_1344, rfl, rfl, hW1345, hF1346, e1347, e1348, p1349, p1350, p1351, -⟩ := hq
        have hF1353 := Fr_tr hF1316 hF1346 (Fr_sub (by decide)) (Fr_sub (by decide))
        have hP1354 := Pf_f hP1317 hF1346 (by decide)
        have ec1355 : ecn A1342 (G1341 31) = ec := (ecn_f (hF1346.2 15 rfl) (hF1346.1 31 rfl)).trans ec1318
        have bat2_1343 : (0 : Int) ≤ at2_1343 ∧ at2_1343 ≤ 3002 := e1347 ▸ hW1345.1 10
        have ztk2_1344 := tz_b tk2_1344
        have btk2_1344 : (0 : Int) ≤ tk2_1344 ∧ tk2_1344 ≤ 5 := e1348 ▸ hW1345.1 11
        refine .inl ⟨rfl, ?_⟩
        have pz1356 : at0 + tz tk2_1344 ≤ at2_1343 := by omega
        refine jx_ld (pc_q := 31) (l_q := L1340) (st_q := [.ref 66]) rfl (jl_aloadn gL1340_0) ?_
        refine jx_ar (pc_q := 33) (st_q := [.int (i32 (40)), .ref 66]) rfl rfl rfl rfl ?_
        have b1357 : (-2147483648 : Int) ≤ G1341 13 ∧ G1341 13 ≤ 2147483647 := hW1345.1 13
        refine jx_vr (pc_q := 36) (as := [.int (i32 (40))]) (st := []) rfl rfl rfl rfl ⟨rfl, rfl, Nat.le_of_ble_eq_true rfl⟩ rfl rfl (c_is (dd := d) (hd := by omega) (hW := hW1345) (k := 40) (tk := tk2_1344) (e_tk := show G1341 11 = tk2_1344 from (e1348)) (tn := G1341 13) (e_tn := show G1341 13 = G1341 13 from rfl)  (h_k := ⟨(by decide), (by decide)⟩)  ) (fun o V_q hq => ?_)
        obtain ⟨r1358, rfl, rfl, b1359, q1360⟩ := hq
        refine .inr ⟨_, rfl, ?_⟩
        rcases q1360 with ⟨rfl, a1361, a1362, a1363⟩ | rfl
        · have _q : True := trivial
          refine jx_if_eq (pc_q := 39) (tg := 59) rfl rfl rfl (by decide) (by decide) (fun h1364 => ?_) (fun h1364 => ?_)
          · have _q := h1364
            exact absurd h1364 (by omega)
          · have _q := h1364
            refine jx_ld (pc_q := 40) (l_q := L1340) (st_q := [.int (i32 (A 7 (r1309).toNat))]) rfl (jl_iloadn gL1340_3) ?_
            refine jx_ar (pc_q := 42) (st_q := [.int (i32 (14)), .int (i32 (A 7 (r1309).toNat))]) rfl rfl rfl rfl ?_
            refine jx_icmp_eq (pc_q := 45) (tg := 53) rfl rfl rfl (Int.le_trans (by decide : (-2147483648 : Int) ≤ 0) b1339.1) (Int.le_trans b1339.2 (by decide : (14 : Int) ≤ 2147483647)) (by decide) (by decide) (fun h1365 => ?_) (fun h1365 => ?_)
            · have _q := h1365
              refine jx_ld (pc_q := 54) (l_q := L1340) (st_q := [.ref 66]) rfl (jl_aloadn gL1340_0) ?_
              refine jx_ld (pc_q := 55) (l_q := L1340) (st_q := [.int (i32 (r1309)), .ref 66]) rfl (jl_iloadn gL1340_2) ?_
              have b1366 : (0 : Int) ≤ A 12 (r1309).toNat ∧ A 12 (r1309).toNat ≤ 24 := hW.2 12 _
              have b1367 : (0 : Int) ≤ A 30 (A 12 (r1309).toNat).toNat ∧ A 30 (A 12 (r1309).toNat).toNat ≤ 6 := hW.2 30 _
              have b1368 : (0 : Int) ≤ A 29 (A 12 (r1309).toNat).toNat ∧ A 29 (A 12 (r1309).toNat).toNat ≤ 202 := hW.2 29 _
              refine jx_vr (pc_q := 58) (as := [.int (i32 (r1309))]) (st := []) rfl rfl rfl rfl ⟨rfl, rfl, Nat.le_of_ble_eq_true rfl⟩ rfl rfl (c_readCall_w (dd := d) (hd := by omega) (hW := hW1345) (s := r1309) (ln := ln) (e_ln := show G1341 9 = ln from ((hF1346.1 9 rfl).trans ((hF1312.1 9 rfl).trans (e_ln)))) (le := le) (e_le := show A1342 4 (ln).toNat = le from (congrFun ((hF1346.2 4 rfl).trans (hF1312.2 4 rfl)) _).trans (e_le)) (at0 := at2_1343) (e_at0 := show G1341 10 = at2_1343 from (e1347)) (fk := fk2_1310) (e_fk := show G1341 16 = fk2_1310 from ((hF1346.1 16 rfl).trans (e1314))) (op0 := op0) (e_op0 := show G1341 15 = op0 from ((hF1346.1 15 rfl).trans ((hF1312.1 15 rfl).trans (e_op0)))) (nd := nd) (e_nd := show G1341 31 = nd from ((hF1346.1 31 rfl).trans ((hF1312.1 31 rfl).trans (e_nd)))) (tk0 := tk2_1344) (e_tk0 := show G1341 11 = tk2_1344 from (e1348)) (li := li) (e_li := show G1341 3 = li from ((hF1346.1 3 rfl).trans ((hF1312.1 3 rfl).trans (e_li)))) (kd := A 7 (r1309).toNat) (e_kd := show A1342 7 (r1309).toNat = A 7 (r1309).toNat from (congrFun ((hF1346.2 7 rfl).trans (hF1312.2 7 rfl)) _)) (nu := A 12 (r1309).toNat) (e_nu := show A1342 12 (r1309).toNat = A 12 (r1309).toNat from (congrFun ((hF1346.2 12 rfl).trans (hF1312.2 12 rfl)) _)) (mp := A 30 (A 12 (r1309).toNat).toNat) (e_mp := show A1342 30 (A 12 (r1309).toNat).toNat = A 30 (A 12 (r1309).toNat).toNat from (congrFun ((hF1346.2 30 rfl).trans (hF1312.2 30 rfl)) _)) (pp := A 29 (A 12 (r1309).toNat).toNat) (e_pp := show A1342 29 (A 12 (r1309).toNat).toNat = A 29 (A 12 (r1309).toNat).toNat from (congrFun ((hF1346.2 29 rfl).trans (hF1312.2 29 rfl)) _)) (ec := ec) (e_ec := show ecn A1342 (G1341 31) = ec from ec1355) (sy := sy) (e_sy := show G1341 19 = sy from ((hF1346.1 19 rfl).trans ((hF1312.1 19 rfl).trans (e_sy)))) (i_SV := (SV_ext (((hF1346.1 29 rfl).trans (hF1312.1 29 rfl))) (((hF1346.2 14 rfl).trans (hF1312.2 14 rfl))) i_SV)) (i_PQ := (PQ_ext (((hF1346.2 7 rfl).trans (hF1312.2 7 rfl))) (((hF1346.2 12 rfl).trans (hF1312.2 12 rfl))) (((hF1346.2 29 rfl).trans (hF1312.2 29 rfl))) (((hF1346.2 30 rfl).trans (hF1312.2 30 rfl))) i_PQ)) (h_s := ⟨(Int.le_trans (by decide : (-2147483648 : Int) ≤ -2147483648) b1313.1), (Int.le_trans b1313.2 (by decide : (2147483647 : Int) ≤ 2147483647))⟩)  (p_0 := by omega) (p_1 := by omega) (p_2 := by omega) (p_3 := by omega) (p_4 := by omega) (p_5 := by omega) (p_6 := by omega) (p_7 := by omega) (p_8 := a1324)) (fun o V_q hq => ?_)
              obtain ⟨G1369, A1370, r1371, at2_1372, fk2_1373, nd2_1374, ln2_1375, ec2_1376, rfl, rfl, hW1377, hF1378, hQ1379, b1380, e1381, e1382, e1383, e1384, e1385, p1386, p1387, p1388, p1389, p1390, q1391⟩ := hq
              have hF1392 := Fr_tr hF1353 hF1378 (Fr_sub (by decide)) (Fr_sub (by decide))
              have hP1393 := Pf_tr hP1354 hQ1379 (by omega)
              have bat2_1372 : (0 : Int) ≤ at2_1372 ∧ at2_1372 ≤ 3002 := e1381 ▸ hW1377.1 10
              have bfk2_1373 : (0 : Int) ≤ fk2_1373 ∧ fk2_1373 ≤ 6 := e1382 ▸ hW1377.1 16
              have bnd2_1374 : (0 : Int) ≤ nd2_1374 ∧ nd2_1374 ≤ 6999 := e1383 ▸ hW1377.1 31
              have bln2_1375 : (0 : Int) ≤ ln2_1375 ∧ ln2_1375 ≤ 3000 := e1384 ▸ hW1377.1 9
              refine .inr ⟨_, rfl, ?_⟩
              rcases q1391 with ⟨a1394, a1395, a1396⟩ | ⟨a1397, a1398, a1399, a1400, a1401, a1402, a1403, a1404, a1405⟩
              · have _q : True := trivial
                refine jx_rt (v := some (.int (i32 (r1371)))) rfl rfl rfl rfl rfl rfl ?_
                exact ⟨_, _, _, at2_1372, fk2_1373, nd2_1374, ln2_1375, ec2_1376, rfl, rfl, hW1377, hF1392, hP1393, by omega, (e1381), (e1382), (e1383), (e1384), e1385, by omega, by omega, by omega, by omega, by omega, by first | exact Or.inl (⟨by omega, by omega, by omega⟩)⟩
              · have _q : True := trivial
                refine jx_rt (v := some (.int (i32 (r1371)))) rfl rfl rfl rfl rfl rfl ?_
                exact ⟨_, _, _, at2_1372, fk2_1373, nd2_1374, ln2_1375, ec2_1376, rfl, rfl, hW1377, hF1392, hP1393, by omega, (e1381), (e1382), (e1383), (e1384), e1385, by omega, by omega, by omega, by omega, by omega, by first | exact Or.inr ((⟨by omega, by omega, by omega, by omega, by omega, a1402, a1403, by omega, a1405⟩))⟩
            · have _q := h1365
              refine jx_ld (pc_q := 46) (l_q := L1340) (st_q := [.ref 66]) rfl (jl_aloadn gL1340_0) ?_
              refine jx_ar (pc_q := 47) (st_q := [.int (i32 (4)), .ref 66]) rfl rfl rfl rfl ?_
              refine jx_ld (pc_q := 48) (l_q := L1340) (st_q := [.int (i32 (G 12)), .int (i32 (4)), .ref 66]) rfl (jl_iloadn gL1340_1) ?_
              refine jx_vr (pc_q := 51) (as := [.int (i32 (4)), .int (i32 (G 12))]) (st := []) rfl rfl rfl rfl ⟨rfl, rfl, Nat.le_of_ble_eq_true rfl⟩ rfl rfl (c_fail (dd := d) (hd := by omega) (hW := hW1345) (kind := 4) (place := G 12) (fk := fk2_1310) (e_fk := show G1341 16 = fk2_1310 from ((hF1346.1 16 rfl).trans (e1314)))  (h_kind := ⟨(by decide), (by decide)⟩) (h_place := ⟨(Int.le_trans (by decide : (-2147483648 : Int) ≤ -3000) b1305.1), (Int.le_trans b1305.2 (by decide : (3002 : Int) ≤ 2147483647))⟩)  (p_0 := by omega) (p_1 := by omega)) (fun o V_q hq => ?_)
              obtain ⟨G1406, A1407, fk2_1408, rfl, rfl, hW1409, hF1410, e1411, p1412, -⟩ := hq
              have hF1414 := Fr_tr hF1353 hF1410 (Fr_sub (by decide)) (Fr_sub (by decide))
              have hP1415 := Pf_f hP1354 hF1410 (by decide)
              have ec1416 : ecn A1407 (G1406 31) = ec := (ecn_f (hF1410.2 15 rfl) (hF1410.1 31 rfl)).trans ec1355
              have bfk2_1408 : (0 : Int) ≤ fk2_1408 ∧ fk2_1408 ≤ 6 := e1411 ▸ hW1409.1 16
              refine .inl ⟨rfl, ?_⟩
              refine jx_ar (pc_q := 52) (st_q := [.int (i32 (0))]) rfl rfl rfl rfl ?_
              refine jx_rt (v := some (.int (i32 (0)))) rfl rfl rfl rfl rfl rfl ?_
              exact ⟨_, _, _, at2_1343, fk2_1408, nd, ln, ec, rfl, rfl, hW1409, hF1414, hP1415, by omega, ((hF1410.1 10 rfl).trans (e1347)), (e1411), ((hF1410.1 31 rfl).trans ((hF1346.1 31 rfl).trans ((hF1312.1 31 rfl).trans (e_nd)))), ((hF1410.1 9 rfl).trans ((hF1346.1 9 rfl).trans ((hF1312.1 9 rfl).trans (e_ln)))), ec1416, by omega, by omega, by omega, by omega, by omega, by first | exact Or.inl (⟨by omega, by omega, by omega⟩)⟩
        · have _q : True := trivial
          refine jx_if_eq (pc_q := 39) (tg := 59) rfl rfl rfl (by decide) (by decide) (fun h1417 => ?_) (fun h1417 => ?_)
          · have _q := h1417
            refine jx_ar (pc_q := 60) (st_q := [.int (i32 (0))]) rfl rfl rfl rfl ?_
            refine jx_ld (pc_q := 62) (l_q := jSto1 L1340 4 (.int (i32 (0)))) (st_q := []) rfl rfl ?_
            obtain ⟨L1418, eL1418⟩ : ∃ q, q = jSto1 L1340 4 (.int (i32 (0))) := ⟨_, rfl⟩
            rw [← eL1418]
            have gL1418_0 : jGet L1418 0 = some (.ref 66) := eL1418 ▸ jg_ne (by decide) gL1340_0 rfl
            have gL1418_1 : jGet L1418 1 = some (.int (i32 (G 12))) := eL1418 ▸ jg_ne (by decide) gL1340_1 rfl
            have gL1418_2 : jGet L1418 2 = some (.int (i32 (r1309))) := eL1418 ▸ jg_ne (by decide) gL1340_2 rfl
            have gL1418_3 : jGet L1418 3 = some (.int (i32 (A 7 (r1309).toNat))) := eL1418 ▸ jg_ne (by decide) gL1340_3 rfl
            have gL1418_4 : jGet L1418 4 = some (.int (i32 (0))) := eL1418 ▸ jg_eq
            refine jx_ld (pc_q := 63) (l_q := L1418) (st_q := [.ref 66]) rfl (jl_aloadn gL1418_0) ?_
            refine jx_ar (pc_q := 65) (st_q := [.int (i32 (91)), .ref 66]) rfl rfl rfl rfl ?_
            refine jx_vr (pc_q := 68) (as := [.int (i32 (91))]) (st := []) rfl rfl rfl rfl ⟨rfl, rfl, Nat.le_of_ble_eq_true rfl⟩ rfl rfl (c_is (dd := d) (hd := by omega) (hW := hW1345) (k := 91) (tk := tk2_1344) (e_tk := show G1341 11 = tk2_1344 from (e1348)) (tn := G1341 13) (e_tn := show G1341 13 = G1341 13 from rfl)  (h_k := ⟨(by decide), (by decide)⟩)  ) (fun o V_q hq => ?_)
            obtain ⟨r1419, rfl, rfl, b1420, q1421⟩ := hq
            refine .inr ⟨_, rfl, ?_⟩
            rcases q1421 with ⟨rfl, a1422, a1423, a1424⟩ | rfl
            · have _q : True := trivial
              refine jx_ld (pc_q := 70) (l_q := jSto1 L1418 5 (.int (i32 (1)))) (st_q := []) rfl rfl ?_
              obtain ⟨L1425, eL1425⟩ : ∃ q, q = jSto1 L1418 5 (.int (i32 (1))) := ⟨_, rfl⟩
              rw [← eL1425]
              have gL1425_0 : jGet L1425 0 = some (.ref 66) := eL1425 ▸ jg_ne (by decide) gL1418_0 rfl
              have gL1425_1 : jGet L1425 1 = some (.int (i32 (G 12))) := eL1425 ▸ jg_ne (by decide) gL1418_1 rfl
              have gL1425_2 : jGet L1425 2 = some (.int (i32 (r1309))) := eL1425 ▸ jg_ne (by decide) gL1418_2 rfl
              have gL1425_3 : jGet L1425 3 = some (.int (i32 (A 7 (r1309).toNat))) := eL1425 ▸ jg_ne (by decide) gL1418_3 rfl
              have gL1425_4 : jGet L1425 4 = some (.int (i32 (0))) := eL1425 ▸ jg_ne (by decide) gL1418_4 rfl
              have gL1425_5 : jGet L1425 5 = some (.int (i32 (1))) := eL1425 ▸ jg_eq
              refine jx_ld (pc_q := 72) (l_q := L1425) (st_q := [.int (i32 (1))]) rfl (jl_iload gL1425_5) ?_
              refine jx_if_eq (pc_q := 75) (tg := 110) rfl rfl rfl (by decide) (by decide) (fun h1426 => ?_) (fun h1426 => ?_)
              · have _q := h1426
                exact absurd h1426 (by omega)
              · have _q := h1426
                refine jx_ld (pc_q := 76) (l_q := L1425) (st_q := [.int (i32 (A 7 (r1309).toNat))]) rfl (jl_iloadn gL1425_3) ?_
                refine jx_st (pc_q := 79) (as := [.int (i32 (A 7 (r1309).toNat))]) (st := []) rfl rfl ⟨rfl, Nat.le_of_ble_eq_true rfl⟩ rfl rfl rfl (c_isArray (dd := d) (hd := by omega) (k := A 7 (r1309).toNat)   (h_k := ⟨(Int.le_trans (by decide : (-2147483648 : Int) ≤ 0) b1339.1), (Int.le_trans b1339.2 (by decide : (14 : Int) ≤ 2147483647))⟩)  ) (fun o V_q hq => ?_)
                obtain ⟨r1427, rfl, rfl, b1428, q1429⟩ := hq
                refine .inr ⟨_, rfl, ?_⟩
                rcases q1429 with ⟨rfl, a1430⟩ | rfl
                · have _q : True := trivial
                  refine jx_if_ne (pc_q := 82) (tg := 95) rfl rfl rfl (by decide) (by decide) (fun h1431 => ?_) (fun h1431 => ?_)
                  · have _q := h1431
                    refine jx_ld (pc_q := 96) (l_q := L1425) (st_q := [.ref 66]) rfl (jl_aloadn gL1425_0) ?_
                    refine jx_vr (pc_q := 99) (as := []) (st := []) rfl rfl rfl rfl ⟨rfl, rfl, Nat.le_of_ble_eq_true rfl⟩ rfl rfl (c_readIndex_w (dd := d) (k := 9) (hE := REw_all X 9) (hd := by omega) (hW := hW1345)  (ln := ln) (e_ln := show G1341 9 = ln from ((hF1346.1 9 rfl).trans ((hF1312.1 9 rfl).trans (e_ln)))) (le := le) (e_le := show A1342 4 (ln).toNat = le from (congrFun ((hF1346.2 4 rfl).trans (hF1312.2 4 rfl)) _).trans (e_le)) (at0 := at2_1343) (e_at0 := show G1341 10 = at2_1343 from (e1347)) (fk := fk2_1310) (e_fk := show G1341 16 = fk2_1310 from ((hF1346.1 16 rfl).trans (e1314))) (op0 := op0) (e_op0 := show G1341 15 = op0 from ((hF1346.1 15 rfl).trans ((hF1312.1 15 rfl).trans (e_op0)))) (nd := nd) (e_nd := show G1341 31 = nd from ((hF1346.1 31 rfl).trans ((hF1312.1 31 rfl).trans (e_nd)))) (tk0 := tk2_1344) (e_tk0 := show G1341 11 = tk2_1344 from (e1348)) (ec := ec) (e_ec := show ecn A1342 (G1341 31) = ec from ec1355) (sy := sy) (e_sy := show G1341 19 = sy from ((hF1346.1 19 rfl).trans ((hF1312.1 19 rfl).trans (e_sy)))) (i_SV := (SV_ext (((hF1346.1 29 rfl).trans (hF1312.1 29 rfl))) (((hF1346.2 14 rfl).trans (hF1312.2 14 rfl))) i_SV))   (p_0 := by omega) (p_1 := by omega) (p_2 := by omega) (p_3 := by omega) (p_4 := by omega) (p_5 := by omega) (p_6 := by omega) (p_7 := by omega) (p_8 := by omega)) (fun o V_q hq => ?_)
                    obtain ⟨G1432, A1433, r1434, at2_1435, fk2_1436, op2_1437, nd2_1438, tk2_1439, ec2_1440, rfl, rfl, hW1441, hF1442, hQ1443, b1444, e1445, e1446, e1447, e1448, e1449, e1450, p1451, p1452, p1453, p1454, p1455, p1456, q1457⟩ := hq
                    have hF1458 := Fr_tr hF1353 hF1442 (Fr_sub (by decide)) (Fr_sub (by decide))
                    have hP1459 := Pf_tr hP1354 hQ1443 (by omega)
                    have bat2_1435 : (0 : Int) ≤ at2_1435 ∧ at2_1435 ≤ 3002 := e1445 ▸ hW1441.1 10
                    have bfk2_1436 : (0 : Int) ≤ fk2_1436 ∧ fk2_1436 ≤ 6 := e1446 ▸ hW1441.1 16
                    have bop2_1437 : (-2147483648 : Int) ≤ op2_1437 ∧ op2_1437 ≤ 2147483647 := e1447 ▸ hW1441.1 15
                    have bnd2_1438 : (0 : Int) ≤ nd2_1438 ∧ nd2_1438 ≤ 6999 := e1448 ▸ hW1441.1 31
                    have ztk2_1439 := tz_b tk2_1439
                    have btk2_1439 : (0 : Int) ≤ tk2_1439 ∧ tk2_1439 ≤ 5 := e1449 ▸ hW1441.1 11
                    refine .inr ⟨_, rfl, ?_⟩
                    rcases q1457 with ⟨a1460, a1461, a1462⟩ | ⟨a1463, a1464, a1465, a1466, a1467, a1468, a1469⟩
                    · have _q : True := trivial
                      refine jx_ld (pc_q := 101) (l_q := jSto1 L1425 4 (.int (i32 (r1434)))) (st_q := []) rfl rfl ?_
                      obtain ⟨L1470, eL1470⟩ : ∃ q, q = jSto1 L1425 4 (.int (i32 (r1434))) := ⟨_, rfl⟩
                      rw [← eL1470]
                      have gL1470_0 : jGet L1470 0 = some (.ref 66) := eL1470 ▸ jg_ne (by decide) gL1425_0 rfl
                      have gL1470_1 : jGet L1470 1 = some (.int (i32 (G 12))) := eL1470 ▸ jg_ne (by decide) gL1425_1 rfl
                      have gL1470_2 : jGet L1470 2 = some (.int (i32 (r1309))) := eL1470 ▸ jg_ne (by decide) gL1425_2 rfl
                      have gL1470_3 : jGet L1470 3 = some (.int (i32 (A 7 (r1309).toNat))) := eL1470 ▸ jg_ne (by decide) gL1425_3 rfl
                      have gL1470_5 : jGet L1470 5 = some (.int (i32 (1))) := eL1470 ▸ jg_ne (by decide) gL1425_5 rfl
                      have gL1470_4 : jGet L1470 4 = some (.int (i32 (r1434))) := eL1470 ▸ jg_eq
                      refine jx_ld (pc_q := 102) (l_q := L1470) (st_q := [.ref 66]) rfl (jl_aloadn gL1470_0) ?_
                      refine jx_vr (pc_q := 105) (as := []) (st := []) rfl rfl rfl rfl ⟨rfl, rfl, Nat.le_of_ble_eq_true rfl⟩ rfl rfl (c_bad (dd := d) (hd := by omega) (hW := hW1441)  (fk := fk2_1436) (e_fk := show G1432 16 = fk2_1436 from (e1446))    ) (fun o V_q hq => ?_)
                      obtain ⟨r1471, rfl, rfl, b1472, q1473⟩ := hq
                      refine .inr ⟨_, rfl, ?_⟩
                      rcases q1473 with ⟨rfl, a1474⟩ | ⟨rfl, a1475⟩
                      · have _q : True := trivial
                        refine jx_if_eq (pc_q := 108) (tg := 110) rfl rfl rfl (by decide) (by decide) (fun h1476 => ?_) (fun h1476 => ?_)
                        · have _q := h1476
                          exact absurd h1476 (by omega)
                        · have _q := h1476
                          refine jx_ar (pc_q := 109) (st_q := [.int (i32 (0))]) rfl rfl rfl rfl ?_
                          refine jx_rt (v := some (.int (i32 (0)))) rfl rfl rfl rfl rfl rfl ?_
                          exact ⟨_, _, _, at2_1435, fk2_1436, nd2_1438, ln, ec2_1440, rfl, rfl, hW1441, hF1458, hP1459, by omega, (e1445), (e1446), (e1448), ((hF1442.1 9 rfl).trans ((hF1346.1 9 rfl).trans ((hF1312.1 9 rfl).trans (e_ln)))), e1450, by omega, by omega, by omega, by omega, by omega, by first | exact Or.inl (⟨by omega, by omega, by omega⟩)⟩
                      · have _q : True := trivial
                        exfalso
                        omega
                    · have _q : True := trivial
                      refine jx_ld (pc_q := 101) (l_q := jSto1 L1425 4 (.int (i32 (r1434)))) (st_q := []) rfl rfl ?_
                      obtain ⟨L1477, eL1477⟩ : ∃ q, q = jSto1 L1425 4 (.int (i32 (r1434))) := ⟨_, rfl⟩
                      rw [← eL1477]
                      have gL1477_0 : jGet L1477 0 = some (.ref 66) := eL1477 ▸ jg_ne (by decide) gL1425_0 rfl
                      have gL1477_1 : jGet L1477 1 = some (.int (i32 (G 12))) := eL1477 ▸ jg_ne (by decide) gL1425_1 rfl
                      have gL1477_2 : jGet L1477 2 = some (.int (i32 (r1309))) := eL1477 ▸ jg_ne (by decide) gL1425_2 rfl
                      have gL1477_3 : jGet L1477 3 = some (.int (i32 (A 7 (r1309).toNat))) := eL1477 ▸ jg_ne (by decide) gL1425_3 rfl
                      have gL1477_5 : jGet L1477 5 = some (.int (i32 (1))) := eL1477 ▸ jg_ne (by decide) gL1425_5 rfl
                      have gL1477_4 : jGet L1477 4 = some (.int (i32 (r1434))) := eL1477 ▸ jg_eq
                      refine jx_ld (pc_q := 102) (l_q := L1477) (st_q := [.ref 66]) rfl (jl_aloadn gL1477_0) ?_
                      refine jx_vr (pc_q := 105) (as := []) (st := []) rfl rfl rfl rfl ⟨rfl, rfl, Nat.le_of_ble_eq_true rfl⟩ rfl rfl (c_bad (dd := d) (hd := by omega) (hW := hW1441)  (fk := fk2_1436) (e_fk := show G1432 16 = fk2_1436 from (e1446))    ) (fun o V_q hq => ?_)
                      obtain ⟨r1478, rfl, rfl, b1479, q1480⟩ := hq
                      refine .inr ⟨_, rfl, ?_⟩
                      rcases q1480 with ⟨rfl, a1481⟩ | ⟨rfl, a1482⟩
                      · have _q : True := trivial
                        exfalso
                        omega
                      · have _q : True := trivial
                        refine jx_if_eq (pc_q := 108) (tg := 110) rfl rfl rfl (by decide) (by decide) (fun h1483 => ?_) (fun h1483 => ?_)
                        · have _q := h1483
                          have z1484 := tz_f (tk2_1439)
                          exact c_readNamed_w_at_110_1 (X := X) (d := d) (Vs := Vs) (sb := sb) (pb := pb) (c0 := c0) (c1 := c1) (G := G) (A := A) (T := T) (ln := ln) (le := le) (at0 := at0) (fk := fk) (op0 := op0) (nd := nd) (tk0 := tk0) (li := li) (ec := ec) (sy := sy) (hd := hd) (hW := hW) (e_ln := e_ln) (e_le := e_le) (e_at0 := e_at0) (e_fk := e_fk) (e_op0 := e_op0) (e_nd := e_nd) (e_tk0 := e_tk0) (e_li := e_li) (e_ec := e_ec) (e_sy := e_sy) (i_SV := i_SV) (i_PQ := i_PQ) (p_0 := p_0) (p_1 := p_1) (p_2 := p_2) (p_3 := p_3) (p_4 := p_4) (p_5 := p_5) L1477 G1432 A1433 (G 12) (r1309) (r1434) (at2_1435) (tk2_1439) (fk2_1436) (nd2_1438) (op2_1437) (A 7 (r1309).toNat) (ec2_1440) gL1477_0 gL1477_5 gL1477_3 gL1477_1 gL1477_2 gL1477_4 hW1441 hF1458 hP1459 ((e1445)) ((e1449)) ((e1446)) ((e1448)) ((e1447)) ((congrFun ((hF1442.2 7 rfl).trans ((hF1346.2 7 rfl).trans (hF1312.2 7 rfl))) _)) (e1450) (((hF1442.1 9 rfl).trans ((hF1346.1 9 rfl).trans ((hF1312.1 9 rfl).trans (e_ln))))) (by omega) (by omega) (by omega) (by omega) (by omega) (by omega) (by omega) (by omega) (by omega) (by omega) (by omega) (a1324) ((wE_mono (by omega) (by omega) (by omega) a1466)) (by omega) (by omega) (a1468)
                        · have _q := h1483
                          exact absurd h1483 (by omega)
                  · have _q := h1431
                    exact absurd h1431 (by omega)
                · have _q : True := trivial
                  refine jx_if_ne (pc_q := 82) (tg := 95) rfl rfl rfl (by decide) (by decide) (fun h1485 => ?_) (fun h1485 => ?_)
                  · have _q := h1485
                    exact absurd h1485 (by omega)
                  · have _q := h1485
                    refine jx_ld (pc_q := 83) (l_q := L1425) (st_q := [.int (i32 (A 7 (r1309).toNat))]) rfl (jl_iloadn gL1425_3) ?_
                    refine jx_ar (pc_q := 84) (st_q := [.int (i32 (4)), .int (i32 (A 7 (r1309).toNat))]) rfl rfl rfl rfl ?_
                    refine jx_icmp_eq (pc_q := 87) (tg := 95) rfl rfl rfl (Int.le_trans (by decide : (-2147483648 : Int) ≤ 0) b1339.1) (Int.le_trans b1339.2 (by decide : (14 : Int) ≤ 2147483647)) (by decide) (by decide) (fun h1486 => ?_) (fun h1486 => ?_)
                    · have _q := h1486
                      refine jx_ld (pc_q := 96) (l_q := L1425) (st_q := [.ref 66]) rfl (jl_aloadn gL1425_0) ?_
                      refine jx_vr (pc_q := 99) (as := []) (st := []) rfl rfl rfl rfl ⟨rfl, rfl, Nat.le_of_ble_eq_true rfl⟩ rfl rfl (c_readIndex_w (dd := d) (k := 9) (hE := REw_all X 9) (hd := by omega) (hW := hW1345)  (ln := ln) (e_ln := show G1341 9 = ln from ((hF1346.1 9 rfl).trans ((hF1312.1 9 rfl).trans (e_ln)))) (le := le) (e_le := show A1342 4 (ln).toNat = le from (congrFun ((hF1346.2 4 rfl).trans (hF1312.2 4 rfl)) _).trans (e_le)) (at0 := at2_1343) (e_at0 := show G1341 10 = at2_1343 from (e1347)) (fk := fk2_1310) (e_fk := show G1341 16 = fk2_1310 from ((hF1346.1 16 rfl).trans (e1314))) (op0 := op0) (e_op0 := show G1341 15 = op0 from ((hF1346.1 15 rfl).trans ((hF1312.1 15 rfl).trans (e_op0)))) (nd := nd) (e_nd := show G1341 31 = nd from ((hF1346.1 31 rfl).trans ((hF1312.1 31 rfl).trans (e_nd)))) (tk0 := tk2_1344) (e_tk0 := show G1341 11 = tk2_1344 from (e1348)) (ec := ec) (e_ec := show ecn A1342 (G1341 31) = ec from ec1355) (sy := sy) (e_sy := show G1341 19 = sy from ((hF1346.1 19 rfl).trans ((hF1312.1 19 rfl).trans (e_sy)))) (i_SV := (SV_ext (((hF1346.1 29 rfl).trans (hF1312.1 29 rfl))) (((hF1346.2 14 rfl).trans (hF1312.2 14 rfl))) i_SV))   (p_0 := by omega) (p_1 := by omega) (p_2 := by omega) (p_3 := by omega) (p_4 := by omega) (p_5 := by omega) (p_6 := by omega) (p_7 := by omega) (p_8 := by omega)) (fun o V_q hq => ?_)
                      obtain ⟨G1487, A1488, r1489, at2_1490, fk2_1491, op2_1492, nd2_1493, tk2_1494, ec2_1495, rfl, rfl, hW1496, hF1497, hQ1498, b1499, e1500, e1501, e1502, e1503, e1504, e1505, p1506, p1507, p1508, p1509, p1510, p1511, q1512⟩ := hq
                      have hF1513 := Fr_tr hF1353 hF1497 (Fr_sub (by decide)) (Fr_sub (by decide))
                      have hP1514 := Pf_tr hP1354 hQ1498 (by omega)
                      have bat2_1490 : (0 : Int) ≤ at2_1490 ∧ at2_1490 ≤ 3002 := e1500 ▸ hW1496.1 10
                      have bfk2_1491 : (0 : Int) ≤ fk2_1491 ∧ fk2_1491 ≤ 6 := e1501 ▸ hW1496.1 16
                      have bop2_1492 : (-2147483648 : Int) ≤ op2_1492 ∧ op2_1492 ≤ 2147483647 := e1502 ▸ hW1496.1 15
                      have bnd2_1493 : (0 : Int) ≤ nd2_1493 ∧ nd2_1493 ≤ 6999 := e1503 ▸ hW1496.1 31
                      have ztk2_1494 := tz_b tk2_1494
                      have btk2_1494 : (0 : Int) ≤ tk2_1494 ∧ tk2_1494 ≤ 5 := e1504 ▸ hW1496.1 11
                      refine .inr ⟨_, rfl, ?_⟩
                      rcases q1512 with ⟨a1515, a1516, a1517⟩ | ⟨a1518, a1519, a1520, a1521, a1522, a1523, a1524⟩
                      · have _q : True := trivial
                        refine jx_ld (pc_q := 101) (l_q := jSto1 L1425 4 (.int (i32 (r1489)))) (st_q := []) rfl rfl ?_
                        obtain ⟨L1525, eL1525⟩ : ∃ q, q = jSto1 L1425 4 (.int (i32 (r1489))) := ⟨_, rfl⟩
                        rw [← eL1525]
                        have gL1525_0 : jGet L1525 0 = some (.ref 66) := eL1525 ▸ jg_ne (by decide) gL1425_0 rfl
                        have gL1525_1 : jGet L1525 1 = some (.int (i32 (G 12))) := eL1525 ▸ jg_ne (by decide) gL1425_1 rfl
                        have gL1525_2 : jGet L1525 2 = some (.int (i32 (r1309))) := eL1525 ▸ jg_ne (by decide) gL1425_2 rfl
                        have gL1525_3 : jGet L1525 3 = some (.int (i32 (A 7 (r1309).toNat))) := eL1525 ▸ jg_ne (by decide) gL1425_3 rfl
                        have gL1525_5 : jGet L1525 5 = some (.int (i32 (1))) := eL1525 ▸ jg_ne (by decide) gL1425_5 rfl
                        have gL1525_4 : jGet L1525 4 = some (.int (i32 (r1489))) := eL1525 ▸ jg_eq
                        refine jx_ld (pc_q := 102) (l_q := L1525) (st_q := [.ref 66]) rfl (jl_aloadn gL1525_0) ?_
                        refine jx_vr (pc_q := 105) (as := []) (st := []) rfl rfl rfl rfl ⟨rfl, rfl, Nat.le_of_ble_eq_true rfl⟩ rfl rfl (c_bad (dd := d) (hd := by omega) (hW := hW1496)  (fk := fk2_1491) (e_fk := show G1487 16 = fk2_1491 from (e1501))    ) (fun o V_q hq => ?_)
                        obtain ⟨r1526, rfl, rfl, b1527, q1528⟩ := hq
                        refine .inr ⟨_, rfl, ?_⟩
                        rcases q1528 with ⟨rfl, a1529⟩ | ⟨rfl, a1530⟩
                        · have _q : True := trivial
                          refine jx_if_eq (pc_q := 108) (tg := 110) rfl rfl rfl (by decide) (by decide) (fun h1531 => ?_) (fun h1531 => ?_)
                          · have _q := h1531
                            exact absurd h1531 (by omega)
                          · have _q := h1531
                            refine jx_ar (pc_q := 109) (st_q := [.int (i32 (0))]) rfl rfl rfl rfl ?_
                            refine jx_rt (v := some (.int (i32 (0)))) rfl rfl rfl rfl rfl rfl ?_
                            exact ⟨_, _, _, at2_1490, fk2_1491, nd2_1493, ln, ec2_1495, rfl, rfl, hW1496, hF1513, hP1514, by omega, (e1500), (e1501), (e1503), ((hF1497.1 9 rfl).trans ((hF1346.1 9 rfl).trans ((hF1312.1 9 rfl).trans (e_ln)))), e1505, by omega, by omega, by omega, by omega, by omega, by first | exact Or.inl (⟨by omega, by omega, by omega⟩)⟩
                        · have _q : True := trivial
                          exfalso
                          omega
                      · have _q : True := trivial
                        refine jx_ld (pc_q := 101) (l_q := jSto1 L1425 4 (.int (i32 (r1489)))) (st_q := []) rfl rfl ?_
                        obtain ⟨L1532, eL1532⟩ : ∃ q, q = jSto1 L1425 4 (.int (i32 (r1489))) := ⟨_, rfl⟩
                        rw [← eL1532]
                        have gL1532_0 : jGet L1532 0 = some (.ref 66) := eL1532 ▸ jg_ne (by decide) gL1425_0 rfl
                        have gL1532_1 : jGet L1532 1 = some (.int (i32 (G 12))) := eL1532 ▸ jg_ne (by decide) gL1425_1 rfl
                        have gL1532_2 : jGet L1532 2 = some (.int (i32 (r1309))) := eL1532 ▸ jg_ne (by decide) gL1425_2 rfl
                        have gL1532_3 : jGet L1532 3 = some (.int (i32 (A 7 (r1309).toNat))) := eL1532 ▸ jg_ne (by decide) gL1425_3 rfl
                        have gL1532_5 : jGet L1532 5 = some (.int (i32 (1))) := eL1532 ▸ jg_ne (by decide) gL1425_5 rfl
                        have gL1532_4 : jGet L1532 4 = some (.int (i32 (r1489))) := eL1532 ▸ jg_eq
                        refine jx_ld (pc_q := 102) (l_q := L1532) (st_q := [.ref 66]) rfl (jl_aloadn gL1532_0) ?_
                        refine jx_vr (pc_q := 105) (as := []) (st := []) rfl rfl rfl rfl ⟨rfl, rfl, Nat.le_of_ble_eq_true rfl⟩ rfl rfl (c_bad (dd := d) (hd := by omega) (hW := hW1496)  (fk := fk2_1491) (e_fk := show G1487 16 = fk2_1491 from (e1501))    ) (fun o V_q hq => ?_)
                        obtain ⟨r1533, rfl, rfl, b1534, q1535⟩ := hq
                        refine .inr ⟨_, rfl, ?_⟩
                        rcases q1535 with ⟨rfl, a1536⟩ | ⟨rfl, a1537⟩
                        · have _q : True := trivial
                          exfalso
                          omega
                        · have _q : True := trivial
                          refine jx_if_eq (pc_q := 108) (tg := 110) rfl rfl rfl (by decide) (by decide) (fun h1538 => ?_) (fun h1538 => ?_)
                          · have _q := h1538
                            have z1539 := tz_f (tk2_1494)
                            exact c_readNamed_w_at_110_1 (X := X) (d := d) (Vs := Vs) (sb := sb) (pb := pb) (c0 := c0) (c1 := c1) (G := G) (A := A) (T := T) (ln := ln) (le := le) (at0 := at0) (fk := fk) (op0 := op0) (nd := nd) (tk0 := tk0) (li := li) (ec := ec) (sy := sy) (hd := hd) (hW := hW) (e_ln := e_ln) (e_le := e_le) (e_at0 := e_at0) (e_fk := e_fk) (e_op0 := e_op0) (e_nd := e_nd) (e_tk0 := e_tk0) (e_li := e_li) (e_ec := e_ec) (e_sy := e_sy) (i_SV := i_SV) (i_PQ := i_PQ) (p_0 := p_0) (p_1 := p_1) (p_2 := p_2) (p_3 := p_3) (p_4 := p_4) (p_5 := p_5) L1532 G1487 A1488 (G 12) (r1309) (r1489) (at2_1490) (tk2_1494) (fk2_1491) (nd2_1493) (op2_1492) (A 7 (r1309).toNat) (ec2_1495) gL1532_0 gL1532_5 gL1532_3 gL1532_1 gL1532_2 gL1532_4 hW1496 hF1513 hP1514 ((e1500)) ((e1504)) ((e1501)) ((e1503)) ((e1502)) ((congrFun ((hF1497.2 7 rfl).trans ((hF1346.2 7 rfl).trans (hF1312.2 7 rfl))) _)) (e1505) (((hF1497.1 9 rfl).trans ((hF1346.1 9 rfl).trans ((hF1312.1 9 rfl).trans (e_ln))))) (by omega) (by omega) (by omega) (by omega) (by omega) (by omega) (by omega) (by omega) (by omega) (by omega) (by omega) (a1324) ((wE_mono (by omega) (by omega) (by omega) a1521)) (by omega) (by omega) (a1523)
                          · have _q := h1538
                            exact absurd h1538 (by omega)
                    · have _q := h1486
                      refine jx_ld (pc_q := 88) (l_q := L1425) (st_q := [.ref 66]) rfl (jl_aloadn gL1425_0) ?_
                      refine jx_ar (pc_q := 89) (st_q := [.int (i32 (4)), .ref 66]) rfl rfl rfl rfl ?_
                      refine jx_ld (pc_q := 90) (l_q := L1425) (st_q := [.int (i32 (G 12)), .int (i32 (4)), .ref 66]) rfl (jl_iloadn gL1425_1) ?_
                      refine jx_vr (pc_q := 93) (as := [.int (i32 (4)), .int (i32 (G 12))]) (st := []) rfl rfl rfl rfl ⟨rfl, rfl, Nat.le_of_ble_eq_true rfl⟩ rfl rfl (c_fail (dd := d) (hd := by omega) (hW := hW1345) (kind := 4) (place := G 12) (fk := fk2_1310) (e_fk := show G1341 16 = fk2_1310 from ((hF1346.1 16 rfl).trans (e1314)))  (h_kind := ⟨(by decide), (by decide)⟩) (h_place := ⟨(Int.le_trans (by decide : (-2147483648 : Int) ≤ -3000) b1305.1), (Int.le_trans b1305.2 (by decide : (3002 : Int) ≤ 2147483647))⟩)  (p_0 := by omega) (p_1 := by omega)) (fun o V_q hq => ?_)
                      obtain ⟨G1540, A1541, fk2_1542, rfl, rfl, hW1543, hF1544, e1545, p1546, -⟩ := hq
                      have hF1548 := Fr_tr hF1353 hF1544 (Fr_sub (by decide)) (Fr_sub (by decide))
                      have hP1549 := Pf_f hP1354 hF1544 (by decide)
                      have ec1550 : ecn A1541 (G1540 31) = ec := (ecn_f (hF1544.2 15 rfl) (hF1544.1 31 rfl)).trans ec1355
                      have bfk2_1542 : (0 : Int) ≤ fk2_1542 ∧ fk2_1542 ≤ 6 := e1545 ▸ hW1543.1 16
                      refine .inl ⟨rfl, ?_⟩
                      refine jx_ar (pc_q := 94) (st_q := [.int (i32 (0))]) rfl rfl rfl rfl ?_
                      refine jx_rt (v := some (.int (i32 (0)))) rfl rfl rfl rfl rfl rfl ?_
                      exact ⟨_, _, _, at2_1343, fk2_1542, nd, ln, ec, rfl, rfl, hW1543, hF1548, hP1549, by omega, ((hF1544.1 10 rfl).trans (e1347)), (e1545), ((hF1544.1 31 rfl).trans ((hF1346.1 31 rfl).trans ((hF1312.1 31 rfl).trans (e_nd)))), ((hF1544.1 9 rfl).trans ((hF1346.1 9 rfl).trans ((hF1312.1 9 rfl).trans (e_ln)))), ec1550, by omega, by omega, by omega, by omega, by omega, by first | exact Or.inl (⟨by omega, by omega, by omega⟩)⟩
            · have _q : True := trivial
              refine jx_ld (pc_q := 70) (l_q := jSto1 L1418 5 (.int (i32 (0)))) (st_q := []) rfl rfl ?_
              obtain ⟨L1551, eL1551⟩ : ∃ q, q = jSto1 L1418 5 (.int (i32 (0))) := ⟨_, rfl⟩
              rw [← eL1551]
              have gL1551_0 : jGet L1551 0 = some (.ref 66) := eL1551 ▸ jg_ne (by decide) gL1418_0 rfl
              have gL1551_1 : jGet L1551 1 = some (.int (i32 (G 12))) := eL1551 ▸ jg_ne (by decide) gL1418_1 rfl
              have gL1551_2 : jGet L1551 2 = some (.int (i32 (r1309))) := eL1551 ▸ jg_ne (by decide) gL1418_2 rfl
              have gL1551_3 : jGet L1551 3 = some (.int (i32 (A 7 (r1309).toNat))) := eL1551 ▸ jg_ne (by decide) gL1418_3 rfl
              have gL1551_4 : jGet L1551 4 = some (.int (i32 (0))) := eL1551 ▸ jg_ne (by decide) gL1418_4 rfl
              have gL1551_5 : jGet L1551 5 = some (.int (i32 (0))) := eL1551 ▸ jg_eq
              refine jx_ld (pc_q := 72) (l_q := L1551) (st_q := [.int (i32 (0))]) rfl (jl_iload gL1551_5) ?_
              refine jx_if_eq (pc_q := 75) (tg := 110) rfl rfl rfl (by decide) (by decide) (fun h1552 => ?_) (fun h1552 => ?_)
              · have _q := h1552
                have z1553 := tz_f (tk2_1344)
                exact c_readNamed_w_at_110_0 (X := X) (d := d) (Vs := Vs) (sb := sb) (pb := pb) (c0 := c0) (c1 := c1) (G := G) (A := A) (T := T) (ln := ln) (le := le) (at0 := at0) (fk := fk) (op0 := op0) (nd := nd) (tk0 := tk0) (li := li) (ec := ec) (sy := sy) (hd := hd) (hW := hW) (e_ln := e_ln) (e_le := e_le) (e_at0 := e_at0) (e_fk := e_fk) (e_op0 := e_op0) (e_nd := e_nd) (e_tk0 := e_tk0) (e_li := e_li) (e_ec := e_ec) (e_sy := e_sy) (i_SV := i_SV) (i_PQ := i_PQ) (p_0 := p_0) (p_1 := p_1) (p_2 := p_2) (p_3 := p_3) (p_4 := p_4) (p_5 := p_5) L1551 G1341 A1342 (G 12) (r1309) (at2_1343) (tk2_1344) (fk2_1310) (nd) (op0) (A 7 (r1309).toNat) (ec) gL1551_0 gL1551_5 gL1551_3 gL1551_4 gL1551_1 gL1551_2 hW1345 hF1353 hP1354 ((e1347)) ((e1348)) (((hF1346.1 16 rfl).trans (e1314))) (((hF1346.1 31 rfl).trans ((hF1312.1 31 rfl).trans (e_nd)))) (((hF1346.1 15 rfl).trans ((hF1312.1 15 rfl).trans (e_op0)))) ((congrFun ((hF1346.2 7 rfl).trans (hF1312.2 7 rfl)) _)) (ec1355) (((hF1346.1 9 rfl).trans ((hF1312.1 9 rfl).trans (e_ln)))) (by omega) (by omega) (by omega) (by omega) (by omega) (by omega) (by omega) (by omega) (by omega) (by omega) (a1324) (by omega) ((NdM_0 (by omega)))
              · have _q := h1552
                exact absurd h1552 (by omega)
          · have _q := h1417
            exact absurd h1417 (by omega)
      · have _q := h1338
        exact absurd h1338 (by omega)
