set_option maxRecDepth 20000 in
set_option maxHeartbeats 4000000 in
theorem c_readNamed_w_at_259_1 {X : jX} {d : Nat} {Vs : Nat → Prop} {sb pb : Int} {c0 c1 : jC} {G : Nat → Int} {A : Nat → Nat → Int} {T : jH} {ln le at0 fk op0 nd tk0 li ec sy : Int} (hd : 72 ≤ d + 1) (hW : Wk G A) (e_ln : G 9 = ln) (e_le : A 4 (ln).toNat = le) (e_at0 : G 10 = at0) (e_fk : G 16 = fk) (e_op0 : G 15 = op0) (e_nd : G 31 = nd) (e_tk0 : G 11 = tk0) (e_li : G 3 = li) (e_ec : ecn A (G 31) = ec) (e_sy : G 19 = sy) (i_SV : SV Vs sb G A) (i_PQ : PQ Vs sb pb G A) (p_0 : 0 ≤ op0 ∧ op0 ≤ 8) (p_1 : fk = 0) (p_2 : nd ≤ 2 * at0 - tz tk0 + 42) (p_3 : at0 ≤ le) (p_4 : ln < li) (p_5 : tk0 = 1) : ∀ (L : jL) (Gx : Nat → Int) (Ax : Nat → Nat → Int) (s ix at1 tk1 fk1 nd1 op1 ks ec1 : Int), jGet L 0 = some (.ref 66) → jGet L 5 = some (.int (i32 (1))) → jGet L 2 = some (.int (i32 s)) → jGet L 4 = some (.int (i32 ix)) → Wk Gx Ax → Fr [9, 10, 11, 12, 13, 14, 15, 16, 17, 18, 31] [15, 16, 17, 18, 19, 20, 21, 22, 24, 28] G A Gx Ax → Pf nd A Ax → Gx 10 = at1 → Gx 11 = tk1 → Gx 16 = fk1 → Gx 31 = nd1 → Gx 15 = op1 → Ax 7 (s).toNat = ks → ecn Ax (Gx 31) = ec1 → Gx 9 = ln → ((-2147483648 : Int) ≤ s ∧ s ≤ 2147483647) → ((-2147483648 : Int) ≤ ix ∧ ix ≤ 2147483647) → (at0 ≤ at1) → (at1 ≤ le) → (nd ≤ nd1) → (op1 = op0) → (fk1 = 0) → (nd1 - nd ≤ (2 * at1 - tz tk1) - (2 * at0 - tz tk0) - 1) → (tz tk1 = 1) → (0 ≤ s ∧ s ≤ 201) → (SY Vs sb (s)) → (ks = 4) → (wE Ax Vs sb (20) (ix) (nd) (nd1)) → (nd1 - nd + 5 * (ec1 - ec) ≤ (2 * at1 - tz tk1) - (2 * at0 - tz tk0) - 6 - tz tk1) → (NdM Ax (nd) (nd1) (sy)) → wj X d jm304 (259, L, [], rV c0 c1 Gx Ax T) (fun o V' => ∃ (G' : Nat → Int) (A' : Nat → Nat → Int) (r : Int) (at2 : Int) (fk2 : Int) (nd2 : Int) (ln2 : Int) (ec2 : Int), V' = rV c0 c1 G' A' T ∧ o = .inl (some (.int (i32 r))) ∧ Wk G' A' ∧ Fr [9, 10, 11, 12, 13, 14, 15, 16, 17, 18, 31] [15, 16, 17, 18, 19, 20, 21, 22, 24, 28] G A G' A' ∧ Pf nd A A' ∧ ((-2147483648 : Int) ≤ r ∧ r ≤ 2147483647) ∧ G' 10 = at2 ∧ G' 16 = fk2 ∧ G' 31 = nd2 ∧ G' 9 = ln2 ∧ ecn A' (G' 31) = ec2 ∧ (at0 ≤ at2) ∧ (at2 ≤ le) ∧ (nd ≤ nd2) ∧ (0 ≤ r) ∧ (r ≤ nd2) ∧ (((1 ≤ fk2) ∧ (ln2 = ln) ∧ (nd2 - nd ≤ 2 * at2 - 2 * at0 + 8)) ∨ ((fk2 = 0) ∧ (ln2 = ln + 1) ∧ (nd2 - nd ≤ 2 * at2 - (2 * at0 - tz tk0) + 0) ∧ (nd ≤ r) ∧ (r < nd2) ∧ (wL A' sb pb Vs (r) (nd) (nd2)) ∧ (NX A' (r)) ∧ (nd2 - nd + 5 * (ec2 - ec) ≤ 2 * at2 - (2 * at0 - tz tk0) + 0) ∧ (NdM A' (nd) (nd2) (sy))))) := by
  have hF0 : Fr [9, 10, 11, 12, 13, 14, 15, 16, 17, 18, 31] [15, 16, 17, 18, 19, 20, 21, 22, 24, 28] G A G A := Fr_rf
  have hP0 : Pf nd A A := Pf_rf
  have b_ln : (0 : Int) ≤ ln ∧ ln ≤ 3000 := e_ln ▸ hW.1 9
  have b_le : (0 : Int) ≤ le ∧ le ≤ 3000 := e_le ▸ hW.2 4 _
  have b_at0 : (0 : Int) ≤ at0 ∧ at0 ≤ 3002 := e_at0 ▸ hW.1 10
  have b_fk : (0 : Int) ≤ fk ∧ fk ≤ 6 := e_fk ▸ hW.1 16
  have b_op0 : (-2147483648 : Int) ≤ op0 ∧ op0 ≤ 2147483647 := e_op0 ▸ hW.1 15
  have b_nd : (0 : Int) ≤ nd ∧ nd ≤ 6999 := e_nd ▸ hW.1 31
  have z_tk0 := tz_f tk0
  have b_tk0 : (0 : Int) ≤ tk0 ∧ tk0 ≤ 5 := e_tk0 ▸ hW.1 11
  have b_li : (0 : Int) ≤ li ∧ li ≤ 3000 := e_li ▸ hW.1 3
  have b_sy : (0 : Int) ≤ sy ∧ sy ≤ 202 := e_sy ▸ hW.1 19
  intro L Gx Ax s ix at1 tk1 fk1 nd1 op1 ks ec1 gL_0 gL_5 gL_2 gL_4 hWx hFx hPx ex_at1 ex_tk1 ex_fk1 ex_nd1 ex_op1 ex_ks ex_ec1 fx_9 rx_s rx_ix iv_0 iv_1 iv_2 iv_3 iv_4 iv_5 iv_6 iv_7 iv_8 iv_9 iv_10 iv_11 iv_12
  have b_at1 : (0 : Int) ≤ at1 ∧ at1 ≤ 3002 := ex_at1 ▸ hWx.1 10
  have z_tk1 := tz_f tk1
  have b_tk1 : (0 : Int) ≤ tk1 ∧ tk1 ≤ 5 := ex_tk1 ▸ hWx.1 11
  have b_fk1 : (0 : Int) ≤ fk1 ∧ fk1 ≤ 6 := ex_fk1 ▸ hWx.1 16
  have b_nd1 : (0 : Int) ≤ nd1 ∧ nd1 ≤ 6999 := ex_nd1 ▸ hWx.1 31
  have b_op1 : (-2147483648 : Int) ≤ op1 ∧ op1 ≤ 2147483647 := ex_op1 ▸ hWx.1 15
  have b_ks : (0 : Int) ≤ ks ∧ ks ≤ 14 := ex_ks ▸ hWx.2 7 _
  refine jx_ld (pc' := 260) (l' := L) (st' := [.ref 66]) rfl (jl_aloadn gL_0) ?_
  refine jx_ar (pc' := 262) (st' := [.int (i32 (33)), .ref 66]) rfl rfl rfl rfl ?_
  have b1 : (-2147483648 : Int) ≤ Gx 13 ∧ Gx 13 ≤ 2147483647 := hWx.1 13
  refine jx_vr (pc' := 265) (as := [.int (i32 (33))]) (st := []) rfl rfl rfl rfl ⟨rfl, rfl, Nat.le_of_ble_eq_true rfl⟩ rfl rfl (c_is (dd := d) (hd := by omega) (hW := hWx) (k := 33) (tk := tk1) (e_tk := show Gx 11 = tk1 from (ex_tk1)) (tn := Gx 13) (e_tn := show Gx 13 = Gx 13 from rfl)  (h_k := ⟨(by decide), (by decide)⟩)  ) (fun o V' hq => ?_)
  obtain ⟨r2, rfl, rfl, b3, q4⟩ := hq
  refine .inr ⟨_, rfl, ?_⟩
  rcases q4 with ⟨rfl, a5, a6, a7⟩ | rfl
  · have _q : True := trivial
    refine jx_ld (pc' := 267) (l' := jSto1 L 6 (.int (i32 (1)))) (st' := []) rfl rfl ?_
    obtain ⟨L8, eL8⟩ : ∃ q, q = jSto1 L 6 (.int (i32 (1))) := ⟨_, rfl⟩
    rw [← eL8]
    have gL8_0 : jGet L8 0 = some (.ref 66) := eL8 ▸ jg_ne (by decide) gL_0 rfl
    have gL8_5 : jGet L8 5 = some (.int (i32 (1))) := eL8 ▸ jg_ne (by decide) gL_5 rfl
    have gL8_2 : jGet L8 2 = some (.int (i32 (s))) := eL8 ▸ jg_ne (by decide) gL_2 rfl
    have gL8_4 : jGet L8 4 = some (.int (i32 (ix))) := eL8 ▸ jg_ne (by decide) gL_4 rfl
    have gL8_6 : jGet L8 6 = some (.int (i32 (1))) := eL8 ▸ jg_eq
    refine jx_ld (pc' := 268) (l' := L8) (st' := [.ref 66]) rfl (jl_aloadn gL8_0) ?_
    refine jx_ld (pc' := 270) (l' := L8) (st' := [.int (i32 (1)), .ref 66]) rfl (jl_iload gL8_6) ?_
    refine jx_if_eq (pc' := 273) (tg := 278) rfl rfl rfl (by decide) (by decide) (fun h9 => ?_) (fun h9 => ?_)
    · have _q := h9
      exact absurd h9 (by omega)
    · have _q := h9
      refine jx_ar (pc' := 275) (st' := [.int (i32 (23)), .ref 66]) rfl rfl rfl rfl ?_
      refine jx_go (tg := 280) rfl rfl ?_
      refine jx_ld (pc' := 281) (l' := L8) (st' := [.ref 66, .int (i32 (23)), .ref 66]) rfl (jl_aloadn gL8_0) ?_
      refine jx_ld (pc' := 283) (l' := L8) (st' := [.int (i32 (1)), .ref 66, .int (i32 (23)), .ref 66]) rfl (jl_iload gL8_5) ?_
      refine jx_if_eq (pc' := 286) (tg := 290) rfl rfl rfl (by decide) (by decide) (fun h10 => ?_) (fun h10 => ?_)
      · have _q := h10
        exact absurd h10 (by omega)
      · have _q := h10
        refine jx_ar (pc' := 287) (st' := [.int (i32 (3)), .ref 66, .int (i32 (23)), .ref 66]) rfl rfl rfl rfl ?_
        refine jx_go (tg := 291) rfl rfl ?_
        refine jx_ld (pc' := 292) (l' := L8) (st' := [.int (i32 (s)), .int (i32 (3)), .ref 66, .int (i32 (23)), .ref 66]) rfl (jl_iloadn gL8_2) ?_
        refine jx_ld (pc' := 294) (l' := L8) (st' := [.int (i32 (ix)), .int (i32 (s)), .int (i32 (3)), .ref 66, .int (i32 (23)), .ref 66]) rfl (jl_iload gL8_4) ?_
        refine jx_ar (pc' := 295) (st' := [.int (i32 (0)), .int (i32 (ix)), .int (i32 (s)), .int (i32 (3)), .ref 66, .int (i32 (23)), .ref 66]) rfl rfl rfl rfl ?_
        refine jx_ar (pc' := 296) (st' := [.int (i32 (0)), .int (i32 (0)), .int (i32 (ix)), .int (i32 (s)), .int (i32 (3)), .ref 66, .int (i32 (23)), .ref 66]) rfl rfl rfl rfl ?_
        refine jx_vr (pc' := 299) (as := [.int (i32 (3)), .int (i32 (s)), .int (i32 (ix)), .int (i32 (0)), .int (i32 (0))]) (st := [.int (i32 (23)), .ref 66]) rfl rfl rfl rfl ⟨rfl, rfl, Nat.le_of_ble_eq_true rfl⟩ rfl rfl (c_node_e (dd := d) (hd := by omega) (hW := hWx) (kind := 3) (a := s) (b := ix) (c := 0) (e := 0) (nd := nd1) (e_nd := show Gx 31 = nd1 from (ex_nd1)) (ec := ec1) (e_ec := show ecn Ax (Gx 31) = ec1 from ex_ec1) (sy := sy) (e_sy := show Gx 19 = sy from ((hFx.1 19 rfl).trans (e_sy)))  (h_kind := ⟨(by decide), (by decide)⟩) (h_a := ⟨(Int.le_trans (by decide : (-2147483648 : Int) ≤ -2147483648) rx_s.1), (Int.le_trans rx_s.2 (by decide : (2147483647 : Int) ≤ 2147483647))⟩) (h_b := ⟨(Int.le_trans (by decide : (-2147483648 : Int) ≤ -2147483648) rx_ix.1), (Int.le_trans rx_ix.2 (by decide : (2147483647 : Int) ≤ 2147483647))⟩) (h_c := ⟨(by decide), (by decide)⟩) (h_e := ⟨(by decide), (by decide)⟩)  (p_0 := by omega) (p_1 := by omega) (p_2 := by omega)) (fun o V' hq => ?_)
        obtain ⟨G11, A12, nd2_13, ec2_14, rfl, rfl, hW15, hF16, hQ17, e18, e19, p20, p21, p22, p23, -⟩ := hq
        have hF25 := Fr_tr hFx hF16 (Fr_sub (by decide)) (Fr_sub (by decide))
        have hP26 := Pf_tr hPx hQ17 (by omega)
        have sf27 : wE A12 Vs sb (20) (ix) (nd) (nd1) := wE_ag (by omega) (Sg_fr hF16 (by decide)) (Ag_pf hQ17 (by omega)) iv_10
        have sf28 : NdM A12 (nd) (nd1) (sy) := NdM_pf hQ17 (by omega) (by omega) iv_12
        have bnd2_13 : (0 : Int) ≤ nd2_13 ∧ nd2_13 ≤ 6999 := e18 ▸ hW15.1 31
        refine .inr ⟨_, rfl, ?_⟩
        refine jx_ar (pc' := 300) (st' := [.int (i32 (0)), .int (i32 (nd1)), .int (i32 (23)), .ref 66]) rfl rfl rfl rfl ?_
        refine jx_ar (pc' := 301) (st' := [.int (i32 (0)), .int (i32 (0)), .int (i32 (nd1)), .int (i32 (23)), .ref 66]) rfl rfl rfl rfl ?_
        refine jx_ar (pc' := 302) (st' := [.int (i32 (0)), .int (i32 (0)), .int (i32 (0)), .int (i32 (nd1)), .int (i32 (23)), .ref 66]) rfl rfl rfl rfl ?_
        refine jx_vr (pc' := 305) (as := [.int (i32 (23)), .int (i32 (nd1)), .int (i32 (0)), .int (i32 (0)), .int (i32 (0))]) (st := []) rfl rfl rfl rfl ⟨rfl, rfl, Nat.le_of_ble_eq_true rfl⟩ rfl rfl (c_node_l (dd := d) (hd := by omega) (hW := hW15) (kind := 23) (a := nd1) (b := 0) (c := 0) (e := 0) (nd := nd2_13) (e_nd := show G11 31 = nd2_13 from (e18)) (ec := ec2_14) (e_ec := show ecn A12 (G11 31) = ec2_14 from e19) (sy := sy) (e_sy := show G11 19 = sy from ((hF16.1 19 rfl).trans ((hFx.1 19 rfl).trans (e_sy)))) (ln := ln) (e_ln := show G11 9 = ln from ((hF16.1 9 rfl).trans (fx_9))) (li := li) (e_li := show G11 3 = li from ((hF16.1 3 rfl).trans ((hFx.1 3 rfl).trans (e_li))))  (h_kind := ⟨(by decide), (by decide)⟩) (h_a := ⟨(Int.le_trans (by decide : (-2147483648 : Int) ≤ 0) b_nd1.1), (Int.le_trans b_nd1.2 (by decide : (6999 : Int) ≤ 2147483647))⟩) (h_b := ⟨(by decide), (by decide)⟩) (h_c := ⟨(by decide), (by decide)⟩) (h_e := ⟨(by decide), (by decide)⟩)  (p_0 := by omega) (p_1 := by omega) (p_2 := by omega) (p_3 := by omega)) (fun o V' hq => ?_)
        obtain ⟨G29, A30, nd2_31, ec2_32, rfl, rfl, hW33, hF34, hQ35, e36, e37, p38, p39, p40, p41, -⟩ := hq
        have hF43 := Fr_tr hF25 hF34 (Fr_sub (by decide)) (Fr_sub (by decide))
        have hP44 := Pf_tr hP26 hQ35 (by omega)
        have sf45 : wE A30 Vs sb (20) (ix) (nd) (nd1) := wE_ag (by omega) (Sg_fr hF34 (by decide)) (Ag_pf hQ35 (by omega)) sf27
        have sf46 : NdM A30 (nd) (nd1) (sy) := NdM_pf hQ35 (by omega) (by omega) sf28
        have sf47 : ND A30 (nd1) (3) (s) (ix) (0) (0) (0) (0) := ND_ag (by omega) (Ag_pf hQ35 (by omega)) p22
        have sf48 : NdM A30 (nd1) (nd1 + 1) (sy) := NdM_pf hQ35 (by omega) (by omega) p23
        have bnd2_31 : (0 : Int) ≤ nd2_31 ∧ nd2_31 ≤ 6999 := e36 ▸ hW33.1 31
        refine .inr ⟨_, rfl, ?_⟩
        refine jx_ld (pc' := 307) (l' := jSto1 L8 7 (.int (i32 (nd2_13)))) (st' := []) rfl rfl ?_
        obtain ⟨L49, eL49⟩ : ∃ q, q = jSto1 L8 7 (.int (i32 (nd2_13))) := ⟨_, rfl⟩
        rw [← eL49]
        have gL49_0 : jGet L49 0 = some (.ref 66) := eL49 ▸ jg_ne (by decide) gL8_0 rfl
        have gL49_5 : jGet L49 5 = some (.int (i32 (1))) := eL49 ▸ jg_ne (by decide) gL8_5 rfl
        have gL49_2 : jGet L49 2 = some (.int (i32 (s))) := eL49 ▸ jg_ne (by decide) gL8_2 rfl
        have gL49_4 : jGet L49 4 = some (.int (i32 (ix))) := eL49 ▸ jg_ne (by decide) gL8_4 rfl
        have gL49_6 : jGet L49 6 = some (.int (i32 (1))) := eL49 ▸ jg_ne (by decide) gL8_6 rfl
        have gL49_7 : jGet L49 7 = some (.int (i32 (nd2_13))) := eL49 ▸ jg_eq
        refine jx_ld (pc' := 308) (l' := L49) (st' := [.ref 66]) rfl (jl_aloadn gL49_0) ?_
        refine jx_vr (pc' := 311) (as := []) (st := []) rfl rfl rfl rfl ⟨rfl, rfl, Nat.le_of_ble_eq_true rfl⟩ rfl rfl (c_next (dd := d) (hd := by omega) (hW := hW33)  (ln := ln) (e_ln := show G29 9 = ln from ((hF34.1 9 rfl).trans ((hF16.1 9 rfl).trans (fx_9)))) (le := le) (e_le := show A30 4 (ln).toNat = le from (congrFun ((hF34.2 4 rfl).trans ((hF16.2 4 rfl).trans (hFx.2 4 rfl))) _).trans (e_le)) (at0 := at1) (e_at0 := show G29 10 = at1 from ((hF34.1 10 rfl).trans ((hF16.1 10 rfl).trans (ex_at1))))    (p_0 := by omega)) (fun o V' hq => ?_)
        obtain ⟨G50, A51, at2_52, tk2_53, rfl, rfl, hW54, hF55, e56, e57, p58, p59, p60, -⟩ := hq
        have hF62 := Fr_tr hF43 hF55 (Fr_sub (by decide)) (Fr_sub (by decide))
        have hP63 := Pf_f hP44 hF55 (by decide)
        have sf64 : wE A51 Vs sb (20) (ix) (nd) (nd1) := wE_ag (by omega) (Sg_fr hF55 (by decide)) (Ag_fr hF55 (by decide)) sf45
        have sf65 : NdM A51 (nd) (nd1) (sy) := NdM_f hF55 (by decide) sf46
        have sf66 : ND A51 (nd1) (3) (s) (ix) (0) (0) (0) (0) := ND_ag (by omega) (Ag_fr hF55 (by decide)) sf47
        have sf67 : NdM A51 (nd1) (nd1 + 1) (sy) := NdM_f hF55 (by decide) sf48
        have sf68 : ND A51 (nd2_13) (23) (nd1) (0) (0) (0) (0) (0) := ND_ag (by omega) (Ag_fr hF55 (by decide)) p40
        have sf69 : NdM A51 (nd2_13) (nd2_13 + 1) (sy) := NdM_f hF55 (by decide) p41
        have ec70 : ecn A51 (G50 31) = ec2_32 := (ecn_f (hF55.2 15 rfl) (hF55.1 31 rfl)).trans e37
        have bat2_52 : (0 : Int) ≤ at2_52 ∧ at2_52 ≤ 3002 := e56 ▸ hW54.1 10
        have ztk2_53 := tz_b tk2_53
        have btk2_53 : (0 : Int) ≤ tk2_53 ∧ tk2_53 ≤ 5 := e57 ▸ hW54.1 11
        refine .inl ⟨rfl, ?_⟩
        have pz71 : at1 + tz tk2_53 ≤ at2_52 := by omega
        refine jx_ld (pc' := 312) (l' := L49) (st' := [.ref 66]) rfl (jl_aloadn gL49_0) ?_
        refine jr_get (pc' := 315) (i := 35) (v := .ref 85) rfl rfl (by decide) rfl rfl ?_
        refine jx_ld (pc' := 317) (l' := L49) (st' := [.int (i32 (nd2_13)), .ref 85]) rfl (jl_iload gL49_7) ?_
        refine jx_ld (pc' := 319) (l' := L49) (st' := [.int (i32 (1)), .int (i32 (nd2_13)), .ref 85]) rfl (jl_iload gL49_6) ?_
        refine jx_if_eq (pc' := 322) (tg := 329) rfl rfl rfl (by decide) (by decide) (fun h72 => ?_) (fun h72 => ?_)
        · have _q := h72
          exact absurd h72 (by omega)
        · have _q := h72
          refine jx_ld (pc' := 323) (l' := L49) (st' := [.ref 66, .int (i32 (nd2_13)), .ref 85]) rfl (jl_aloadn gL49_0) ?_
          refine jx_vr (pc' := 326) (as := []) (st := [.int (i32 (nd2_13)), .ref 85]) rfl rfl rfl rfl ⟨rfl, rfl, Nat.le_of_ble_eq_true rfl⟩ rfl rfl (REw_all X 9 (dd := d) (hd := by omega) (hW := hW54)  (ln := ln) (e_ln := show G50 9 = ln from ((hF55.1 9 rfl).trans ((hF34.1 9 rfl).trans ((hF16.1 9 rfl).trans (fx_9))))) (le := le) (e_le := show A51 4 (ln).toNat = le from (congrFun ((hF55.2 4 rfl).trans ((hF34.2 4 rfl).trans ((hF16.2 4 rfl).trans (hFx.2 4 rfl)))) _).trans (e_le)) (at0 := at2_52) (e_at0 := show G50 10 = at2_52 from (e56)) (fk := fk1) (e_fk := show G50 16 = fk1 from ((hF55.1 16 rfl).trans ((hF34.1 16 rfl).trans ((hF16.1 16 rfl).trans (ex_fk1))))) (op0 := op1) (e_op0 := show G50 15 = op1 from ((hF55.1 15 rfl).trans ((hF34.1 15 rfl).trans ((hF16.1 15 rfl).trans (ex_op1))))) (nd := nd2_31) (e_nd := show G50 31 = nd2_31 from ((hF55.1 31 rfl).trans (e36))) (tk0 := tk2_53) (e_tk0 := show G50 11 = tk2_53 from (e57)) (ec := ec2_32) (e_ec := show ecn A51 (G50 31) = ec2_32 from ec70) (sy := sy) (e_sy := show G50 19 = sy from ((hF55.1 19 rfl).trans ((hF34.1 19 rfl).trans ((hF16.1 19 rfl).trans ((hFx.1 19 rfl).trans (e_sy)))))) (i_SV := (SV_ext (((hF55.1 29 rfl).trans ((hF34.1 29 rfl).trans ((hF16.1 29 rfl).trans (hFx.1 29 rfl))))) (((hF55.2 14 rfl).trans ((hF34.2 14 rfl).trans ((hF16.2 14 rfl).trans (hFx.2 14 rfl))))) i_SV))   (p_0 := by omega) (p_1 := by omega) (p_2 := by omega) (p_3 := by omega) (p_4 := by omega) (p_5 := by omega)) (fun o V' hq => ?_)
          obtain ⟨G73, A74, r75, at2_76, fk2_77, op2_78, nd2_79, tk2_80, ec2_81, rfl, rfl, hW82, hF83, hQ84, b85, e86, e87, e88, e89, e90, e91, p92, p93, p94, p95, p96, p97, q98⟩ := hq
          have hF99 := Fr_tr hF62 hF83 (Fr_sub (by decide)) (Fr_sub (by decide))
          have hP100 := Pf_tr hP63 hQ84 (by omega)
          have sf101 : wE A74 Vs sb (20) (ix) (nd) (nd1) := wE_ag (by omega) (Sg_fr hF83 (by decide)) (Ag_pf hQ84 (by omega)) sf64
          have sf102 : NdM A74 (nd) (nd1) (sy) := NdM_pf hQ84 (by omega) (by omega) sf65
          have sf103 : ND A74 (nd1) (3) (s) (ix) (0) (0) (0) (0) := ND_ag (by omega) (Ag_pf hQ84 (by omega)) sf66
          have sf104 : NdM A74 (nd1) (nd1 + 1) (sy) := NdM_pf hQ84 (by omega) (by omega) sf67
          have sf105 : ND A74 (nd2_13) (23) (nd1) (0) (0) (0) (0) (0) := ND_ag (by omega) (Ag_pf hQ84 (by omega)) sf68
          have sf106 : NdM A74 (nd2_13) (nd2_13 + 1) (sy) := NdM_pf hQ84 (by omega) (by omega) sf69
          have bat2_76 : (0 : Int) ≤ at2_76 ∧ at2_76 ≤ 3002 := e86 ▸ hW82.1 10
          have bfk2_77 : (0 : Int) ≤ fk2_77 ∧ fk2_77 ≤ 6 := e87 ▸ hW82.1 16
          have bop2_78 : (-2147483648 : Int) ≤ op2_78 ∧ op2_78 ≤ 2147483647 := e88 ▸ hW82.1 15
          have bnd2_79 : (0 : Int) ≤ nd2_79 ∧ nd2_79 ≤ 6999 := e89 ▸ hW82.1 31
          have ztk2_80 := tz_b tk2_80
          have btk2_80 : (0 : Int) ≤ tk2_80 ∧ tk2_80 ≤ 5 := e90 ▸ hW82.1 11
          refine .inr ⟨_, rfl, ?_⟩
          rcases q98 with ⟨a107, a108, a109, a110, a111, a112⟩ | ⟨a113, a114, a115⟩ | ⟨a116, a117, a118, a119, a120, a121, a122⟩
          · have _q : True := trivial
            exfalso
            omega
          · have _q : True := trivial
            refine jx_go (tg := 334) rfl rfl ?_
            refine jr_st (pc' := 335) (i := 18) (m := 7000) (z := nd2_13) (y := r75) rfl (by decide) rfl (by decide) (by omega) (by omega) rfl ?_
            have hW124 : Wk G73 (uA A74 18 (nd2_13).toNat (r75)) := Wk_a hW82 (show (-2147483648 : Int) ≤ r75 by omega) (show r75 ≤ (2147483647 : Int) by omega)
            have hF125 := Fr_a (z := r75) (k := 18) (n := (nd2_13).toNat) hF99 (by decide)
            obtain ⟨A123, eA123⟩ : ∃ q, q = uA A74 18 (nd2_13).toNat (r75) := ⟨_, rfl⟩
            rw [← eA123]
            rw [← eA123] at hW124 hF125
            have q126 : A123 18 (nd2_13).toNat = r75 := by rw [eA123]; exact uA_eq
            have hP127 : Pf nd A A123 := eA123 ▸ Pf_a hP100 (z := nd2_13) (by omega) (by omega)
            have sf128 : wE A123 Vs sb (20) (ix) (nd) (nd1) := wE_ag (by omega) (Sg_ne eA123 rfl) (Ag_st eA123 (by omega) (by omega)) sf101
            have sf129 : NdM A123 (nd) (nd1) (sy) := NdM_st eA123 (by decide) sf102
            have sf130 : ND A123 (nd1) (3) (s) (ix) (0) (0) (0) (0) := ND_ag (by omega) (Ag_st eA123 (by omega) (by omega)) sf103
            have sf131 : NdM A123 (nd1) (nd1 + 1) (sy) := NdM_st eA123 (by decide) sf104
            have sf132 : ND A123 (nd2_13) (23) (nd1) (r75) (0) (0) (0) (0) := ND_b eA123 sf105
            have sf133 : NdM A123 (nd2_13) (nd2_13 + 1) (sy) := NdM_st eA123 (by decide) sf106
            have ec134 : ecn A123 (G73 31) = ec2_81 := (ecn_e ((congrFun eA123 15).trans (uA_ne (by decide)))).trans e91
            refine jx_ld (pc' := 336) (l' := L49) (st' := [.ref 66]) rfl (jl_aloadn gL49_0) ?_
            refine jx_vr (pc' := 339) (as := []) (st := []) rfl rfl rfl rfl ⟨rfl, rfl, Nat.le_of_ble_eq_true rfl⟩ rfl rfl (c_endLine (dd := d) (hd := by omega) (hW := hW124)  (ln := ln) (e_ln := show G73 9 = ln from ((hF83.1 9 rfl).trans ((hF55.1 9 rfl).trans ((hF34.1 9 rfl).trans ((hF16.1 9 rfl).trans (fx_9)))))) (li := li) (e_li := show G73 3 = li from ((hF83.1 3 rfl).trans ((hF55.1 3 rfl).trans ((hF34.1 3 rfl).trans ((hF16.1 3 rfl).trans ((hFx.1 3 rfl).trans (e_li))))))) (fk := fk2_77) (e_fk := show G73 16 = fk2_77 from (e87)) (tk0 := tk2_80) (e_tk0 := show G73 11 = tk2_80 from (e90))    (p_0 := by omega)) (fun o V' hq => ?_)
            obtain ⟨G135, A136, ln2_137, fk2_138, rfl, rfl, hW139, hF140, e141, e142, q143⟩ := hq
            have hF144 := Fr_tr hF125 hF140 (Fr_sub (by decide)) (Fr_sub (by decide))
            have hP145 := Pf_f hP127 hF140 (by decide)
            have sf146 : wE A136 Vs sb (20) (ix) (nd) (nd1) := wE_ag (by omega) (Sg_fr hF140 (by decide)) (Ag_fr hF140 (by decide)) sf128
            have sf147 : NdM A136 (nd) (nd1) (sy) := NdM_f hF140 (by decide) sf129
            have sf148 : ND A136 (nd1) (3) (s) (ix) (0) (0) (0) (0) := ND_ag (by omega) (Ag_fr hF140 (by decide)) sf130
            have sf149 : NdM A136 (nd1) (nd1 + 1) (sy) := NdM_f hF140 (by decide) sf131
            have sf150 : ND A136 (nd2_13) (23) (nd1) (r75) (0) (0) (0) (0) := ND_ag (by omega) (Ag_fr hF140 (by decide)) sf132
            have sf151 : NdM A136 (nd2_13) (nd2_13 + 1) (sy) := NdM_f hF140 (by decide) sf133
            have ec152 : ecn A136 (G135 31) = ec2_81 := (ecn_f (hF140.2 15 rfl) (hF140.1 31 rfl)).trans ec134
            have bln2_137 : (0 : Int) ≤ ln2_137 ∧ ln2_137 ≤ 3000 := e141 ▸ hW139.1 9
            have bfk2_138 : (0 : Int) ≤ fk2_138 ∧ fk2_138 ≤ 6 := e142 ▸ hW139.1 16
            refine .inl ⟨rfl, ?_⟩
            rcases q143 with ⟨a153, a154, a155, a156, a157⟩ | ⟨a158, a159⟩
            · have _q : True := trivial
              exfalso
              omega
            · have _q : True := trivial
              refine jx_ld (pc' := 341) (l' := L49) (st' := [.int (i32 (nd2_13))]) rfl (jl_iload gL49_7) ?_
              refine jx_rt (v := some (.int (i32 (nd2_13)))) rfl rfl rfl rfl rfl rfl ?_
              exact ⟨_, _, _, at2_76, fk2_138, nd2_79, ln2_137, ec2_81, rfl, rfl, hW139, hF144, hP145, by omega, ((hF140.1 10 rfl).trans (e86)), (e142), ((hF140.1 31 rfl).trans (e89)), (e141), ec152, by omega, by omega, by omega, by omega, by omega, by first | exact Or.inl (⟨by omega, by omega, by omega⟩)⟩
          · have _q : True := trivial
            refine jx_go (tg := 334) rfl rfl ?_
            refine jr_st (pc' := 335) (i := 18) (m := 7000) (z := nd2_13) (y := r75) rfl (by decide) rfl (by decide) (by omega) (by omega) rfl ?_
            have hW161 : Wk G73 (uA A74 18 (nd2_13).toNat (r75)) := Wk_a hW82 (show (-2147483648 : Int) ≤ r75 by omega) (show r75 ≤ (2147483647 : Int) by omega)
            have hF162 := Fr_a (z := r75) (k := 18) (n := (nd2_13).toNat) hF99 (by decide)
            obtain ⟨A160, eA160⟩ : ∃ q, q = uA A74 18 (nd2_13).toNat (r75) := ⟨_, rfl⟩
            rw [← eA160]
            rw [← eA160] at hW161 hF162
            have q163 : A160 18 (nd2_13).toNat = r75 := by rw [eA160]; exact uA_eq
            have hP164 : Pf nd A A160 := eA160 ▸ Pf_a hP100 (z := nd2_13) (by omega) (by omega)
            have sf165 : wE A160 Vs sb (20) (ix) (nd) (nd1) := wE_ag (by omega) (Sg_ne eA160 rfl) (Ag_st eA160 (by omega) (by omega)) sf101
            have sf166 : NdM A160 (nd) (nd1) (sy) := NdM_st eA160 (by decide) sf102
            have sf167 : ND A160 (nd1) (3) (s) (ix) (0) (0) (0) (0) := ND_ag (by omega) (Ag_st eA160 (by omega) (by omega)) sf103
            have sf168 : NdM A160 (nd1) (nd1 + 1) (sy) := NdM_st eA160 (by decide) sf104
            have sf169 : ND A160 (nd2_13) (23) (nd1) (r75) (0) (0) (0) (0) := ND_b eA160 sf105
            have sf170 : NdM A160 (nd2_13) (nd2_13 + 1) (sy) := NdM_st eA160 (by decide) sf106
            have sf171 : wE A160 Vs sb (2 * 9 + 2) (r75) (nd2_31) (nd2_79) := wE_ag (by omega) (Sg_ne eA160 rfl) (Ag_st eA160 (by omega) (by omega)) a119
            have sf172 : NdM A160 (nd2_31) (nd2_79) (sy) := NdM_st eA160 (by decide) a121
            have ec173 : ecn A160 (G73 31) = ec2_81 := (ecn_e ((congrFun eA160 15).trans (uA_ne (by decide)))).trans e91
            refine jx_ld (pc' := 336) (l' := L49) (st' := [.ref 66]) rfl (jl_aloadn gL49_0) ?_
            refine jx_vr (pc' := 339) (as := []) (st := []) rfl rfl rfl rfl ⟨rfl, rfl, Nat.le_of_ble_eq_true rfl⟩ rfl rfl (c_endLine (dd := d) (hd := by omega) (hW := hW161)  (ln := ln) (e_ln := show G73 9 = ln from ((hF83.1 9 rfl).trans ((hF55.1 9 rfl).trans ((hF34.1 9 rfl).trans ((hF16.1 9 rfl).trans (fx_9)))))) (li := li) (e_li := show G73 3 = li from ((hF83.1 3 rfl).trans ((hF55.1 3 rfl).trans ((hF34.1 3 rfl).trans ((hF16.1 3 rfl).trans ((hFx.1 3 rfl).trans (e_li))))))) (fk := fk2_77) (e_fk := show G73 16 = fk2_77 from (e87)) (tk0 := tk2_80) (e_tk0 := show G73 11 = tk2_80 from (e90))    (p_0 := by omega)) (fun o V' hq => ?_)
            obtain ⟨G174, A175, ln2_176, fk2_177, rfl, rfl, hW178, hF179, e180, e181, q182⟩ := hq
            have hF183 := Fr_tr hF162 hF179 (Fr_sub (by decide)) (Fr_sub (by decide))
            have hP184 := Pf_f hP164 hF179 (by decide)
            have sf185 : wE A175 Vs sb (20) (ix) (nd) (nd1) := wE_ag (by omega) (Sg_fr hF179 (by decide)) (Ag_fr hF179 (by decide)) sf165
            have sf186 : NdM A175 (nd) (nd1) (sy) := NdM_f hF179 (by decide) sf166
            have sf187 : ND A175 (nd1) (3) (s) (ix) (0) (0) (0) (0) := ND_ag (by omega) (Ag_fr hF179 (by decide)) sf167
            have sf188 : NdM A175 (nd1) (nd1 + 1) (sy) := NdM_f hF179 (by decide) sf168
            have sf189 : ND A175 (nd2_13) (23) (nd1) (r75) (0) (0) (0) (0) := ND_ag (by omega) (Ag_fr hF179 (by decide)) sf169
            have sf190 : NdM A175 (nd2_13) (nd2_13 + 1) (sy) := NdM_f hF179 (by decide) sf170
            have sf191 : wE A175 Vs sb (2 * 9 + 2) (r75) (nd2_31) (nd2_79) := wE_ag (by omega) (Sg_fr hF179 (by decide)) (Ag_fr hF179 (by decide)) sf171
            have sf192 : NdM A175 (nd2_31) (nd2_79) (sy) := NdM_f hF179 (by decide) sf172
            have ec193 : ecn A175 (G174 31) = ec2_81 := (ecn_f (hF179.2 15 rfl) (hF179.1 31 rfl)).trans ec173
            have bln2_176 : (0 : Int) ≤ ln2_176 ∧ ln2_176 ≤ 3000 := e180 ▸ hW178.1 9
            have bfk2_177 : (0 : Int) ≤ fk2_177 ∧ fk2_177 ≤ 6 := e181 ▸ hW178.1 16
            refine .inl ⟨rfl, ?_⟩
            rcases q182 with ⟨a194, a195, a196, a197, a198⟩ | ⟨a199, a200⟩
            · have _q : True := trivial
              refine jx_ld (pc' := 341) (l' := L49) (st' := [.int (i32 (nd2_13))]) rfl (jl_iload gL49_7) ?_
              refine jx_rt (v := some (.int (i32 (nd2_13)))) rfl rfl rfl rfl rfl rfl ?_
              exact ⟨_, _, _, at2_76, fk2_177, nd2_79, ln2_176, ec2_81, rfl, rfl, hW178, hF183, hP184, by omega, ((hF179.1 10 rfl).trans (e86)), (e181), ((hF179.1 31 rfl).trans (e89)), (e180), ec193, by omega, by omega, by omega, by omega, by omega, by first | exact Or.inr ((⟨by omega, by omega, by omega, by omega, by omega, (wL_out sf189 (by omega) (by omega) (wR_elem sf187 (by omega) (by omega) iv_8 (kq (P := kRow (1)) (show A175 7 (s).toNat = ks from (congrFun ((hF179.2 7 rfl).trans (((congrFun eA160 7).trans (uA_ne (by decide))).trans ((hF83.2 7 rfl).trans ((hF55.2 7 rfl).trans ((hF34.2 7 rfl).trans (hF16.2 7 rfl)))))) _).trans (ex_ks)) (by first | exact .inr ⟨by omega, by omega⟩)) (wE_mono (by omega) (by omega) (by omega) sf185)) (wE_mono (by omega) (by omega) (by omega) sf191)), (NX_nd sf189), by omega, (NdM_w (NdM_app (sy := sy) sf186 (NdM_app (sy := sy) sf188 (NdM_app (sy := sy) sf190 sf192 (by omega) (by omega) (by omega)) (by omega) (by omega) (by omega)) (by omega) (by omega) (by omega)) (by omega) (by omega) (by omega))⟩))⟩
            · have _q : True := trivial
              refine jx_ld (pc' := 341) (l' := L49) (st' := [.int (i32 (nd2_13))]) rfl (jl_iload gL49_7) ?_
              refine jx_rt (v := some (.int (i32 (nd2_13)))) rfl rfl rfl rfl rfl rfl ?_
              exact ⟨_, _, _, at2_76, fk2_177, nd2_79, ln2_176, ec2_81, rfl, rfl, hW178, hF183, hP184, by omega, ((hF179.1 10 rfl).trans (e86)), (e181), ((hF179.1 31 rfl).trans (e89)), (e180), ec193, by omega, by omega, by omega, by omega, by omega, by first | exact Or.inl (⟨by omega, by omega, by omega⟩)⟩
  · have _q : True := trivial
    refine jx_ld (pc' := 267) (l' := jSto1 L 6 (.int (i32 (0)))) (st' := []) rfl rfl ?_
    obtain ⟨L201, eL201⟩ : ∃ q, q = jSto1 L 6 (.int (i32 (0))) := ⟨_, rfl⟩
    rw [← eL201]
    have gL201_0 : jGet L201 0 = some (.ref 66) := eL201 ▸ jg_ne (by decide) gL_0 rfl
    have gL201_5 : jGet L201 5 = some (.int (i32 (1))) := eL201 ▸ jg_ne (by decide) gL_5 rfl
    have gL201_2 : jGet L201 2 = some (.int (i32 (s))) := eL201 ▸ jg_ne (by decide) gL_2 rfl
    have gL201_4 : jGet L201 4 = some (.int (i32 (ix))) := eL201 ▸ jg_ne (by decide) gL_4 rfl
    have gL201_6 : jGet L201 6 = some (.int (i32 (0))) := eL201 ▸ jg_eq
    refine jx_ld (pc' := 268) (l' := L201) (st' := [.ref 66]) rfl (jl_aloadn gL201_0) ?_
    refine jx_ld (pc' := 270) (l' := L201) (st' := [.int (i32 (0)), .ref 66]) rfl (jl_iload gL201_6) ?_
    refine jx_if_eq (pc' := 273) (tg := 278) rfl rfl rfl (by decide) (by decide) (fun h202 => ?_) (fun h202 => ?_)
    · have _q := h202
      refine jx_ar (pc' := 280) (st' := [.int (i32 (24)), .ref 66]) rfl rfl rfl rfl ?_
      refine jx_ld (pc' := 281) (l' := L201) (st' := [.ref 66, .int (i32 (24)), .ref 66]) rfl (jl_aloadn gL201_0) ?_
      refine jx_ld (pc' := 283) (l' := L201) (st' := [.int (i32 (1)), .ref 66, .int (i32 (24)), .ref 66]) rfl (jl_iload gL201_5) ?_
      refine jx_if_eq (pc' := 286) (tg := 290) rfl rfl rfl (by decide) (by decide) (fun h203 => ?_) (fun h203 => ?_)
      · have _q := h203
        exact absurd h203 (by omega)
      · have _q := h203
        refine jx_ar (pc' := 287) (st' := [.int (i32 (3)), .ref 66, .int (i32 (24)), .ref 66]) rfl rfl rfl rfl ?_
        refine jx_go (tg := 291) rfl rfl ?_
        refine jx_ld (pc' := 292) (l' := L201) (st' := [.int (i32 (s)), .int (i32 (3)), .ref 66, .int (i32 (24)), .ref 66]) rfl (jl_iloadn gL201_2) ?_
        refine jx_ld (pc' := 294) (l' := L201) (st' := [.int (i32 (ix)), .int (i32 (s)), .int (i32 (3)), .ref 66, .int (i32 (24)), .ref 66]) rfl (jl_iload gL201_4) ?_
        refine jx_ar (pc' := 295) (st' := [.int (i32 (0)), .int (i32 (ix)), .int (i32 (s)), .int (i32 (3)), .ref 66, .int (i32 (24)), .ref 66]) rfl rfl rfl rfl ?_
        refine jx_ar (pc' := 296) (st' := [.int (i32 (0)), .int (i32 (0)), .int (i32 (ix)), .int (i32 (s)), .int (i32 (3)), .ref 66, .int (i32 (24)), .ref 66]) rfl rfl rfl rfl ?_
        refine jx_vr (pc' := 299) (as := [.int (i32 (3)), .int (i32 (s)), .int (i32 (ix)), .int (i32 (0)), .int (i32 (0))]) (st := [.int (i32 (24)), .ref 66]) rfl rfl rfl rfl ⟨rfl, rfl, Nat.le_of_ble_eq_true rfl⟩ rfl rfl (c_node_e (dd := d) (hd := by omega) (hW := hWx) (kind := 3) (a := s) (b := ix) (c := 0) (e := 0) (nd := nd1) (e_nd := show Gx 31 = nd1 from (ex_nd1)) (ec := ec1) (e_ec := show ecn Ax (Gx 31) = ec1 from ex_ec1) (sy := sy) (e_sy := show Gx 19 = sy from ((hFx.1 19 rfl).trans (e_sy)))  (h_kind := ⟨(by decide), (by decide)⟩) (h_a := ⟨(Int.le_trans (by decide : (-2147483648 : Int) ≤ -2147483648) rx_s.1), (Int.le_trans rx_s.2 (by decide : (2147483647 : Int) ≤ 2147483647))⟩) (h_b := ⟨(Int.le_trans (by decide : (-2147483648 : Int) ≤ -2147483648) rx_ix.1), (Int.le_trans rx_ix.2 (by decide : (2147483647 : Int) ≤ 2147483647))⟩) (h_c := ⟨(by decide), (by decide)⟩) (h_e := ⟨(by decide), (by decide)⟩)  (p_0 := by omega) (p_1 := by omega) (p_2 := by omega)) (fun o V' hq => ?_)
        obtain ⟨G204, A205, nd2_206, ec2_207, rfl, rfl, hW208, hF209, hQ210, e211, e212, p213, p214, p215, p216, -⟩ := hq
        have hF218 := Fr_tr hFx hF209 (Fr_sub (by decide)) (Fr_sub (by decide))
        have hP219 := Pf_tr hPx hQ210 (by omega)
        have sf220 : wE A205 Vs sb (20) (ix) (nd) (nd1) := wE_ag (by omega) (Sg_fr hF209 (by decide)) (Ag_pf hQ210 (by omega)) iv_10
        have sf221 : NdM A205 (nd) (nd1) (sy) := NdM_pf hQ210 (by omega) (by omega) iv_12
        have bnd2_206 : (0 : Int) ≤ nd2_206 ∧ nd2_206 ≤ 6999 := e211 ▸ hW208.1 31
        refine .inr ⟨_, rfl, ?_⟩
        refine jx_ar (pc' := 300) (st' := [.int (i32 (0)), .int (i32 (nd1)), .int (i32 (24)), .ref 66]) rfl rfl rfl rfl ?_
        refine jx_ar (pc' := 301) (st' := [.int (i32 (0)), .int (i32 (0)), .int (i32 (nd1)), .int (i32 (24)), .ref 66]) rfl rfl rfl rfl ?_
        refine jx_ar (pc' := 302) (st' := [.int (i32 (0)), .int (i32 (0)), .int (i32 (0)), .int (i32 (nd1)), .int (i32 (24)), .ref 66]) rfl rfl rfl rfl ?_
        refine jx_vr (pc' := 305) (as := [.int (i32 (24)), .int (i32 (nd1)), .int (i32 (0)), .int (i32 (0)), .int (i32 (0))]) (st := []) rfl rfl rfl rfl ⟨rfl, rfl, Nat.le_of_ble_eq_true rfl⟩ rfl rfl (c_node_l (dd := d) (hd := by omega) (hW := hW208) (kind := 24) (a := nd1) (b := 0) (c := 0) (e := 0) (nd := nd2_206) (e_nd := show G204 31 = nd2_206 from (e211)) (ec := ec2_207) (e_ec := show ecn A205 (G204 31) = ec2_207 from e212) (sy := sy) (e_sy := show G204 19 = sy from ((hF209.1 19 rfl).trans ((hFx.1 19 rfl).trans (e_sy)))) (ln := ln) (e_ln := show G204 9 = ln from ((hF209.1 9 rfl).trans (fx_9))) (li := li) (e_li := show G204 3 = li from ((hF209.1 3 rfl).trans ((hFx.1 3 rfl).trans (e_li))))  (h_kind := ⟨(by decide), (by decide)⟩) (h_a := ⟨(Int.le_trans (by decide : (-2147483648 : Int) ≤ 0) b_nd1.1), (Int.le_trans b_nd1.2 (by decide : (6999 : Int) ≤ 2147483647))⟩) (h_b := ⟨(by decide), (by decide)⟩) (h_c := ⟨(by decide), (by decide)⟩) (h_e := ⟨(by decide), (by decide)⟩)  (p_0 := by omega) (p_1 := by omega) (p_2 := by omega) (p_3 := by omega)) (fun o V' hq => ?_)
        obtain ⟨G222, A223, nd2_224, ec2_225, rfl, rfl, hW226, hF227, hQ228, e229, e230, p231, p232, p233, p234, -⟩ := hq
        have hF236 := Fr_tr hF218 hF227 (Fr_sub (by decide)) (Fr_sub (by decide))
        have hP237 := Pf_tr hP219 hQ228 (by omega)
        have sf238 : wE A223 Vs sb (20) (ix) (nd) (nd1) := wE_ag (by omega) (Sg_fr hF227 (by decide)) (Ag_pf hQ228 (by omega)) sf220
        have sf239 : NdM A223 (nd) (nd1) (sy) := NdM_pf hQ228 (by omega) (by omega) sf221
        have sf240 : ND A223 (nd1) (3) (s) (ix) (0) (0) (0) (0) := ND_ag (by omega) (Ag_pf hQ228 (by omega)) p215
        have sf241 : NdM A223 (nd1) (nd1 + 1) (sy) := NdM_pf hQ228 (by omega) (by omega) p216
        have bnd2_224 : (0 : Int) ≤ nd2_224 ∧ nd2_224 ≤ 6999 := e229 ▸ hW226.1 31
        refine .inr ⟨_, rfl, ?_⟩
        refine jx_ld (pc' := 307) (l' := jSto1 L201 7 (.int (i32 (nd2_206)))) (st' := []) rfl rfl ?_
        obtain ⟨L242, eL242⟩ : ∃ q, q = jSto1 L201 7 (.int (i32 (nd2_206))) := ⟨_, rfl⟩
        rw [← eL242]
        have gL242_0 : jGet L242 0 = some (.ref 66) := eL242 ▸ jg_ne (by decide) gL201_0 rfl
        have gL242_5 : jGet L242 5 = some (.int (i32 (1))) := eL242 ▸ jg_ne (by decide) gL201_5 rfl
        have gL242_2 : jGet L242 2 = some (.int (i32 (s))) := eL242 ▸ jg_ne (by decide) gL201_2 rfl
        have gL242_4 : jGet L242 4 = some (.int (i32 (ix))) := eL242 ▸ jg_ne (by decide) gL201_4 rfl
        have gL242_6 : jGet L242 6 = some (.int (i32 (0))) := eL242 ▸ jg_ne (by decide) gL201_6 rfl
        have gL242_7 : jGet L242 7 = some (.int (i32 (nd2_206))) := eL242 ▸ jg_eq
        refine jx_ld (pc' := 308) (l' := L242) (st' := [.ref 66]) rfl (jl_aloadn gL242_0) ?_
        refine jx_vr (pc' := 311) (as := []) (st := []) rfl rfl rfl rfl ⟨rfl, rfl, Nat.le_of_ble_eq_true rfl⟩ rfl rfl (c_next (dd := d) (hd := by omega) (hW := hW226)  (ln := ln) (e_ln := show G222 9 = ln from ((hF227.1 9 rfl).trans ((hF209.1 9 rfl).trans (fx_9)))) (le := le) (e_le := show A223 4 (ln).toNat = le from (congrFun ((hF227.2 4 rfl).trans ((hF209.2 4 rfl).trans (hFx.2 4 rfl))) _).trans (e_le)) (at0 := at1) (e_at0 := show G222 10 = at1 from ((hF227.1 10 rfl).trans ((hF209.1 10 rfl).trans (ex_at1))))    (p_0 := by omega)) (fun o V' hq => ?_)
        obtain ⟨G243, A244, at2_245, tk2_246, rfl, rfl, hW247, hF248, e249, e250, p251, p252, p253, -⟩ := hq
        have hF255 := Fr_tr hF236 hF248 (Fr_sub (by decide)) (Fr_sub (by decide))
        have hP256 := Pf_f hP237 hF248 (by decide)
        have sf257 : wE A244 Vs sb (20) (ix) (nd) (nd1) := wE_ag (by omega) (Sg_fr hF248 (by decide)) (Ag_fr hF248 (by decide)) sf238
        have sf258 : NdM A244 (nd) (nd1) (sy) := NdM_f hF248 (by decide) sf239
        have sf259 : ND A244 (nd1) (3) (s) (ix) (0) (0) (0) (0) := ND_ag (by omega) (Ag_fr hF248 (by decide)) sf240
        have sf260 : NdM A244 (nd1) (nd1 + 1) (sy) := NdM_f hF248 (by decide) sf241
        have sf261 : ND A244 (nd2_206) (24) (nd1) (0) (0) (0) (0) (0) := ND_ag (by omega) (Ag_fr hF248 (by decide)) p233
        have sf262 : NdM A244 (nd2_206) (nd2_206 + 1) (sy) := NdM_f hF248 (by decide) p234
        have ec263 : ecn A244 (G243 31) = ec2_225 := (ecn_f (hF248.2 15 rfl) (hF248.1 31 rfl)).trans e230
        have bat2_245 : (0 : Int) ≤ at2_245 ∧ at2_245 ≤ 3002 := e249 ▸ hW247.1 10
        have ztk2_246 := tz_b tk2_246
        have btk2_246 : (0 : Int) ≤ tk2_246 ∧ tk2_246 ≤ 5 := e250 ▸ hW247.1 11
        refine .inl ⟨rfl, ?_⟩
        have pz264 : at1 + tz tk2_246 ≤ at2_245 := by omega
        refine jx_ld (pc' := 312) (l' := L242) (st' := [.ref 66]) rfl (jl_aloadn gL242_0) ?_
        refine jr_get (pc' := 315) (i := 35) (v := .ref 85) rfl rfl (by decide) rfl rfl ?_
        refine jx_ld (pc' := 317) (l' := L242) (st' := [.int (i32 (nd2_206)), .ref 85]) rfl (jl_iload gL242_7) ?_
        refine jx_ld (pc' := 319) (l' := L242) (st' := [.int (i32 (0)), .int (i32 (nd2_206)), .ref 85]) rfl (jl_iload gL242_6) ?_
        refine jx_if_eq (pc' := 322) (tg := 329) rfl rfl rfl (by decide) (by decide) (fun h265 => ?_) (fun h265 => ?_)
        · have _q := h265
          refine jx_ld (pc' := 330) (l' := L242) (st' := [.ref 66, .int (i32 (nd2_206)), .ref 85]) rfl (jl_aloadn gL242_0) ?_
          refine jx_ar (pc' := 331) (st' := [.int (i32 (0)), .ref 66, .int (i32 (nd2_206)), .ref 85]) rfl rfl rfl rfl ?_
          refine jx_vr (pc' := 334) (as := [.int (i32 (0))]) (st := [.int (i32 (nd2_206)), .ref 85]) rfl rfl rfl rfl ⟨rfl, rfl, Nat.le_of_ble_eq_true rfl⟩ rfl rfl (c_readReference_w (dd := d) (hd := by omega) (hW := hW247) (ch := 0) (ln := ln) (e_ln := show G243 9 = ln from ((hF248.1 9 rfl).trans ((hF227.1 9 rfl).trans ((hF209.1 9 rfl).trans (fx_9))))) (le := le) (e_le := show A244 4 (ln).toNat = le from (congrFun ((hF248.2 4 rfl).trans ((hF227.2 4 rfl).trans ((hF209.2 4 rfl).trans (hFx.2 4 rfl)))) _).trans (e_le)) (at0 := at2_245) (e_at0 := show G243 10 = at2_245 from (e249)) (fk := fk1) (e_fk := show G243 16 = fk1 from ((hF248.1 16 rfl).trans ((hF227.1 16 rfl).trans ((hF209.1 16 rfl).trans (ex_fk1))))) (op0 := op1) (e_op0 := show G243 15 = op1 from ((hF248.1 15 rfl).trans ((hF227.1 15 rfl).trans ((hF209.1 15 rfl).trans (ex_op1))))) (nd := nd2_224) (e_nd := show G243 31 = nd2_224 from ((hF248.1 31 rfl).trans (e229))) (tk0 := tk2_246) (e_tk0 := show G243 11 = tk2_246 from (e250)) (ec := ec2_225) (e_ec := show ecn A244 (G243 31) = ec2_225 from ec263) (sy := sy) (e_sy := show G243 19 = sy from ((hF248.1 19 rfl).trans ((hF227.1 19 rfl).trans ((hF209.1 19 rfl).trans ((hFx.1 19 rfl).trans (e_sy)))))) (i_SV := (SV_ext (((hF248.1 29 rfl).trans ((hF227.1 29 rfl).trans ((hF209.1 29 rfl).trans (hFx.1 29 rfl))))) (((hF248.2 14 rfl).trans ((hF227.2 14 rfl).trans ((hF209.2 14 rfl).trans (hFx.2 14 rfl))))) i_SV)) (h_ch := ⟨(by decide), (by decide)⟩)  (p_0 := by omega) (p_1 := by omega) (p_2 := by omega) (p_3 := by omega) (p_4 := by omega)) (fun o V' hq => ?_)
          obtain ⟨G266, A267, r268, at2_269, fk2_270, op2_271, nd2_272, tk2_273, ec2_274, rfl, rfl, hW275, hF276, hQ277, b278, e279, e280, e281, e282, e283, e284, p285, p286, p287, p288, p289, p290, q291⟩ := hq
          have hF292 := Fr_tr hF255 hF276 (Fr_sub (by decide)) (Fr_sub (by decide))
          have hP293 := Pf_tr hP256 hQ277 (by omega)
          have sf294 : wE A267 Vs sb (20) (ix) (nd) (nd1) := wE_ag (by omega) (Sg_fr hF276 (by decide)) (Ag_pf hQ277 (by omega)) sf257
          have sf295 : NdM A267 (nd) (nd1) (sy) := NdM_pf hQ277 (by omega) (by omega) sf258
          have sf296 : ND A267 (nd1) (3) (s) (ix) (0) (0) (0) (0) := ND_ag (by omega) (Ag_pf hQ277 (by omega)) sf259
          have sf297 : NdM A267 (nd1) (nd1 + 1) (sy) := NdM_pf hQ277 (by omega) (by omega) sf260
          have sf298 : ND A267 (nd2_206) (24) (nd1) (0) (0) (0) (0) (0) := ND_ag (by omega) (Ag_pf hQ277 (by omega)) sf261
          have sf299 : NdM A267 (nd2_206) (nd2_206 + 1) (sy) := NdM_pf hQ277 (by omega) (by omega) sf262
          have bat2_269 : (0 : Int) ≤ at2_269 ∧ at2_269 ≤ 3002 := e279 ▸ hW275.1 10
          have bfk2_270 : (0 : Int) ≤ fk2_270 ∧ fk2_270 ≤ 6 := e280 ▸ hW275.1 16
          have bop2_271 : (-2147483648 : Int) ≤ op2_271 ∧ op2_271 ≤ 2147483647 := e281 ▸ hW275.1 15
          have bnd2_272 : (0 : Int) ≤ nd2_272 ∧ nd2_272 ≤ 6999 := e282 ▸ hW275.1 31
          have ztk2_273 := tz_b tk2_273
          have btk2_273 : (0 : Int) ≤ tk2_273 ∧ tk2_273 ≤ 5 := e283 ▸ hW275.1 11
          refine .inr ⟨_, rfl, ?_⟩
          rcases q291 with ⟨a300, a301, a302, a303, a304, a305⟩ | ⟨a306, a307, a308⟩ | ⟨a309, a310, a311, a312, a313, a314, a315⟩
          · have _q : True := trivial
            exfalso
            omega
          · have _q : True := trivial
            refine jr_st (pc' := 335) (i := 18) (m := 7000) (z := nd2_206) (y := r268) rfl (by decide) rfl (by decide) (by omega) (by omega) rfl ?_
            have hW317 : Wk G266 (uA A267 18 (nd2_206).toNat (r268)) := Wk_a hW275 (show (-2147483648 : Int) ≤ r268 by omega) (show r268 ≤ (2147483647 : Int) by omega)
            have hF318 := Fr_a (z := r268) (k := 18) (n := (nd2_206).toNat) hF292 (by decide)
            obtain ⟨A316, eA316⟩ : ∃ q, q = uA A267 18 (nd2_206).toNat (r268) := ⟨_, rfl⟩
            rw [← eA316]
            rw [← eA316] at hW317 hF318
            have q319 : A316 18 (nd2_206).toNat = r268 := by rw [eA316]; exact uA_eq
            have hP320 : Pf nd A A316 := eA316 ▸ Pf_a hP293 (z := nd2_206) (by omega) (by omega)
            have sf321 : wE A316 Vs sb (20) (ix) (nd) (nd1) := wE_ag (by omega) (Sg_ne eA316 rfl) (Ag_st eA316 (by omega) (by omega)) sf294
            have sf322 : NdM A316 (nd) (nd1) (sy) := NdM_st eA316 (by decide) sf295
            have sf323 : ND A316 (nd1) (3) (s) (ix) (0) (0) (0) (0) := ND_ag (by omega) (Ag_st eA316 (by omega) (by omega)) sf296
            have sf324 : NdM A316 (nd1) (nd1 + 1) (sy) := NdM_st eA316 (by decide) sf297
            have sf325 : ND A316 (nd2_206) (24) (nd1) (r268) (0) (0) (0) (0) := ND_b eA316 sf298
            have sf326 : NdM A316 (nd2_206) (nd2_206 + 1) (sy) := NdM_st eA316 (by decide) sf299
            have ec327 : ecn A316 (G266 31) = ec2_274 := (ecn_e ((congrFun eA316 15).trans (uA_ne (by decide)))).trans e284
            refine jx_ld (pc' := 336) (l' := L242) (st' := [.ref 66]) rfl (jl_aloadn gL242_0) ?_
            refine jx_vr (pc' := 339) (as := []) (st := []) rfl rfl rfl rfl ⟨rfl, rfl, Nat.le_of_ble_eq_true rfl⟩ rfl rfl (c_endLine (dd := d) (hd := by omega) (hW := hW317)  (ln := ln) (e_ln := show G266 9 = ln from ((hF276.1 9 rfl).trans ((hF248.1 9 rfl).trans ((hF227.1 9 rfl).trans ((hF209.1 9 rfl).trans (fx_9)))))) (li := li) (e_li := show G266 3 = li from ((hF276.1 3 rfl).trans ((hF248.1 3 rfl).trans ((hF227.1 3 rfl).trans ((hF209.1 3 rfl).trans ((hFx.1 3 rfl).trans (e_li))))))) (fk := fk2_270) (e_fk := show G266 16 = fk2_270 from (e280)) (tk0 := tk2_273) (e_tk0 := show G266 11 = tk2_273 from (e283))    (p_0 := by omega)) (fun o V' hq => ?_)
            obtain ⟨G328, A329, ln2_330, fk2_331, rfl, rfl, hW332, hF333, e334, e335, q336⟩ := hq
            have hF337 := Fr_tr hF318 hF333 (Fr_sub (by decide)) (Fr_sub (by decide))
            have hP338 := Pf_f hP320 hF333 (by decide)
            have sf339 : wE A329 Vs sb (20) (ix) (nd) (nd1) := wE_ag (by omega) (Sg_fr hF333 (by decide)) (Ag_fr hF333 (by decide)) sf321
            have sf340 : NdM A329 (nd) (nd1) (sy) := NdM_f hF333 (by decide) sf322
            have sf341 : ND A329 (nd1) (3) (s) (ix) (0) (0) (0) (0) := ND_ag (by omega) (Ag_fr hF333 (by decide)) sf323
            have sf342 : NdM A329 (nd1) (nd1 + 1) (sy) := NdM_f hF333 (by decide) sf324
            have sf343 : ND A329 (nd2_206) (24) (nd1) (r268) (0) (0) (0) (0) := ND_ag (by omega) (Ag_fr hF333 (by decide)) sf325
            have sf344 : NdM A329 (nd2_206) (nd2_206 + 1) (sy) := NdM_f hF333 (by decide) sf326
            have ec345 : ecn A329 (G328 31) = ec2_274 := (ecn_f (hF333.2 15 rfl) (hF333.1 31 rfl)).trans ec327
            have bln2_330 : (0 : Int) ≤ ln2_330 ∧ ln2_330 ≤ 3000 := e334 ▸ hW332.1 9
            have bfk2_331 : (0 : Int) ≤ fk2_331 ∧ fk2_331 ≤ 6 := e335 ▸ hW332.1 16
            refine .inl ⟨rfl, ?_⟩
            rcases q336 with ⟨a346, a347, a348, a349, a350⟩ | ⟨a351, a352⟩
            · have _q : True := trivial
              exfalso
              omega
            · have _q : True := trivial
              refine jx_ld (pc' := 341) (l' := L242) (st' := [.int (i32 (nd2_206))]) rfl (jl_iload gL242_7) ?_
              refine jx_rt (v := some (.int (i32 (nd2_206)))) rfl rfl rfl rfl rfl rfl ?_
              exact ⟨_, _, _, at2_269, fk2_331, nd2_272, ln2_330, ec2_274, rfl, rfl, hW332, hF337, hP338, by omega, ((hF333.1 10 rfl).trans (e279)), (e335), ((hF333.1 31 rfl).trans (e282)), (e334), ec345, by omega, by omega, by omega, by omega, by omega, by first | exact Or.inl (⟨by omega, by omega, by omega⟩)⟩
          · have _q : True := trivial
            refine jr_st (pc' := 335) (i := 18) (m := 7000) (z := nd2_206) (y := r268) rfl (by decide) rfl (by decide) (by omega) (by omega) rfl ?_
            have hW354 : Wk G266 (uA A267 18 (nd2_206).toNat (r268)) := Wk_a hW275 (show (-2147483648 : Int) ≤ r268 by omega) (show r268 ≤ (2147483647 : Int) by omega)
            have hF355 := Fr_a (z := r268) (k := 18) (n := (nd2_206).toNat) hF292 (by decide)
            obtain ⟨A353, eA353⟩ : ∃ q, q = uA A267 18 (nd2_206).toNat (r268) := ⟨_, rfl⟩
            rw [← eA353]
            rw [← eA353] at hW354 hF355
            have q356 : A353 18 (nd2_206).toNat = r268 := by rw [eA353]; exact uA_eq
            have hP357 : Pf nd A A353 := eA353 ▸ Pf_a hP293 (z := nd2_206) (by omega) (by omega)
            have sf358 : wE A353 Vs sb (20) (ix) (nd) (nd1) := wE_ag (by omega) (Sg_ne eA353 rfl) (Ag_st eA353 (by omega) (by omega)) sf294
            have sf359 : NdM A353 (nd) (nd1) (sy) := NdM_st eA353 (by decide) sf295
            have sf360 : ND A353 (nd1) (3) (s) (ix) (0) (0) (0) (0) := ND_ag (by omega) (Ag_st eA353 (by omega) (by omega)) sf296
            have sf361 : NdM A353 (nd1) (nd1 + 1) (sy) := NdM_st eA353 (by decide) sf297
            have sf362 : ND A353 (nd2_206) (24) (nd1) (r268) (0) (0) (0) (0) := ND_b eA353 sf298
            have sf363 : NdM A353 (nd2_206) (nd2_206 + 1) (sy) := NdM_st eA353 (by decide) sf299
            have sf364 : wR A353 Vs sb (20) (0) (r268) (nd2_224) (nd2_272) := wR_ag (by omega) (Sg_ne eA353 rfl) (Ag_st eA353 (by omega) (by omega)) a312
            have sf365 : NdM A353 (nd2_224) (nd2_272) (sy) := NdM_st eA353 (by decide) a314
            have ec366 : ecn A353 (G266 31) = ec2_274 := (ecn_e ((congrFun eA353 15).trans (uA_ne (by decide)))).trans e284
            refine jx_ld (pc' := 336) (l' := L242) (st' := [.ref 66]) rfl (jl_aloadn gL242_0) ?_
            refine jx_vr (pc' := 339) (as := []) (st := []) rfl rfl rfl rfl ⟨rfl, rfl, Nat.le_of_ble_eq_true rfl⟩ rfl rfl (c_endLine (dd := d) (hd := by omega) (hW := hW354)  (ln := ln) (e_ln := show G266 9 = ln from ((hF276.1 9 rfl).trans ((hF248.1 9 rfl).trans ((hF227.1 9 rfl).trans ((hF209.1 9 rfl).trans (fx_9)))))) (li := li) (e_li := show G266 3 = li from ((hF276.1 3 rfl).trans ((hF248.1 3 rfl).trans ((hF227.1 3 rfl).trans ((hF209.1 3 rfl).trans ((hFx.1 3 rfl).trans (e_li))))))) (fk := fk2_270) (e_fk := show G266 16 = fk2_270 from (e280)) (tk0 := tk2_273) (e_tk0 := show G266 11 = tk2_273 from (e283))    (p_0 := by omega)) (fun o V' hq => ?_)
            obtain ⟨G367, A368, ln2_369, fk2_370, rfl, rfl, hW371, hF372, e373, e374, q375⟩ := hq
            have hF376 := Fr_tr hF355 hF372 (Fr_sub (by decide)) (Fr_sub (by decide))
            have hP377 := Pf_f hP357 hF372 (by decide)
            have sf378 : wE A368 Vs sb (20) (ix) (nd) (nd1) := wE_ag (by omega) (Sg_fr hF372 (by decide)) (Ag_fr hF372 (by decide)) sf358
            have sf379 : NdM A368 (nd) (nd1) (sy) := NdM_f hF372 (by decide) sf359
            have sf380 : ND A368 (nd1) (3) (s) (ix) (0) (0) (0) (0) := ND_ag (by omega) (Ag_fr hF372 (by decide)) sf360
            have sf381 : NdM A368 (nd1) (nd1 + 1) (sy) := NdM_f hF372 (by decide) sf361
            have sf382 : ND A368 (nd2_206) (24) (nd1) (r268) (0) (0) (0) (0) := ND_ag (by omega) (Ag_fr hF372 (by decide)) sf362
            have sf383 : NdM A368 (nd2_206) (nd2_206 + 1) (sy) := NdM_f hF372 (by decide) sf363
            have sf384 : wR A368 Vs sb (20) (0) (r268) (nd2_224) (nd2_272) := wR_ag (by omega) (Sg_fr hF372 (by decide)) (Ag_fr hF372 (by decide)) sf364
            have sf385 : NdM A368 (nd2_224) (nd2_272) (sy) := NdM_f hF372 (by decide) sf365
            have ec386 : ecn A368 (G367 31) = ec2_274 := (ecn_f (hF372.2 15 rfl) (hF372.1 31 rfl)).trans ec366
            have bln2_369 : (0 : Int) ≤ ln2_369 ∧ ln2_369 ≤ 3000 := e373 ▸ hW371.1 9
            have bfk2_370 : (0 : Int) ≤ fk2_370 ∧ fk2_370 ≤ 6 := e374 ▸ hW371.1 16
            refine .inl ⟨rfl, ?_⟩
            rcases q375 with ⟨a387, a388, a389, a390, a391⟩ | ⟨a392, a393⟩
            · have _q : True := trivial
              refine jx_ld (pc' := 341) (l' := L242) (st' := [.int (i32 (nd2_206))]) rfl (jl_iload gL242_7) ?_
              refine jx_rt (v := some (.int (i32 (nd2_206)))) rfl rfl rfl rfl rfl rfl ?_
              exact ⟨_, _, _, at2_269, fk2_370, nd2_272, ln2_369, ec2_274, rfl, rfl, hW371, hF376, hP377, by omega, ((hF372.1 10 rfl).trans (e279)), (e374), ((hF372.1 31 rfl).trans (e282)), (e373), ec386, by omega, by omega, by omega, by omega, by omega, by first | exact Or.inr ((⟨by omega, by omega, by omega, by omega, by omega, (wL_in sf382 (by omega) (by omega) (wR_elem sf380 (by omega) (by omega) iv_8 (kq (P := kRow (1)) (show A368 7 (s).toNat = ks from (congrFun ((hF372.2 7 rfl).trans (((congrFun eA353 7).trans (uA_ne (by decide))).trans ((hF276.2 7 rfl).trans ((hF248.2 7 rfl).trans ((hF227.2 7 rfl).trans (hF209.2 7 rfl)))))) _).trans (ex_ks)) (by first | exact .inr ⟨by omega, by omega⟩)) (wE_mono (by omega) (by omega) (by omega) sf378)) (wR_mono (by omega) (by omega) (by omega) sf384)), (NX_nd sf382), by omega, (NdM_w (NdM_app (sy := sy) sf379 (NdM_app (sy := sy) sf381 (NdM_app (sy := sy) sf383 sf385 (by omega) (by omega) (by omega)) (by omega) (by omega) (by omega)) (by omega) (by omega) (by omega)) (by omega) (by omega) (by omega))⟩))⟩
            · have _q : True := trivial
              refine jx_ld (pc' := 341) (l' := L242) (st' := [.int (i32 (nd2_206))]) rfl (jl_iload gL242_7) ?_
              refine jx_rt (v := some (.int (i32 (nd2_206)))) rfl rfl rfl rfl rfl rfl ?_
              exact ⟨_, _, _, at2_269, fk2_370, nd2_272, ln2_369, ec2_274, rfl, rfl, hW371, hF376, hP377, by omega, ((hF372.1 10 rfl).trans (e279)), (e374), ((hF372.1 31 rfl).trans (e282)), (e373), ec386, by omega, by omega, by omega, by omega, by omega, by first | exact Or.inl (⟨by omega, by omega, by omega⟩)⟩
        · have _q := h265
          exact absurd h265 (by omega)
    · have _q := h202
      exact absurd h202 (by omega)
set_option maxRecDepth 20000 in
set_option maxHeartbeats 4000000 in
theorem c_readNamed_w_at_259_0 {X : jX} {d : Nat} {Vs : Nat → Prop} {sb pb : Int} {c0 c1 : jC} {G : Nat → Int} {A : Nat → Nat → Int} {T : jH} {ln le at0 fk op0 nd tk0 li ec sy : Int} (hd : 72 ≤ d + 1) (hW : Wk G A) (e_ln : G 9 = ln) (e_le : A 4 (ln).toNat = le) (e_at0 : G 10 = at0) (e_fk : G 16 = fk) (e_op0 : G 15 = op0) (e_nd : G 31 = nd) (e_tk0 : G 11 = tk0) (e_li : G 3 = li) (e_ec : ecn A (G 31) = ec) (e_sy : G 19 = sy) (i_SV : SV Vs sb G A) (i_PQ : PQ Vs sb pb G A) (p_0 : 0 ≤ op0 ∧ op0 ≤ 8) (p_1 : fk = 0) (p_2 : nd ≤ 2 * at0 - tz tk0 + 42) (p_3 : at0 ≤ le) (p_4 : ln < li) (p_5 : tk0 = 1) : ∀ (L : jL) (Gx : Nat → Int) (Ax : Nat → Nat → Int) (s at1 tk1 fk1 nd1 op1 ks ec1 : Int), jGet L 0 = some (.ref 66) → jGet L 5 = some (.int (i32 (0))) → jGet L 4 = some (.int (i32 (0))) → jGet L 2 = some (.int (i32 s)) → Wk Gx Ax → Fr [9, 10, 11, 12, 13, 14, 15, 16, 17, 18, 31] [15, 16, 17, 18, 19, 20, 21, 22, 24, 28] G A Gx Ax → Pf nd A Ax → Gx 10 = at1 → Gx 11 = tk1 → Gx 16 = fk1 → Gx 31 = nd1 → Gx 15 = op1 → Ax 7 (s).toNat = ks → ecn Ax (Gx 31) = ec1 → Gx 9 = ln → ((-2147483648 : Int) ≤ s ∧ s ≤ 2147483647) → (at0 ≤ at1) → (at1 ≤ le) → (nd ≤ nd1) → (op1 = op0) → (fk1 = 0) → (nd1 - nd ≤ (2 * at1 - tz tk1) - (2 * at0 - tz tk0) - 1) → (tz tk1 = 1) → (0 ≤ s ∧ s ≤ 201) → (SY Vs sb (s)) → (kCh (ks)) → (nd1 - nd + 5 * (ec1 - ec) ≤ (2 * at1 - tz tk1) - (2 * at0 - tz tk0) - 1 - tz tk1) → (NdM Ax (nd) (nd1) (sy)) → wj X d jm304 (259, L, [], rV c0 c1 Gx Ax T) (fun o V' => ∃ (G' : Nat → Int) (A' : Nat → Nat → Int) (r : Int) (at2 : Int) (fk2 : Int) (nd2 : Int) (ln2 : Int) (ec2 : Int), V' = rV c0 c1 G' A' T ∧ o = .inl (some (.int (i32 r))) ∧ Wk G' A' ∧ Fr [9, 10, 11, 12, 13, 14, 15, 16, 17, 18, 31] [15, 16, 17, 18, 19, 20, 21, 22, 24, 28] G A G' A' ∧ Pf nd A A' ∧ ((-2147483648 : Int) ≤ r ∧ r ≤ 2147483647) ∧ G' 10 = at2 ∧ G' 16 = fk2 ∧ G' 31 = nd2 ∧ G' 9 = ln2 ∧ ecn A' (G' 31) = ec2 ∧ (at0 ≤ at2) ∧ (at2 ≤ le) ∧ (nd ≤ nd2) ∧ (0 ≤ r) ∧ (r ≤ nd2) ∧ (((1 ≤ fk2) ∧ (ln2 = ln) ∧ (nd2 - nd ≤ 2 * at2 - 2 * at0 + 8)) ∨ ((fk2 = 0) ∧ (ln2 = ln + 1) ∧ (nd2 - nd ≤ 2 * at2 - (2 * at0 - tz tk0) + 0) ∧ (nd ≤ r) ∧ (r < nd2) ∧ (wL A' sb pb Vs (r) (nd) (nd2)) ∧ (NX A' (r)) ∧ (nd2 - nd + 5 * (ec2 - ec) ≤ 2 * at2 - (2 * at0 - tz tk0) + 0) ∧ (NdM A' (nd) (nd2) (sy))))) := by
  have hF0 : Fr [9, 10, 11, 12, 13, 14, 15, 16, 17, 18, 31] [15, 16, 17, 18, 19, 20, 21, 22, 24, 28] G A G A := Fr_rf
  have hP0 : Pf nd A A := Pf_rf
  have b_ln : (0 : Int) ≤ ln ∧ ln ≤ 3000 := e_ln ▸ hW.1 9
  have b_le : (0 : Int) ≤ le ∧ le ≤ 3000 := e_le ▸ hW.2 4 _
  have b_at0 : (0 : Int) ≤ at0 ∧ at0 ≤ 3002 := e_at0 ▸ hW.1 10
  have b_fk : (0 : Int) ≤ fk ∧ fk ≤ 6 := e_fk ▸ hW.1 16
  have b_op0 : (-2147483648 : Int) ≤ op0 ∧ op0 ≤ 2147483647 := e_op0 ▸ hW.1 15
  have b_nd : (0 : Int) ≤ nd ∧ nd ≤ 6999 := e_nd ▸ hW.1 31
  have z_tk0 := tz_f tk0
  have b_tk0 : (0 : Int) ≤ tk0 ∧ tk0 ≤ 5 := e_tk0 ▸ hW.1 11
  have b_li : (0 : Int) ≤ li ∧ li ≤ 3000 := e_li ▸ hW.1 3
  have b_sy : (0 : Int) ≤ sy ∧ sy ≤ 202 := e_sy ▸ hW.1 19
  intro L Gx Ax s at1 tk1 fk1 nd1 op1 ks ec1 gL_0 gL_5 gL_4 gL_2 hWx hFx hPx ex_at1 ex_tk1 ex_fk1 ex_nd1 ex_op1 ex_ks ex_ec1 fx_9 rx_s iv_0 iv_1 iv_2 iv_3 iv_4 iv_5 iv_6 iv_7 iv_8 iv_9 iv_10 iv_11
  have b_at1 : (0 : Int) ≤ at1 ∧ at1 ≤ 3002 := ex_at1 ▸ hWx.1 10
  have z_tk1 := tz_f tk1
  have b_tk1 : (0 : Int) ≤ tk1 ∧ tk1 ≤ 5 := ex_tk1 ▸ hWx.1 11
  have b_fk1 : (0 : Int) ≤ fk1 ∧ fk1 ≤ 6 := ex_fk1 ▸ hWx.1 16
  have b_nd1 : (0 : Int) ≤ nd1 ∧ nd1 ≤ 6999 := ex_nd1 ▸ hWx.1 31
  have b_op1 : (-2147483648 : Int) ≤ op1 ∧ op1 ≤ 2147483647 := ex_op1 ▸ hWx.1 15
  have b_ks : (0 : Int) ≤ ks ∧ ks ≤ 14 := ex_ks ▸ hWx.2 7 _
  refine jx_ld (pc' := 260) (l' := L) (st' := [.ref 66]) rfl (jl_aloadn gL_0) ?_
  refine jx_ar (pc' := 262) (st' := [.int (i32 (33)), .ref 66]) rfl rfl rfl rfl ?_
  have b394 : (-2147483648 : Int) ≤ Gx 13 ∧ Gx 13 ≤ 2147483647 := hWx.1 13
  refine jx_vr (pc' := 265) (as := [.int (i32 (33))]) (st := []) rfl rfl rfl rfl ⟨rfl, rfl, Nat.le_of_ble_eq_true rfl⟩ rfl rfl (c_is (dd := d) (hd := by omega) (hW := hWx) (k := 33) (tk := tk1) (e_tk := show Gx 11 = tk1 from (ex_tk1)) (tn := Gx 13) (e_tn := show Gx 13 = Gx 13 from rfl)  (h_k := ⟨(by decide), (by decide)⟩)  ) (fun o V' hq => ?_)
  obtain ⟨r395, rfl, rfl, b396, q397⟩ := hq
  refine .inr ⟨_, rfl, ?_⟩
  rcases q397 with ⟨rfl, a398, a399, a400⟩ | rfl
  · have _q : True := trivial
    refine jx_ld (pc' := 267) (l' := jSto1 L 6 (.int (i32 (1)))) (st' := []) rfl rfl ?_
    obtain ⟨L401, eL401⟩ : ∃ q, q = jSto1 L 6 (.int (i32 (1))) := ⟨_, rfl⟩
    rw [← eL401]
    have gL401_0 : jGet L401 0 = some (.ref 66) := eL401 ▸ jg_ne (by decide) gL_0 rfl
    have gL401_5 : jGet L401 5 = some (.int (i32 (0))) := eL401 ▸ jg_ne (by decide) gL_5 rfl
    have gL401_4 : jGet L401 4 = some (.int (i32 (0))) := eL401 ▸ jg_ne (by decide) gL_4 rfl
    have gL401_2 : jGet L401 2 = some (.int (i32 (s))) := eL401 ▸ jg_ne (by decide) gL_2 rfl
    have gL401_6 : jGet L401 6 = some (.int (i32 (1))) := eL401 ▸ jg_eq
    refine jx_ld (pc' := 268) (l' := L401) (st' := [.ref 66]) rfl (jl_aloadn gL401_0) ?_
    refine jx_ld (pc' := 270) (l' := L401) (st' := [.int (i32 (1)), .ref 66]) rfl (jl_iload gL401_6) ?_
    refine jx_if_eq (pc' := 273) (tg := 278) rfl rfl rfl (by decide) (by decide) (fun h402 => ?_) (fun h402 => ?_)
    · have _q := h402
      exact absurd h402 (by omega)
    · have _q := h402
      refine jx_ar (pc' := 275) (st' := [.int (i32 (23)), .ref 66]) rfl rfl rfl rfl ?_
      refine jx_go (tg := 280) rfl rfl ?_
      refine jx_ld (pc' := 281) (l' := L401) (st' := [.ref 66, .int (i32 (23)), .ref 66]) rfl (jl_aloadn gL401_0) ?_
      refine jx_ld (pc' := 283) (l' := L401) (st' := [.int (i32 (0)), .ref 66, .int (i32 (23)), .ref 66]) rfl (jl_iload gL401_5) ?_
      refine jx_if_eq (pc' := 286) (tg := 290) rfl rfl rfl (by decide) (by decide) (fun h403 => ?_) (fun h403 => ?_)
      · have _q := h403
        refine jx_ar (pc' := 291) (st' := [.int (i32 (2)), .ref 66, .int (i32 (23)), .ref 66]) rfl rfl rfl rfl ?_
        refine jx_ld (pc' := 292) (l' := L401) (st' := [.int (i32 (s)), .int (i32 (2)), .ref 66, .int (i32 (23)), .ref 66]) rfl (jl_iloadn gL401_2) ?_
        refine jx_ld (pc' := 294) (l' := L401) (st' := [.int (i32 (0)), .int (i32 (s)), .int (i32 (2)), .ref 66, .int (i32 (23)), .ref 66]) rfl (jl_iload gL401_4) ?_
        refine jx_ar (pc' := 295) (st' := [.int (i32 (0)), .int (i32 (0)), .int (i32 (s)), .int (i32 (2)), .ref 66, .int (i32 (23)), .ref 66]) rfl rfl rfl rfl ?_
        refine jx_ar (pc' := 296) (st' := [.int (i32 (0)), .int (i32 (0)), .int (i32 (0)), .int (i32 (s)), .int (i32 (2)), .ref 66, .int (i32 (23)), .ref 66]) rfl rfl rfl rfl ?_
        refine jx_vr (pc' := 299) (as := [.int (i32 (2)), .int (i32 (s)), .int (i32 (0)), .int (i32 (0)), .int (i32 (0))]) (st := [.int (i32 (23)), .ref 66]) rfl rfl rfl rfl ⟨rfl, rfl, Nat.le_of_ble_eq_true rfl⟩ rfl rfl (c_node_o (dd := d) (hd := by omega) (hW := hWx) (kind := 2) (a := s) (b := 0) (c := 0) (e := 0) (nd := nd1) (e_nd := show Gx 31 = nd1 from (ex_nd1)) (ec := ec1) (e_ec := show ecn Ax (Gx 31) = ec1 from ex_ec1) (sy := sy) (e_sy := show Gx 19 = sy from ((hFx.1 19 rfl).trans (e_sy)))  (h_kind := ⟨(by decide), (by decide)⟩) (h_a := ⟨(Int.le_trans (by decide : (-2147483648 : Int) ≤ -2147483648) rx_s.1), (Int.le_trans rx_s.2 (by decide : (2147483647 : Int) ≤ 2147483647))⟩) (h_b := ⟨(by decide), (by decide)⟩) (h_c := ⟨(by decide), (by decide)⟩) (h_e := ⟨(by decide), (by decide)⟩)  (p_0 := by omega) (p_1 := by omega) (p_2 := by omega)) (fun o V' hq => ?_)
        obtain ⟨G404, A405, nd2_406, ec2_407, rfl, rfl, hW408, hF409, hQ410, e411, e412, p413, p414, p415, p416, -⟩ := hq
        have hF418 := Fr_tr hFx hF409 (Fr_sub (by decide)) (Fr_sub (by decide))
        have hP419 := Pf_tr hPx hQ410 (by omega)
        have sf420 : NdM A405 (nd) (nd1) (sy) := NdM_pf hQ410 (by omega) (by omega) iv_11
        have bnd2_406 : (0 : Int) ≤ nd2_406 ∧ nd2_406 ≤ 6999 := e411 ▸ hW408.1 31
        refine .inr ⟨_, rfl, ?_⟩
        refine jx_ar (pc' := 300) (st' := [.int (i32 (0)), .int (i32 (nd1)), .int (i32 (23)), .ref 66]) rfl rfl rfl rfl ?_
        refine jx_ar (pc' := 301) (st' := [.int (i32 (0)), .int (i32 (0)), .int (i32 (nd1)), .int (i32 (23)), .ref 66]) rfl rfl rfl rfl ?_
        refine jx_ar (pc' := 302) (st' := [.int (i32 (0)), .int (i32 (0)), .int (i32 (0)), .int (i32 (nd1)), .int (i32 (23)), .ref 66]) rfl rfl rfl rfl ?_
        refine jx_vr (pc' := 305) (as := [.int (i32 (23)), .int (i32 (nd1)), .int (i32 (0)), .int (i32 (0)), .int (i32 (0))]) (st := []) rfl rfl rfl rfl ⟨rfl, rfl, Nat.le_of_ble_eq_true rfl⟩ rfl rfl (c_node_l (dd := d) (hd := by omega) (hW := hW408) (kind := 23) (a := nd1) (b := 0) (c := 0) (e := 0) (nd := nd2_406) (e_nd := show G404 31 = nd2_406 from (e411)) (ec := ec2_407) (e_ec := show ecn A405 (G404 31) = ec2_407 from e412) (sy := sy) (e_sy := show G404 19 = sy from ((hF409.1 19 rfl).trans ((hFx.1 19 rfl).trans (e_sy)))) (ln := ln) (e_ln := show G404 9 = ln from ((hF409.1 9 rfl).trans (fx_9))) (li := li) (e_li := show G404 3 = li from ((hF409.1 3 rfl).trans ((hFx.1 3 rfl).trans (e_li))))  (h_kind := ⟨(by decide), (by decide)⟩) (h_a := ⟨(Int.le_trans (by decide : (-2147483648 : Int) ≤ 0) b_nd1.1), (Int.le_trans b_nd1.2 (by decide : (6999 : Int) ≤ 2147483647))⟩) (h_b := ⟨(by decide), (by decide)⟩) (h_c := ⟨(by decide), (by decide)⟩) (h_e := ⟨(by decide), (by decide)⟩)  (p_0 := by omega) (p_1 := by omega) (p_2 := by omega) (p_3 := by omega)) (fun o V' hq => ?_)
        obtain ⟨G421, A422, nd2_423, ec2_424, rfl, rfl, hW425, hF426, hQ427, e428, e429, p430, p431, p432, p433, -⟩ := hq
        have hF435 := Fr_tr hF418 hF426 (Fr_sub (by decide)) (Fr_sub (by decide))
        have hP436 := Pf_tr hP419 hQ427 (by omega)
        have sf437 : NdM A422 (nd) (nd1) (sy) := NdM_pf hQ427 (by omega) (by omega) sf420
        have sf438 : ND A422 (nd1) (2) (s) (0) (0) (0) (0) (0) := ND_ag (by omega) (Ag_pf hQ427 (by omega)) p415
        have sf439 : NdM A422 (nd1) (nd1 + 1) (sy) := NdM_pf hQ427 (by omega) (by omega) p416
        have bnd2_423 : (0 : Int) ≤ nd2_423 ∧ nd2_423 ≤ 6999 := e428 ▸ hW425.1 31
        refine .inr ⟨_, rfl, ?_⟩
        refine jx_ld (pc' := 307) (l' := jSto1 L401 7 (.int (i32 (nd2_406)))) (st' := []) rfl rfl ?_
        obtain ⟨L440, eL440⟩ : ∃ q, q = jSto1 L401 7 (.int (i32 (nd2_406))) := ⟨_, rfl⟩
        rw [← eL440]
        have gL440_0 : jGet L440 0 = some (.ref 66) := eL440 ▸ jg_ne (by decide) gL401_0 rfl
        have gL440_5 : jGet L440 5 = some (.int (i32 (0))) := eL440 ▸ jg_ne (by decide) gL401_5 rfl
        have gL440_4 : jGet L440 4 = some (.int (i32 (0))) := eL440 ▸ jg_ne (by decide) gL401_4 rfl
        have gL440_2 : jGet L440 2 = some (.int (i32 (s))) := eL440 ▸ jg_ne (by decide) gL401_2 rfl
        have gL440_6 : jGet L440 6 = some (.int (i32 (1))) := eL440 ▸ jg_ne (by decide) gL401_6 rfl
        have gL440_7 : jGet L440 7 = some (.int (i32 (nd2_406))) := eL440 ▸ jg_eq
        refine jx_ld (pc' := 308) (l' := L440) (st' := [.ref 66]) rfl (jl_aloadn gL440_0) ?_
        refine jx_vr (pc' := 311) (as := []) (st := []) rfl rfl rfl rfl ⟨rfl, rfl, Nat.le_of_ble_eq_true rfl⟩ rfl rfl (c_next (dd := d) (hd := by omega) (hW := hW425)  (ln := ln) (e_ln := show G421 9 = ln from ((hF426.1 9 rfl).trans ((hF409.1 9 rfl).trans (fx_9)))) (le := le) (e_le := show A422 4 (ln).toNat = le from (congrFun ((hF426.2 4 rfl).trans ((hF409.2 4 rfl).trans (hFx.2 4 rfl))) _).trans (e_le)) (at0 := at1) (e_at0 := show G421 10 = at1 from ((hF426.1 10 rfl).trans ((hF409.1 10 rfl).trans (ex_at1))))    (p_0 := by omega)) (fun o V' hq => ?_)
        obtain ⟨G441, A442, at2_443, tk2_444, rfl, rfl, hW445, hF446, e447, e448, p449, p450, p451, -⟩ := hq
        have hF453 := Fr_tr hF435 hF446 (Fr_sub (by decide)) (Fr_sub (by decide))
        have hP454 := Pf_f hP436 hF446 (by decide)
        have sf455 : NdM A442 (nd) (nd1) (sy) := NdM_f hF446 (by decide) sf437
        have sf456 : ND A442 (nd1) (2) (s) (0) (0) (0) (0) (0) := ND_ag (by omega) (Ag_fr hF446 (by decide)) sf438
        have sf457 : NdM A442 (nd1) (nd1 + 1) (sy) := NdM_f hF446 (by decide) sf439
        have sf458 : ND A442 (nd2_406) (23) (nd1) (0) (0) (0) (0) (0) := ND_ag (by omega) (Ag_fr hF446 (by decide)) p432
        have sf459 : NdM A442 (nd2_406) (nd2_406 + 1) (sy) := NdM_f hF446 (by decide) p433
        have ec460 : ecn A442 (G441 31) = ec2_424 := (ecn_f (hF446.2 15 rfl) (hF446.1 31 rfl)).trans e429
        have bat2_443 : (0 : Int) ≤ at2_443 ∧ at2_443 ≤ 3002 := e447 ▸ hW445.1 10
        have ztk2_444 := tz_b tk2_444
        have btk2_444 : (0 : Int) ≤ tk2_444 ∧ tk2_444 ≤ 5 := e448 ▸ hW445.1 11
        refine .inl ⟨rfl, ?_⟩
        have pz461 : at1 + tz tk2_444 ≤ at2_443 := by omega
        refine jx_ld (pc' := 312) (l' := L440) (st' := [.ref 66]) rfl (jl_aloadn gL440_0) ?_
        refine jr_get (pc' := 315) (i := 35) (v := .ref 85) rfl rfl (by decide) rfl rfl ?_
        refine jx_ld (pc' := 317) (l' := L440) (st' := [.int (i32 (nd2_406)), .ref 85]) rfl (jl_iload gL440_7) ?_
        refine jx_ld (pc' := 319) (l' := L440) (st' := [.int (i32 (1)), .int (i32 (nd2_406)), .ref 85]) rfl (jl_iload gL440_6) ?_
        refine jx_if_eq (pc' := 322) (tg := 329) rfl rfl rfl (by decide) (by decide) (fun h462 => ?_) (fun h462 => ?_)
        · have _q := h462
          exact absurd h462 (by omega)
        · have _q := h462
          refine jx_ld (pc' := 323) (l' := L440) (st' := [.ref 66, .int (i32 (nd2_406)), .ref 85]) rfl (jl_aloadn gL440_0) ?_
          refine jx_vr (pc' := 326) (as := []) (st := [.int (i32 (nd2_406)), .ref 85]) rfl rfl rfl rfl ⟨rfl, rfl, Nat.le_of_ble_eq_true rfl⟩ rfl rfl (REw_all X 9 (dd := d) (hd := by omega) (hW := hW445)  (ln := ln) (e_ln := show G441 9 = ln from ((hF446.1 9 rfl).trans ((hF426.1 9 rfl).trans ((hF409.1 9 rfl).trans (fx_9))))) (le := le) (e_le := show A442 4 (ln).toNat = le from (congrFun ((hF446.2 4 rfl).trans ((hF426.2 4 rfl).trans ((hF409.2 4 rfl).trans (hFx.2 4 rfl)))) _).trans (e_le)) (at0 := at2_443) (e_at0 := show G441 10 = at2_443 from (e447)) (fk := fk1) (e_fk := show G441 16 = fk1 from ((hF446.1 16 rfl).trans ((hF426.1 16 rfl).trans ((hF409.1 16 rfl).trans (ex_fk1))))) (op0 := op1) (e_op0 := show G441 15 = op1 from ((hF446.1 15 rfl).trans ((hF426.1 15 rfl).trans ((hF409.1 15 rfl).trans (ex_op1))))) (nd := nd2_423) (e_nd := show G441 31 = nd2_423 from ((hF446.1 31 rfl).trans (e428))) (tk0 := tk2_444) (e_tk0 := show G441 11 = tk2_444 from (e448)) (ec := ec2_424) (e_ec := show ecn A442 (G441 31) = ec2_424 from ec460) (sy := sy) (e_sy := show G441 19 = sy from ((hF446.1 19 rfl).trans ((hF426.1 19 rfl).trans ((hF409.1 19 rfl).trans ((hFx.1 19 rfl).trans (e_sy)))))) (i_SV := (SV_ext (((hF446.1 29 rfl).trans ((hF426.1 29 rfl).trans ((hF409.1 29 rfl).trans (hFx.1 29 rfl))))) (((hF446.2 14 rfl).trans ((hF426.2 14 rfl).trans ((hF409.2 14 rfl).trans (hFx.2 14 rfl))))) i_SV))   (p_0 := by omega) (p_1 := by omega) (p_2 := by omega) (p_3 := by omega) (p_4 := by omega) (p_5 := by omega)) (fun o V' hq => ?_)
          obtain ⟨G463, A464, r465, at2_466, fk2_467, op2_468, nd2_469, tk2_470, ec2_471, rfl, rfl, hW472, hF473, hQ474, b475, e476, e477, e478, e479, e480, e481, p482, p483, p484, p485, p486, p487, q488⟩ := hq
          have hF489 := Fr_tr hF453 hF473 (Fr_sub (by decide)) (Fr_sub (by decide))
          have hP490 := Pf_tr hP454 hQ474 (by omega)
          have sf491 : NdM A464 (nd) (nd1) (sy) := NdM_pf hQ474 (by omega) (by omega) sf455
          have sf492 : ND A464 (nd1) (2) (s) (0) (0) (0) (0) (0) := ND_ag (by omega) (Ag_pf hQ474 (by omega)) sf456
          have sf493 : NdM A464 (nd1) (nd1 + 1) (sy) := NdM_pf hQ474 (by omega) (by omega) sf457
          have sf494 : ND A464 (nd2_406) (23) (nd1) (0) (0) (0) (0) (0) := ND_ag (by omega) (Ag_pf hQ474 (by omega)) sf458
          have sf495 : NdM A464 (nd2_406) (nd2_406 + 1) (sy) := NdM_pf hQ474 (by omega) (by omega) sf459
          have bat2_466 : (0 : Int) ≤ at2_466 ∧ at2_466 ≤ 3002 := e476 ▸ hW472.1 10
          have bfk2_467 : (0 : Int) ≤ fk2_467 ∧ fk2_467 ≤ 6 := e477 ▸ hW472.1 16
          have bop2_468 : (-2147483648 : Int) ≤ op2_468 ∧ op2_468 ≤ 2147483647 := e478 ▸ hW472.1 15
          have bnd2_469 : (0 : Int) ≤ nd2_469 ∧ nd2_469 ≤ 6999 := e479 ▸ hW472.1 31
          have ztk2_470 := tz_b tk2_470
          have btk2_470 : (0 : Int) ≤ tk2_470 ∧ tk2_470 ≤ 5 := e480 ▸ hW472.1 11
          refine .inr ⟨_, rfl, ?_⟩
          rcases q488 with ⟨a496, a497, a498, a499, a500, a501⟩ | ⟨a502, a503, a504⟩ | ⟨a505, a506, a507, a508, a509, a510, a511⟩
          · have _q : True := trivial
            exfalso
            omega
          · have _q : True := trivial
            refine jx_go (tg := 334) rfl rfl ?_
            refine jr_st (pc' := 335) (i := 18) (m := 7000) (z := nd2_406) (y := r465) rfl (by decide) rfl (by decide) (by omega) (by omega) rfl ?_
            have hW513 : Wk G463 (uA A464 18 (nd2_406).toNat (r465)) := Wk_a hW472 (show (-2147483648 : Int) ≤ r465 by omega) (show r465 ≤ (2147483647 : Int) by omega)
            have hF514 := Fr_a (z := r465) (k := 18) (n := (nd2_406).toNat) hF489 (by decide)
            obtain ⟨A512, eA512⟩ : ∃ q, q = uA A464 18 (nd2_406).toNat (r465) := ⟨_, rfl⟩
            rw [← eA512]
            rw [← eA512] at hW513 hF514
            have q515 : A512 18 (nd2_406).toNat = r465 := by rw [eA512]; exact uA_eq
            have hP516 : Pf nd A A512 := eA512 ▸ Pf_a hP490 (z := nd2_406) (by omega) (by omega)
            have sf517 : NdM A512 (nd) (nd1) (sy) := NdM_st eA512 (by decide) sf491
            have sf518 : ND A512 (nd1) (2) (s) (0) (0) (0) (0) (0) := ND_ag (by omega) (Ag_st eA512 (by omega) (by omega)) sf492
            have sf519 : NdM A512 (nd1) (nd1 + 1) (sy) := NdM_st eA512 (by decide) sf493
            have sf520 : ND A512 (nd2_406) (23) (nd1) (r465) (0) (0) (0) (0) := ND_b eA512 sf494
            have sf521 : NdM A512 (nd2_406) (nd2_406 + 1) (sy) := NdM_st eA512 (by decide) sf495
            have ec522 : ecn A512 (G463 31) = ec2_471 := (ecn_e ((congrFun eA512 15).trans (uA_ne (by decide)))).trans e481
            refine jx_ld (pc' := 336) (l' := L440) (st' := [.ref 66]) rfl (jl_aloadn gL440_0) ?_
            refine jx_vr (pc' := 339) (as := []) (st := []) rfl rfl rfl rfl ⟨rfl, rfl, Nat.le_of_ble_eq_true rfl⟩ rfl rfl (c_endLine (dd := d) (hd := by omega) (hW := hW513)  (ln := ln) (e_ln := show G463 9 = ln from ((hF473.1 9 rfl).trans ((hF446.1 9 rfl).trans ((hF426.1 9 rfl).trans ((hF409.1 9 rfl).trans (fx_9)))))) (li := li) (e_li := show G463 3 = li from ((hF473.1 3 rfl).trans ((hF446.1 3 rfl).trans ((hF426.1 3 rfl).trans ((hF409.1 3 rfl).trans ((hFx.1 3 rfl).trans (e_li))))))) (fk := fk2_467) (e_fk := show G463 16 = fk2_467 from (e477)) (tk0 := tk2_470) (e_tk0 := show G463 11 = tk2_470 from (e480))    (p_0 := by omega)) (fun o V' hq => ?_)
            obtain ⟨G523, A524, ln2_525, fk2_526, rfl, rfl, hW527, hF528, e529, e530, q531⟩ := hq
            have hF532 := Fr_tr hF514 hF528 (Fr_sub (by decide)) (Fr_sub (by decide))
            have hP533 := Pf_f hP516 hF528 (by decide)
            have sf534 : NdM A524 (nd) (nd1) (sy) := NdM_f hF528 (by decide) sf517
            have sf535 : ND A524 (nd1) (2) (s) (0) (0) (0) (0) (0) := ND_ag (by omega) (Ag_fr hF528 (by decide)) sf518
            have sf536 : NdM A524 (nd1) (nd1 + 1) (sy) := NdM_f hF528 (by decide) sf519
            have sf537 : ND A524 (nd2_406) (23) (nd1) (r465) (0) (0) (0) (0) := ND_ag (by omega) (Ag_fr hF528 (by decide)) sf520
            have sf538 : NdM A524 (nd2_406) (nd2_406 + 1) (sy) := NdM_f hF528 (by decide) sf521
            have ec539 : ecn A524 (G523 31) = ec2_471 := (ecn_f (hF528.2 15 rfl) (hF528.1 31 rfl)).trans ec522
            have bln2_525 : (0 : Int) ≤ ln2_525 ∧ ln2_525 ≤ 3000 := e529 ▸ hW527.1 9
            have bfk2_526 : (0 : Int) ≤ fk2_526 ∧ fk2_526 ≤ 6 := e530 ▸ hW527.1 16
            refine .inl ⟨rfl, ?_⟩
            rcases q531 with ⟨a540, a541, a542, a543, a544⟩ | ⟨a545, a546⟩
            · have _q : True := trivial
              exfalso
              omega
            · have _q : True := trivial
              refine jx_ld (pc' := 341) (l' := L440) (st' := [.int (i32 (nd2_406))]) rfl (jl_iload gL440_7) ?_
              refine jx_rt (v := some (.int (i32 (nd2_406)))) rfl rfl rfl rfl rfl rfl ?_
              exact ⟨_, _, _, at2_466, fk2_526, nd2_469, ln2_525, ec2_471, rfl, rfl, hW527, hF532, hP533, by omega, ((hF528.1 10 rfl).trans (e476)), (e530), ((hF528.1 31 rfl).trans (e479)), (e529), ec539, by omega, by omega, by omega, by omega, by omega, by first | exact Or.inl (⟨by omega, by omega, by omega⟩)⟩
          · have _q : True := trivial
            refine jx_go (tg := 334) rfl rfl ?_
            refine jr_st (pc' := 335) (i := 18) (m := 7000) (z := nd2_406) (y := r465) rfl (by decide) rfl (by decide) (by omega) (by omega) rfl ?_
            have hW548 : Wk G463 (uA A464 18 (nd2_406).toNat (r465)) := Wk_a hW472 (show (-2147483648 : Int) ≤ r465 by omega) (show r465 ≤ (2147483647 : Int) by omega)
            have hF549 := Fr_a (z := r465) (k := 18) (n := (nd2_406).toNat) hF489 (by decide)
            obtain ⟨A547, eA547⟩ : ∃ q, q = uA A464 18 (nd2_406).toNat (r465) := ⟨_, rfl⟩
            rw [← eA547]
            rw [← eA547] at hW548 hF549
            have q550 : A547 18 (nd2_406).toNat = r465 := by rw [eA547]; exact uA_eq
            have hP551 : Pf nd A A547 := eA547 ▸ Pf_a hP490 (z := nd2_406) (by omega) (by omega)
            have sf552 : NdM A547 (nd) (nd1) (sy) := NdM_st eA547 (by decide) sf491
            have sf553 : ND A547 (nd1) (2) (s) (0) (0) (0) (0) (0) := ND_ag (by omega) (Ag_st eA547 (by omega) (by omega)) sf492
            have sf554 : NdM A547 (nd1) (nd1 + 1) (sy) := NdM_st eA547 (by decide) sf493
            have sf555 : ND A547 (nd2_406) (23) (nd1) (r465) (0) (0) (0) (0) := ND_b eA547 sf494
            have sf556 : NdM A547 (nd2_406) (nd2_406 + 1) (sy) := NdM_st eA547 (by decide) sf495
            have sf557 : wE A547 Vs sb (2 * 9 + 2) (r465) (nd2_423) (nd2_469) := wE_ag (by omega) (Sg_ne eA547 rfl) (Ag_st eA547 (by omega) (by omega)) a508
            have sf558 : NdM A547 (nd2_423) (nd2_469) (sy) := NdM_st eA547 (by decide) a510
            have ec559 : ecn A547 (G463 31) = ec2_471 := (ecn_e ((congrFun eA547 15).trans (uA_ne (by decide)))).trans e481
            refine jx_ld (pc' := 336) (l' := L440) (st' := [.ref 66]) rfl (jl_aloadn gL440_0) ?_
            refine jx_vr (pc' := 339) (as := []) (st := []) rfl rfl rfl rfl ⟨rfl, rfl, Nat.le_of_ble_eq_true rfl⟩ rfl rfl (c_endLine (dd := d) (hd := by omega) (hW := hW548)  (ln := ln) (e_ln := show G463 9 = ln from ((hF473.1 9 rfl).trans ((hF446.1 9 rfl).trans ((hF426.1 9 rfl).trans ((hF409.1 9 rfl).trans (fx_9)))))) (li := li) (e_li := show G463 3 = li from ((hF473.1 3 rfl).trans ((hF446.1 3 rfl).trans ((hF426.1 3 rfl).trans ((hF409.1 3 rfl).trans ((hFx.1 3 rfl).trans (e_li))))))) (fk := fk2_467) (e_fk := show G463 16 = fk2_467 from (e477)) (tk0 := tk2_470) (e_tk0 := show G463 11 = tk2_470 from (e480))    (p_0 := by omega)) (fun o V' hq => ?_)
            obtain ⟨G560, A561, ln2_562, fk2_563, rfl, rfl, hW564, hF565, e566, e567, q568⟩ := hq
            have hF569 := Fr_tr hF549 hF565 (Fr_sub (by decide)) (Fr_sub (by decide))
            have hP570 := Pf_f hP551 hF565 (by decide)
            have sf571 : NdM A561 (nd) (nd1) (sy) := NdM_f hF565 (by decide) sf552
            have sf572 : ND A561 (nd1) (2) (s) (0) (0) (0) (0) (0) := ND_ag (by omega) (Ag_fr hF565 (by decide)) sf553
            have sf573 : NdM A561 (nd1) (nd1 + 1) (sy) := NdM_f hF565 (by decide) sf554
            have sf574 : ND A561 (nd2_406) (23) (nd1) (r465) (0) (0) (0) (0) := ND_ag (by omega) (Ag_fr hF565 (by decide)) sf555
            have sf575 : NdM A561 (nd2_406) (nd2_406 + 1) (sy) := NdM_f hF565 (by decide) sf556
            have sf576 : wE A561 Vs sb (2 * 9 + 2) (r465) (nd2_423) (nd2_469) := wE_ag (by omega) (Sg_fr hF565 (by decide)) (Ag_fr hF565 (by decide)) sf557
            have sf577 : NdM A561 (nd2_423) (nd2_469) (sy) := NdM_f hF565 (by decide) sf558
            have ec578 : ecn A561 (G560 31) = ec2_471 := (ecn_f (hF565.2 15 rfl) (hF565.1 31 rfl)).trans ec559
            have bln2_562 : (0 : Int) ≤ ln2_562 ∧ ln2_562 ≤ 3000 := e566 ▸ hW564.1 9
            have bfk2_563 : (0 : Int) ≤ fk2_563 ∧ fk2_563 ≤ 6 := e567 ▸ hW564.1 16
            refine .inl ⟨rfl, ?_⟩
            rcases q568 with ⟨a579, a580, a581, a582, a583⟩ | ⟨a584, a585⟩
            · have _q : True := trivial
              refine jx_ld (pc' := 341) (l' := L440) (st' := [.int (i32 (nd2_406))]) rfl (jl_iload gL440_7) ?_
              refine jx_rt (v := some (.int (i32 (nd2_406)))) rfl rfl rfl rfl rfl rfl ?_
              exact ⟨_, _, _, at2_466, fk2_563, nd2_469, ln2_562, ec2_471, rfl, rfl, hW564, hF569, hP570, by omega, ((hF565.1 10 rfl).trans (e476)), (e567), ((hF565.1 31 rfl).trans (e479)), (e566), ec578, by omega, by omega, by omega, by omega, by omega, by first | exact Or.inr ((⟨by omega, by omega, by omega, by omega, by omega, (wL_out sf574 (by omega) (by omega) (wR_var sf572 (by omega) (by omega) iv_8 (kq (P := kRef (1)) (show A561 7 (s).toNat = ks from (congrFun ((hF565.2 7 rfl).trans (((congrFun eA547 7).trans (uA_ne (by decide))).trans ((hF473.2 7 rfl).trans ((hF446.2 7 rfl).trans ((hF426.2 7 rfl).trans (hF409.2 7 rfl)))))) _).trans (ex_ks)) (by first | exact .inr ⟨by omega, iv_9⟩))) (wE_mono (by omega) (by omega) (by omega) sf576)), (NX_nd sf574), by omega, (NdM_w (NdM_app (sy := sy) sf571 (NdM_app (sy := sy) sf573 (NdM_app (sy := sy) sf575 sf577 (by omega) (by omega) (by omega)) (by omega) (by omega) (by omega)) (by omega) (by omega) (by omega)) (by omega) (by omega) (by omega))⟩))⟩
            · have _q : True := trivial
              refine jx_ld (pc' := 341) (l' := L440) (st' := [.int (i32 (nd2_406))]) rfl (jl_iload gL440_7) ?_
              refine jx_rt (v := some (.int (i32 (nd2_406)))) rfl rfl rfl rfl rfl rfl ?_
              exact ⟨_, _, _, at2_466, fk2_563, nd2_469, ln2_562, ec2_471, rfl, rfl, hW564, hF569, hP570, by omega, ((hF565.1 10 rfl).trans (e476)), (e567), ((hF565.1 31 rfl).trans (e479)), (e566), ec578, by omega, by omega, by omega, by omega, by omega, by first | exact Or.inl (⟨by omega, by omega, by omega⟩)⟩
      · have _q := h403
        exact absurd h403 (by omega)
  · have _q : True := trivial
    refine jx_ld (pc' := 267) (l' := jSto1 L 6 (.int (i32 (0)))) (st' := []) rfl rfl ?_
    obtain ⟨L586, eL586⟩ : ∃ q, q = jSto1 L 6 (.int (i32 (0))) := ⟨_, rfl⟩
    rw [← eL586]
    have gL586_0 : jGet L586 0 = some (.ref 66) := eL586 ▸ jg_ne (by decide) gL_0 rfl
    have gL586_5 : jGet L586 5 = some (.int (i32 (0))) := eL586 ▸ jg_ne (by decide) gL_5 rfl
    have gL586_4 : jGet L586 4 = some (.int (i32 (0))) := eL586 ▸ jg_ne (by decide) gL_4 rfl
    have gL586_2 : jGet L586 2 = some (.int (i32 (s))) := eL586 ▸ jg_ne (by decide) gL_2 rfl
    have gL586_6 : jGet L586 6 = some (.int (i32 (0))) := eL586 ▸ jg_eq
    refine jx_ld (pc' := 268) (l' := L586) (st' := [.ref 66]) rfl (jl_aloadn gL586_0) ?_
    refine jx_ld (pc' := 270) (l' := L586) (st' := [.int (i32 (0)), .ref 66]) rfl (jl_iload gL586_6) ?_
    refine jx_if_eq (pc' := 273) (tg := 278) rfl rfl rfl (by decide) (by decide) (fun h587 => ?_) (fun h587 => ?_)
    · have _q := h587
      refine jx_ar (pc' := 280) (st' := [.int (i32 (24)), .ref 66]) rfl rfl rfl rfl ?_
      refine jx_ld (pc' := 281) (l' := L586) (st' := [.ref 66, .int (i32 (24)), .ref 66]) rfl (jl_aloadn gL586_0) ?_
      refine jx_ld (pc' := 283) (l' := L586) (st' := [.int (i32 (0)), .ref 66, .int (i32 (24)), .ref 66]) rfl (jl_iload gL586_5) ?_
      refine jx_if_eq (pc' := 286) (tg := 290) rfl rfl rfl (by decide) (by decide) (fun h588 => ?_) (fun h588 => ?_)
      · have _q := h588
        refine jx_ar (pc' := 291) (st' := [.int (i32 (2)), .ref 66, .int (i32 (24)), .ref 66]) rfl rfl rfl rfl ?_
        refine jx_ld (pc' := 292) (l' := L586) (st' := [.int (i32 (s)), .int (i32 (2)), .ref 66, .int (i32 (24)), .ref 66]) rfl (jl_iloadn gL586_2) ?_
        refine jx_ld (pc' := 294) (l' := L586) (st' := [.int (i32 (0)), .int (i32 (s)), .int (i32 (2)), .ref 66, .int (i32 (24)), .ref 66]) rfl (jl_iload gL586_4) ?_
        refine jx_ar (pc' := 295) (st' := [.int (i32 (0)), .int (i32 (0)), .int (i32 (s)), .int (i32 (2)), .ref 66, .int (i32 (24)), .ref 66]) rfl rfl rfl rfl ?_
        refine jx_ar (pc' := 296) (st' := [.int (i32 (0)), .int (i32 (0)), .int (i32 (0)), .int (i32 (s)), .int (i32 (2)), .ref 66, .int (i32 (24)), .ref 66]) rfl rfl rfl rfl ?_
        refine jx_vr (pc' := 299) (as := [.int (i32 (2)), .int (i32 (s)), .int (i32 (0)), .int (i32 (0)), .int (i32 (0))]) (st := [.int (i32 (24)), .ref 66]) rfl rfl rfl rfl ⟨rfl, rfl, Nat.le_of_ble_eq_true rfl⟩ rfl rfl (c_node_o (dd := d) (hd := by omega) (hW := hWx) (kind := 2) (a := s) (b := 0) (c := 0) (e := 0) (nd := nd1) (e_nd := show Gx 31 = nd1 from (ex_nd1)) (ec := ec1) (e_ec := show ecn Ax (Gx 31) = ec1 from ex_ec1) (sy := sy) (e_sy := show Gx 19 = sy from ((hFx.1 19 rfl).trans (e_sy)))  (h_kind := ⟨(by decide), (by decide)⟩) (h_a := ⟨(Int.le_trans (by decide : (-2147483648 : Int) ≤ -2147483648) rx_s.1), (Int.le_trans rx_s.2 (by decide : (2147483647 : Int) ≤ 2147483647))⟩) (h_b := ⟨(by decide), (by decide)⟩) (h_c := ⟨(by decide), (by decide)⟩) (h_e := ⟨(by decide), (by decide)⟩)  (p_0 := by omega) (p_1 := by omega) (p_2 := by omega)) (fun o V' hq => ?_)
        obtain ⟨G589, A590, nd2_591, ec2_592, rfl, rfl, hW593, hF594, hQ595, e596, e597, p598, p599, p600, p601, -⟩ := hq
        have hF603 := Fr_tr hFx hF594 (Fr_sub (by decide)) (Fr_sub (by decide))
        have hP604 := Pf_tr hPx hQ595 (by omega)
        have sf605 : NdM A590 (nd) (nd1) (sy) := NdM_pf hQ595 (by omega) (by omega) iv_11
        have bnd2_591 : (0 : Int) ≤ nd2_591 ∧ nd2_591 ≤ 6999 := e596 ▸ hW593.1 31
        refine .inr ⟨_, rfl, ?_⟩
        refine jx_ar (pc' := 300) (st' := [.int (i32 (0)), .int (i32 (nd1)), .int (i32 (24)), .ref 66]) rfl rfl rfl rfl ?_
        refine jx_ar (pc' := 301) (st' := [.int (i32 (0)), .int (i32 (0)), .int (i32 (nd1)), .int (i32 (24)), .ref 66]) rfl rfl rfl rfl ?_
        refine jx_ar (pc' := 302) (st' := [.int (i32 (0)), .int (i32 (0)), .int (i32 (0)), .int (i32 (nd1)), .int (i32 (24)), .ref 66]) rfl rfl rfl rfl ?_
        refine jx_vr (pc' := 305) (as := [.int (i32 (24)), .int (i32 (nd1)), .int (i32 (0)), .int (i32 (0)), .int (i32 (0))]) (st := []) rfl rfl rfl rfl ⟨rfl, rfl, Nat.le_of_ble_eq_true rfl⟩ rfl rfl (c_node_l (dd := d) (hd := by omega) (hW := hW593) (kind := 24) (a := nd1) (b := 0) (c := 0) (e := 0) (nd := nd2_591) (e_nd := show G589 31 = nd2_591 from (e596)) (ec := ec2_592) (e_ec := show ecn A590 (G589 31) = ec2_592 from e597) (sy := sy) (e_sy := show G589 19 = sy from ((hF594.1 19 rfl).trans ((hFx.1 19 rfl).trans (e_sy)))) (ln := ln) (e_ln := show G589 9 = ln from ((hF594.1 9 rfl).trans (fx_9))) (li := li) (e_li := show G589 3 = li from ((hF594.1 3 rfl).trans ((hFx.1 3 rfl).trans (e_li))))  (h_kind := ⟨(by decide), (by decide)⟩) (h_a := ⟨(Int.le_trans (by decide : (-2147483648 : Int) ≤ 0) b_nd1.1), (Int.le_trans b_nd1.2 (by decide : (6999 : Int) ≤ 2147483647))⟩) (h_b := ⟨(by decide), (by decide)⟩) (h_c := ⟨(by decide), (by decide)⟩) (h_e := ⟨(by decide), (by decide)⟩)  (p_0 := by omega) (p_1 := by omega) (p_2 := by omega) (p_3 := by omega)) (fun o V' hq => ?_)
        obtain ⟨G606, A607, nd2_608, ec2_609, rfl, rfl, hW610, hF611, hQ612, e613, e614, p615, p616, p617, p618, -⟩ := hq
        have hF620 := Fr_tr hF603 hF611 (Fr_sub (by decide)) (Fr_sub (by decide))
        have hP621 := Pf_tr hP604 hQ612 (by omega)
        have sf622 : NdM A607 (nd) (nd1) (sy) := NdM_pf hQ612 (by omega) (by omega) sf605
        have sf623 : ND A607 (nd1) (2) (s) (0) (0) (0) (0) (0) := ND_ag (by omega) (Ag_pf hQ612 (by omega)) p600
        have sf624 : NdM A607 (nd1) (nd1 + 1) (sy) := NdM_pf hQ612 (by omega) (by omega) p601
        have bnd2_608 : (0 : Int) ≤ nd2_608 ∧ nd2_608 ≤ 6999 := e613 ▸ hW610.1 31
        refine .inr ⟨_, rfl, ?_⟩
        refine jx_ld (pc' := 307) (l' := jSto1 L586 7 (.int (i32 (nd2_591)))) (st' := []) rfl rfl ?_
        obtain ⟨L625, eL625⟩ : ∃ q, q = jSto1 L586 7 (.int (i32 (nd2_591))) := ⟨_, rfl⟩
        rw [← eL625]
        have gL625_0 : jGet L625 0 = some (.ref 66) := eL625 ▸ jg_ne (by decide) gL586_0 rfl
        have gL625_5 : jGet L625 5 = some (.int (i32 (0))) := eL625 ▸ jg_ne (by decide) gL586_5 rfl
        have gL625_4 : jGet L625 4 = some (.int (i32 (0))) := eL625 ▸ jg_ne (by decide) gL586_4 rfl
        have gL625_2 : jGet L625 2 = some (.int (i32 (s))) := eL625 ▸ jg_ne (by decide) gL586_2 rfl
        have gL625_6 : jGet L625 6 = some (.int (i32 (0))) := eL625 ▸ jg_ne (by decide) gL586_6 rfl
        have gL625_7 : jGet L625 7 = some (.int (i32 (nd2_591))) := eL625 ▸ jg_eq
        refine jx_ld (pc' := 308) (l' := L625) (st' := [.ref 66]) rfl (jl_aloadn gL625_0) ?_
        refine jx_vr (pc' := 311) (as := []) (st := []) rfl rfl rfl rfl ⟨rfl, rfl, Nat.le_of_ble_eq_true rfl⟩ rfl rfl (c_next (dd := d) (hd := by omega) (hW := hW610)  (ln := ln) (e_ln := show G606 9 = ln from ((hF611.1 9 rfl).trans ((hF594.1 9 rfl).trans (fx_9)))) (le := le) (e_le := show A607 4 (ln).toNat = le from (congrFun ((hF611.2 4 rfl).trans ((hF594.2 4 rfl).trans (hFx.2 4 rfl))) _).trans (e_le)) (at0 := at1) (e_at0 := show G606 10 = at1 from ((hF611.1 10 rfl).trans ((hF594.1 10 rfl).trans (ex_at1))))    (p_0 := by omega)) (fun o V' hq => ?_)
        obtain ⟨G626, A627, at2_628, tk2_629, rfl, rfl, hW630, hF631, e632, e633, p634, p635, p636, -⟩ := hq
        have hF638 := Fr_tr hF620 hF631 (Fr_sub (by decide)) (Fr_sub (by decide))
        have hP639 := Pf_f hP621 hF631 (by decide)
        have sf640 : NdM A627 (nd) (nd1) (sy) := NdM_f hF631 (by decide) sf622
        have sf641 : ND A627 (nd1) (2) (s) (0) (0) (0) (0) (0) := ND_ag (by omega) (Ag_fr hF631 (by decide)) sf623
        have sf642 : NdM A627 (nd1) (nd1 + 1) (sy) := NdM_f hF631 (by decide) sf624
        have sf643 : ND A627 (nd2_591) (24) (nd1) (0) (0) (0) (0) (0) := ND_ag (by omega) (Ag_fr hF631 (by decide)) p617
        have sf644 : NdM A627 (nd2_591) (nd2_591 + 1) (sy) := NdM_f hF631 (by decide) p618
        have ec645 : ecn A627 (G626 31) = ec2_609 := (ecn_f (hF631.2 15 rfl) (hF631.1 31 rfl)).trans e614
        have bat2_628 : (0 : Int) ≤ at2_628 ∧ at2_628 ≤ 3002 := e632 ▸ hW630.1 10
        have ztk2_629 := tz_b tk2_629
        have btk2_629 : (0 : Int) ≤ tk2_629 ∧ tk2_629 ≤ 5 := e633 ▸ hW630.1 11
        refine .inl ⟨rfl, ?_⟩
        have pz646 : at1 + tz tk2_629 ≤ at2_628 := by omega
        refine jx_ld (pc' := 312) (l' := L625) (st' := [.ref 66]) rfl (jl_aloadn gL625_0) ?_
        refine jr_get (pc' := 315) (i := 35) (v := .ref 85) rfl rfl (by decide) rfl rfl ?_
        refine jx_ld (pc' := 317) (l' := L625) (st' := [.int (i32 (nd2_591)), .ref 85]) rfl (jl_iload gL625_7) ?_
        refine jx_ld (pc' := 319) (l' := L625) (st' := [.int (i32 (0)), .int (i32 (nd2_591)), .ref 85]) rfl (jl_iload gL625_6) ?_
        refine jx_if_eq (pc' := 322) (tg := 329) rfl rfl rfl (by decide) (by decide) (fun h647 => ?_) (fun h647 => ?_)
        · have _q := h647
          refine jx_ld (pc' := 330) (l' := L625) (st' := [.ref 66, .int (i32 (nd2_591)), .ref 85]) rfl (jl_aloadn gL625_0) ?_
          refine jx_ar (pc' := 331) (st' := [.int (i32 (0)), .ref 66, .int (i32 (nd2_591)), .ref 85]) rfl rfl rfl rfl ?_
          refine jx_vr (pc' := 334) (as := [.int (i32 (0))]) (st := [.int (i32 (nd2_591)), .ref 85]) rfl rfl rfl rfl ⟨rfl, rfl, Nat.le_of_ble_eq_true rfl⟩ rfl rfl (c_readReference_w (dd := d) (hd := by omega) (hW := hW630) (ch := 0) (ln := ln) (e_ln := show G626 9 = ln from ((hF631.1 9 rfl).trans ((hF611.1 9 rfl).trans ((hF594.1 9 rfl).trans (fx_9))))) (le := le) (e_le := show A627 4 (ln).toNat = le from (congrFun ((hF631.2 4 rfl).trans ((hF611.2 4 rfl).trans ((hF594.2 4 rfl).trans (hFx.2 4 rfl)))) _).trans (e_le)) (at0 := at2_628) (e_at0 := show G626 10 = at2_628 from (e632)) (fk := fk1) (e_fk := show G626 16 = fk1 from ((hF631.1 16 rfl).trans ((hF611.1 16 rfl).trans ((hF594.1 16 rfl).trans (ex_fk1))))) (op0 := op1) (e_op0 := show G626 15 = op1 from ((hF631.1 15 rfl).trans ((hF611.1 15 rfl).trans ((hF594.1 15 rfl).trans (ex_op1))))) (nd := nd2_608) (e_nd := show G626 31 = nd2_608 from ((hF631.1 31 rfl).trans (e613))) (tk0 := tk2_629) (e_tk0 := show G626 11 = tk2_629 from (e633)) (ec := ec2_609) (e_ec := show ecn A627 (G626 31) = ec2_609 from ec645) (sy := sy) (e_sy := show G626 19 = sy from ((hF631.1 19 rfl).trans ((hF611.1 19 rfl).trans ((hF594.1 19 rfl).trans ((hFx.1 19 rfl).trans (e_sy)))))) (i_SV := (SV_ext (((hF631.1 29 rfl).trans ((hF611.1 29 rfl).trans ((hF594.1 29 rfl).trans (hFx.1 29 rfl))))) (((hF631.2 14 rfl).trans ((hF611.2 14 rfl).trans ((hF594.2 14 rfl).trans (hFx.2 14 rfl))))) i_SV)) (h_ch := ⟨(by decide), (by decide)⟩)  (p_0 := by omega) (p_1 := by omega) (p_2 := by omega) (p_3 := by omega) (p_4 := by omega)) (fun o V' hq => ?_)
          obtain ⟨G648, A649, r650, at2_651, fk2_652, op2_653, nd2_654, tk2_655, ec2_656, rfl, rfl, hW657, hF658, hQ659, b660, e661, e662, e663, e664, e665, e666, p667, p668, p669, p670, p671, p672, q673⟩ := hq
          have hF674 := Fr_tr hF638 hF658 (Fr_sub (by decide)) (Fr_sub (by decide))
          have hP675 := Pf_tr hP639 hQ659 (by omega)
          have sf676 : NdM A649 (nd) (nd1) (sy) := NdM_pf hQ659 (by omega) (by omega) sf640
          have sf677 : ND A649 (nd1) (2) (s) (0) (0) (0) (0) (0) := ND_ag (by omega) (Ag_pf hQ659 (by omega)) sf641
          have sf678 : NdM A649 (nd1) (nd1 + 1) (sy) := NdM_pf hQ659 (by omega) (by omega) sf642
          have sf679 : ND A649 (nd2_591) (24) (nd1) (0) (0) (0) (0) (0) := ND_ag (by omega) (Ag_pf hQ659 (by omega)) sf643
          have sf680 : NdM A649 (nd2_591) (nd2_591 + 1) (sy) := NdM_pf hQ659 (by omega) (by omega) sf644
          have bat2_651 : (0 : Int) ≤ at2_651 ∧ at2_651 ≤ 3002 := e661 ▸ hW657.1 10
          have bfk2_652 : (0 : Int) ≤ fk2_652 ∧ fk2_652 ≤ 6 := e662 ▸ hW657.1 16
          have bop2_653 : (-2147483648 : Int) ≤ op2_653 ∧ op2_653 ≤ 2147483647 := e663 ▸ hW657.1 15
          have bnd2_654 : (0 : Int) ≤ nd2_654 ∧ nd2_654 ≤ 6999 := e664 ▸ hW657.1 31
          have ztk2_655 := tz_b tk2_655
          have btk2_655 : (0 : Int) ≤ tk2_655 ∧ tk2_655 ≤ 5 := e665 ▸ hW657.1 11
          refine .inr ⟨_, rfl, ?_⟩
          rcases q673 with ⟨a681, a682, a683, a684, a685, a686⟩ | ⟨a687, a688, a689⟩ | ⟨a690, a691, a692, a693, a694, a695, a696⟩
          · have _q : True := trivial
            exfalso
            omega
          · have _q : True := trivial
            refine jr_st (pc' := 335) (i := 18) (m := 7000) (z := nd2_591) (y := r650) rfl (by decide) rfl (by decide) (by omega) (by omega) rfl ?_
            have hW698 : Wk G648 (uA A649 18 (nd2_591).toNat (r650)) := Wk_a hW657 (show (-2147483648 : Int) ≤ r650 by omega) (show r650 ≤ (2147483647 : Int) by omega)
            have hF699 := Fr_a (z := r650) (k := 18) (n := (nd2_591).toNat) hF674 (by decide)
            obtain ⟨A697, eA697⟩ : ∃ q, q = uA A649 18 (nd2_591).toNat (r650) := ⟨_, rfl⟩
            rw [← eA697]
            rw [← eA697] at hW698 hF699
            have q700 : A697 18 (nd2_591).toNat = r650 := by rw [eA697]; exact uA_eq
            have hP701 : Pf nd A A697 := eA697 ▸ Pf_a hP675 (z := nd2_591) (by omega) (by omega)
            have sf702 : NdM A697 (nd) (nd1) (sy) := NdM_st eA697 (by decide) sf676
            have sf703 : ND A697 (nd1) (2) (s) (0) (0) (0) (0) (0) := ND_ag (by omega) (Ag_st eA697 (by omega) (by omega)) sf677
            have sf704 : NdM A697 (nd1) (nd1 + 1) (sy) := NdM_st eA697 (by decide) sf678
            have sf705 : ND A697 (nd2_591) (24) (nd1) (r650) (0) (0) (0) (0) := ND_b eA697 sf679
            have sf706 : NdM A697 (nd2_591) (nd2_591 + 1) (sy) := NdM_st eA697 (by decide) sf680
            have ec707 : ecn A697 (G648 31) = ec2_656 := (ecn_e ((congrFun eA697 15).trans (uA_ne (by decide)))).trans e666
            refine jx_ld (pc' := 336) (l' := L625) (st' := [.ref 66]) rfl (jl_aloadn gL625_0) ?_
            refine jx_vr (pc' := 339) (as := []) (st := []) rfl rfl rfl rfl ⟨rfl, rfl, Nat.le_of_ble_eq_true rfl⟩ rfl rfl (c_endLine (dd := d) (hd := by omega) (hW := hW698)  (ln := ln) (e_ln := show G648 9 = ln from ((hF658.1 9 rfl).trans ((hF631.1 9 rfl).trans ((hF611.1 9 rfl).trans ((hF594.1 9 rfl).trans (fx_9)))))) (li := li) (e_li := show G648 3 = li from ((hF658.1 3 rfl).trans ((hF631.1 3 rfl).trans ((hF611.1 3 rfl).trans ((hF594.1 3 rfl).trans ((hFx.1 3 rfl).trans (e_li))))))) (fk := fk2_652) (e_fk := show G648 16 = fk2_652 from (e662)) (tk0 := tk2_655) (e_tk0 := show G648 11 = tk2_655 from (e665))    (p_0 := by omega)) (fun o V' hq => ?_)
            obtain ⟨G708, A709, ln2_710, fk2_711, rfl, rfl, hW712, hF713, e714, e715, q716⟩ := hq
            have hF717 := Fr_tr hF699 hF713 (Fr_sub (by decide)) (Fr_sub (by decide))
            have hP718 := Pf_f hP701 hF713 (by decide)
            have sf719 : NdM A709 (nd) (nd1) (sy) := NdM_f hF713 (by decide) sf702
            have sf720 : ND A709 (nd1) (2) (s) (0) (0) (0) (0) (0) := ND_ag (by omega) (Ag_fr hF713 (by decide)) sf703
            have sf721 : NdM A709 (nd1) (nd1 + 1) (sy) := NdM_f hF713 (by decide) sf704
            have sf722 : ND A709 (nd2_591) (24) (nd1) (r650) (0) (0) (0) (0) := ND_ag (by omega) (Ag_fr hF713 (by decide)) sf705
            have sf723 : NdM A709 (nd2_591) (nd2_591 + 1) (sy) := NdM_f hF713 (by decide) sf706
            have ec724 : ecn A709 (G708 31) = ec2_656 := (ecn_f (hF713.2 15 rfl) (hF713.1 31 rfl)).trans ec707
            have bln2_710 : (0 : Int) ≤ ln2_710 ∧ ln2_710 ≤ 3000 := e714 ▸ hW712.1 9
            have bfk2_711 : (0 : Int) ≤ fk2_711 ∧ fk2_711 ≤ 6 := e715 ▸ hW712.1 16
            refine .inl ⟨rfl, ?_⟩
            rcases q716 with ⟨a725, a726, a727, a728, a729⟩ | ⟨a730, a731⟩
            · have _q : True := trivial
              exfalso
              omega
            · have _q : True := trivial
              refine jx_ld (pc' := 341) (l' := L625) (st' := [.int (i32 (nd2_591))]) rfl (jl_iload gL625_7) ?_
              refine jx_rt (v := some (.int (i32 (nd2_591)))) rfl rfl rfl rfl rfl rfl ?_
              exact ⟨_, _, _, at2_651, fk2_711, nd2_654, ln2_710, ec2_656, rfl, rfl, hW712, hF717, hP718, by omega, ((hF713.1 10 rfl).trans (e661)), (e715), ((hF713.1 31 rfl).trans (e664)), (e714), ec724, by omega, by omega, by omega, by omega, by omega, by first | exact Or.inl (⟨by omega, by omega, by omega⟩)⟩
          · have _q : True := trivial
            refine jr_st (pc' := 335) (i := 18) (m := 7000) (z := nd2_591) (y := r650) rfl (by decide) rfl (by decide) (by omega) (by omega) rfl ?_
            have hW733 : Wk G648 (uA A649 18 (nd2_591).toNat (r650)) := Wk_a hW657 (show (-2147483648 : Int) ≤ r650 by omega) (show r650 ≤ (2147483647 : Int) by omega)
            have hF734 := Fr_a (z := r650) (k := 18) (n := (nd2_591).toNat) hF674 (by decide)
            obtain ⟨A732, eA732⟩ : ∃ q, q = uA A649 18 (nd2_591).toNat (r650) := ⟨_, rfl⟩
            rw [← eA732]
            rw [← eA732] at hW733 hF734
            have q735 : A732 18 (nd2_591).toNat = r650 := by rw [eA732]; exact uA_eq
            have hP736 : Pf nd A A732 := eA732 ▸ Pf_a hP675 (z := nd2_591) (by omega) (by omega)
            have sf737 : NdM A732 (nd) (nd1) (sy) := NdM_st eA732 (by decide) sf676
            have sf738 : ND A732 (nd1) (2) (s) (0) (0) (0) (0) (0) := ND_ag (by omega) (Ag_st eA732 (by omega) (by omega)) sf677
            have sf739 : NdM A732 (nd1) (nd1 + 1) (sy) := NdM_st eA732 (by decide) sf678
            have sf740 : ND A732 (nd2_591) (24) (nd1) (r650) (0) (0) (0) (0) := ND_b eA732 sf679
            have sf741 : NdM A732 (nd2_591) (nd2_591 + 1) (sy) := NdM_st eA732 (by decide) sf680
            have sf742 : wR A732 Vs sb (20) (0) (r650) (nd2_608) (nd2_654) := wR_ag (by omega) (Sg_ne eA732 rfl) (Ag_st eA732 (by omega) (by omega)) a693
            have sf743 : NdM A732 (nd2_608) (nd2_654) (sy) := NdM_st eA732 (by decide) a695
            have ec744 : ecn A732 (G648 31) = ec2_656 := (ecn_e ((congrFun eA732 15).trans (uA_ne (by decide)))).trans e666
            refine jx_ld (pc' := 336) (l' := L625) (st' := [.ref 66]) rfl (jl_aloadn gL625_0) ?_
            refine jx_vr (pc' := 339) (as := []) (st := []) rfl rfl rfl rfl ⟨rfl, rfl, Nat.le_of_ble_eq_true rfl⟩ rfl rfl (c_endLine (dd := d) (hd := by omega) (hW := hW733)  (ln := ln) (e_ln := show G648 9 = ln from ((hF658.1 9 rfl).trans ((hF631.1 9 rfl).trans ((hF611.1 9 rfl).trans ((hF594.1 9 rfl).trans (fx_9)))))) (li := li) (e_li := show G648 3 = li from ((hF658.1 3 rfl).trans ((hF631.1 3 rfl).trans ((hF611.1 3 rfl).trans ((hF594.1 3 rfl).trans ((hFx.1 3 rfl).trans (e_li))))))) (fk := fk2_652) (e_fk := show G648 16 = fk2_652 from (e662)) (tk0 := tk2_655) (e_tk0 := show G648 11 = tk2_655 from (e665))    (p_0 := by omega)) (fun o V' hq => ?_)
            obtain ⟨G745, A746, ln2_747, fk2_748, rfl, rfl, hW749, hF750, e751, e752, q753⟩ := hq
            have hF754 := Fr_tr hF734 hF750 (Fr_sub (by decide)) (Fr_sub (by decide))
            have hP755 := Pf_f hP736 hF750 (by decide)
            have sf756 : NdM A746 (nd) (nd1) (sy) := NdM_f hF750 (by decide) sf737
            have sf757 : ND A746 (nd1) (2) (s) (0) (0) (0) (0) (0) := ND_ag (by omega) (Ag_fr hF750 (by decide)) sf738
            have sf758 : NdM A746 (nd1) (nd1 + 1) (sy) := NdM_f hF750 (by decide) sf739
            have sf759 : ND A746 (nd2_591) (24) (nd1) (r650) (0) (0) (0) (0) := ND_ag (by omega) (Ag_fr hF750 (by decide)) sf740
            have sf760 : NdM A746 (nd2_591) (nd2_591 + 1) (sy) := NdM_f hF750 (by decide) sf741
            have sf761 : wR A746 Vs sb (20) (0) (r650) (nd2_608) (nd2_654) := wR_ag (by omega) (Sg_fr hF750 (by decide)) (Ag_fr hF750 (by decide)) sf742
            have sf762 : NdM A746 (nd2_608) (nd2_654) (sy) := NdM_f hF750 (by decide) sf743
            have ec763 : ecn A746 (G745 31) = ec2_656 := (ecn_f (hF750.2 15 rfl) (hF750.1 31 rfl)).trans ec744
            have bln2_747 : (0 : Int) ≤ ln2_747 ∧ ln2_747 ≤ 3000 := e751 ▸ hW749.1 9
            have bfk2_748 : (0 : Int) ≤ fk2_748 ∧ fk2_748 ≤ 6 := e752 ▸ hW749.1 16
            refine .inl ⟨rfl, ?_⟩
            rcases q753 with ⟨a764, a765, a766, a767, a768⟩ | ⟨a769, a770⟩
            · have _q : True := trivial
              refine jx_ld (pc' := 341) (l' := L625) (st' := [.int (i32 (nd2_591))]) rfl (jl_iload gL625_7) ?_
              refine jx_rt (v := some (.int (i32 (nd2_591)))) rfl rfl rfl rfl rfl rfl ?_
              exact ⟨_, _, _, at2_651, fk2_748, nd2_654, ln2_747, ec2_656, rfl, rfl, hW749, hF754, hP755, by omega, ((hF750.1 10 rfl).trans (e661)), (e752), ((hF750.1 31 rfl).trans (e664)), (e751), ec763, by omega, by omega, by omega, by omega, by omega, by first | exact Or.inr ((⟨by omega, by omega, by omega, by omega, by omega, (wL_in sf759 (by omega) (by omega) (wR_var sf757 (by omega) (by omega) iv_8 (kq (P := kRef (1)) (show A746 7 (s).toNat = ks from (congrFun ((hF750.2 7 rfl).trans (((congrFun eA732 7).trans (uA_ne (by decide))).trans ((hF658.2 7 rfl).trans ((hF631.2 7 rfl).trans ((hF611.2 7 rfl).trans (hF594.2 7 rfl)))))) _).trans (ex_ks)) (by first | exact .inr ⟨by omega, iv_9⟩))) (wR_mono (by omega) (by omega) (by omega) sf761)), (NX_nd sf759), by omega, (NdM_w (NdM_app (sy := sy) sf756 (NdM_app (sy := sy) sf758 (NdM_app (sy := sy) sf760 sf762 (by omega) (by omega) (by omega)) (by omega) (by omega) (by omega)) (by omega) (by omega) (by omega)) (by omega) (by omega) (by omega))⟩))⟩
            · have _q : True := trivial
              refine jx_ld (pc' := 341) (l' := L625) (st' := [.int (i32 (nd2_591))]) rfl (jl_iload gL625_7) ?_
              refine jx_rt (v := some (.int (i32 (nd2_591)))) rfl rfl rfl rfl rfl rfl ?_
              exact ⟨_, _, _, at2_651, fk2_748, nd2_654, ln2_747, ec2_656, rfl, rfl, hW749, hF754, hP755, by omega, ((hF750.1 10 rfl).trans (e661)), (e752), ((hF750.1 31 rfl).trans (e664)), (e751), ec763, by omega, by omega, by omega, by omega, by omega, by first | exact Or.inl (⟨by omega, by omega, by omega⟩)⟩
        · have _q := h647
          exact absurd h647 (by omega)
      · have _q := h588
        exact absurd h588 (by omega)
    · have _q := h587
      exact absurd h587 (by omega)
set_option maxRecDepth 20000 in
set_option maxHeartbeats 4000000 in
theorem c_readNamed_w_at_231_1 {X : jX} {d : Nat} {Vs : Nat → Prop} {sb pb : Int} {c0 c1 : jC} {G : Nat → Int} {A : Nat → Nat → Int} {T : jH} {ln le at0 fk op0 nd tk0 li ec sy : Int} (hd : 72 ≤ d + 1) (hW : Wk G A) (e_ln : G 9 = ln) (e_le : A 4 (ln).toNat = le) (e_at0 : G 10 = at0) (e_fk : G 16 = fk) (e_op0 : G 15 = op0) (e_nd : G 31 = nd) (e_tk0 : G 11 = tk0) (e_li : G 3 = li) (e_ec : ecn A (G 31) = ec) (e_sy : G 19 = sy) (i_SV : SV Vs sb G A) (i_PQ : PQ Vs sb pb G A) (p_0 : 0 ≤ op0 ∧ op0 ≤ 8) (p_1 : fk = 0) (p_2 : nd ≤ 2 * at0 - tz tk0 + 42) (p_3 : at0 ≤ le) (p_4 : ln < li) (p_5 : tk0 = 1) : ∀ (L : jL) (Gx : Nat → Int) (Ax : Nat → Nat → Int) (pl s ix at1 tk1 fk1 nd1 op1 ks ec1 : Int), jGet L 0 = some (.ref 66) → jGet L 5 = some (.int (i32 (1))) → jGet L 3 = some (.int (i32 (ks))) → jGet L 1 = some (.int (i32 pl)) → jGet L 2 = some (.int (i32 s)) → jGet L 4 = some (.int (i32 ix)) → Wk Gx Ax → Fr [9, 10, 11, 12, 13, 14, 15, 16, 17, 18, 31] [15, 16, 17, 18, 19, 20, 21, 22, 24, 28] G A Gx Ax → Pf nd A Ax → Gx 10 = at1 → Gx 11 = tk1 → Gx 16 = fk1 → Gx 31 = nd1 → Gx 15 = op1 → Ax 7 (s).toNat = ks → ecn Ax (Gx 31) = ec1 → Gx 9 = ln → ((-2147483648 : Int) ≤ pl ∧ pl ≤ 2147483647) → ((-2147483648 : Int) ≤ s ∧ s ≤ 2147483647) → ((-2147483648 : Int) ≤ ix ∧ ix ≤ 2147483647) → (at0 ≤ at1) → (at1 ≤ le) → (nd ≤ nd1) → (op1 = op0) → (fk1 = 0) → (nd1 - nd ≤ (2 * at1 - tz tk1) - (2 * at0 - tz tk0) - 1) → (tz tk1 = 1) → (0 ≤ s ∧ s ≤ 201) → (-3000 ≤ pl ∧ pl ≤ 3002) → (SY Vs sb (s)) → (wE Ax Vs sb (20) (ix) (nd) (nd1)) → (nd1 - nd + 5 * (ec1 - ec) ≤ (2 * at1 - tz tk1) - (2 * at0 - tz tk0) - 6 - tz tk1) → (NdM Ax (nd) (nd1) (sy)) → wj X d jm304 (231, L, [], rV c0 c1 Gx Ax T) (fun o V' => ∃ (G' : Nat → Int) (A' : Nat → Nat → Int) (r : Int) (at2 : Int) (fk2 : Int) (nd2 : Int) (ln2 : Int) (ec2 : Int), V' = rV c0 c1 G' A' T ∧ o = .inl (some (.int (i32 r))) ∧ Wk G' A' ∧ Fr [9, 10, 11, 12, 13, 14, 15, 16, 17, 18, 31] [15, 16, 17, 18, 19, 20, 21, 22, 24, 28] G A G' A' ∧ Pf nd A A' ∧ ((-2147483648 : Int) ≤ r ∧ r ≤ 2147483647) ∧ G' 10 = at2 ∧ G' 16 = fk2 ∧ G' 31 = nd2 ∧ G' 9 = ln2 ∧ ecn A' (G' 31) = ec2 ∧ (at0 ≤ at2) ∧ (at2 ≤ le) ∧ (nd ≤ nd2) ∧ (0 ≤ r) ∧ (r ≤ nd2) ∧ (((1 ≤ fk2) ∧ (ln2 = ln) ∧ (nd2 - nd ≤ 2 * at2 - 2 * at0 + 8)) ∨ ((fk2 = 0) ∧ (ln2 = ln + 1) ∧ (nd2 - nd ≤ 2 * at2 - (2 * at0 - tz tk0) + 0) ∧ (nd ≤ r) ∧ (r < nd2) ∧ (wL A' sb pb Vs (r) (nd) (nd2)) ∧ (NX A' (r)) ∧ (nd2 - nd + 5 * (ec2 - ec) ≤ 2 * at2 - (2 * at0 - tz tk0) + 0) ∧ (NdM A' (nd) (nd2) (sy))))) := by
  have hF0 : Fr [9, 10, 11, 12, 13, 14, 15, 16, 17, 18, 31] [15, 16, 17, 18, 19, 20, 21, 22, 24, 28] G A G A := Fr_rf
  have hP0 : Pf nd A A := Pf_rf
  have b_ln : (0 : Int) ≤ ln ∧ ln ≤ 3000 := e_ln ▸ hW.1 9
  have b_le : (0 : Int) ≤ le ∧ le ≤ 3000 := e_le ▸ hW.2 4 _
  have b_at0 : (0 : Int) ≤ at0 ∧ at0 ≤ 3002 := e_at0 ▸ hW.1 10
  have b_fk : (0 : Int) ≤ fk ∧ fk ≤ 6 := e_fk ▸ hW.1 16
  have b_op0 : (-2147483648 : Int) ≤ op0 ∧ op0 ≤ 2147483647 := e_op0 ▸ hW.1 15
  have b_nd : (0 : Int) ≤ nd ∧ nd ≤ 6999 := e_nd ▸ hW.1 31
  have z_tk0 := tz_f tk0
  have b_tk0 : (0 : Int) ≤ tk0 ∧ tk0 ≤ 5 := e_tk0 ▸ hW.1 11
  have b_li : (0 : Int) ≤ li ∧ li ≤ 3000 := e_li ▸ hW.1 3
  have b_sy : (0 : Int) ≤ sy ∧ sy ≤ 202 := e_sy ▸ hW.1 19
  intro L Gx Ax pl s ix at1 tk1 fk1 nd1 op1 ks ec1 gL_0 gL_5 gL_3 gL_1 gL_2 gL_4 hWx hFx hPx ex_at1 ex_tk1 ex_fk1 ex_nd1 ex_op1 ex_ks ex_ec1 fx_9 rx_pl rx_s rx_ix iv_0 iv_1 iv_2 iv_3 iv_4 iv_5 iv_6 iv_7 iv_8 iv_9 iv_10 iv_11 iv_12
  have b_at1 : (0 : Int) ≤ at1 ∧ at1 ≤ 3002 := ex_at1 ▸ hWx.1 10
  have z_tk1 := tz_f tk1
  have b_tk1 : (0 : Int) ≤ tk1 ∧ tk1 ≤ 5 := ex_tk1 ▸ hWx.1 11
  have b_fk1 : (0 : Int) ≤ fk1 ∧ fk1 ≤ 6 := ex_fk1 ▸ hWx.1 16
  have b_nd1 : (0 : Int) ≤ nd1 ∧ nd1 ≤ 6999 := ex_nd1 ▸ hWx.1 31
  have b_op1 : (-2147483648 : Int) ≤ op1 ∧ op1 ≤ 2147483647 := ex_op1 ▸ hWx.1 15
  have b_ks : (0 : Int) ≤ ks ∧ ks ≤ 14 := ex_ks ▸ hWx.2 7 _
  refine jx_ld (pc' := 233) (l' := L) (st' := [.int (i32 (1))]) rfl (jl_iload gL_5) ?_
  refine jx_if_eq (pc' := 236) (tg := 244) rfl rfl rfl (by decide) (by decide) (fun h771 => ?_) (fun h771 => ?_)
  · have _q := h771
    exact absurd h771 (by omega)
  · have _q := h771
    refine jx_ld (pc' := 237) (l' := L) (st' := [.int (i32 (ks))]) rfl (jl_iloadn gL_3) ?_
    refine jx_ar (pc' := 238) (st' := [.int (i32 (4)), .int (i32 (ks))]) rfl rfl rfl rfl ?_
    refine jx_icmp_eq (pc' := 241) (tg := 259) rfl rfl rfl (Int.le_trans (by decide : (-2147483648 : Int) ≤ 0) b_ks.1) (Int.le_trans b_ks.2 (by decide : (14 : Int) ≤ 2147483647)) (by decide) (by decide) (fun h772 => ?_) (fun h772 => ?_)
    · have _q := h772
      have z773 := tz_f (tk1)
      exact c_readNamed_w_at_259_1 (X := X) (d := d) (Vs := Vs) (sb := sb) (pb := pb) (c0 := c0) (c1 := c1) (G := G) (A := A) (T := T) (ln := ln) (le := le) (at0 := at0) (fk := fk) (op0 := op0) (nd := nd) (tk0 := tk0) (li := li) (ec := ec) (sy := sy) (hd := hd) (hW := hW) (e_ln := e_ln) (e_le := e_le) (e_at0 := e_at0) (e_fk := e_fk) (e_op0 := e_op0) (e_nd := e_nd) (e_tk0 := e_tk0) (e_li := e_li) (e_ec := e_ec) (e_sy := e_sy) (i_SV := i_SV) (i_PQ := i_PQ) (p_0 := p_0) (p_1 := p_1) (p_2 := p_2) (p_3 := p_3) (p_4 := p_4) (p_5 := p_5) L Gx Ax (s) (ix) (at1) (tk1) (fk1) (nd1) (op1) (ks) (ec1) gL_0 gL_5 gL_2 gL_4 hWx hFx hPx ((ex_at1)) ((ex_tk1)) ((ex_fk1)) ((ex_nd1)) ((ex_op1)) ((ex_ks)) (ex_ec1) ((fx_9)) (by omega) (by omega) (by omega) (by omega) (by omega) (by omega) (by omega) (by omega) (by omega) (by omega) (iv_9) (by omega) (iv_10) (by omega) (iv_12)
    · have _q := h772
      refine jx_go (tg := 251) rfl rfl ?_
      refine jx_ld (pc' := 252) (l' := L) (st' := [.ref 66]) rfl (jl_aloadn gL_0) ?_
      refine jx_ar (pc' := 253) (st' := [.int (i32 (4)), .ref 66]) rfl rfl rfl rfl ?_
      refine jx_ld (pc' := 254) (l' := L) (st' := [.int (i32 (pl)), .int (i32 (4)), .ref 66]) rfl (jl_iloadn gL_1) ?_
      refine jx_vr (pc' := 257) (as := [.int (i32 (4)), .int (i32 (pl))]) (st := []) rfl rfl rfl rfl ⟨rfl, rfl, Nat.le_of_ble_eq_true rfl⟩ rfl rfl (c_fail (dd := d) (hd := by omega) (hW := hWx) (kind := 4) (place := pl) (fk := fk1) (e_fk := show Gx 16 = fk1 from (ex_fk1))  (h_kind := ⟨(by decide), (by decide)⟩) (h_place := ⟨(Int.le_trans (by decide : (-2147483648 : Int) ≤ -2147483648) rx_pl.1), (Int.le_trans rx_pl.2 (by decide : (2147483647 : Int) ≤ 2147483647))⟩)  (p_0 := by omega) (p_1 := by omega)) (fun o V' hq => ?_)
      obtain ⟨G774, A775, fk2_776, rfl, rfl, hW777, hF778, e779, p780, -⟩ := hq
      have hF782 := Fr_tr hFx hF778 (Fr_sub (by decide)) (Fr_sub (by decide))
      have hP783 := Pf_f hPx hF778 (by decide)
      have sf784 : wE A775 Vs sb (20) (ix) (nd) (nd1) := wE_ag (by omega) (Sg_fr hF778 (by decide)) (Ag_fr hF778 (by decide)) iv_10
      have sf785 : NdM A775 (nd) (nd1) (sy) := NdM_f hF778 (by decide) iv_12
      have ec786 : ecn A775 (G774 31) = ec1 := (ecn_f (hF778.2 15 rfl) (hF778.1 31 rfl)).trans ex_ec1
      have bfk2_776 : (0 : Int) ≤ fk2_776 ∧ fk2_776 ≤ 6 := e779 ▸ hW777.1 16
      refine .inl ⟨rfl, ?_⟩
      refine jx_ar (pc' := 258) (st' := [.int (i32 (0))]) rfl rfl rfl rfl ?_
      refine jx_rt (v := some (.int (i32 (0)))) rfl rfl rfl rfl rfl rfl ?_
      exact ⟨_, _, _, at1, fk2_776, nd1, ln, ec1, rfl, rfl, hW777, hF782, hP783, by omega, ((hF778.1 10 rfl).trans (ex_at1)), (e779), ((hF778.1 31 rfl).trans (ex_nd1)), ((hF778.1 9 rfl).trans (fx_9)), ec786, by omega, by omega, by omega, by omega, by omega, by first | exact Or.inl (⟨by omega, by omega, by omega⟩)⟩
set_option maxRecDepth 20000 in
set_option maxHeartbeats 4000000 in
theorem c_readNamed_w_at_231_0 {X : jX} {d : Nat} {Vs : Nat → Prop} {sb pb : Int} {c0 c1 : jC} {G : Nat → Int} {A : Nat → Nat → Int} {T : jH} {ln le at0 fk op0 nd tk0 li ec sy : Int} (hd : 72 ≤ d + 1) (hW : Wk G A) (e_ln : G 9 = ln) (e_le : A 4 (ln).toNat = le) (e_at0 : G 10 = at0) (e_fk : G 16 = fk) (e_op0 : G 15 = op0) (e_nd : G 31 = nd) (e_tk0 : G 11 = tk0) (e_li : G 3 = li) (e_ec : ecn A (G 31) = ec) (e_sy : G 19 = sy) (i_SV : SV Vs sb G A) (i_PQ : PQ Vs sb pb G A) (p_0 : 0 ≤ op0 ∧ op0 ≤ 8) (p_1 : fk = 0) (p_2 : nd ≤ 2 * at0 - tz tk0 + 42) (p_3 : at0 ≤ le) (p_4 : ln < li) (p_5 : tk0 = 1) : ∀ (L : jL) (Gx : Nat → Int) (Ax : Nat → Nat → Int) (pl s at1 tk1 fk1 nd1 op1 ks ec1 : Int), jGet L 0 = some (.ref 66) → jGet L 5 = some (.int (i32 (0))) → jGet L 3 = some (.int (i32 (ks))) → jGet L 4 = some (.int (i32 (0))) → jGet L 1 = some (.int (i32 pl)) → jGet L 2 = some (.int (i32 s)) → Wk Gx Ax → Fr [9, 10, 11, 12, 13, 14, 15, 16, 17, 18, 31] [15, 16, 17, 18, 19, 20, 21, 22, 24, 28] G A Gx Ax → Pf nd A Ax → Gx 10 = at1 → Gx 11 = tk1 → Gx 16 = fk1 → Gx 31 = nd1 → Gx 15 = op1 → Ax 7 (s).toNat = ks → ecn Ax (Gx 31) = ec1 → Gx 9 = ln → ((-2147483648 : Int) ≤ pl ∧ pl ≤ 2147483647) → ((-2147483648 : Int) ≤ s ∧ s ≤ 2147483647) → (at0 ≤ at1) → (at1 ≤ le) → (nd ≤ nd1) → (op1 = op0) → (fk1 = 0) → (nd1 - nd ≤ (2 * at1 - tz tk1) - (2 * at0 - tz tk0) - 1) → (tz tk1 = 1) → (0 ≤ s ∧ s ≤ 201) → (-3000 ≤ pl ∧ pl ≤ 3002) → (SY Vs sb (s)) → (nd1 - nd + 5 * (ec1 - ec) ≤ (2 * at1 - tz tk1) - (2 * at0 - tz tk0) - 1 - tz tk1) → (NdM Ax (nd) (nd1) (sy)) → wj X d jm304 (231, L, [], rV c0 c1 Gx Ax T) (fun o V' => ∃ (G' : Nat → Int) (A' : Nat → Nat → Int) (r : Int) (at2 : Int) (fk2 : Int) (nd2 : Int) (ln2 : Int) (ec2 : Int), V' = rV c0 c1 G' A' T ∧ o = .inl (some (.int (i32 r))) ∧ Wk G' A' ∧ Fr [9, 10, 11, 12, 13, 14, 15, 16, 17, 18, 31] [15, 16, 17, 18, 19, 20, 21, 22, 24, 28] G A G' A' ∧ Pf nd A A' ∧ ((-2147483648 : Int) ≤ r ∧ r ≤ 2147483647) ∧ G' 10 = at2 ∧ G' 16 = fk2 ∧ G' 31 = nd2 ∧ G' 9 = ln2 ∧ ecn A' (G' 31) = ec2 ∧ (at0 ≤ at2) ∧ (at2 ≤ le) ∧ (nd ≤ nd2) ∧ (0 ≤ r) ∧ (r ≤ nd2) ∧ (((1 ≤ fk2) ∧ (ln2 = ln) ∧ (nd2 - nd ≤ 2 * at2 - 2 * at0 + 8)) ∨ ((fk2 = 0) ∧ (ln2 = ln + 1) ∧ (nd2 - nd ≤ 2 * at2 - (2 * at0 - tz tk0) + 0) ∧ (nd ≤ r) ∧ (r < nd2) ∧ (wL A' sb pb Vs (r) (nd) (nd2)) ∧ (NX A' (r)) ∧ (nd2 - nd + 5 * (ec2 - ec) ≤ 2 * at2 - (2 * at0 - tz tk0) + 0) ∧ (NdM A' (nd) (nd2) (sy))))) := by
  have hF0 : Fr [9, 10, 11, 12, 13, 14, 15, 16, 17, 18, 31] [15, 16, 17, 18, 19, 20, 21, 22, 24, 28] G A G A := Fr_rf
  have hP0 : Pf nd A A := Pf_rf
  have b_ln : (0 : Int) ≤ ln ∧ ln ≤ 3000 := e_ln ▸ hW.1 9
  have b_le : (0 : Int) ≤ le ∧ le ≤ 3000 := e_le ▸ hW.2 4 _
  have b_at0 : (0 : Int) ≤ at0 ∧ at0 ≤ 3002 := e_at0 ▸ hW.1 10
  have b_fk : (0 : Int) ≤ fk ∧ fk ≤ 6 := e_fk ▸ hW.1 16
  have b_op0 : (-2147483648 : Int) ≤ op0 ∧ op0 ≤ 2147483647 := e_op0 ▸ hW.1 15
  have b_nd : (0 : Int) ≤ nd ∧ nd ≤ 6999 := e_nd ▸ hW.1 31
  have z_tk0 := tz_f tk0
  have b_tk0 : (0 : Int) ≤ tk0 ∧ tk0 ≤ 5 := e_tk0 ▸ hW.1 11
  have b_li : (0 : Int) ≤ li ∧ li ≤ 3000 := e_li ▸ hW.1 3
  have b_sy : (0 : Int) ≤ sy ∧ sy ≤ 202 := e_sy ▸ hW.1 19
  intro L Gx Ax pl s at1 tk1 fk1 nd1 op1 ks ec1 gL_0 gL_5 gL_3 gL_4 gL_1 gL_2 hWx hFx hPx ex_at1 ex_tk1 ex_fk1 ex_nd1 ex_op1 ex_ks ex_ec1 fx_9 rx_pl rx_s iv_0 iv_1 iv_2 iv_3 iv_4 iv_5 iv_6 iv_7 iv_8 iv_9 iv_10 iv_11
  have b_at1 : (0 : Int) ≤ at1 ∧ at1 ≤ 3002 := ex_at1 ▸ hWx.1 10
  have z_tk1 := tz_f tk1
  have b_tk1 : (0 : Int) ≤ tk1 ∧ tk1 ≤ 5 := ex_tk1 ▸ hWx.1 11
  have b_fk1 : (0 : Int) ≤ fk1 ∧ fk1 ≤ 6 := ex_fk1 ▸ hWx.1 16
  have b_nd1 : (0 : Int) ≤ nd1 ∧ nd1 ≤ 6999 := ex_nd1 ▸ hWx.1 31
  have b_op1 : (-2147483648 : Int) ≤ op1 ∧ op1 ≤ 2147483647 := ex_op1 ▸ hWx.1 15
  have b_ks : (0 : Int) ≤ ks ∧ ks ≤ 14 := ex_ks ▸ hWx.2 7 _
  refine jx_ld (pc' := 233) (l' := L) (st' := [.int (i32 (0))]) rfl (jl_iload gL_5) ?_
  refine jx_if_eq (pc' := 236) (tg := 244) rfl rfl rfl (by decide) (by decide) (fun h787 => ?_) (fun h787 => ?_)
  · have _q := h787
    refine jx_ld (pc' := 245) (l' := L) (st' := [.int (i32 (ks))]) rfl (jl_iloadn gL_3) ?_
    refine jx_st (pc' := 248) (as := [.int (i32 (ks))]) (st := []) rfl rfl ⟨rfl, Nat.le_of_ble_eq_true rfl⟩ rfl rfl rfl (c_isChannel (dd := d) (hd := by omega) (k := ks)   (h_k := ⟨(Int.le_trans (by decide : (-2147483648 : Int) ≤ 0) b_ks.1), (Int.le_trans b_ks.2 (by decide : (14 : Int) ≤ 2147483647))⟩)  ) (fun o V' hq => ?_)
    obtain ⟨r788, rfl, rfl, b789, q790⟩ := hq
    refine .inr ⟨_, rfl, ?_⟩
    rcases q790 with ⟨rfl, a791⟩ | rfl
    · have _q : True := trivial
      refine jx_if_ne (pc' := 251) (tg := 259) rfl rfl rfl (by decide) (by decide) (fun h792 => ?_) (fun h792 => ?_)
      · have _q := h792
        have z793 := tz_f (tk1)
        exact c_readNamed_w_at_259_0 (X := X) (d := d) (Vs := Vs) (sb := sb) (pb := pb) (c0 := c0) (c1 := c1) (G := G) (A := A) (T := T) (ln := ln) (le := le) (at0 := at0) (fk := fk) (op0 := op0) (nd := nd) (tk0 := tk0) (li := li) (ec := ec) (sy := sy) (hd := hd) (hW := hW) (e_ln := e_ln) (e_le := e_le) (e_at0 := e_at0) (e_fk := e_fk) (e_op0 := e_op0) (e_nd := e_nd) (e_tk0 := e_tk0) (e_li := e_li) (e_ec := e_ec) (e_sy := e_sy) (i_SV := i_SV) (i_PQ := i_PQ) (p_0 := p_0) (p_1 := p_1) (p_2 := p_2) (p_3 := p_3) (p_4 := p_4) (p_5 := p_5) L Gx Ax (s) (at1) (tk1) (fk1) (nd1) (op1) (ks) (ec1) gL_0 gL_5 gL_4 gL_2 hWx hFx hPx ((ex_at1)) ((ex_tk1)) ((ex_fk1)) ((ex_nd1)) ((ex_op1)) ((ex_ks)) (ex_ec1) ((fx_9)) (by omega) (by omega) (by omega) (by omega) (by omega) (by omega) (by omega) (by omega) (by omega) (iv_9) (a791) (by omega) (iv_11)
      · have _q := h792
        exact absurd h792 (by omega)
    · have _q : True := trivial
      refine jx_if_ne (pc' := 251) (tg := 259) rfl rfl rfl (by decide) (by decide) (fun h794 => ?_) (fun h794 => ?_)
      · have _q := h794
        exact absurd h794 (by omega)
      · have _q := h794
        refine jx_ld (pc' := 252) (l' := L) (st' := [.ref 66]) rfl (jl_aloadn gL_0) ?_
        refine jx_ar (pc' := 253) (st' := [.int (i32 (4)), .ref 66]) rfl rfl rfl rfl ?_
        refine jx_ld (pc' := 254) (l' := L) (st' := [.int (i32 (pl)), .int (i32 (4)), .ref 66]) rfl (jl_iloadn gL_1) ?_
        refine jx_vr (pc' := 257) (as := [.int (i32 (4)), .int (i32 (pl))]) (st := []) rfl rfl rfl rfl ⟨rfl, rfl, Nat.le_of_ble_eq_true rfl⟩ rfl rfl (c_fail (dd := d) (hd := by omega) (hW := hWx) (kind := 4) (place := pl) (fk := fk1) (e_fk := show Gx 16 = fk1 from (ex_fk1))  (h_kind := ⟨(by decide), (by decide)⟩) (h_place := ⟨(Int.le_trans (by decide : (-2147483648 : Int) ≤ -2147483648) rx_pl.1), (Int.le_trans rx_pl.2 (by decide : (2147483647 : Int) ≤ 2147483647))⟩)  (p_0 := by omega) (p_1 := by omega)) (fun o V' hq => ?_)
        obtain ⟨G795, A796, fk2_797, rfl, rfl, hW798, hF799, e800, p801, -⟩ := hq
        have hF803 := Fr_tr hFx hF799 (Fr_sub (by decide)) (Fr_sub (by decide))
        have hP804 := Pf_f hPx hF799 (by decide)
        have sf805 : NdM A796 (nd) (nd1) (sy) := NdM_f hF799 (by decide) iv_11
        have ec806 : ecn A796 (G795 31) = ec1 := (ecn_f (hF799.2 15 rfl) (hF799.1 31 rfl)).trans ex_ec1
        have bfk2_797 : (0 : Int) ≤ fk2_797 ∧ fk2_797 ≤ 6 := e800 ▸ hW798.1 16
        refine .inl ⟨rfl, ?_⟩
        refine jx_ar (pc' := 258) (st' := [.int (i32 (0))]) rfl rfl rfl rfl ?_
        refine jx_rt (v := some (.int (i32 (0)))) rfl rfl rfl rfl rfl rfl ?_
        exact ⟨_, _, _, at1, fk2_797, nd1, ln, ec1, rfl, rfl, hW798, hF803, hP804, by omega, ((hF799.1 10 rfl).trans (ex_at1)), (e800), ((hF799.1 31 rfl).trans (ex_nd1)), ((hF799.1 9 rfl).trans (fx_9)), ec806, by omega, by omega, by omega, by omega, by omega, by first | exact Or.inl (⟨by omega, by omega, by omega⟩)⟩
  · have _q := h787
    exact absurd h787 (by omega)
set_option maxRecDepth 20000 in
set_option maxHeartbeats 4000000 in
theorem c_readNamed_w_at_150_1 {X : jX} {d : Nat} {Vs : Nat → Prop} {sb pb : Int} {c0 c1 : jC} {G : Nat → Int} {A : Nat → Nat → Int} {T : jH} {ln le at0 fk op0 nd tk0 li ec sy : Int} (hd : 72 ≤ d + 1) (hW : Wk G A) (e_ln : G 9 = ln) (e_le : A 4 (ln).toNat = le) (e_at0 : G 10 = at0) (e_fk : G 16 = fk) (e_op0 : G 15 = op0) (e_nd : G 31 = nd) (e_tk0 : G 11 = tk0) (e_li : G 3 = li) (e_ec : ecn A (G 31) = ec) (e_sy : G 19 = sy) (i_SV : SV Vs sb G A) (i_PQ : PQ Vs sb pb G A) (p_0 : 0 ≤ op0 ∧ op0 ≤ 8) (p_1 : fk = 0) (p_2 : nd ≤ 2 * at0 - tz tk0 + 42) (p_3 : at0 ≤ le) (p_4 : ln < li) (p_5 : tk0 = 1) : ∀ (L : jL) (Gx : Nat → Int) (Ax : Nat → Nat → Int) (s ix at1 tk1 fk1 nd1 op1 ks ec1 : Int), jGet L 0 = some (.ref 66) → jGet L 5 = some (.int (i32 (1))) → jGet L 2 = some (.int (i32 s)) → jGet L 4 = some (.int (i32 ix)) → Wk Gx Ax → Fr [9, 10, 11, 12, 13, 14, 15, 16, 17, 18, 31] [15, 16, 17, 18, 19, 20, 21, 22, 24, 28] G A Gx Ax → Pf nd A Ax → Gx 10 = at1 → Gx 11 = tk1 → Gx 16 = fk1 → Gx 31 = nd1 → Gx 15 = op1 → Ax 7 (s).toNat = ks → ecn Ax (Gx 31) = ec1 → Gx 9 = ln → ((-2147483648 : Int) ≤ s ∧ s ≤ 2147483647) → ((-2147483648 : Int) ≤ ix ∧ ix ≤ 2147483647) → (at0 ≤ at1) → (at1 ≤ le) → (nd ≤ nd1) → (op1 = op0) → (fk1 = 0) → (nd1 - nd ≤ (2 * at1 - tz tk1) - (2 * at0 - tz tk0) - 1) → (tz tk1 = 1) → (0 ≤ s ∧ s ≤ 201) → (SY Vs sb (s)) → (kArr (ks)) → (wE Ax Vs sb (20) (ix) (nd) (nd1)) → (nd1 - nd + 5 * (ec1 - ec) ≤ (2 * at1 - tz tk1) - (2 * at0 - tz tk0) - 6 - tz tk1) → (NdM Ax (nd) (nd1) (sy)) → wj X d jm304 (150, L, [], rV c0 c1 Gx Ax T) (fun o V' => ∃ (G' : Nat → Int) (A' : Nat → Nat → Int) (r : Int) (at2 : Int) (fk2 : Int) (nd2 : Int) (ln2 : Int) (ec2 : Int), V' = rV c0 c1 G' A' T ∧ o = .inl (some (.int (i32 r))) ∧ Wk G' A' ∧ Fr [9, 10, 11, 12, 13, 14, 15, 16, 17, 18, 31] [15, 16, 17, 18, 19, 20, 21, 22, 24, 28] G A G' A' ∧ Pf nd A A' ∧ ((-2147483648 : Int) ≤ r ∧ r ≤ 2147483647) ∧ G' 10 = at2 ∧ G' 16 = fk2 ∧ G' 31 = nd2 ∧ G' 9 = ln2 ∧ ecn A' (G' 31) = ec2 ∧ (at0 ≤ at2) ∧ (at2 ≤ le) ∧ (nd ≤ nd2) ∧ (0 ≤ r) ∧ (r ≤ nd2) ∧ (((1 ≤ fk2) ∧ (ln2 = ln) ∧ (nd2 - nd ≤ 2 * at2 - 2 * at0 + 8)) ∨ ((fk2 = 0) ∧ (ln2 = ln + 1) ∧ (nd2 - nd ≤ 2 * at2 - (2 * at0 - tz tk0) + 0) ∧ (nd ≤ r) ∧ (r < nd2) ∧ (wL A' sb pb Vs (r) (nd) (nd2)) ∧ (NX A' (r)) ∧ (nd2 - nd + 5 * (ec2 - ec) ≤ 2 * at2 - (2 * at0 - tz tk0) + 0) ∧ (NdM A' (nd) (nd2) (sy))))) := by
  have hF0 : Fr [9, 10, 11, 12, 13, 14, 15, 16, 17, 18, 31] [15, 16, 17, 18, 19, 20, 21, 22, 24, 28] G A G A := Fr_rf
  have hP0 : Pf nd A A := Pf_rf
  have b_ln : (0 : Int) ≤ ln ∧ ln ≤ 3000 := e_ln ▸ hW.1 9
  have b_le : (0 : Int) ≤ le ∧ le ≤ 3000 := e_le ▸ hW.2 4 _
  have b_at0 : (0 : Int) ≤ at0 ∧ at0 ≤ 3002 := e_at0 ▸ hW.1 10
  have b_fk : (0 : Int) ≤ fk ∧ fk ≤ 6 := e_fk ▸ hW.1 16
  have b_op0 : (-2147483648 : Int) ≤ op0 ∧ op0 ≤ 2147483647 := e_op0 ▸ hW.1 15
  have b_nd : (0 : Int) ≤ nd ∧ nd ≤ 6999 := e_nd ▸ hW.1 31
  have z_tk0 := tz_f tk0
  have b_tk0 : (0 : Int) ≤ tk0 ∧ tk0 ≤ 5 := e_tk0 ▸ hW.1 11
  have b_li : (0 : Int) ≤ li ∧ li ≤ 3000 := e_li ▸ hW.1 3
  have b_sy : (0 : Int) ≤ sy ∧ sy ≤ 202 := e_sy ▸ hW.1 19
  intro L Gx Ax s ix at1 tk1 fk1 nd1 op1 ks ec1 gL_0 gL_5 gL_2 gL_4 hWx hFx hPx ex_at1 ex_tk1 ex_fk1 ex_nd1 ex_op1 ex_ks ex_ec1 fx_9 rx_s rx_ix iv_0 iv_1 iv_2 iv_3 iv_4 iv_5 iv_6 iv_7 iv_8 iv_9 iv_10 iv_11 iv_12
  have b_at1 : (0 : Int) ≤ at1 ∧ at1 ≤ 3002 := ex_at1 ▸ hWx.1 10
  have z_tk1 := tz_f tk1
  have b_tk1 : (0 : Int) ≤ tk1 ∧ tk1 ≤ 5 := ex_tk1 ▸ hWx.1 11
  have b_fk1 : (0 : Int) ≤ fk1 ∧ fk1 ≤ 6 := ex_fk1 ▸ hWx.1 16
  have b_nd1 : (0 : Int) ≤ nd1 ∧ nd1 ≤ 6999 := ex_nd1 ▸ hWx.1 31
  have b_op1 : (-2147483648 : Int) ≤ op1 ∧ op1 ≤ 2147483647 := ex_op1 ▸ hWx.1 15
  have b_ks : (0 : Int) ≤ ks ∧ ks ≤ 14 := ex_ks ▸ hWx.2 7 _
  refine jx_ld (pc' := 151) (l' := L) (st' := [.ref 66]) rfl (jl_aloadn gL_0) ?_
  refine jx_ar (pc' := 153) (st' := [.int (i32 (22)), .ref 66]) rfl rfl rfl rfl ?_
  refine jx_ld (pc' := 154) (l' := L) (st' := [.ref 66, .int (i32 (22)), .ref 66]) rfl (jl_aloadn gL_0) ?_
  refine jx_ld (pc' := 156) (l' := L) (st' := [.int (i32 (1)), .ref 66, .int (i32 (22)), .ref 66]) rfl (jl_iload gL_5) ?_
  refine jx_if_eq (pc' := 159) (tg := 163) rfl rfl rfl (by decide) (by decide) (fun h807 => ?_) (fun h807 => ?_)
  · have _q := h807
    exact absurd h807 (by omega)
  · have _q := h807
    refine jx_ar (pc' := 160) (st' := [.int (i32 (3)), .ref 66, .int (i32 (22)), .ref 66]) rfl rfl rfl rfl ?_
    refine jx_go (tg := 164) rfl rfl ?_
    refine jx_ld (pc' := 165) (l' := L) (st' := [.int (i32 (s)), .int (i32 (3)), .ref 66, .int (i32 (22)), .ref 66]) rfl (jl_iloadn gL_2) ?_
    refine jx_ld (pc' := 167) (l' := L) (st' := [.int (i32 (ix)), .int (i32 (s)), .int (i32 (3)), .ref 66, .int (i32 (22)), .ref 66]) rfl (jl_iload gL_4) ?_
    refine jx_ar (pc' := 168) (st' := [.int (i32 (0)), .int (i32 (ix)), .int (i32 (s)), .int (i32 (3)), .ref 66, .int (i32 (22)), .ref 66]) rfl rfl rfl rfl ?_
    refine jx_ar (pc' := 169) (st' := [.int (i32 (0)), .int (i32 (0)), .int (i32 (ix)), .int (i32 (s)), .int (i32 (3)), .ref 66, .int (i32 (22)), .ref 66]) rfl rfl rfl rfl ?_
    refine jx_vr (pc' := 172) (as := [.int (i32 (3)), .int (i32 (s)), .int (i32 (ix)), .int (i32 (0)), .int (i32 (0))]) (st := [.int (i32 (22)), .ref 66]) rfl rfl rfl rfl ⟨rfl, rfl, Nat.le_of_ble_eq_true rfl⟩ rfl rfl (c_node_e (dd := d) (hd := by omega) (hW := hWx) (kind := 3) (a := s) (b := ix) (c := 0) (e := 0) (nd := nd1) (e_nd := show Gx 31 = nd1 from (ex_nd1)) (ec := ec1) (e_ec := show ecn Ax (Gx 31) = ec1 from ex_ec1) (sy := sy) (e_sy := show Gx 19 = sy from ((hFx.1 19 rfl).trans (e_sy)))  (h_kind := ⟨(by decide), (by decide)⟩) (h_a := ⟨(Int.le_trans (by decide : (-2147483648 : Int) ≤ -2147483648) rx_s.1), (Int.le_trans rx_s.2 (by decide : (2147483647 : Int) ≤ 2147483647))⟩) (h_b := ⟨(Int.le_trans (by decide : (-2147483648 : Int) ≤ -2147483648) rx_ix.1), (Int.le_trans rx_ix.2 (by decide : (2147483647 : Int) ≤ 2147483647))⟩) (h_c := ⟨(by decide), (by decide)⟩) (h_e := ⟨(by decide), (by decide)⟩)  (p_0 := by omega) (p_1 := by omega) (p_2 := by omega)) (fun o V' hq => ?_)
    obtain ⟨G808, A809, nd2_810, ec2_811, rfl, rfl, hW812, hF813, hQ814, e815, e816, p817, p818, p819, p820, -⟩ := hq
    have hF822 := Fr_tr hFx hF813 (Fr_sub (by decide)) (Fr_sub (by decide))
    have hP823 := Pf_tr hPx hQ814 (by omega)
    have sf824 : wE A809 Vs sb (20) (ix) (nd) (nd1) := wE_ag (by omega) (Sg_fr hF813 (by decide)) (Ag_pf hQ814 (by omega)) iv_10
    have sf825 : NdM A809 (nd) (nd1) (sy) := NdM_pf hQ814 (by omega) (by omega) iv_12
    have bnd2_810 : (0 : Int) ≤ nd2_810 ∧ nd2_810 ≤ 6999 := e815 ▸ hW812.1 31
    refine .inr ⟨_, rfl, ?_⟩
    refine jx_ar (pc' := 173) (st' := [.int (i32 (0)), .int (i32 (nd1)), .int (i32 (22)), .ref 66]) rfl rfl rfl rfl ?_
    refine jx_ar (pc' := 174) (st' := [.int (i32 (0)), .int (i32 (0)), .int (i32 (nd1)), .int (i32 (22)), .ref 66]) rfl rfl rfl rfl ?_
    refine jx_ar (pc' := 175) (st' := [.int (i32 (0)), .int (i32 (0)), .int (i32 (0)), .int (i32 (nd1)), .int (i32 (22)), .ref 66]) rfl rfl rfl rfl ?_
    refine jx_vr (pc' := 178) (as := [.int (i32 (22)), .int (i32 (nd1)), .int (i32 (0)), .int (i32 (0)), .int (i32 (0))]) (st := []) rfl rfl rfl rfl ⟨rfl, rfl, Nat.le_of_ble_eq_true rfl⟩ rfl rfl (c_node_o (dd := d) (hd := by omega) (hW := hW812) (kind := 22) (a := nd1) (b := 0) (c := 0) (e := 0) (nd := nd2_810) (e_nd := show G808 31 = nd2_810 from (e815)) (ec := ec2_811) (e_ec := show ecn A809 (G808 31) = ec2_811 from e816) (sy := sy) (e_sy := show G808 19 = sy from ((hF813.1 19 rfl).trans ((hFx.1 19 rfl).trans (e_sy))))  (h_kind := ⟨(by decide), (by decide)⟩) (h_a := ⟨(Int.le_trans (by decide : (-2147483648 : Int) ≤ 0) b_nd1.1), (Int.le_trans b_nd1.2 (by decide : (6999 : Int) ≤ 2147483647))⟩) (h_b := ⟨(by decide), (by decide)⟩) (h_c := ⟨(by decide), (by decide)⟩) (h_e := ⟨(by decide), (by decide)⟩)  (p_0 := by omega) (p_1 := by omega) (p_2 := by omega)) (fun o V' hq => ?_)
    obtain ⟨G826, A827, nd2_828, ec2_829, rfl, rfl, hW830, hF831, hQ832, e833, e834, p835, p836, p837, p838, -⟩ := hq
    have hF840 := Fr_tr hF822 hF831 (Fr_sub (by decide)) (Fr_sub (by decide))
    have hP841 := Pf_tr hP823 hQ832 (by omega)
    have sf842 : wE A827 Vs sb (20) (ix) (nd) (nd1) := wE_ag (by omega) (Sg_fr hF831 (by decide)) (Ag_pf hQ832 (by omega)) sf824
    have sf843 : NdM A827 (nd) (nd1) (sy) := NdM_pf hQ832 (by omega) (by omega) sf825
    have sf844 : ND A827 (nd1) (3) (s) (ix) (0) (0) (0) (0) := ND_ag (by omega) (Ag_pf hQ832 (by omega)) p819
    have sf845 : NdM A827 (nd1) (nd1 + 1) (sy) := NdM_pf hQ832 (by omega) (by omega) p820
    have bnd2_828 : (0 : Int) ≤ nd2_828 ∧ nd2_828 ≤ 6999 := e833 ▸ hW830.1 31
    refine .inr ⟨_, rfl, ?_⟩
    refine jx_ld (pc' := 180) (l' := jSto1 L 6 (.int (i32 (nd2_810)))) (st' := []) rfl rfl ?_
    obtain ⟨L846, eL846⟩ : ∃ q, q = jSto1 L 6 (.int (i32 (nd2_810))) := ⟨_, rfl⟩
    rw [← eL846]
    have gL846_0 : jGet L846 0 = some (.ref 66) := eL846 ▸ jg_ne (by decide) gL_0 rfl
    have gL846_5 : jGet L846 5 = some (.int (i32 (1))) := eL846 ▸ jg_ne (by decide) gL_5 rfl
    have gL846_2 : jGet L846 2 = some (.int (i32 (s))) := eL846 ▸ jg_ne (by decide) gL_2 rfl
    have gL846_4 : jGet L846 4 = some (.int (i32 (ix))) := eL846 ▸ jg_ne (by decide) gL_4 rfl
    have gL846_6 : jGet L846 6 = some (.int (i32 (nd2_810))) := eL846 ▸ jg_eq
    refine jx_ld (pc' := 181) (l' := L846) (st' := [.ref 66]) rfl (jl_aloadn gL846_0) ?_
    refine jx_vr (pc' := 184) (as := []) (st := []) rfl rfl rfl rfl ⟨rfl, rfl, Nat.le_of_ble_eq_true rfl⟩ rfl rfl (c_next (dd := d) (hd := by omega) (hW := hW830)  (ln := ln) (e_ln := show G826 9 = ln from ((hF831.1 9 rfl).trans ((hF813.1 9 rfl).trans (fx_9)))) (le := le) (e_le := show A827 4 (ln).toNat = le from (congrFun ((hF831.2 4 rfl).trans ((hF813.2 4 rfl).trans (hFx.2 4 rfl))) _).trans (e_le)) (at0 := at1) (e_at0 := show G826 10 = at1 from ((hF831.1 10 rfl).trans ((hF813.1 10 rfl).trans (ex_at1))))    (p_0 := by omega)) (fun o V' hq => ?_)
    obtain ⟨G847, A848, at2_849, tk2_850, rfl, rfl, hW851, hF852, e853, e854, p855, p856, p857, -⟩ := hq
    have hF859 := Fr_tr hF840 hF852 (Fr_sub (by decide)) (Fr_sub (by decide))
    have hP860 := Pf_f hP841 hF852 (by decide)
    have sf861 : wE A848 Vs sb (20) (ix) (nd) (nd1) := wE_ag (by omega) (Sg_fr hF852 (by decide)) (Ag_fr hF852 (by decide)) sf842
    have sf862 : NdM A848 (nd) (nd1) (sy) := NdM_f hF852 (by decide) sf843
    have sf863 : ND A848 (nd1) (3) (s) (ix) (0) (0) (0) (0) := ND_ag (by omega) (Ag_fr hF852 (by decide)) sf844
    have sf864 : NdM A848 (nd1) (nd1 + 1) (sy) := NdM_f hF852 (by decide) sf845
    have sf865 : ND A848 (nd2_810) (22) (nd1) (0) (0) (0) (0) (0) := ND_ag (by omega) (Ag_fr hF852 (by decide)) p837
    have sf866 : NdM A848 (nd2_810) (nd2_810 + 1) (sy) := NdM_f hF852 (by decide) p838
    have ec867 : ecn A848 (G847 31) = ec2_829 := (ecn_f (hF852.2 15 rfl) (hF852.1 31 rfl)).trans e834
    have bat2_849 : (0 : Int) ≤ at2_849 ∧ at2_849 ≤ 3002 := e853 ▸ hW851.1 10
    have ztk2_850 := tz_b tk2_850
    have btk2_850 : (0 : Int) ≤ tk2_850 ∧ tk2_850 ≤ 5 := e854 ▸ hW851.1 11
    refine .inl ⟨rfl, ?_⟩
    have pz868 : at1 + tz tk2_850 ≤ at2_849 := by omega
    refine jx_ld (pc' := 185) (l' := L846) (st' := [.ref 66]) rfl (jl_aloadn gL846_0) ?_
    refine jr_get (pc' := 188) (i := 35) (v := .ref 85) rfl rfl (by decide) rfl rfl ?_
    refine jx_ld (pc' := 190) (l' := L846) (st' := [.int (i32 (nd2_810)), .ref 85]) rfl (jl_iload gL846_6) ?_
    refine jx_ld (pc' := 191) (l' := L846) (st' := [.ref 66, .int (i32 (nd2_810)), .ref 85]) rfl (jl_aloadn gL846_0) ?_
    refine jx_vr (pc' := 194) (as := []) (st := [.int (i32 (nd2_810)), .ref 85]) rfl rfl rfl rfl ⟨rfl, rfl, Nat.le_of_ble_eq_true rfl⟩ rfl rfl (REw_all X 9 (dd := d) (hd := by omega) (hW := hW851)  (ln := ln) (e_ln := show G847 9 = ln from ((hF852.1 9 rfl).trans ((hF831.1 9 rfl).trans ((hF813.1 9 rfl).trans (fx_9))))) (le := le) (e_le := show A848 4 (ln).toNat = le from (congrFun ((hF852.2 4 rfl).trans ((hF831.2 4 rfl).trans ((hF813.2 4 rfl).trans (hFx.2 4 rfl)))) _).trans (e_le)) (at0 := at2_849) (e_at0 := show G847 10 = at2_849 from (e853)) (fk := fk1) (e_fk := show G847 16 = fk1 from ((hF852.1 16 rfl).trans ((hF831.1 16 rfl).trans ((hF813.1 16 rfl).trans (ex_fk1))))) (op0 := op1) (e_op0 := show G847 15 = op1 from ((hF852.1 15 rfl).trans ((hF831.1 15 rfl).trans ((hF813.1 15 rfl).trans (ex_op1))))) (nd := nd2_828) (e_nd := show G847 31 = nd2_828 from ((hF852.1 31 rfl).trans (e833))) (tk0 := tk2_850) (e_tk0 := show G847 11 = tk2_850 from (e854)) (ec := ec2_829) (e_ec := show ecn A848 (G847 31) = ec2_829 from ec867) (sy := sy) (e_sy := show G847 19 = sy from ((hF852.1 19 rfl).trans ((hF831.1 19 rfl).trans ((hF813.1 19 rfl).trans ((hFx.1 19 rfl).trans (e_sy)))))) (i_SV := (SV_ext (((hF852.1 29 rfl).trans ((hF831.1 29 rfl).trans ((hF813.1 29 rfl).trans (hFx.1 29 rfl))))) (((hF852.2 14 rfl).trans ((hF831.2 14 rfl).trans ((hF813.2 14 rfl).trans (hFx.2 14 rfl))))) i_SV))   (p_0 := by omega) (p_1 := by omega) (p_2 := by omega) (p_3 := by omega) (p_4 := by omega) (p_5 := by omega)) (fun o V' hq => ?_)
    obtain ⟨G869, A870, r871, at2_872, fk2_873, op2_874, nd2_875, tk2_876, ec2_877, rfl, rfl, hW878, hF879, hQ880, b881, e882, e883, e884, e885, e886, e887, p888, p889, p890, p891, p892, p893, q894⟩ := hq
    have hF895 := Fr_tr hF859 hF879 (Fr_sub (by decide)) (Fr_sub (by decide))
    have hP896 := Pf_tr hP860 hQ880 (by omega)
    have sf897 : wE A870 Vs sb (20) (ix) (nd) (nd1) := wE_ag (by omega) (Sg_fr hF879 (by decide)) (Ag_pf hQ880 (by omega)) sf861
    have sf898 : NdM A870 (nd) (nd1) (sy) := NdM_pf hQ880 (by omega) (by omega) sf862
    have sf899 : ND A870 (nd1) (3) (s) (ix) (0) (0) (0) (0) := ND_ag (by omega) (Ag_pf hQ880 (by omega)) sf863
    have sf900 : NdM A870 (nd1) (nd1 + 1) (sy) := NdM_pf hQ880 (by omega) (by omega) sf864
    have sf901 : ND A870 (nd2_810) (22) (nd1) (0) (0) (0) (0) (0) := ND_ag (by omega) (Ag_pf hQ880 (by omega)) sf865
    have sf902 : NdM A870 (nd2_810) (nd2_810 + 1) (sy) := NdM_pf hQ880 (by omega) (by omega) sf866
    have bat2_872 : (0 : Int) ≤ at2_872 ∧ at2_872 ≤ 3002 := e882 ▸ hW878.1 10
    have bfk2_873 : (0 : Int) ≤ fk2_873 ∧ fk2_873 ≤ 6 := e883 ▸ hW878.1 16
    have bop2_874 : (-2147483648 : Int) ≤ op2_874 ∧ op2_874 ≤ 2147483647 := e884 ▸ hW878.1 15
    have bnd2_875 : (0 : Int) ≤ nd2_875 ∧ nd2_875 ≤ 6999 := e885 ▸ hW878.1 31
    have ztk2_876 := tz_b tk2_876
    have btk2_876 : (0 : Int) ≤ tk2_876 ∧ tk2_876 ≤ 5 := e886 ▸ hW878.1 11
    refine .inr ⟨_, rfl, ?_⟩
    rcases q894 with ⟨a903, a904, a905, a906, a907, a908⟩ | ⟨a909, a910, a911⟩ | ⟨a912, a913, a914, a915, a916, a917, a918⟩
    · have _q : True := trivial
      exfalso
      omega
    · have _q : True := trivial
      refine jr_st (pc' := 195) (i := 18) (m := 7000) (z := nd2_810) (y := r871) rfl (by decide) rfl (by decide) (by omega) (by omega) rfl ?_
      have hW920 : Wk G869 (uA A870 18 (nd2_810).toNat (r871)) := Wk_a hW878 (show (-2147483648 : Int) ≤ r871 by omega) (show r871 ≤ (2147483647 : Int) by omega)
      have hF921 := Fr_a (z := r871) (k := 18) (n := (nd2_810).toNat) hF895 (by decide)
      obtain ⟨A919, eA919⟩ : ∃ q, q = uA A870 18 (nd2_810).toNat (r871) := ⟨_, rfl⟩
      rw [← eA919]
      rw [← eA919] at hW920 hF921
      have q922 : A919 18 (nd2_810).toNat = r871 := by rw [eA919]; exact uA_eq
      have hP923 : Pf nd A A919 := eA919 ▸ Pf_a hP896 (z := nd2_810) (by omega) (by omega)
      have sf924 : wE A919 Vs sb (20) (ix) (nd) (nd1) := wE_ag (by omega) (Sg_ne eA919 rfl) (Ag_st eA919 (by omega) (by omega)) sf897
      have sf925 : NdM A919 (nd) (nd1) (sy) := NdM_st eA919 (by decide) sf898
      have sf926 : ND A919 (nd1) (3) (s) (ix) (0) (0) (0) (0) := ND_ag (by omega) (Ag_st eA919 (by omega) (by omega)) sf899
      have sf927 : NdM A919 (nd1) (nd1 + 1) (sy) := NdM_st eA919 (by decide) sf900
      have sf928 : ND A919 (nd2_810) (22) (nd1) (r871) (0) (0) (0) (0) := ND_b eA919 sf901
      have sf929 : NdM A919 (nd2_810) (nd2_810 + 1) (sy) := NdM_st eA919 (by decide) sf902
      have ec930 : ecn A919 (G869 31) = ec2_877 := (ecn_e ((congrFun eA919 15).trans (uA_ne (by decide)))).trans e887
      refine jx_ld (pc' := 196) (l' := L846) (st' := [.ref 66]) rfl (jl_aloadn gL846_0) ?_
      refine jx_vr (pc' := 199) (as := []) (st := []) rfl rfl rfl rfl ⟨rfl, rfl, Nat.le_of_ble_eq_true rfl⟩ rfl rfl (c_endLine (dd := d) (hd := by omega) (hW := hW920)  (ln := ln) (e_ln := show G869 9 = ln from ((hF879.1 9 rfl).trans ((hF852.1 9 rfl).trans ((hF831.1 9 rfl).trans ((hF813.1 9 rfl).trans (fx_9)))))) (li := li) (e_li := show G869 3 = li from ((hF879.1 3 rfl).trans ((hF852.1 3 rfl).trans ((hF831.1 3 rfl).trans ((hF813.1 3 rfl).trans ((hFx.1 3 rfl).trans (e_li))))))) (fk := fk2_873) (e_fk := show G869 16 = fk2_873 from (e883)) (tk0 := tk2_876) (e_tk0 := show G869 11 = tk2_876 from (e886))    (p_0 := by omega)) (fun o V' hq => ?_)
      obtain ⟨G931, A932, ln2_933, fk2_934, rfl, rfl, hW935, hF936, e937, e938, q939⟩ := hq
      have hF940 := Fr_tr hF921 hF936 (Fr_sub (by decide)) (Fr_sub (by decide))
      have hP941 := Pf_f hP923 hF936 (by decide)
      have sf942 : wE A932 Vs sb (20) (ix) (nd) (nd1) := wE_ag (by omega) (Sg_fr hF936 (by decide)) (Ag_fr hF936 (by decide)) sf924
      have sf943 : NdM A932 (nd) (nd1) (sy) := NdM_f hF936 (by decide) sf925
      have sf944 : ND A932 (nd1) (3) (s) (ix) (0) (0) (0) (0) := ND_ag (by omega) (Ag_fr hF936 (by decide)) sf926
      have sf945 : NdM A932 (nd1) (nd1 + 1) (sy) := NdM_f hF936 (by decide) sf927
      have sf946 : ND A932 (nd2_810) (22) (nd1) (r871) (0) (0) (0) (0) := ND_ag (by omega) (Ag_fr hF936 (by decide)) sf928
      have sf947 : NdM A932 (nd2_810) (nd2_810 + 1) (sy) := NdM_f hF936 (by decide) sf929
      have ec948 : ecn A932 (G931 31) = ec2_877 := (ecn_f (hF936.2 15 rfl) (hF936.1 31 rfl)).trans ec930
      have bln2_933 : (0 : Int) ≤ ln2_933 ∧ ln2_933 ≤ 3000 := e937 ▸ hW935.1 9
      have bfk2_934 : (0 : Int) ≤ fk2_934 ∧ fk2_934 ≤ 6 := e938 ▸ hW935.1 16
      refine .inl ⟨rfl, ?_⟩
      rcases q939 with ⟨a949, a950, a951, a952, a953⟩ | ⟨a954, a955⟩
      · have _q : True := trivial
        exfalso
        omega
      · have _q : True := trivial
        refine jx_ld (pc' := 201) (l' := L846) (st' := [.int (i32 (nd2_810))]) rfl (jl_iload gL846_6) ?_
        refine jx_rt (v := some (.int (i32 (nd2_810)))) rfl rfl rfl rfl rfl rfl ?_
        exact ⟨_, _, _, at2_872, fk2_934, nd2_875, ln2_933, ec2_877, rfl, rfl, hW935, hF940, hP941, by omega, ((hF936.1 10 rfl).trans (e882)), (e938), ((hF936.1 31 rfl).trans (e885)), (e937), ec948, by omega, by omega, by omega, by omega, by omega, by first | exact Or.inl (⟨by omega, by omega, by omega⟩)⟩
    · have _q : True := trivial
      refine jr_st (pc' := 195) (i := 18) (m := 7000) (z := nd2_810) (y := r871) rfl (by decide) rfl (by decide) (by omega) (by omega) rfl ?_
      have hW957 : Wk G869 (uA A870 18 (nd2_810).toNat (r871)) := Wk_a hW878 (show (-2147483648 : Int) ≤ r871 by omega) (show r871 ≤ (2147483647 : Int) by omega)
      have hF958 := Fr_a (z := r871) (k := 18) (n := (nd2_810).toNat) hF895 (by decide)
      obtain ⟨A956, eA956⟩ : ∃ q, q = uA A870 18 (nd2_810).toNat (r871) := ⟨_, rfl⟩
      rw [← eA956]
      rw [← eA956] at hW957 hF958
      have q959 : A956 18 (nd2_810).toNat = r871 := by rw [eA956]; exact uA_eq
      have hP960 : Pf nd A A956 := eA956 ▸ Pf_a hP896 (z := nd2_810) (by omega) (by omega)
      have sf961 : wE A956 Vs sb (20) (ix) (nd) (nd1) := wE_ag (by omega) (Sg_ne eA956 rfl) (Ag_st eA956 (by omega) (by omega)) sf897
      have sf962 : NdM A956 (nd) (nd1) (sy) := NdM_st eA956 (by decide) sf898
      have sf963 : ND A956 (nd1) (3) (s) (ix) (0) (0) (0) (0) := ND_ag (by omega) (Ag_st eA956 (by omega) (by omega)) sf899
      have sf964 : NdM A956 (nd1) (nd1 + 1) (sy) := NdM_st eA956 (by decide) sf900
      have sf965 : ND A956 (nd2_810) (22) (nd1) (r871) (0) (0) (0) (0) := ND_b eA956 sf901
      have sf966 : NdM A956 (nd2_810) (nd2_810 + 1) (sy) := NdM_st eA956 (by decide) sf902
      have sf967 : wE A956 Vs sb (2 * 9 + 2) (r871) (nd2_828) (nd2_875) := wE_ag (by omega) (Sg_ne eA956 rfl) (Ag_st eA956 (by omega) (by omega)) a915
      have sf968 : NdM A956 (nd2_828) (nd2_875) (sy) := NdM_st eA956 (by decide) a917
      have ec969 : ecn A956 (G869 31) = ec2_877 := (ecn_e ((congrFun eA956 15).trans (uA_ne (by decide)))).trans e887
      refine jx_ld (pc' := 196) (l' := L846) (st' := [.ref 66]) rfl (jl_aloadn gL846_0) ?_
      refine jx_vr (pc' := 199) (as := []) (st := []) rfl rfl rfl rfl ⟨rfl, rfl, Nat.le_of_ble_eq_true rfl⟩ rfl rfl (c_endLine (dd := d) (hd := by omega) (hW := hW957)  (ln := ln) (e_ln := show G869 9 = ln from ((hF879.1 9 rfl).trans ((hF852.1 9 rfl).trans ((hF831.1 9 rfl).trans ((hF813.1 9 rfl).trans (fx_9)))))) (li := li) (e_li := show G869 3 = li from ((hF879.1 3 rfl).trans ((hF852.1 3 rfl).trans ((hF831.1 3 rfl).trans ((hF813.1 3 rfl).trans ((hFx.1 3 rfl).trans (e_li))))))) (fk := fk2_873) (e_fk := show G869 16 = fk2_873 from (e883)) (tk0 := tk2_876) (e_tk0 := show G869 11 = tk2_876 from (e886))    (p_0 := by omega)) (fun o V' hq => ?_)
      obtain ⟨G970, A971, ln2_972, fk2_973, rfl, rfl, hW974, hF975, e976, e977, q978⟩ := hq
      have hF979 := Fr_tr hF958 hF975 (Fr_sub (by decide)) (Fr_sub (by decide))
      have hP980 := Pf_f hP960 hF975 (by decide)
      have sf981 : wE A971 Vs sb (20) (ix) (nd) (nd1) := wE_ag (by omega) (Sg_fr hF975 (by decide)) (Ag_fr hF975 (by decide)) sf961
      have sf982 : NdM A971 (nd) (nd1) (sy) := NdM_f hF975 (by decide) sf962
      have sf983 : ND A971 (nd1) (3) (s) (ix) (0) (0) (0) (0) := ND_ag (by omega) (Ag_fr hF975 (by decide)) sf963
      have sf984 : NdM A971 (nd1) (nd1 + 1) (sy) := NdM_f hF975 (by decide) sf964
      have sf985 : ND A971 (nd2_810) (22) (nd1) (r871) (0) (0) (0) (0) := ND_ag (by omega) (Ag_fr hF975 (by decide)) sf965
      have sf986 : NdM A971 (nd2_810) (nd2_810 + 1) (sy) := NdM_f hF975 (by decide) sf966
      have sf987 : wE A971 Vs sb (2 * 9 + 2) (r871) (nd2_828) (nd2_875) := wE_ag (by omega) (Sg_fr hF975 (by decide)) (Ag_fr hF975 (by decide)) sf967
      have sf988 : NdM A971 (nd2_828) (nd2_875) (sy) := NdM_f hF975 (by decide) sf968
      have ec989 : ecn A971 (G970 31) = ec2_877 := (ecn_f (hF975.2 15 rfl) (hF975.1 31 rfl)).trans ec969
      have bln2_972 : (0 : Int) ≤ ln2_972 ∧ ln2_972 ≤ 3000 := e976 ▸ hW974.1 9
      have bfk2_973 : (0 : Int) ≤ fk2_973 ∧ fk2_973 ≤ 6 := e977 ▸ hW974.1 16
      refine .inl ⟨rfl, ?_⟩
      rcases q978 with ⟨a990, a991, a992, a993, a994⟩ | ⟨a995, a996⟩
      · have _q : True := trivial
        refine jx_ld (pc' := 201) (l' := L846) (st' := [.int (i32 (nd2_810))]) rfl (jl_iload gL846_6) ?_
        refine jx_rt (v := some (.int (i32 (nd2_810)))) rfl rfl rfl rfl rfl rfl ?_
        exact ⟨_, _, _, at2_872, fk2_973, nd2_875, ln2_972, ec2_877, rfl, rfl, hW974, hF979, hP980, by omega, ((hF975.1 10 rfl).trans (e882)), (e977), ((hF975.1 31 rfl).trans (e885)), (e976), ec989, by omega, by omega, by omega, by omega, by omega, by first | exact Or.inr ((⟨by omega, by omega, by omega, by omega, by omega, (wL_set sf985 (by omega) (by omega) (wR_elem sf983 (by omega) (by omega) iv_8 (kq (P := kRow (0)) (show A971 7 (s).toNat = ks from (congrFun ((hF975.2 7 rfl).trans (((congrFun eA956 7).trans (uA_ne (by decide))).trans ((hF879.2 7 rfl).trans ((hF852.2 7 rfl).trans ((hF831.2 7 rfl).trans (hF813.2 7 rfl)))))) _).trans (ex_ks)) (by first | exact .inl ⟨by omega, iv_9⟩ | exact .inr ⟨by omega, by omega⟩)) (wE_mono (by omega) (by omega) (by omega) sf981)) (wE_mono (by omega) (by omega) (by omega) sf987)), (NX_nd sf985), by omega, (NdM_w (NdM_app (sy := sy) sf982 (NdM_app (sy := sy) sf984 (NdM_app (sy := sy) sf986 sf988 (by omega) (by omega) (by omega)) (by omega) (by omega) (by omega)) (by omega) (by omega) (by omega)) (by omega) (by omega) (by omega))⟩))⟩
      · have _q : True := trivial
        refine jx_ld (pc' := 201) (l' := L846) (st' := [.int (i32 (nd2_810))]) rfl (jl_iload gL846_6) ?_
        refine jx_rt (v := some (.int (i32 (nd2_810)))) rfl rfl rfl rfl rfl rfl ?_
        exact ⟨_, _, _, at2_872, fk2_973, nd2_875, ln2_972, ec2_877, rfl, rfl, hW974, hF979, hP980, by omega, ((hF975.1 10 rfl).trans (e882)), (e977), ((hF975.1 31 rfl).trans (e885)), (e976), ec989, by omega, by omega, by omega, by omega, by omega, by first | exact Or.inl (⟨by omega, by omega, by omega⟩)⟩
set_option maxRecDepth 20000 in
set_option maxHeartbeats 4000000 in
theorem c_readNamed_w_at_150_0 {X : jX} {d : Nat} {Vs : Nat → Prop} {sb pb : Int} {c0 c1 : jC} {G : Nat → Int} {A : Nat → Nat → Int} {T : jH} {ln le at0 fk op0 nd tk0 li ec sy : Int} (hd : 72 ≤ d + 1) (hW : Wk G A) (e_ln : G 9 = ln) (e_le : A 4 (ln).toNat = le) (e_at0 : G 10 = at0) (e_fk : G 16 = fk) (e_op0 : G 15 = op0) (e_nd : G 31 = nd) (e_tk0 : G 11 = tk0) (e_li : G 3 = li) (e_ec : ecn A (G 31) = ec) (e_sy : G 19 = sy) (i_SV : SV Vs sb G A) (i_PQ : PQ Vs sb pb G A) (p_0 : 0 ≤ op0 ∧ op0 ≤ 8) (p_1 : fk = 0) (p_2 : nd ≤ 2 * at0 - tz tk0 + 42) (p_3 : at0 ≤ le) (p_4 : ln < li) (p_5 : tk0 = 1) : ∀ (L : jL) (Gx : Nat → Int) (Ax : Nat → Nat → Int) (s at1 tk1 fk1 nd1 op1 ks ec1 : Int), jGet L 0 = some (.ref 66) → jGet L 5 = some (.int (i32 (0))) → jGet L 4 = some (.int (i32 (0))) → jGet L 2 = some (.int (i32 s)) → Wk Gx Ax → Fr [9, 10, 11, 12, 13, 14, 15, 16, 17, 18, 31] [15, 16, 17, 18, 19, 20, 21, 22, 24, 28] G A Gx Ax → Pf nd A Ax → Gx 10 = at1 → Gx 11 = tk1 → Gx 16 = fk1 → Gx 31 = nd1 → Gx 15 = op1 → Ax 7 (s).toNat = ks → ecn Ax (Gx 31) = ec1 → Gx 9 = ln → ((-2147483648 : Int) ≤ s ∧ s ≤ 2147483647) → (at0 ≤ at1) → (at1 ≤ le) → (nd ≤ nd1) → (op1 = op0) → (fk1 = 0) → (nd1 - nd ≤ (2 * at1 - tz tk1) - (2 * at0 - tz tk0) - 1) → (tz tk1 = 1) → (0 ≤ s ∧ s ≤ 201) → (SY Vs sb (s)) → (kVar (ks)) → (nd1 - nd + 5 * (ec1 - ec) ≤ (2 * at1 - tz tk1) - (2 * at0 - tz tk0) - 1 - tz tk1) → (NdM Ax (nd) (nd1) (sy)) → wj X d jm304 (150, L, [], rV c0 c1 Gx Ax T) (fun o V' => ∃ (G' : Nat → Int) (A' : Nat → Nat → Int) (r : Int) (at2 : Int) (fk2 : Int) (nd2 : Int) (ln2 : Int) (ec2 : Int), V' = rV c0 c1 G' A' T ∧ o = .inl (some (.int (i32 r))) ∧ Wk G' A' ∧ Fr [9, 10, 11, 12, 13, 14, 15, 16, 17, 18, 31] [15, 16, 17, 18, 19, 20, 21, 22, 24, 28] G A G' A' ∧ Pf nd A A' ∧ ((-2147483648 : Int) ≤ r ∧ r ≤ 2147483647) ∧ G' 10 = at2 ∧ G' 16 = fk2 ∧ G' 31 = nd2 ∧ G' 9 = ln2 ∧ ecn A' (G' 31) = ec2 ∧ (at0 ≤ at2) ∧ (at2 ≤ le) ∧ (nd ≤ nd2) ∧ (0 ≤ r) ∧ (r ≤ nd2) ∧ (((1 ≤ fk2) ∧ (ln2 = ln) ∧ (nd2 - nd ≤ 2 * at2 - 2 * at0 + 8)) ∨ ((fk2 = 0) ∧ (ln2 = ln + 1) ∧ (nd2 - nd ≤ 2 * at2 - (2 * at0 - tz tk0) + 0) ∧ (nd ≤ r) ∧ (r < nd2) ∧ (wL A' sb pb Vs (r) (nd) (nd2)) ∧ (NX A' (r)) ∧ (nd2 - nd + 5 * (ec2 - ec) ≤ 2 * at2 - (2 * at0 - tz tk0) + 0) ∧ (NdM A' (nd) (nd2) (sy))))) := by
  have hF0 : Fr [9, 10, 11, 12, 13, 14, 15, 16, 17, 18, 31] [15, 16, 17, 18, 19, 20, 21, 22, 24, 28] G A G A := Fr_rf
  have hP0 : Pf nd A A := Pf_rf
  have b_ln : (0 : Int) ≤ ln ∧ ln ≤ 3000 := e_ln ▸ hW.1 9
  have b_le : (0 : Int) ≤ le ∧ le ≤ 3000 := e_le ▸ hW.2 4 _
  have b_at0 : (0 : Int) ≤ at0 ∧ at0 ≤ 3002 := e_at0 ▸ hW.1 10
  have b_fk : (0 : Int) ≤ fk ∧ fk ≤ 6 := e_fk ▸ hW.1 16
  have b_op0 : (-2147483648 : Int) ≤ op0 ∧ op0 ≤ 2147483647 := e_op0 ▸ hW.1 15
  have b_nd : (0 : Int) ≤ nd ∧ nd ≤ 6999 := e_nd ▸ hW.1 31
  have z_tk0 := tz_f tk0
  have b_tk0 : (0 : Int) ≤ tk0 ∧ tk0 ≤ 5 := e_tk0 ▸ hW.1 11
  have b_li : (0 : Int) ≤ li ∧ li ≤ 3000 := e_li ▸ hW.1 3
  have b_sy : (0 : Int) ≤ sy ∧ sy ≤ 202 := e_sy ▸ hW.1 19
  intro L Gx Ax s at1 tk1 fk1 nd1 op1 ks ec1 gL_0 gL_5 gL_4 gL_2 hWx hFx hPx ex_at1 ex_tk1 ex_fk1 ex_nd1 ex_op1 ex_ks ex_ec1 fx_9 rx_s iv_0 iv_1 iv_2 iv_3 iv_4 iv_5 iv_6 iv_7 iv_8 iv_9 iv_10 iv_11
  have b_at1 : (0 : Int) ≤ at1 ∧ at1 ≤ 3002 := ex_at1 ▸ hWx.1 10
  have z_tk1 := tz_f tk1
  have b_tk1 : (0 : Int) ≤ tk1 ∧ tk1 ≤ 5 := ex_tk1 ▸ hWx.1 11
  have b_fk1 : (0 : Int) ≤ fk1 ∧ fk1 ≤ 6 := ex_fk1 ▸ hWx.1 16
  have b_nd1 : (0 : Int) ≤ nd1 ∧ nd1 ≤ 6999 := ex_nd1 ▸ hWx.1 31
  have b_op1 : (-2147483648 : Int) ≤ op1 ∧ op1 ≤ 2147483647 := ex_op1 ▸ hWx.1 15
  have b_ks : (0 : Int) ≤ ks ∧ ks ≤ 14 := ex_ks ▸ hWx.2 7 _
  refine jx_ld (pc' := 151) (l' := L) (st' := [.ref 66]) rfl (jl_aloadn gL_0) ?_
  refine jx_ar (pc' := 153) (st' := [.int (i32 (22)), .ref 66]) rfl rfl rfl rfl ?_
  refine jx_ld (pc' := 154) (l' := L) (st' := [.ref 66, .int (i32 (22)), .ref 66]) rfl (jl_aloadn gL_0) ?_
  refine jx_ld (pc' := 156) (l' := L) (st' := [.int (i32 (0)), .ref 66, .int (i32 (22)), .ref 66]) rfl (jl_iload gL_5) ?_
  refine jx_if_eq (pc' := 159) (tg := 163) rfl rfl rfl (by decide) (by decide) (fun h997 => ?_) (fun h997 => ?_)
  · have _q := h997
    refine jx_ar (pc' := 164) (st' := [.int (i32 (2)), .ref 66, .int (i32 (22)), .ref 66]) rfl rfl rfl rfl ?_
    refine jx_ld (pc' := 165) (l' := L) (st' := [.int (i32 (s)), .int (i32 (2)), .ref 66, .int (i32 (22)), .ref 66]) rfl (jl_iloadn gL_2) ?_
    refine jx_ld (pc' := 167) (l' := L) (st' := [.int (i32 (0)), .int (i32 (s)), .int (i32 (2)), .ref 66, .int (i32 (22)), .ref 66]) rfl (jl_iload gL_4) ?_
    refine jx_ar (pc' := 168) (st' := [.int (i32 (0)), .int (i32 (0)), .int (i32 (s)), .int (i32 (2)), .ref 66, .int (i32 (22)), .ref 66]) rfl rfl rfl rfl ?_
    refine jx_ar (pc' := 169) (st' := [.int (i32 (0)), .int (i32 (0)), .int (i32 (0)), .int (i32 (s)), .int (i32 (2)), .ref 66, .int (i32 (22)), .ref 66]) rfl rfl rfl rfl ?_
    refine jx_vr (pc' := 172) (as := [.int (i32 (2)), .int (i32 (s)), .int (i32 (0)), .int (i32 (0)), .int (i32 (0))]) (st := [.int (i32 (22)), .ref 66]) rfl rfl rfl rfl ⟨rfl, rfl, Nat.le_of_ble_eq_true rfl⟩ rfl rfl (c_node_o (dd := d) (hd := by omega) (hW := hWx) (kind := 2) (a := s) (b := 0) (c := 0) (e := 0) (nd := nd1) (e_nd := show Gx 31 = nd1 from (ex_nd1)) (ec := ec1) (e_ec := show ecn Ax (Gx 31) = ec1 from ex_ec1) (sy := sy) (e_sy := show Gx 19 = sy from ((hFx.1 19 rfl).trans (e_sy)))  (h_kind := ⟨(by decide), (by decide)⟩) (h_a := ⟨(Int.le_trans (by decide : (-2147483648 : Int) ≤ -2147483648) rx_s.1), (Int.le_trans rx_s.2 (by decide : (2147483647 : Int) ≤ 2147483647))⟩) (h_b := ⟨(by decide), (by decide)⟩) (h_c := ⟨(by decide), (by decide)⟩) (h_e := ⟨(by decide), (by decide)⟩)  (p_0 := by omega) (p_1 := by omega) (p_2 := by omega)) (fun o V' hq => ?_)
    obtain ⟨G998, A999, nd2_1000, ec2_1001, rfl, rfl, hW1002, hF1003, hQ1004, e1005, e1006, p1007, p1008, p1009, p1010, -⟩ := hq
    have hF1012 := Fr_tr hFx hF1003 (Fr_sub (by decide)) (Fr_sub (by decide))
    have hP1013 := Pf_tr hPx hQ1004 (by omega)
    have sf1014 : NdM A999 (nd) (nd1) (sy) := NdM_pf hQ1004 (by omega) (by omega) iv_11
    have bnd2_1000 : (0 : Int) ≤ nd2_1000 ∧ nd2_1000 ≤ 6999 := e1005 ▸ hW1002.1 31
    refine .inr ⟨_, rfl, ?_⟩
    refine jx_ar (pc' := 173) (st' := [.int (i32 (0)), .int (i32 (nd1)), .int (i32 (22)), .ref 66]) rfl rfl rfl rfl ?_
    refine jx_ar (pc' := 174) (st' := [.int (i32 (0)), .int (i32 (0)), .int (i32 (nd1)), .int (i32 (22)), .ref 66]) rfl rfl rfl rfl ?_
    refine jx_ar (pc' := 175) (st' := [.int (i32 (0)), .int (i32 (0)), .int (i32 (0)), .int (i32 (nd1)), .int (i32 (22)), .ref 66]) rfl rfl rfl rfl ?_
    refine jx_vr (pc' := 178) (as := [.int (i32 (22)), .int (i32 (nd1)), .int (i32 (0)), .int (i32 (0)), .int (i32 (0))]) (st := []) rfl rfl rfl rfl ⟨rfl, rfl, Nat.le_of_ble_eq_true rfl⟩ rfl rfl (c_node_o (dd := d) (hd := by omega) (hW := hW1002) (kind := 22) (a := nd1) (b := 0) (c := 0) (e := 0) (nd := nd2_1000) (e_nd := show G998 31 = nd2_1000 from (e1005)) (ec := ec2_1001) (e_ec := show ecn A999 (G998 31) = ec2_1001 from e1006) (sy := sy) (e_sy := show G998 19 = sy from ((hF1003.1 19 rfl).trans ((hFx.1 19 rfl).trans (e_sy))))  (h_kind := ⟨(by decide), (by decide)⟩) (h_a := ⟨(Int.le_trans (by decide : (-2147483648 : Int) ≤ 0) b_nd1.1), (Int.le_trans b_nd1.2 (by decide : (6999 : Int) ≤ 2147483647))⟩) (h_b := ⟨(by decide), (by decide)⟩) (h_c := ⟨(by decide), (by decide)⟩) (h_e := ⟨(by decide), (by decide)⟩)  (p_0 := by omega) (p_1 := by omega) (p_2 := by omega)) (fun o V' hq => ?_)
    obtain ⟨G1015, A1016, nd2_1017, ec2_1018, rfl, rfl, hW1019, hF1020, hQ1021, e1022, e1023, p1024, p1025, p1026, p1027, -⟩ := hq
    have hF1029 := Fr_tr hF1012 hF1020 (Fr_sub (by decide)) (Fr_sub (by decide))
    have hP1030 := Pf_tr hP1013 hQ1021 (by omega)
    have sf1031 : NdM A1016 (nd) (nd1) (sy) := NdM_pf hQ1021 (by omega) (by omega) sf1014
    have sf1032 : ND A1016 (nd1) (2) (s) (0) (0) (0) (0) (0) := ND_ag (by omega) (Ag_pf hQ1021 (by omega)) p1009
    have sf1033 : NdM A1016 (nd1) (nd1 + 1) (sy) := NdM_pf hQ1021 (by omega) (by omega) p1010
    have bnd2_1017 : (0 : Int) ≤ nd2_1017 ∧ nd2_1017 ≤ 6999 := e1022 ▸ hW1019.1 31
    refine .inr ⟨_, rfl, ?_⟩
    refine jx_ld (pc' := 180) (l' := jSto1 L 6 (.int (i32 (nd2_1000)))) (st' := []) rfl rfl ?_
    obtain ⟨L1034, eL1034⟩ : ∃ q, q = jSto1 L 6 (.int (i32 (nd2_1000))) := ⟨_, rfl⟩
    rw [← eL1034]
    have gL1034_0 : jGet L1034 0 = some (.ref 66) := eL1034 ▸ jg_ne (by decide) gL_0 rfl
    have gL1034_5 : jGet L1034 5 = some (.int (i32 (0))) := eL1034 ▸ jg_ne (by decide) gL_5 rfl
    have gL1034_4 : jGet L1034 4 = some (.int (i32 (0))) := eL1034 ▸ jg_ne (by decide) gL_4 rfl
    have gL1034_2 : jGet L1034 2 = some (.int (i32 (s))) := eL1034 ▸ jg_ne (by decide) gL_2 rfl
    have gL1034_6 : jGet L1034 6 = some (.int (i32 (nd2_1000))) := eL1034 ▸ jg_eq
    refine jx_ld (pc' := 181) (l' := L1034) (st' := [.ref 66]) rfl (jl_aloadn gL1034_0) ?_
    refine jx_vr (pc' := 184) (as := []) (st := []) rfl rfl rfl rfl ⟨rfl, rfl, Nat.le_of_ble_eq_true rfl⟩ rfl rfl (c_next (dd := d) (hd := by omega) (hW := hW1019)  (ln := ln) (e_ln := show G1015 9 = ln from ((hF1020.1 9 rfl).trans ((hF1003.1 9 rfl).trans (fx_9)))) (le := le) (e_le := show A1016 4 (ln).toNat = le from (congrFun ((hF1020.2 4 rfl).trans ((hF1003.2 4 rfl).trans (hFx.2 4 rfl))) _).trans (e_le)) (at0 := at1) (e_at0 := show G1015 10 = at1 from ((hF1020.1 10 rfl).trans ((hF1003.1 10 rfl).trans (ex_at1))))    (p_0 := by omega)) (fun o V' hq => ?_)
    obtain ⟨G1035, A1036, at2_1037, tk2_1038, rfl, rfl, hW1039, hF1040, e1041, e1042, p1043, p1044, p1045, -⟩ := hq
    have hF1047 := Fr_tr hF1029 hF1040 (Fr_sub (by decide)) (Fr_sub (by decide))
    have hP1048 := Pf_f hP1030 hF1040 (by decide)
    have sf1049 : NdM A1036 (nd) (nd1) (sy) := NdM_f hF1040 (by decide) sf1031
    have sf1050 : ND A1036 (nd1) (2) (s) (0) (0) (0) (0) (0) := ND_ag (by omega) (Ag_fr hF1040 (by decide)) sf1032
    have sf1051 : NdM A1036 (nd1) (nd1 + 1) (sy) := NdM_f hF1040 (by decide) sf1033
    have sf1052 : ND A1036 (nd2_1000) (22) (nd1) (0) (0) (0) (0) (0) := ND_ag (by omega) (Ag_fr hF1040 (by decide)) p1026
    have sf1053 : NdM A1036 (nd2_1000) (nd2_1000 + 1) (sy) := NdM_f hF1040 (by decide) p1027
    have ec1054 : ecn A1036 (G1035 31) = ec2_1018 := (ecn_f (hF1040.2 15 rfl) (hF1040.1 31 rfl)).trans e1023
    have bat2_1037 : (0 : Int) ≤ at2_1037 ∧ at2_1037 ≤ 3002 := e1041 ▸ hW1039.1 10
    have ztk2_1038 := tz_b tk2_1038
    have btk2_1038 : (0 : Int) ≤ tk2_1038 ∧ tk2_1038 ≤ 5 := e1042 ▸ hW1039.1 11
    refine .inl ⟨rfl, ?_⟩
    have pz1055 : at1 + tz tk2_1038 ≤ at2_1037 := by omega
    refine jx_ld (pc' := 185) (l' := L1034) (st' := [.ref 66]) rfl (jl_aloadn gL1034_0) ?_
    refine jr_get (pc' := 188) (i := 35) (v := .ref 85) rfl rfl (by decide) rfl rfl ?_
    refine jx_ld (pc' := 190) (l' := L1034) (st' := [.int (i32 (nd2_1000)), .ref 85]) rfl (jl_iload gL1034_6) ?_
    refine jx_ld (pc' := 191) (l' := L1034) (st' := [.ref 66, .int (i32 (nd2_1000)), .ref 85]) rfl (jl_aloadn gL1034_0) ?_
    refine jx_vr (pc' := 194) (as := []) (st := [.int (i32 (nd2_1000)), .ref 85]) rfl rfl rfl rfl ⟨rfl, rfl, Nat.le_of_ble_eq_true rfl⟩ rfl rfl (REw_all X 9 (dd := d) (hd := by omega) (hW := hW1039)  (ln := ln) (e_ln := show G1035 9 = ln from ((hF1040.1 9 rfl).trans ((hF1020.1 9 rfl).trans ((hF1003.1 9 rfl).trans (fx_9))))) (le := le) (e_le := show A1036 4 (ln).toNat = le from (congrFun ((hF1040.2 4 rfl).trans ((hF1020.2 4 rfl).trans ((hF1003.2 4 rfl).trans (hFx.2 4 rfl)))) _).trans (e_le)) (at0 := at2_1037) (e_at0 := show G1035 10 = at2_1037 from (e1041)) (fk := fk1) (e_fk := show G1035 16 = fk1 from ((hF1040.1 16 rfl).trans ((hF1020.1 16 rfl).trans ((hF1003.1 16 rfl).trans (ex_fk1))))) (op0 := op1) (e_op0 := show G1035 15 = op1 from ((hF1040.1 15 rfl).trans ((hF1020.1 15 rfl).trans ((hF1003.1 15 rfl).trans (ex_op1))))) (nd := nd2_1017) (e_nd := show G1035 31 = nd2_1017 from ((hF1040.1 31 rfl).trans (e1022))) (tk0 := tk2_1038) (e_tk0 := show G1035 11 = tk2_1038 from (e1042)) (ec := ec2_1018) (e_ec := show ecn A1036 (G1035 31) = ec2_1018 from ec1054) (sy := sy) (e_sy := show G1035 19 = sy from ((hF1040.1 19 rfl).trans ((hF1020.1 19 rfl).trans ((hF1003.1 19 rfl).trans ((hFx.1 19 rfl).trans (e_sy)))))) (i_SV := (SV_ext (((hF1040.1 29 rfl).trans ((hF1020.1 29 rfl).trans ((hF1003.1 29 rfl).trans (hFx.1 29 rfl))))) (((hF1040.2 14 rfl).trans ((hF1020.2 14 rfl).trans ((hF1003.2 14 rfl).trans (hFx.2 14 rfl))))) i_SV))   (p_0 := by omega) (p_1 := by omega) (p_2 := by omega) (p_3 := by omega) (p_4 := by omega) (p_5 := by omega)) (fun o V' hq => ?_)
    obtain ⟨G1056, A1057, r1058, at2_1059, fk2_1060, op2_1061, nd2_1062, tk2_1063, ec2_1064, rfl, rfl, hW1065, hF1066, hQ1067, b1068, e1069, e1070, e1071, e1072, e1073, e1074, p1075, p1076, p1077, p1078, p1079, p1080, q1081⟩ := hq
    have hF1082 := Fr_tr hF1047 hF1066 (Fr_sub (by decide)) (Fr_sub (by decide))
    have hP1083 := Pf_tr hP1048 hQ1067 (by omega)
    have sf1084 : NdM A1057 (nd) (nd1) (sy) := NdM_pf hQ1067 (by omega) (by omega) sf1049
    have sf1085 : ND A1057 (nd1) (2) (s) (0) (0) (0) (0) (0) := ND_ag (by omega) (Ag_pf hQ1067 (by omega)) sf1050
    have sf1086 : NdM A1057 (nd1) (nd1 + 1) (sy) := NdM_pf hQ1067 (by omega) (by omega) sf1051
    have sf1087 : ND A1057 (nd2_1000) (22) (nd1) (0) (0) (0) (0) (0) := ND_ag (by omega) (Ag_pf hQ1067 (by omega)) sf1052
    have sf1088 : NdM A1057 (nd2_1000) (nd2_1000 + 1) (sy) := NdM_pf hQ1067 (by omega) (by omega) sf1053
    have bat2_1059 : (0 : Int) ≤ at2_1059 ∧ at2_1059 ≤ 3002 := e1069 ▸ hW1065.1 10
    have bfk2_1060 : (0 : Int) ≤ fk2_1060 ∧ fk2_1060 ≤ 6 := e1070 ▸ hW1065.1 16
    have bop2_1061 : (-2147483648 : Int) ≤ op2_1061 ∧ op2_1061 ≤ 2147483647 := e1071 ▸ hW1065.1 15
    have bnd2_1062 : (0 : Int) ≤ nd2_1062 ∧ nd2_1062 ≤ 6999 := e1072 ▸ hW1065.1 31
    have ztk2_1063 := tz_b tk2_1063
    have btk2_1063 : (0 : Int) ≤ tk2_1063 ∧ tk2_1063 ≤ 5 := e1073 ▸ hW1065.1 11
    refine .inr ⟨_, rfl, ?_⟩
    rcases q1081 with ⟨a1089, a1090, a1091, a1092, a1093, a1094⟩ | ⟨a1095, a1096, a1097⟩ | ⟨a1098, a1099, a1100, a1101, a1102, a1103, a1104⟩
    · have _q : True := trivial
      exfalso
      omega
    · have _q : True := trivial
      refine jr_st (pc' := 195) (i := 18) (m := 7000) (z := nd2_1000) (y := r1058) rfl (by decide) rfl (by decide) (by omega) (by omega) rfl ?_
      have hW1106 : Wk G1056 (uA A1057 18 (nd2_1000).toNat (r1058)) := Wk_a hW1065 (show (-2147483648 : Int) ≤ r1058 by omega) (show r1058 ≤ (2147483647 : Int) by omega)
      have hF1107 := Fr_a (z := r1058) (k := 18) (n := (nd2_1000).toNat) hF1082 (by decide)
      obtain ⟨A1105, eA1105⟩ : ∃ q, q = uA A1057 18 (nd2_1000).toNat (r1058) := ⟨_, rfl⟩
      rw [← eA1105]
      rw [← eA1105] at hW1106 hF1107
      have q1108 : A1105 18 (nd2_1000).toNat = r1058 := by rw [eA1105]; exact uA_eq
      have hP1109 : Pf nd A A1105 := eA1105 ▸ Pf_a hP1083 (z := nd2_1000) (by omega) (by omega)
      have sf1110 : NdM A1105 (nd) (nd1) (sy) := NdM_st eA1105 (by decide) sf1084
      have sf1111 : ND A1105 (nd1) (2) (s) (0) (0) (0) (0) (0) := ND_ag (by omega) (Ag_st eA1105 (by omega) (by omega)) sf1085
      have sf1112 : NdM A1105 (nd1) (nd1 + 1) (sy) := NdM_st eA1105 (by decide) sf1086
      have sf1113 : ND A1105 (nd2_1000) (22) (nd1) (r1058) (0) (0) (0) (0) := ND_b eA1105 sf1087
      have sf1114 : NdM A1105 (nd2_1000) (nd2_1000 + 1) (sy) := NdM_st eA1105 (by decide) sf1088
      have ec1115 : ecn A1105 (G1056 31) = ec2_1064 := (ecn_e ((congrFun eA1105 15).trans (uA_ne (by decide)))).trans e1074
      refine jx_ld (pc' := 196) (l' := L1034) (st' := [.ref 66]) rfl (jl_aloadn gL1034_0) ?_
      refine jx_vr (pc' := 199) (as := []) (st := []) rfl rfl rfl rfl ⟨rfl, rfl, Nat.le_of_ble_eq_true rfl⟩ rfl rfl (c_endLine (dd := d) (hd := by omega) (hW := hW1106)  (ln := ln) (e_ln := show G1056 9 = ln from ((hF1066.1 9 rfl).trans ((hF1040.1 9 rfl).trans ((hF1020.1 9 rfl).trans ((hF1003.1 9 rfl).trans (fx_9)))))) (li := li) (e_li := show G1056 3 = li from ((hF1066.1 3 rfl).trans ((hF1040.1 3 rfl).trans ((hF1020.1 3 rfl).trans ((hF1003.1 3 rfl).trans ((hFx.1 3 rfl).trans (e_li))))))) (fk := fk2_1060) (e_fk := show G1056 16 = fk2_1060 from (e1070)) (tk0 := tk2_1063) (e_tk0 := show G1056 11 = tk2_1063 from (e1073))    (p_0 := by omega)) (fun o V' hq => ?_)
      obtain ⟨G1116, A1117, ln2_1118, fk2_1119, rfl, rfl, hW1120, hF1121, e1122, e1123, q1124⟩ := hq
      have hF1125 := Fr_tr hF1107 hF1121 (Fr_sub (by decide)) (Fr_sub (by decide))
      have hP1126 := Pf_f hP1109 hF1121 (by decide)
      have sf1127 : NdM A1117 (nd) (nd1) (sy) := NdM_f hF1121 (by decide) sf1110
      have sf1128 : ND A1117 (nd1) (2) (s) (0) (0) (0) (0) (0) := ND_ag (by omega) (Ag_fr hF1121 (by decide)) sf1111
      have sf1129 : NdM A1117 (nd1) (nd1 + 1) (sy) := NdM_f hF1121 (by decide) sf1112
      have sf1130 : ND A1117 (nd2_1000) (22) (nd1) (r1058) (0) (0) (0) (0) := ND_ag (by omega) (Ag_fr hF1121 (by decide)) sf1113
      have sf1131 : NdM A1117 (nd2_1000) (nd2_1000 + 1) (sy) := NdM_f hF1121 (by decide) sf1114
      have ec1132 : ecn A1117 (G1116 31) = ec2_1064 := (ecn_f (hF1121.2 15 rfl) (hF1121.1 31 rfl)).trans ec1115
      have bln2_1118 : (0 : Int) ≤ ln2_1118 ∧ ln2_1118 ≤ 3000 := e1122 ▸ hW1120.1 9
      have bfk2_1119 : (0 : Int) ≤ fk2_1119 ∧ fk2_1119 ≤ 6 := e1123 ▸ hW1120.1 16
      refine .inl ⟨rfl, ?_⟩
      rcases q1124 with ⟨a1133, a1134, a1135, a1136, a1137⟩ | ⟨a1138, a1139⟩
      · have _q : True := trivial
        exfalso
        omega
      · have _q : True := trivial
        refine jx_ld (pc' := 201) (l' := L1034) (st' := [.int (i32 (nd2_1000))]) rfl (jl_iload gL1034_6) ?_
        refine jx_rt (v := some (.int (i32 (nd2_1000)))) rfl rfl rfl rfl rfl rfl ?_
        exact ⟨_, _, _, at2_1059, fk2_1119, nd2_1062, ln2_1118, ec2_1064, rfl, rfl, hW1120, hF1125, hP1126, by omega, ((hF1121.1 10 rfl).trans (e1069)), (e1123), ((hF1121.1 31 rfl).trans (e1072)), (e1122), ec1132, by omega, by omega, by omega, by omega, by omega, by first | exact Or.inl (⟨by omega, by omega, by omega⟩)⟩
    · have _q : True := trivial
      refine jr_st (pc' := 195) (i := 18) (m := 7000) (z := nd2_1000) (y := r1058) rfl (by decide) rfl (by decide) (by omega) (by omega) rfl ?_
      have hW1141 : Wk G1056 (uA A1057 18 (nd2_1000).toNat (r1058)) := Wk_a hW1065 (show (-2147483648 : Int) ≤ r1058 by omega) (show r1058 ≤ (2147483647 : Int) by omega)
      have hF1142 := Fr_a (z := r1058) (k := 18) (n := (nd2_1000).toNat) hF1082 (by decide)
      obtain ⟨A1140, eA1140⟩ : ∃ q, q = uA A1057 18 (nd2_1000).toNat (r1058) := ⟨_, rfl⟩
      rw [← eA1140]
      rw [← eA1140] at hW1141 hF1142
      have q1143 : A1140 18 (nd2_1000).toNat = r1058 := by rw [eA1140]; exact uA_eq
      have hP1144 : Pf nd A A1140 := eA1140 ▸ Pf_a hP1083 (z := nd2_1000) (by omega) (by omega)
      have sf1145 : NdM A1140 (nd) (nd1) (sy) := NdM_st eA1140 (by decide) sf1084
      have sf1146 : ND A1140 (nd1) (2) (s) (0) (0) (0) (0) (0) := ND_ag (by omega) (Ag_st eA1140 (by omega) (by omega)) sf1085
      have sf1147 : NdM A1140 (nd1) (nd1 + 1) (sy) := NdM_st eA1140 (by decide) sf1086
      have sf1148 : ND A1140 (nd2_1000) (22) (nd1) (r1058) (0) (0) (0) (0) := ND_b eA1140 sf1087
      have sf1149 : NdM A1140 (nd2_1000) (nd2_1000 + 1) (sy) := NdM_st eA1140 (by decide) sf1088
      have sf1150 : wE A1140 Vs sb (2 * 9 + 2) (r1058) (nd2_1017) (nd2_1062) := wE_ag (by omega) (Sg_ne eA1140 rfl) (Ag_st eA1140 (by omega) (by omega)) a1101
      have sf1151 : NdM A1140 (nd2_1017) (nd2_1062) (sy) := NdM_st eA1140 (by decide) a1103
      have ec1152 : ecn A1140 (G1056 31) = ec2_1064 := (ecn_e ((congrFun eA1140 15).trans (uA_ne (by decide)))).trans e1074
      refine jx_ld (pc' := 196) (l' := L1034) (st' := [.ref 66]) rfl (jl_aloadn gL1034_0) ?_
      refine jx_vr (pc' := 199) (as := []) (st := []) rfl rfl rfl rfl ⟨rfl, rfl, Nat.le_of_ble_eq_true rfl⟩ rfl rfl (c_endLine (dd := d) (hd := by omega) (hW := hW1141)  (ln := ln) (e_ln := show G1056 9 = ln from ((hF1066.1 9 rfl).trans ((hF1040.1 9 rfl).trans ((hF1020.1 9 rfl).trans ((hF1003.1 9 rfl).trans (fx_9)))))) (li := li) (e_li := show G1056 3 = li from ((hF1066.1 3 rfl).trans ((hF1040.1 3 rfl).trans ((hF1020.1 3 rfl).trans ((hF1003.1 3 rfl).trans ((hFx.1 3 rfl).trans (e_li))))))) (fk := fk2_1060) (e_fk := show G1056 16 = fk2_1060 from (e1070)) (tk0 := tk2_1063) (e_tk0 := show G1056 11 = tk2_1063 from (e1073))    (p_0 := by omega)) (fun o V' hq => ?_)
      obtain ⟨G1153, A1154, ln2_1155, fk2_1156, rfl, rfl, hW1157, hF1158, e1159, e1160, q1161⟩ := hq
      have hF1162 := Fr_tr hF1142 hF1158 (Fr_sub (by decide)) (Fr_sub (by decide))
      have hP1163 := Pf_f hP1144 hF1158 (by decide)
      have sf1164 : NdM A1154 (nd) (nd1) (sy) := NdM_f hF1158 (by decide) sf1145
      have sf1165 : ND A1154 (nd1) (2) (s) (0) (0) (0) (0) (0) := ND_ag (by omega) (Ag_fr hF1158 (by decide)) sf1146
      have sf1166 : NdM A1154 (nd1) (nd1 + 1) (sy) := NdM_f hF1158 (by decide) sf1147
      have sf1167 : ND A1154 (nd2_1000) (22) (nd1) (r1058) (0) (0) (0) (0) := ND_ag (by omega) (Ag_fr hF1158 (by decide)) sf1148
      have sf1168 : NdM A1154 (nd2_1000) (nd2_1000 + 1) (sy) := NdM_f hF1158 (by decide) sf1149
      have sf1169 : wE A1154 Vs sb (2 * 9 + 2) (r1058) (nd2_1017) (nd2_1062) := wE_ag (by omega) (Sg_fr hF1158 (by decide)) (Ag_fr hF1158 (by decide)) sf1150
      have sf1170 : NdM A1154 (nd2_1017) (nd2_1062) (sy) := NdM_f hF1158 (by decide) sf1151
      have ec1171 : ecn A1154 (G1153 31) = ec2_1064 := (ecn_f (hF1158.2 15 rfl) (hF1158.1 31 rfl)).trans ec1152
      have bln2_1155 : (0 : Int) ≤ ln2_1155 ∧ ln2_1155 ≤ 3000 := e1159 ▸ hW1157.1 9
      have bfk2_1156 : (0 : Int) ≤ fk2_1156 ∧ fk2_1156 ≤ 6 := e1160 ▸ hW1157.1 16
      refine .inl ⟨rfl, ?_⟩
      rcases q1161 with ⟨a1172, a1173, a1174, a1175, a1176⟩ | ⟨a1177, a1178⟩
      · have _q : True := trivial
        refine jx_ld (pc' := 201) (l' := L1034) (st' := [.int (i32 (nd2_1000))]) rfl (jl_iload gL1034_6) ?_
        refine jx_rt (v := some (.int (i32 (nd2_1000)))) rfl rfl rfl rfl rfl rfl ?_
        exact ⟨_, _, _, at2_1059, fk2_1156, nd2_1062, ln2_1155, ec2_1064, rfl, rfl, hW1157, hF1162, hP1163, by omega, ((hF1158.1 10 rfl).trans (e1069)), (e1160), ((hF1158.1 31 rfl).trans (e1072)), (e1159), ec1171, by omega, by omega, by omega, by omega, by omega, by first | exact Or.inr ((⟨by omega, by omega, by omega, by omega, by omega, (wL_set sf1167 (by omega) (by omega) (wR_var sf1165 (by omega) (by omega) iv_8 (kq (P := kRef (0)) (show A1154 7 (s).toNat = ks from (congrFun ((hF1158.2 7 rfl).trans (((congrFun eA1140 7).trans (uA_ne (by decide))).trans ((hF1066.2 7 rfl).trans ((hF1040.2 7 rfl).trans ((hF1020.2 7 rfl).trans (hF1003.2 7 rfl)))))) _).trans (ex_ks)) (by first | exact .inl ⟨by omega, iv_9⟩))) (wE_mono (by omega) (by omega) (by omega) sf1169)), (NX_nd sf1167), by omega, (NdM_w (NdM_app (sy := sy) sf1164 (NdM_app (sy := sy) sf1166 (NdM_app (sy := sy) sf1168 sf1170 (by omega) (by omega) (by omega)) (by omega) (by omega) (by omega)) (by omega) (by omega) (by omega)) (by omega) (by omega) (by omega))⟩))⟩
      · have _q : True := trivial
        refine jx_ld (pc' := 201) (l' := L1034) (st' := [.int (i32 (nd2_1000))]) rfl (jl_iload gL1034_6) ?_
        refine jx_rt (v := some (.int (i32 (nd2_1000)))) rfl rfl rfl rfl rfl rfl ?_
        exact ⟨_, _, _, at2_1059, fk2_1156, nd2_1062, ln2_1155, ec2_1064, rfl, rfl, hW1157, hF1162, hP1163, by omega, ((hF1158.1 10 rfl).trans (e1069)), (e1160), ((hF1158.1 31 rfl).trans (e1072)), (e1159), ec1171, by omega, by omega, by omega, by omega, by omega, by first | exact Or.inl (⟨by omega, by omega, by omega⟩)⟩
  · have _q := h997
    exact absurd h997 (by omega)
set_option maxRecDepth 20000 in
set_option maxHeartbeats 4000000 in
theorem c_readNamed_w_at_110_1 {X : jX} {d : Nat} {Vs : Nat → Prop} {sb pb : Int} {c0 c1 : jC} {G : Nat → Int} {A : Nat → Nat → Int} {T : jH} {ln le at0 fk op0 nd tk0 li ec sy : Int} (hd : 72 ≤ d + 1) (hW : Wk G A) (e_ln : G 9 = ln) (e_le : A 4 (ln).toNat = le) (e_at0 : G 10 = at0) (e_fk : G 16 = fk) (e_op0 : G 15 = op0) (e_nd : G 31 = nd) (e_tk0 : G 11 = tk0) (e_li : G 3 = li) (e_ec : ecn A (G 31) = ec) (e_sy : G 19 = sy) (i_SV : SV Vs sb G A) (i_PQ : PQ Vs sb pb G A) (p_0 : 0 ≤ op0 ∧ op0 ≤ 8) (p_1 : fk = 0) (p_2 : nd ≤ 2 * at0 - tz tk0 + 42) (p_3 : at0 ≤ le) (p_4 : ln < li) (p_5 : tk0 = 1) : ∀ (L : jL) (Gx : Nat → Int) (Ax : Nat → Nat → Int) (pl s ix at1 tk1 fk1 nd1 op1 ks ec1 : Int), jGet L 0 = some (.ref 66) → jGet L 5 = some (.int (i32 (1))) → jGet L 3 = some (.int (i32 (ks))) → jGet L 1 = some (.int (i32 pl)) → jGet L 2 = some (.int (i32 s)) → jGet L 4 = some (.int (i32 ix)) → Wk Gx Ax → Fr [9, 10, 11, 12, 13, 14, 15, 16, 17, 18, 31] [15, 16, 17, 18, 19, 20, 21, 22, 24, 28] G A Gx Ax → Pf nd A Ax → Gx 10 = at1 → Gx 11 = tk1 → Gx 16 = fk1 → Gx 31 = nd1 → Gx 15 = op1 → Ax 7 (s).toNat = ks → ecn Ax (Gx 31) = ec1 → Gx 9 = ln → ((-2147483648 : Int) ≤ pl ∧ pl ≤ 2147483647) → ((-2147483648 : Int) ≤ s ∧ s ≤ 2147483647) → ((-2147483648 : Int) ≤ ix ∧ ix ≤ 2147483647) → (at0 ≤ at1) → (at1 ≤ le) → (nd ≤ nd1) → (op1 = op0) → (fk1 = 0) → (nd1 - nd ≤ (2 * at1 - tz tk1) - (2 * at0 - tz tk0) - 1) → (0 ≤ s ∧ s ≤ 201) → (-3000 ≤ pl ∧ pl ≤ 3002) → (SY Vs sb (s)) → (wE Ax Vs sb (20) (ix) (nd) (nd1)) → (nd1 - nd + 5 * (ec1 - ec) ≤ (2 * at1 - tz tk1) - (2 * at0 - tz tk0) - 6 - tz tk1) → (NdM Ax (nd) (nd1) (sy)) → wj X d jm304 (110, L, [], rV c0 c1 Gx Ax T) (fun o V' => ∃ (G' : Nat → Int) (A' : Nat → Nat → Int) (r : Int) (at2 : Int) (fk2 : Int) (nd2 : Int) (ln2 : Int) (ec2 : Int), V' = rV c0 c1 G' A' T ∧ o = .inl (some (.int (i32 r))) ∧ Wk G' A' ∧ Fr [9, 10, 11, 12, 13, 14, 15, 16, 17, 18, 31] [15, 16, 17, 18, 19, 20, 21, 22, 24, 28] G A G' A' ∧ Pf nd A A' ∧ ((-2147483648 : Int) ≤ r ∧ r ≤ 2147483647) ∧ G' 10 = at2 ∧ G' 16 = fk2 ∧ G' 31 = nd2 ∧ G' 9 = ln2 ∧ ecn A' (G' 31) = ec2 ∧ (at0 ≤ at2) ∧ (at2 ≤ le) ∧ (nd ≤ nd2) ∧ (0 ≤ r) ∧ (r ≤ nd2) ∧ (((1 ≤ fk2) ∧ (ln2 = ln) ∧ (nd2 - nd ≤ 2 * at2 - 2 * at0 + 8)) ∨ ((fk2 = 0) ∧ (ln2 = ln + 1) ∧ (nd2 - nd ≤ 2 * at2 - (2 * at0 - tz tk0) + 0) ∧ (nd ≤ r) ∧ (r < nd2) ∧ (wL A' sb pb Vs (r) (nd) (nd2)) ∧ (NX A' (r)) ∧ (nd2 - nd + 5 * (ec2 - ec) ≤ 2 * at2 - (2 * at0 - tz tk0) + 0) ∧ (NdM A' (nd) (nd2) (sy))))) := by
  have hF0 : Fr [9, 10, 11, 12, 13, 14, 15, 16, 17, 18, 31] [15, 16, 17, 18, 19, 20, 21, 22, 24, 28] G A G A := Fr_rf
  have hP0 : Pf nd A A := Pf_rf
  have b_ln : (0 : Int) ≤ ln ∧ ln ≤ 3000 := e_ln ▸ hW.1 9
  have b_le : (0 : Int) ≤ le ∧ le ≤ 3000 := e_le ▸ hW.2 4 _
  have b_at0 : (0 : Int) ≤ at0 ∧ at0 ≤ 3002 := e_at0 ▸ hW.1 10
  have b_fk : (0 : Int) ≤ fk ∧ fk ≤ 6 := e_fk ▸ hW.1 16
  have b_op0 : (-2147483648 : Int) ≤ op0 ∧ op0 ≤ 2147483647 := e_op0 ▸ hW.1 15
  have b_nd : (0 : Int) ≤ nd ∧ nd ≤ 6999 := e_nd ▸ hW.1 31
  have z_tk0 := tz_f tk0
  have b_tk0 : (0 : Int) ≤ tk0 ∧ tk0 ≤ 5 := e_tk0 ▸ hW.1 11
  have b_li : (0 : Int) ≤ li ∧ li ≤ 3000 := e_li ▸ hW.1 3
  have b_sy : (0 : Int) ≤ sy ∧ sy ≤ 202 := e_sy ▸ hW.1 19
  intro L Gx Ax pl s ix at1 tk1 fk1 nd1 op1 ks ec1 gL_0 gL_5 gL_3 gL_1 gL_2 gL_4 hWx hFx hPx ex_at1 ex_tk1 ex_fk1 ex_nd1 ex_op1 ex_ks ex_ec1 fx_9 rx_pl rx_s rx_ix iv_0 iv_1 iv_2 iv_3 iv_4 iv_5 iv_6 iv_7 iv_8 iv_9 iv_10 iv_11
  have b_at1 : (0 : Int) ≤ at1 ∧ at1 ≤ 3002 := ex_at1 ▸ hWx.1 10
  have z_tk1 := tz_f tk1
  have b_tk1 : (0 : Int) ≤ tk1 ∧ tk1 ≤ 5 := ex_tk1 ▸ hWx.1 11
  have b_fk1 : (0 : Int) ≤ fk1 ∧ fk1 ≤ 6 := ex_fk1 ▸ hWx.1 16
  have b_nd1 : (0 : Int) ≤ nd1 ∧ nd1 ≤ 6999 := ex_nd1 ▸ hWx.1 31
  have b_op1 : (-2147483648 : Int) ≤ op1 ∧ op1 ≤ 2147483647 := ex_op1 ▸ hWx.1 15
  have b_ks : (0 : Int) ≤ ks ∧ ks ≤ 14 := ex_ks ▸ hWx.2 7 _
  refine jx_ld (pc' := 111) (l' := L) (st' := [.ref 66]) rfl (jl_aloadn gL_0) ?_
  refine jx_ar (pc' := 114) (st' := [.int (i32 (300)), .ref 66]) rfl rfl rfl rfl ?_
  have b1179 : (-2147483648 : Int) ≤ Gx 13 ∧ Gx 13 ≤ 2147483647 := hWx.1 13
  refine jx_vr (pc' := 117) (as := [.int (i32 (300))]) (st := []) rfl rfl rfl rfl ⟨rfl, rfl, Nat.le_of_ble_eq_true rfl⟩ rfl rfl (c_is (dd := d) (hd := by omega) (hW := hWx) (k := 300) (tk := tk1) (e_tk := show Gx 11 = tk1 from (ex_tk1)) (tn := Gx 13) (e_tn := show Gx 13 = Gx 13 from rfl)  (h_k := ⟨(by decide), (by decide)⟩)  ) (fun o V' hq => ?_)
  obtain ⟨r1180, rfl, rfl, b1181, q1182⟩ := hq
  refine .inr ⟨_, rfl, ?_⟩
  rcases q1182 with ⟨rfl, a1183, a1184, a1185⟩ | rfl
  · have _q : True := trivial
    refine jx_if_eq (pc' := 120) (tg := 202) rfl rfl rfl (by decide) (by decide) (fun h1186 => ?_) (fun h1186 => ?_)
    · have _q := h1186
      exact absurd h1186 (by omega)
    · have _q := h1186
      refine jx_ld (pc' := 122) (l' := L) (st' := [.int (i32 (1))]) rfl (jl_iload gL_5) ?_
      refine jx_if_eq (pc' := 125) (tg := 135) rfl rfl rfl (by decide) (by decide) (fun h1187 => ?_) (fun h1187 => ?_)
      · have _q := h1187
        exact absurd h1187 (by omega)
      · have _q := h1187
        refine jx_ld (pc' := 126) (l' := L) (st' := [.int (i32 (ks))]) rfl (jl_iloadn gL_3) ?_
        refine jx_st (pc' := 129) (as := [.int (i32 (ks))]) (st := []) rfl rfl ⟨rfl, Nat.le_of_ble_eq_true rfl⟩ rfl rfl rfl (c_isArray (dd := d) (hd := by omega) (k := ks)   (h_k := ⟨(Int.le_trans (by decide : (-2147483648 : Int) ≤ 0) b_ks.1), (Int.le_trans b_ks.2 (by decide : (14 : Int) ≤ 2147483647))⟩)  ) (fun o V' hq => ?_)
        obtain ⟨r1188, rfl, rfl, b1189, q1190⟩ := hq
        refine .inr ⟨_, rfl, ?_⟩
        rcases q1190 with ⟨rfl, a1191⟩ | rfl
        · have _q : True := trivial
          refine jx_if_ne (pc' := 132) (tg := 150) rfl rfl rfl (by decide) (by decide) (fun h1192 => ?_) (fun h1192 => ?_)
          · have _q := h1192
            have z1193 := tz_f (tk1)
            exact c_readNamed_w_at_150_1 (X := X) (d := d) (Vs := Vs) (sb := sb) (pb := pb) (c0 := c0) (c1 := c1) (G := G) (A := A) (T := T) (ln := ln) (le := le) (at0 := at0) (fk := fk) (op0 := op0) (nd := nd) (tk0 := tk0) (li := li) (ec := ec) (sy := sy) (hd := hd) (hW := hW) (e_ln := e_ln) (e_le := e_le) (e_at0 := e_at0) (e_fk := e_fk) (e_op0 := e_op0) (e_nd := e_nd) (e_tk0 := e_tk0) (e_li := e_li) (e_ec := e_ec) (e_sy := e_sy) (i_SV := i_SV) (i_PQ := i_PQ) (p_0 := p_0) (p_1 := p_1) (p_2 := p_2) (p_3 := p_3) (p_4 := p_4) (p_5 := p_5) L Gx Ax (s) (ix) (at1) (tk1) (fk1) (nd1) (op1) (ks) (ec1) gL_0 gL_5 gL_2 gL_4 hWx hFx hPx ((ex_at1)) ((ex_tk1)) ((ex_fk1)) ((ex_nd1)) ((ex_op1)) ((ex_ks)) (ex_ec1) ((fx_9)) (by omega) (by omega) (by omega) (by omega) (by omega) (by omega) (by omega) (by omega) (by omega) (by omega) (iv_8) (a1191) (iv_9) (by omega) (iv_11)
          · have _q := h1192
            exact absurd h1192 (by omega)
        · have _q : True := trivial
          refine jx_if_ne (pc' := 132) (tg := 150) rfl rfl rfl (by decide) (by decide) (fun h1194 => ?_) (fun h1194 => ?_)
          · have _q := h1194
            exact absurd h1194 (by omega)
          · have _q := h1194
            refine jx_go (tg := 142) rfl rfl ?_
            refine jx_ld (pc' := 143) (l' := L) (st' := [.ref 66]) rfl (jl_aloadn gL_0) ?_
            refine jx_ar (pc' := 144) (st' := [.int (i32 (4)), .ref 66]) rfl rfl rfl rfl ?_
            refine jx_ld (pc' := 145) (l' := L) (st' := [.int (i32 (pl)), .int (i32 (4)), .ref 66]) rfl (jl_iloadn gL_1) ?_
            refine jx_vr (pc' := 148) (as := [.int (i32 (4)), .int (i32 (pl))]) (st := []) rfl rfl rfl rfl ⟨rfl, rfl, Nat.le_of_ble_eq_true rfl⟩ rfl rfl (c_fail (dd := d) (hd := by omega) (hW := hWx) (kind := 4) (place := pl) (fk := fk1) (e_fk := show Gx 16 = fk1 from (ex_fk1))  (h_kind := ⟨(by decide), (by decide)⟩) (h_place := ⟨(Int.le_trans (by decide : (-2147483648 : Int) ≤ -2147483648) rx_pl.1), (Int.le_trans rx_pl.2 (by decide : (2147483647 : Int) ≤ 2147483647))⟩)  (p_0 := by omega) (p_1 := by omega)) (fun o V' hq => ?_)
            obtain ⟨G1195, A1196, fk2_1197, rfl, rfl, hW1198, hF1199, e1200, p1201, -⟩ := hq
            have hF1203 := Fr_tr hFx hF1199 (Fr_sub (by decide)) (Fr_sub (by decide))
            have hP1204 := Pf_f hPx hF1199 (by decide)
            have sf1205 : wE A1196 Vs sb (20) (ix) (nd) (nd1) := wE_ag (by omega) (Sg_fr hF1199 (by decide)) (Ag_fr hF1199 (by decide)) iv_9
            have sf1206 : NdM A1196 (nd) (nd1) (sy) := NdM_f hF1199 (by decide) iv_11
            have ec1207 : ecn A1196 (G1195 31) = ec1 := (ecn_f (hF1199.2 15 rfl) (hF1199.1 31 rfl)).trans ex_ec1
            have bfk2_1197 : (0 : Int) ≤ fk2_1197 ∧ fk2_1197 ≤ 6 := e1200 ▸ hW1198.1 16
            refine .inl ⟨rfl, ?_⟩
            refine jx_ar (pc' := 149) (st' := [.int (i32 (0))]) rfl rfl rfl rfl ?_
            refine jx_rt (v := some (.int (i32 (0)))) rfl rfl rfl rfl rfl rfl ?_
            exact ⟨_, _, _, at1, fk2_1197, nd1, ln, ec1, rfl, rfl, hW1198, hF1203, hP1204, by omega, ((hF1199.1 10 rfl).trans (ex_at1)), (e1200), ((hF1199.1 31 rfl).trans (ex_nd1)), ((hF1199.1 9 rfl).trans (fx_9)), ec1207, by omega, by omega, by omega, by omega, by omega, by first | exact Or.inl (⟨by omega, by omega, by omega⟩)⟩
  · have _q : True := trivial
    refine jx_if_eq (pc' := 120) (tg := 202) rfl rfl rfl (by decide) (by decide) (fun h1208 => ?_) (fun h1208 => ?_)
    · have _q := h1208
      refine jx_ld (pc' := 203) (l' := L) (st' := [.ref 66]) rfl (jl_aloadn gL_0) ?_
      refine jx_ar (pc' := 205) (st' := [.int (i32 (33)), .ref 66]) rfl rfl rfl rfl ?_
      refine jx_vr (pc' := 208) (as := [.int (i32 (33))]) (st := []) rfl rfl rfl rfl ⟨rfl, rfl, Nat.le_of_ble_eq_true rfl⟩ rfl rfl (c_is (dd := d) (hd := by omega) (hW := hWx) (k := 33) (tk := tk1) (e_tk := show Gx 11 = tk1 from (ex_tk1)) (tn := Gx 13) (e_tn := show Gx 13 = Gx 13 from rfl)  (h_k := ⟨(by decide), (by decide)⟩)  ) (fun o V' hq => ?_)
      obtain ⟨r1209, rfl, rfl, b1210, q1211⟩ := hq
      refine .inr ⟨_, rfl, ?_⟩
      rcases q1211 with ⟨rfl, a1212, a1213, a1214⟩ | rfl
      · have _q : True := trivial
        refine jx_if_ne (pc' := 211) (tg := 231) rfl rfl rfl (by decide) (by decide) (fun h1215 => ?_) (fun h1215 => ?_)
        · have _q := h1215
          have z1216 := tz_f (tk1)
          exact c_readNamed_w_at_231_1 (X := X) (d := d) (Vs := Vs) (sb := sb) (pb := pb) (c0 := c0) (c1 := c1) (G := G) (A := A) (T := T) (ln := ln) (le := le) (at0 := at0) (fk := fk) (op0 := op0) (nd := nd) (tk0 := tk0) (li := li) (ec := ec) (sy := sy) (hd := hd) (hW := hW) (e_ln := e_ln) (e_le := e_le) (e_at0 := e_at0) (e_fk := e_fk) (e_op0 := e_op0) (e_nd := e_nd) (e_tk0 := e_tk0) (e_li := e_li) (e_ec := e_ec) (e_sy := e_sy) (i_SV := i_SV) (i_PQ := i_PQ) (p_0 := p_0) (p_1 := p_1) (p_2 := p_2) (p_3 := p_3) (p_4 := p_4) (p_5 := p_5) L Gx Ax (pl) (s) (ix) (at1) (tk1) (fk1) (nd1) (op1) (ks) (ec1) gL_0 gL_5 gL_3 gL_1 gL_2 gL_4 hWx hFx hPx ((ex_at1)) ((ex_tk1)) ((ex_fk1)) ((ex_nd1)) ((ex_op1)) ((ex_ks)) (ex_ec1) ((fx_9)) (by omega) (by omega) (by omega) (by omega) (by omega) (by omega) (by omega) (by omega) (by omega) (by omega) (by omega) (by omega) (iv_8) (iv_9) (by omega) (iv_11)
        · have _q := h1215
          exact absurd h1215 (by omega)
      · have _q : True := trivial
        refine jx_if_ne (pc' := 211) (tg := 231) rfl rfl rfl (by decide) (by decide) (fun h1217 => ?_) (fun h1217 => ?_)
        · have _q := h1217
          exact absurd h1217 (by omega)
        · have _q := h1217
          refine jx_ld (pc' := 212) (l' := L) (st' := [.ref 66]) rfl (jl_aloadn gL_0) ?_
          refine jx_ar (pc' := 214) (st' := [.int (i32 (63)), .ref 66]) rfl rfl rfl rfl ?_
          refine jx_vr (pc' := 217) (as := [.int (i32 (63))]) (st := []) rfl rfl rfl rfl ⟨rfl, rfl, Nat.le_of_ble_eq_true rfl⟩ rfl rfl (c_is (dd := d) (hd := by omega) (hW := hWx) (k := 63) (tk := tk1) (e_tk := show Gx 11 = tk1 from (ex_tk1)) (tn := Gx 13) (e_tn := show Gx 13 = Gx 13 from rfl)  (h_k := ⟨(by decide), (by decide)⟩)  ) (fun o V' hq => ?_)
          obtain ⟨r1218, rfl, rfl, b1219, q1220⟩ := hq
          refine .inr ⟨_, rfl, ?_⟩
          rcases q1220 with ⟨rfl, a1221, a1222, a1223⟩ | rfl
          · have _q : True := trivial
            refine jx_if_ne (pc' := 220) (tg := 231) rfl rfl rfl (by decide) (by decide) (fun h1224 => ?_) (fun h1224 => ?_)
            · have _q := h1224
              have z1225 := tz_f (tk1)
              exact c_readNamed_w_at_231_1 (X := X) (d := d) (Vs := Vs) (sb := sb) (pb := pb) (c0 := c0) (c1 := c1) (G := G) (A := A) (T := T) (ln := ln) (le := le) (at0 := at0) (fk := fk) (op0 := op0) (nd := nd) (tk0 := tk0) (li := li) (ec := ec) (sy := sy) (hd := hd) (hW := hW) (e_ln := e_ln) (e_le := e_le) (e_at0 := e_at0) (e_fk := e_fk) (e_op0 := e_op0) (e_nd := e_nd) (e_tk0 := e_tk0) (e_li := e_li) (e_ec := e_ec) (e_sy := e_sy) (i_SV := i_SV) (i_PQ := i_PQ) (p_0 := p_0) (p_1 := p_1) (p_2 := p_2) (p_3 := p_3) (p_4 := p_4) (p_5 := p_5) L Gx Ax (pl) (s) (ix) (at1) (tk1) (fk1) (nd1) (op1) (ks) (ec1) gL_0 gL_5 gL_3 gL_1 gL_2 gL_4 hWx hFx hPx ((ex_at1)) ((ex_tk1)) ((ex_fk1)) ((ex_nd1)) ((ex_op1)) ((ex_ks)) (ex_ec1) ((fx_9)) (by omega) (by omega) (by omega) (by omega) (by omega) (by omega) (by omega) (by omega) (by omega) (by omega) (by omega) (by omega) (iv_8) (iv_9) (by omega) (iv_11)
            · have _q := h1224
              exact absurd h1224 (by omega)
          · have _q : True := trivial
            refine jx_if_ne (pc' := 220) (tg := 231) rfl rfl rfl (by decide) (by decide) (fun h1226 => ?_) (fun h1226 => ?_)
            · have _q := h1226
              exact absurd h1226 (by omega)
            · have _q := h1226
              refine jx_ld (pc' := 221) (l' := L) (st' := [.ref 66]) rfl (jl_aloadn gL_0) ?_
              refine jx_ar (pc' := 222) (st' := [.int (i32 (1)), .ref 66]) rfl rfl rfl rfl ?_
              refine jx_ld (pc' := 223) (l' := L) (st' := [.ref 66, .int (i32 (1)), .ref 66]) rfl (jl_aloadn gL_0) ?_
              have b1227 : (-3000 : Int) ≤ Gx 12 ∧ Gx 12 ≤ 3002 := hWx.1 12
              refine jr_get (pc' := 226) (i := 12) (v := .int (i32 (Gx 12))) rfl rfl (by decide) rfl rfl ?_
              refine jx_vr (pc' := 229) (as := [.int (i32 (1)), .int (i32 (Gx 12))]) (st := []) rfl rfl rfl rfl ⟨rfl, rfl, Nat.le_of_ble_eq_true rfl⟩ rfl rfl (c_fail (dd := d) (hd := by omega) (hW := hWx) (kind := 1) (place := Gx 12) (fk := fk1) (e_fk := show Gx 16 = fk1 from (ex_fk1))  (h_kind := ⟨(by decide), (by decide)⟩) (h_place := ⟨(Int.le_trans (by decide : (-2147483648 : Int) ≤ -3000) b1227.1), (Int.le_trans b1227.2 (by decide : (3002 : Int) ≤ 2147483647))⟩)  (p_0 := by omega) (p_1 := by omega)) (fun o V' hq => ?_)
              obtain ⟨G1228, A1229, fk2_1230, rfl, rfl, hW1231, hF1232, e1233, p1234, -⟩ := hq
              have hF1236 := Fr_tr hFx hF1232 (Fr_sub (by decide)) (Fr_sub (by decide))
              have hP1237 := Pf_f hPx hF1232 (by decide)
              have sf1238 : wE A1229 Vs sb (20) (ix) (nd) (nd1) := wE_ag (by omega) (Sg_fr hF1232 (by decide)) (Ag_fr hF1232 (by decide)) iv_9
              have sf1239 : NdM A1229 (nd) (nd1) (sy) := NdM_f hF1232 (by decide) iv_11
              have ec1240 : ecn A1229 (G1228 31) = ec1 := (ecn_f (hF1232.2 15 rfl) (hF1232.1 31 rfl)).trans ex_ec1
              have bfk2_1230 : (0 : Int) ≤ fk2_1230 ∧ fk2_1230 ≤ 6 := e1233 ▸ hW1231.1 16
              refine .inl ⟨rfl, ?_⟩
              refine jx_ar (pc' := 230) (st' := [.int (i32 (0))]) rfl rfl rfl rfl ?_
              refine jx_rt (v := some (.int (i32 (0)))) rfl rfl rfl rfl rfl rfl ?_
              exact ⟨_, _, _, at1, fk2_1230, nd1, ln, ec1, rfl, rfl, hW1231, hF1236, hP1237, by omega, ((hF1232.1 10 rfl).trans (ex_at1)), (e1233), ((hF1232.1 31 rfl).trans (ex_nd1)), ((hF1232.1 9 rfl).trans (fx_9)), ec1240, by omega, by omega, by omega, by omega, by omega, by first | exact Or.inl (⟨by omega, by omega, by omega⟩)⟩
    · have _q := h1208
      exact absurd h1208 (by omega)
set_option maxRecDepth 20000 in
set_option maxHeartbeats 4000000 in
theorem c_readNamed_w_at_110_0 {X : jX} {d : Nat} {Vs : Nat → Prop} {sb pb : Int} {c0 c1 : jC} {G : Nat → Int} {A : Nat → Nat → Int} {T : jH} {ln le at0 fk op0 nd tk0 li ec sy : Int} (hd : 72 ≤ d + 1) (hW : Wk G A) (e_ln : G 9 = ln) (e_le : A 4 (ln).toNat = le) (e_at0 : G 10 = at0) (e_fk : G 16 = fk) (e_op0 : G 15 = op0) (e_nd : G 31 = nd) (e_tk0 : G 11 = tk0) (e_li : G 3 = li) (e_ec : ecn A (G 31) = ec) (e_sy : G 19 = sy) (i_SV : SV Vs sb G A) (i_PQ : PQ Vs sb pb G A) (p_0 : 0 ≤ op0 ∧ op0 ≤ 8) (p_1 : fk = 0) (p_2 : nd ≤ 2 * at0 - tz tk0 + 42) (p_3 : at0 ≤ le) (p_4 : ln < li) (p_5 : tk0 = 1) : ∀ (L : jL) (Gx : Nat → Int) (Ax : Nat → Nat → Int) (pl s at1 tk1 fk1 nd1 op1 ks ec1 : Int), jGet L 0 = some (.ref 66) → jGet L 5 = some (.int (i32 (0))) → jGet L 3 = some (.int (i32 (ks))) → jGet L 4 = some (.int (i32 (0))) → jGet L 1 = some (.int (i32 pl)) → jGet L 2 = some (.int (i32 s)) → Wk Gx Ax → Fr [9, 10, 11, 12, 13, 14, 15, 16, 17, 18, 31] [15, 16, 17, 18, 19, 20, 21, 22, 24, 28] G A Gx Ax → Pf nd A Ax → Gx 10 = at1 → Gx 11 = tk1 → Gx 16 = fk1 → Gx 31 = nd1 → Gx 15 = op1 → Ax 7 (s).toNat = ks → ecn Ax (Gx 31) = ec1 → Gx 9 = ln → ((-2147483648 : Int) ≤ pl ∧ pl ≤ 2147483647) → ((-2147483648 : Int) ≤ s ∧ s ≤ 2147483647) → (at0 ≤ at1) → (at1 ≤ le) → (nd ≤ nd1) → (op1 = op0) → (fk1 = 0) → (nd1 - nd ≤ (2 * at1 - tz tk1) - (2 * at0 - tz tk0) - 1) → (0 ≤ s ∧ s ≤ 201) → (-3000 ≤ pl ∧ pl ≤ 3002) → (SY Vs sb (s)) → (nd1 - nd + 5 * (ec1 - ec) ≤ (2 * at1 - tz tk1) - (2 * at0 - tz tk0) - 1 - tz tk1) → (NdM Ax (nd) (nd1) (sy)) → wj X d jm304 (110, L, [], rV c0 c1 Gx Ax T) (fun o V' => ∃ (G' : Nat → Int) (A' : Nat → Nat → Int) (r : Int) (at2 : Int) (fk2 : Int) (nd2 : Int) (ln2 : Int) (ec2 : Int), V' = rV c0 c1 G' A' T ∧ o = .inl (some (.int (i32 r))) ∧ Wk G' A' ∧ Fr [9, 10, 11, 12, 13, 14, 15, 16, 17, 18, 31] [15, 16, 17, 18, 19, 20, 21, 22, 24, 28] G A G' A' ∧ Pf nd A A' ∧ ((-2147483648 : Int) ≤ r ∧ r ≤ 2147483647) ∧ G' 10 = at2 ∧ G' 16 = fk2 ∧ G' 31 = nd2 ∧ G' 9 = ln2 ∧ ecn A' (G' 31) = ec2 ∧ (at0 ≤ at2) ∧ (at2 ≤ le) ∧ (nd ≤ nd2) ∧ (0 ≤ r) ∧ (r ≤ nd2) ∧ (((1 ≤ fk2) ∧ (ln2 = ln) ∧ (nd2 - nd ≤ 2 * at2 - 2 * at0 + 8)) ∨ ((fk2 = 0) ∧ (ln2 = ln + 1) ∧ (nd2 - nd ≤ 2 * at2 - (2 * at0 - tz tk0) + 0) ∧ (nd ≤ r) ∧ (r < nd2) ∧ (wL A' sb pb Vs (r) (nd) (nd2)) ∧ (NX A' (r)) ∧ (nd2 - nd + 5 * (ec2 - ec) ≤ 2 * at2 - (2 * at0 - tz tk0) + 0) ∧ (NdM A' (nd) (nd2) (sy))))) := by
  have hF0 : Fr [9, 10, 11, 12, 13, 14, 15, 16, 17, 18, 31] [15, 16, 17, 18, 19, 20, 21, 22, 24, 28] G A G A := Fr_rf
  have hP0 : Pf nd A A := Pf_rf
  have b_ln : (0 : Int) ≤ ln ∧ ln ≤ 3000 := e_ln ▸ hW.1 9
  have b_le : (0 : Int) ≤ le ∧ le ≤ 3000 := e_le ▸ hW.2 4 _
  have b_at0 : (0 : Int) ≤ at0 ∧ at0 ≤ 3002 := e_at0 ▸ hW.1 10
  have b_fk : (0 : Int) ≤ fk ∧ fk ≤ 6 := e_fk ▸ hW.1 16
  have b_op0 : (-2147483648 : Int) ≤ op0 ∧ op0 ≤ 2147483647 := e_op0 ▸ hW.1 15
  have b_nd : (0 : Int) ≤ nd ∧ nd ≤ 6999 := e_nd ▸ hW.1 31
  have z_tk0 := tz_f tk0
  have b_tk0 : (0 : Int) ≤ tk0 ∧ tk0 ≤ 5 := e_tk0 ▸ hW.1 11
  have b_li : (0 : Int) ≤ li ∧ li ≤ 3000 := e_li ▸ hW.1 3
  have b_sy : (0 : Int) ≤ sy ∧ sy ≤ 202 := e_sy ▸ hW.1 19
  intro L Gx Ax pl s at1 tk1 fk1 nd1 op1 ks ec1 gL_0 gL_5 gL_3 gL_4 gL_1 gL_2 hWx hFx hPx ex_at1 ex_tk1 ex_fk1 ex_nd1 ex_op1 ex_ks ex_ec1 fx_9 rx_pl rx_s iv_0 iv_1 iv_2 iv_3 iv_4 iv_5 iv_6 iv_7 iv_8 iv_9 iv_10
  have b_at1 : (0 : Int) ≤ at1 ∧ at1 ≤ 3002 := ex_at1 ▸ hWx.1 10
  have z_tk1 := tz_f tk1
  have b_tk1 : (0 : Int) ≤ tk1 ∧ tk1 ≤ 5 := ex_tk1 ▸ hWx.1 11
  have b_fk1 : (0 : Int) ≤ fk1 ∧ fk1 ≤ 6 := ex_fk1 ▸ hWx.1 16
  have b_nd1 : (0 : Int) ≤ nd1 ∧ nd1 ≤ 6999 := ex_nd1 ▸ hWx.1 31
  have b_op1 : (-2147483648 : Int) ≤ op1 ∧ op1 ≤ 2147483647 := ex_op1 ▸ hWx.1 15
  have b_ks : (0 : Int) ≤ ks ∧ ks ≤ 14 := ex_ks ▸ hWx.2 7 _
  refine jx_ld (pc' := 111) (l' := L) (st' := [.ref 66]) rfl (jl_aloadn gL_0) ?_
  refine jx_ar (pc' := 114) (st' := [.int (i32 (300)), .ref 66]) rfl rfl rfl rfl ?_
  have b1241 : (-2147483648 : Int) ≤ Gx 13 ∧ Gx 13 ≤ 2147483647 := hWx.1 13
  refine jx_vr (pc' := 117) (as := [.int (i32 (300))]) (st := []) rfl rfl rfl rfl ⟨rfl, rfl, Nat.le_of_ble_eq_true rfl⟩ rfl rfl (c_is (dd := d) (hd := by omega) (hW := hWx) (k := 300) (tk := tk1) (e_tk := show Gx 11 = tk1 from (ex_tk1)) (tn := Gx 13) (e_tn := show Gx 13 = Gx 13 from rfl)  (h_k := ⟨(by decide), (by decide)⟩)  ) (fun o V' hq => ?_)
  obtain ⟨r1242, rfl, rfl, b1243, q1244⟩ := hq
  refine .inr ⟨_, rfl, ?_⟩
  rcases q1244 with ⟨rfl, a1245, a1246, a1247⟩ | rfl
  · have _q : True := trivial
    refine jx_if_eq (pc' := 120) (tg := 202) rfl rfl rfl (by decide) (by decide) (fun h1248 => ?_) (fun h1248 => ?_)
    · have _q := h1248
      exact absurd h1248 (by omega)
    · have _q := h1248
      refine jx_ld (pc' := 122) (l' := L) (st' := [.int (i32 (0))]) rfl (jl_iload gL_5) ?_
      refine jx_if_eq (pc' := 125) (tg := 135) rfl rfl rfl (by decide) (by decide) (fun h1249 => ?_) (fun h1249 => ?_)
      · have _q := h1249
        refine jx_ld (pc' := 136) (l' := L) (st' := [.int (i32 (ks))]) rfl (jl_iloadn gL_3) ?_
        refine jx_st (pc' := 139) (as := [.int (i32 (ks))]) (st := []) rfl rfl ⟨rfl, Nat.le_of_ble_eq_true rfl⟩ rfl rfl rfl (c_isVariable (dd := d) (hd := by omega) (k := ks)   (h_k := ⟨(Int.le_trans (by decide : (-2147483648 : Int) ≤ 0) b_ks.1), (Int.le_trans b_ks.2 (by decide : (14 : Int) ≤ 2147483647))⟩)  ) (fun o V' hq => ?_)
        obtain ⟨r1250, rfl, rfl, b1251, q1252⟩ := hq
        refine .inr ⟨_, rfl, ?_⟩
        rcases q1252 with ⟨rfl, a1253⟩ | rfl
        · have _q : True := trivial
          refine jx_if_ne (pc' := 142) (tg := 150) rfl rfl rfl (by decide) (by decide) (fun h1254 => ?_) (fun h1254 => ?_)
          · have _q := h1254
            have z1255 := tz_f (tk1)
            exact c_readNamed_w_at_150_0 (X := X) (d := d) (Vs := Vs) (sb := sb) (pb := pb) (c0 := c0) (c1 := c1) (G := G) (A := A) (T := T) (ln := ln) (le := le) (at0 := at0) (fk := fk) (op0 := op0) (nd := nd) (tk0 := tk0) (li := li) (ec := ec) (sy := sy) (hd := hd) (hW := hW) (e_ln := e_ln) (e_le := e_le) (e_at0 := e_at0) (e_fk := e_fk) (e_op0 := e_op0) (e_nd := e_nd) (e_tk0 := e_tk0) (e_li := e_li) (e_ec := e_ec) (e_sy := e_sy) (i_SV := i_SV) (i_PQ := i_PQ) (p_0 := p_0) (p_1 := p_1) (p_2 := p_2) (p_3 := p_3) (p_4 := p_4) (p_5 := p_5) L Gx Ax (s) (at1) (tk1) (fk1) (nd1) (op1) (ks) (ec1) gL_0 gL_5 gL_4 gL_2 hWx hFx hPx ((ex_at1)) ((ex_tk1)) ((ex_fk1)) ((ex_nd1)) ((ex_op1)) ((ex_ks)) (ex_ec1) ((fx_9)) (by omega) (by omega) (by omega) (by omega) (by omega) (by omega) (by omega) (by omega) (by omega) (iv_8) (a1253) (by omega) (iv_10)
          · have _q := h1254
            exact absurd h1254 (by omega)
        · have _q : True := trivial
          refine jx_if_ne (pc' := 142) (tg := 150) rfl rfl rfl (by decide) (by decide) (fun h1256 => ?_) (fun h1256 => ?_)
          · have _q := h1256
            exact absurd h1256 (by omega)
          · have _q := h1256
            refine jx_ld (pc' := 143) (l' := L) (st' := [.ref 66]) rfl (jl_aloadn gL_0) ?_
            refine jx_ar (pc' := 144) (st' := [.int (i32 (4)), .ref 66]) rfl rfl rfl rfl ?_
            refine jx_ld (pc' := 145) (l' := L) (st' := [.int (i32 (pl)), .int (i32 (4)), .ref 66]) rfl (jl_iloadn gL_1) ?_
            refine jx_vr (pc' := 148) (as := [.int (i32 (4)), .int (i32 (pl))]) (st := []) rfl rfl rfl rfl ⟨rfl, rfl, Nat.le_of_ble_eq_true rfl⟩ rfl rfl (c_fail (dd := d) (hd := by omega) (hW := hWx) (kind := 4) (place := pl) (fk := fk1) (e_fk := show Gx 16 = fk1 from (ex_fk1))  (h_kind := ⟨(by decide), (by decide)⟩) (h_place := ⟨(Int.le_trans (by decide : (-2147483648 : Int) ≤ -2147483648) rx_pl.1), (Int.le_trans rx_pl.2 (by decide : (2147483647 : Int) ≤ 2147483647))⟩)  (p_0 := by omega) (p_1 := by omega)) (fun o V' hq => ?_)
            obtain ⟨G1257, A1258, fk2_1259, rfl, rfl, hW1260, hF1261, e1262, p1263, -⟩ := hq
            have hF1265 := Fr_tr hFx hF1261 (Fr_sub (by decide)) (Fr_sub (by decide))
            have hP1266 := Pf_f hPx hF1261 (by decide)
            have sf1267 : NdM A1258 (nd) (nd1) (sy) := NdM_f hF1261 (by decide) iv_10
            have ec1268 : ecn A1258 (G1257 31) = ec1 := (ecn_f (hF1261.2 15 rfl) (hF1261.1 31 rfl)).trans ex_ec1
            have bfk2_1259 : (0 : Int) ≤ fk2_1259 ∧ fk2_1259 ≤ 6 := e1262 ▸ hW1260.1 16
            refine .inl ⟨rfl, ?_⟩
            refine jx_ar (pc' := 149) (st' := [.int (i32 (0))]) rfl rfl rfl rfl ?_
            refine jx_rt (v := some (.int (i32 (0)))) rfl rfl rfl rfl rfl rfl ?_
            exact ⟨_, _, _, at1, fk2_1259, nd1, ln, ec1, rfl, rfl, hW1260, hF1265, hP1266, by omega, ((hF1261.1 10 rfl).trans (ex_at1)), (e1262), ((hF1261.1 31 rfl).trans (ex_nd1)), ((hF1261.1 9 rfl).trans (fx_9)), ec1268, by omega, by omega, by omega, by omega, by omega, by first | exact Or.inl (⟨by omega, by omega, by omega⟩)⟩
      · have _q := h1249
        exact absurd h1249 (by omega)
  · have _q : True := trivial
    refine jx_if_eq (pc' := 120) (tg := 202) rfl rfl rfl (by decide) (by decide) (fun h1269 => ?_) (fun h1269 => ?_)
    · have _q := h1269
      refine jx_ld (pc' := 203) (l' := L) (st' := [.ref 66]) rfl (jl_aloadn gL_0) ?_
      refine jx_ar (pc' := 205) (st' := [.int (i32 (33)), .ref 66]) rfl rfl rfl rfl ?_
      refine jx_vr (pc' := 208) (as := [.int (i32 (33))]) (st := []) rfl rfl rfl rfl ⟨rfl, rfl, Nat.le_of_ble_eq_true rfl⟩ rfl rfl (c_is (dd := d) (hd := by omega) (hW := hWx) (k := 33) (tk := tk1) (e_tk := show Gx 11 = tk1 from (ex_tk1)) (tn := Gx 13) (e_tn := show Gx 13 = Gx 13 from rfl)  (h_k := ⟨(by decide), (by decide)⟩)  ) (fun o V' hq => ?_)
      obtain ⟨r1270, rfl, rfl, b1271, q1272⟩ := hq
      refine .inr ⟨_, rfl, ?_⟩
      rcases q1272 with ⟨rfl, a1273, a1274, a1275⟩ | rfl
      · have _q : True := trivial
        refine jx_if_ne (pc' := 211) (tg := 231) rfl rfl rfl (by decide) (by decide) (fun h1276 => ?_) (fun h1276 => ?_)
        · have _q := h1276
          have z1277 := tz_f (tk1)
          exact c_readNamed_w_at_231_0 (X := X) (d := d) (Vs := Vs) (sb := sb) (pb := pb) (c0 := c0) (c1 := c1) (G := G) (A := A) (T := T) (ln := ln) (le := le) (at0 := at0) (fk := fk) (op0 := op0) (nd := nd) (tk0 := tk0) (li := li) (ec := ec) (sy := sy) (hd := hd) (hW := hW) (e_ln := e_ln) (e_le := e_le) (e_at0 := e_at0) (e_fk := e_fk) (e_op0 := e_op0) (e_nd := e_nd) (e_tk0 := e_tk0) (e_li := e_li) (e_ec := e_ec) (e_sy := e_sy) (i_SV := i_SV) (i_PQ := i_PQ) (p_0 := p_0) (p_1 := p_1) (p_2 := p_2) (p_3 := p_3) (p_4 := p_4) (p_5 := p_5) L Gx Ax (pl) (s) (at1) (tk1) (fk1) (nd1) (op1) (ks) (ec1) gL_0 gL_5 gL_3 gL_4 gL_1 gL_2 hWx hFx hPx ((ex_at1)) ((ex_tk1)) ((ex_fk1)) ((ex_nd1)) ((ex_op1)) ((ex_ks)) (ex_ec1) ((fx_9)) (by omega) (by omega) (by omega) (by omega) (by omega) (by omega) (by omega) (by omega) (by omega) (by omega) (by omega) (iv_8) (by omega) (iv_10)
        · have _q := h1276
          exact absurd h1276 (by omega)
      · have _q : True := trivial
        refine jx_if_ne (pc' := 211) (tg := 231) rfl rfl rfl (by decide) (by decide) (fun h1278 => ?_) (fun h1278 => ?_)
        · have _q := h1278
          exact absurd h1278 (by omega)
        · have _q := h1278
          refine jx_ld (pc' := 212) (l' := L) (st' := [.ref 66]) rfl (jl_aloadn gL_0) ?_
          refine jx_ar (pc' := 214) (st' := [.int (i32 (63)), .ref 66]) rfl rfl rfl rfl ?_
          refine jx_vr (pc' := 217) (as := [.int (i32 (63))]) (st := []) rfl rfl rfl rfl ⟨rfl, rfl, Nat.le_of_ble_eq_true rfl⟩ rfl rfl (c_is (dd := d) (hd := by omega) (hW := hWx) (k := 63) (tk := tk1) (e_tk := show Gx 11 = tk1 from (ex_tk1)) (tn := Gx 13) (e_tn := show Gx 13 = Gx 13 from rfl)  (h_k := ⟨(by decide), (by decide)⟩)  ) (fun o V' hq => ?_)
          obtain ⟨r1279, rfl, rfl, b1280, q1281⟩ := hq
          refine .inr ⟨_, rfl, ?_⟩
          rcases q1281 with ⟨rfl, a1282, a1283, a1284⟩ | rfl
          · have _q : True := trivial
            refine jx_if_ne (pc' := 220) (tg := 231) rfl rfl rfl (by decide) (by decide) (fun h1285 => ?_) (fun h1285 => ?_)
            · have _q := h1285
              have z1286 := tz_f (tk1)
              exact c_readNamed_w_at_231_0 (X := X) (d := d) (Vs := Vs) (sb := sb) (pb := pb) (c0 := c0) (c1 := c1) (G := G) (A := A) (T := T) (ln := ln) (le := le) (at0 := at0) (fk := fk) (op0 := op0) (nd := nd) (tk0 := tk0) (li := li) (ec := ec) (sy := sy) (hd := hd) (hW := hW) (e_ln := e_ln) (e_le := e_le) (e_at0 := e_at0) (e_fk := e_fk) (e_op0 := e_op0) (e_nd := e_nd) (e_tk0 := e_tk0) (e_li := e_li) (e_ec := e_ec) (e_sy := e_sy) (i_SV := i_SV) (i_PQ := i_PQ) (p_0 := p_0) (p_1 := p_1) (p_2 := p_2) (p_3 := p_3) (p_4 := p_4) (p_5 := p_5) L Gx Ax (pl) (s) (at1) (tk1) (fk1) (nd1) (op1) (ks) (ec1) gL_0 gL_5 gL_3 gL_4 gL_1 gL_2 hWx hFx hPx ((ex_at1)) ((ex_tk1)) ((ex_fk1)) ((ex_nd1)) ((ex_op1)) ((ex_ks)) (ex_ec1) ((fx_9)) (by omega) (by omega) (by omega) (by omega) (by omega) (by omega) (by omega) (by omega) (by omega) (by omega) (by omega) (iv_8) (by omega) (iv_10)
            · have _q := h1285
              exact absurd h1285 (by omega)
          · have _q : True := trivial
            refine jx_if_ne (pc' := 220) (tg := 231) rfl rfl rfl (by decide) (by decide) (fun h1287 => ?_) (fun h1287 => ?_)
            · have _q := h1287
              exact absurd h1287 (by omega)
            · have _q := h1287
              refine jx_ld (pc' := 221) (l' := L) (st' := [.ref 66]) rfl (jl_aloadn gL_0) ?_
              refine jx_ar (pc' := 222) (st' := [.int (i32 (1)), .ref 66]) rfl rfl rfl rfl ?_
              refine jx_ld (pc' := 223) (l' := L) (st' := [.ref 66, .int (i32 (1)), .ref 66]) rfl (jl_aloadn gL_0) ?_
              have b1288 : (-3000 : Int) ≤ Gx 12 ∧ Gx 12 ≤ 3002 := hWx.1 12
              refine jr_get (pc' := 226) (i := 12) (v := .int (i32 (Gx 12))) rfl rfl (by decide) rfl rfl ?_
              refine jx_vr (pc' := 229) (as := [.int (i32 (1)), .int (i32 (Gx 12))]) (st := []) rfl rfl rfl rfl ⟨rfl, rfl, Nat.le_of_ble_eq_true rfl⟩ rfl rfl (c_fail (dd := d) (hd := by omega) (hW := hWx) (kind := 1) (place := Gx 12) (fk := fk1) (e_fk := show Gx 16 = fk1 from (ex_fk1))  (h_kind := ⟨(by decide), (by decide)⟩) (h_place := ⟨(Int.le_trans (by decide : (-2147483648 : Int) ≤ -3000) b1288.1), (Int.le_trans b1288.2 (by decide : (3002 : Int) ≤ 2147483647))⟩)  (p_0 := by omega) (p_1 := by omega)) (fun o V' hq => ?_)
              obtain ⟨G1289, A1290, fk2_1291, rfl, rfl, hW1292, hF1293, e1294, p1295, -⟩ := hq
              have hF1297 := Fr_tr hFx hF1293 (Fr_sub (by decide)) (Fr_sub (by decide))
              have hP1298 := Pf_f hPx hF1293 (by decide)
              have sf1299 : NdM A1290 (nd) (nd1) (sy) := NdM_f hF1293 (by decide) iv_10
              have ec1300 : ecn A1290 (G1289 31) = ec1 := (ecn_f (hF1293.2 15 rfl) (hF1293.1 31 rfl)).trans ex_ec1
              have bfk2_1291 : (0 : Int) ≤ fk2_1291 ∧ fk2_1291 ≤ 6 := e1294 ▸ hW1292.1 16
              refine .inl ⟨rfl, ?_⟩
              refine jx_ar (pc' := 230) (st' := [.int (i32 (0))]) rfl rfl rfl rfl ?_
              refine jx_rt (v := some (.int (i32 (0)))) rfl rfl rfl rfl rfl rfl ?_
              exact ⟨_, _, _, at1, fk2_1291, nd1, ln, ec1, rfl, rfl, hW1292, hF1297, hP1298, by omega, ((hF1293.1 10 rfl).trans (ex_at1)), (e1294), ((hF1293.1 31 rfl).trans (ex_nd1)), ((hF1293.1 9 rfl).trans (fx_9)), ec1300, by omega, by omega, by omega, by omega, by omega, by first | exact Or.inl (⟨by omega, by omega, by omega⟩)⟩
    · have _q := h1269
      exact absurd h1269 (by omega)
set_option maxRecDepth 20000 in
set_option maxHeartbeats 4000000 in
theorem c_readNamed_w {X : jX} {dd : Nat} {Vs : Nat → Prop} {sb pb : Int} {c0 c1 : jC} {G : Nat → Int} {A : Nat → Nat → Int} {T : jH} {ln le at0 fk op0 nd tk0 li ec sy : Int} (hd : 72 ≤ dd) (hW : Wk G A) (e_ln : G 9 = ln) (e_le : A 4 (ln).toNat = le) (e_at0 : G 10 = at0) (e_fk : G 16 = fk) (e_op0 : G 15 = op0) (e_nd : G 31 = nd) (e_tk0 : G 11 = tk0) (e_li : G 3 = li) (e_ec : ecn A (G 31) = ec) (e_sy : G 19 = sy) (i_SV : SV Vs sb G A) (i_PQ : PQ Vs sb pb G A) (p_0 : 0 ≤ op0 ∧ op0 ≤ 8) (p_1 : fk = 0) (p_2 : nd ≤ 2 * at0 - tz tk0 + 42) (p_3 : at0 ≤ le) (p_4 : ln < li) (p_5 : tk0 = 1) : wk X dd 304 [.ref 66] (rV c0 c1 G A T) (fun o V' => ∃ (G' : Nat → Int) (A' : Nat → Nat → Int) (r : Int) (at2 : Int) (fk2 : Int) (nd2 : Int) (ln2 : Int) (ec2 : Int), V' = rV c0 c1 G' A' T ∧ o = .inl (some (.int (i32 r))) ∧ Wk G' A' ∧ Fr [9, 10, 11, 12, 13, 14, 15, 16, 17, 18, 31] [15, 16, 17, 18, 19, 20, 21, 22, 24, 28] G A G' A' ∧ Pf nd A A' ∧ ((-2147483648 : Int) ≤ r ∧ r ≤ 2147483647) ∧ G' 10 = at2 ∧ G' 16 = fk2 ∧ G' 31 = nd2 ∧ G' 9 = ln2 ∧ ecn A' (G' 31) = ec2 ∧ (at0 ≤ at2) ∧ (at2 ≤ le) ∧ (nd ≤ nd2) ∧ (0 ≤ r) ∧ (r ≤ nd2) ∧ (((1 ≤ fk2) ∧ (ln2 = ln) ∧ (nd2 - nd ≤ 2 * at2 - 2 * at0 + 8)) ∨ ((fk2 = 0) ∧ (ln2 = ln + 1) ∧ (nd2 - nd ≤ 2 * at2 - (2 * at0 - tz tk0) + 0) ∧ (nd ≤ r) ∧ (r < nd2) ∧ (wL A' sb pb Vs (r) (nd) (nd2)) ∧ (NX A' (r)) ∧ (nd2 - nd + 5 * (ec2 - ec) ≤ 2 * at2 - (2 * at0 - tz tk0) + 0) ∧ (NdM A' (nd) (nd2) (sy))))) := by
  obtain ⟨d, rfl⟩ : ∃ d, dd = d + 1 := ⟨dd - 1, by omega⟩
  refine wk_of (e := jm304) rfl (Nat.le_of_ble_eq_true rfl) ?_
  show wj X d jm304 (0, [(0, .ref 66)], [], rV c0 c1 G A T) _
  have hF0 : Fr [9, 10, 11, 12, 13, 14, 15, 16, 17, 18, 31] [15, 16, 17, 18, 19, 20, 21, 22, 24, 28] G A G A := Fr_rf
  have hP0 : Pf nd A A := Pf_rf
  have b_ln : (0 : Int) ≤ ln ∧ ln ≤ 3000 := e_ln ▸ hW.1 9
  have b_le : (0 : Int) ≤ le ∧ le ≤ 3000 := e_le ▸ hW.2 4 _
  have b_at0 : (0 : Int) ≤ at0 ∧ at0 ≤ 3002 := e_at0 ▸ hW.1 10
  have b_fk : (0 : Int) ≤ fk ∧ fk ≤ 6 := e_fk ▸ hW.1 16
  have b_op0 : (-2147483648 : Int) ≤ op0 ∧ op0 ≤ 2147483647 := e_op0 ▸ hW.1 15
  have b_nd : (0 : Int) ≤ nd ∧ nd ≤ 6999 := e_nd ▸ hW.1 31
  have z_tk0 := tz_f tk0
  have b_tk0 : (0 : Int) ≤ tk0 ∧ tk0 ≤ 5 := e_tk0 ▸ hW.1 11
  have b_li : (0 : Int) ≤ li ∧ li ≤ 3000 := e_li ▸ hW.1 3
  have b_sy : (0 : Int) ≤ sy ∧ sy ≤ 202 := e_sy ▸ hW.1 19
  refine jx_ld (pc' := 1) (l' := [(0, .ref 66)]) (st' := [.ref 66]) rfl (jl_aloadn rfl) ?_
  have b1301 : (-3000 : Int) ≤ G 12 ∧ G 12 ≤ 3002 := hW.1 12
  refine jr_get (pc' := 4) (i := 12) (v := .int (i32 (G 12))) rfl rfl (by decide) rfl rfl ?_
  refine jx_ld (pc' := 5) (l' := jSto1 [(0, .ref 66)] 1 (.int (i32 (G 12)))) (st' := []) rfl rfl ?_
  obtain ⟨L1302, eL1302⟩ : ∃ q, q = jSto1 [(0, .ref 66)] 1 (.int (i32 (G 12))) := ⟨_, rfl⟩
  rw [← eL1302]
  have gL1302_0 : jGet L1302 0 = some (.ref 66) := eL1302 ▸ jg_ne (by decide) (rfl : jGet [(0, .ref 66)] 0 = some (.ref 66)) rfl
  have gL1302_1 : jGet L1302 1 = some (.int (i32 (G 12))) := eL1302 ▸ jg_eq
  refine jx_ld (pc' := 6) (l' := L1302) (st' := [.ref 66]) rfl (jl_aloadn gL1302_0) ?_
  refine jx_vr (pc' := 9) (as := []) (st := []) rfl rfl rfl rfl ⟨rfl, rfl, Nat.le_of_ble_eq_true rfl⟩ rfl rfl (c_lookUp (dd := d) (hd := by omega) (hW := hW)  (fk := fk) (e_fk := show G 16 = fk from (e_fk)) (i_SV := (SV_ext (rfl) (rfl) i_SV))   ) (fun o V' hq => ?_)
  obtain ⟨G1303, A1304, r1305, fk2_1306, rfl, rfl, hW1307, hF1308, b1309, e1310, q1311⟩ := hq
  have hF1312 := Fr_tr hF0 hF1308 (Fr_sub (by decide)) (Fr_sub (by decide))
  have hP1313 := Pf_f hP0 hF1308 (by decide)
  have ec1314 : ecn A1304 (G1303 31) = ec := (ecn_f (hF1308.2 15 rfl) (hF1308.1 31 rfl)).trans e_ec
  have bfk2_1306 : (0 : Int) ≤ fk2_1306 ∧ fk2_1306 ≤ 6 := e1310 ▸ hW1307.1 16
  refine .inr ⟨_, rfl, ?_⟩
  rcases q1311 with ⟨a1315, a1316⟩ | ⟨a1317, a1318, a1319, a1320⟩
  · have _q : True := trivial
    refine jx_ld (pc' := 10) (l' := jSto1 L1302 2 (.int (i32 (r1305)))) (st' := []) rfl rfl ?_
    obtain ⟨L1321, eL1321⟩ : ∃ q, q = jSto1 L1302 2 (.int (i32 (r1305))) := ⟨_, rfl⟩
    rw [← eL1321]
    have gL1321_0 : jGet L1321 0 = some (.ref 66) := eL1321 ▸ jg_ne (by decide) gL1302_0 rfl
    have gL1321_1 : jGet L1321 1 = some (.int (i32 (G 12))) := eL1321 ▸ jg_ne (by decide) gL1302_1 rfl
    have gL1321_2 : jGet L1321 2 = some (.int (i32 (r1305))) := eL1321 ▸ jg_eq
    refine jx_ld (pc' := 11) (l' := L1321) (st' := [.ref 66]) rfl (jl_aloadn gL1321_0) ?_
    refine jx_vr (pc' := 14) (as := []) (st := []) rfl rfl rfl rfl ⟨rfl, rfl, Nat.le_of_ble_eq_true rfl⟩ rfl rfl (c_bad (dd := d) (hd := by omega) (hW := hW1307)  (fk := fk2_1306) (e_fk := show G1303 16 = fk2_1306 from (e1310))    ) (fun o V' hq => ?_)
    obtain ⟨r1322, rfl, rfl, b1323, q1324⟩ := hq
    refine .inr ⟨_, rfl, ?_⟩
    rcases q1324 with ⟨rfl, a1325⟩ | ⟨rfl, a1326⟩
    · have _q : True := trivial
      refine jx_if_eq (pc' := 17) (tg := 19) rfl rfl rfl (by decide) (by decide) (fun h1327 => ?_) (fun h1327 => ?_)
      · have _q := h1327
        exact absurd h1327 (by omega)
      · have _q := h1327
        refine jx_ar (pc' := 18) (st' := [.int (i32 (0))]) rfl rfl rfl rfl ?_
        refine jx_rt (v := some (.int (i32 (0)))) rfl rfl rfl rfl rfl rfl ?_
        exact ⟨_, _, _, at0, fk2_1306, nd, ln, ec, rfl, rfl, hW1307, hF1312, hP1313, by omega, ((hF1308.1 10 rfl).trans (e_at0)), (e1310), ((hF1308.1 31 rfl).trans (e_nd)), ((hF1308.1 9 rfl).trans (e_ln)), ec1314, by omega, by omega, by omega, by omega, by omega, by first | exact Or.inl (⟨by omega, by omega, by omega⟩)⟩
    · have _q : True := trivial
      exfalso
      omega
  · have _q : True := trivial
    refine jx_ld (pc' := 10) (l' := jSto1 L1302 2 (.int (i32 (r1305)))) (st' := []) rfl rfl ?_
    obtain ⟨L1328, eL1328⟩ : ∃ q, q = jSto1 L1302 2 (.int (i32 (r1305))) := ⟨_, rfl⟩
    rw [← eL1328]
    have gL1328_0 : jGet L1328 0 = some (.ref 66) := eL1328 ▸ jg_ne (by decide) gL1302_0 rfl
    have gL1328_1 : jGet L1328 1 = some (.int (i32 (G 12))) := eL1328 ▸ jg_ne (by decide) gL1302_1 rfl
    have gL1328_2 : jGet L1328 2 = some (.int (i32 (r1305))) := eL1328 ▸ jg_eq
    refine jx_ld (pc' := 11) (l' := L1328) (st' := [.ref 66]) rfl (jl_aloadn gL1328_0) ?_
    refine jx_vr (pc' := 14) (as := []) (st := []) rfl rfl rfl rfl ⟨rfl, rfl, Nat.le_of_ble_eq_true rfl⟩ rfl rfl (c_bad (dd := d) (hd := by omega) (hW := hW1307)  (fk := fk2_1306) (e_fk := show G1303 16 = fk2_1306 from (e1310))    ) (fun o V' hq => ?_)
    obtain ⟨r1329, rfl, rfl, b1330, q1331⟩ := hq
    refine .inr ⟨_, rfl, ?_⟩
    rcases q1331 with ⟨rfl, a1332⟩ | ⟨rfl, a1333⟩
    · have _q : True := trivial
      exfalso
      omega
    · have _q : True := trivial
      refine jx_if_eq (pc' := 17) (tg := 19) rfl rfl rfl (by decide) (by decide) (fun h1334 => ?_) (fun h1334 => ?_)
      · have _q := h1334
        refine jx_ld (pc' := 20) (l' := L1328) (st' := [.ref 66]) rfl (jl_aloadn gL1328_0) ?_
        refine jr_get (pc' := 23) (i := 21) (v := .ref 74) rfl rfl (by decide) rfl rfl ?_
        refine jx_ld (pc' := 24) (l' := L1328) (st' := [.int (i32 (r1305)), .ref 74]) rfl (jl_iloadn gL1328_2) ?_
        have b1335 : (0 : Int) ≤ A 7 (r1305).toNat ∧ A 7 (r1305).toNat ≤ 14 := hW.2 7 _
        refine jr_ldv (pc' := 25) (i := 7) (m := 260) (z := r1305) (y := A 7 (r1305).toNat) rfl (by decide) rfl (by decide) (by omega) (by omega) rfl (show A1304 7 (r1305).toNat = A 7 (r1305).toNat from (congrFun (hF1308.2 7 rfl) _)) ?_
        refine jx_ld (pc' := 26) (l' := jSto1 L1328 3 (.int (i32 (A 7 (r1305).toNat)))) (st' := []) rfl rfl ?_
        obtain ⟨L1336, eL1336⟩ : ∃ q, q = jSto1 L1328 3 (.int (i32 (A 7 (r1305).toNat))) := ⟨_, rfl⟩
        rw [← eL1336]
        have gL1336_0 : jGet L1336 0 = some (.ref 66) := eL1336 ▸ jg_ne (by decide) gL1328_0 rfl
        have gL1336_1 : jGet L1336 1 = some (.int (i32 (G 12))) := eL1336 ▸ jg_ne (by decide) gL1328_1 rfl
        have gL1336_2 : jGet L1336 2 = some (.int (i32 (r1305))) := eL1336 ▸ jg_ne (by decide) gL1328_2 rfl
        have gL1336_3 : jGet L1336 3 = some (.int (i32 (A 7 (r1305).toNat))) := eL1336 ▸ jg_eq
        refine jx_ld (pc' := 27) (l' := L1336) (st' := [.ref 66]) rfl (jl_aloadn gL1336_0) ?_
        refine jx_vr (pc' := 30) (as := []) (st := []) rfl rfl rfl rfl ⟨rfl, rfl, Nat.le_of_ble_eq_true rfl⟩ rfl rfl (c_next (dd := d) (hd := by omega) (hW := hW1307)  (ln := ln) (e_ln := show G1303 9 = ln from ((hF1308.1 9 rfl).trans (e_ln))) (le := le) (e_le := show A1304 4 (ln).toNat = le from (congrFun (hF1308.2 4 rfl) _).trans (e_le)) (at0 := at0) (e_at0 := show G1303 10 = at0 from ((hF1308.1 10 rfl).trans (e_at0)))    (p_0 := by omega)) (fun o V' hq => ?_)
        obtain ⟨G1337, A1338, at2_1339, tk2_1340, rfl, rfl, hW1341, hF1342, e1343, e1344, p1345, p1346, p1347, -⟩ := hq
        have hF1349 := Fr_tr hF1312 hF1342 (Fr_sub (by decide)) (Fr_sub (by decide))
        have hP1350 := Pf_f hP1313 hF1342 (by decide)
        have ec1351 : ecn A1338 (G1337 31) = ec := (ecn_f (hF1342.2 15 rfl) (hF1342.1 31 rfl)).trans ec1314
        have bat2_1339 : (0 : Int) ≤ at2_1339 ∧ at2_1339 ≤ 3002 := e1343 ▸ hW1341.1 10
        have ztk2_1340 := tz_b tk2_1340
        have btk2_1340 : (0 : Int) ≤ tk2_1340 ∧ tk2_1340 ≤ 5 := e1344 ▸ hW1341.1 11
        refine .inl ⟨rfl, ?_⟩
        have pz1352 : at0 + tz tk2_1340 ≤ at2_1339 := by omega
        refine jx_ld (pc' := 31) (l' := L1336) (st' := [.ref 66]) rfl (jl_aloadn gL1336_0) ?_
        refine jx_ar (pc' := 33) (st' := [.int (i32 (40)), .ref 66]) rfl rfl rfl rfl ?_
        have b1353 : (-2147483648 : Int) ≤ G1337 13 ∧ G1337 13 ≤ 2147483647 := hW1341.1 13
        refine jx_vr (pc' := 36) (as := [.int (i32 (40))]) (st := []) rfl rfl rfl rfl ⟨rfl, rfl, Nat.le_of_ble_eq_true rfl⟩ rfl rfl (c_is (dd := d) (hd := by omega) (hW := hW1341) (k := 40) (tk := tk2_1340) (e_tk := show G1337 11 = tk2_1340 from (e1344)) (tn := G1337 13) (e_tn := show G1337 13 = G1337 13 from rfl)  (h_k := ⟨(by decide), (by decide)⟩)  ) (fun o V' hq => ?_)
        obtain ⟨r1354, rfl, rfl, b1355, q1356⟩ := hq
        refine .inr ⟨_, rfl, ?_⟩
        rcases q1356 with ⟨rfl, a1357, a1358, a1359⟩ | rfl
        · have _q : True := trivial
          refine jx_if_eq (pc' := 39) (tg := 59) rfl rfl rfl (by decide) (by decide) (fun h1360 => ?_) (fun h1360 => ?_)
          · have _q := h1360
            exact absurd h1360 (by omega)
          · have _q := h1360
            refine jx_ld (pc' := 40) (l' := L1336) (st' := [.int (i32 (A 7 (r1305).toNat))]) rfl (jl_iloadn gL1336_3) ?_
            refine jx_ar (pc' := 42) (st' := [.int (i32 (14)), .int (i32 (A 7 (r1305).toNat))]) rfl rfl rfl rfl ?_
            refine jx_icmp_eq (pc' := 45) (tg := 53) rfl rfl rfl (Int.le_trans (by decide : (-2147483648 : Int) ≤ 0) b1335.1) (Int.le_trans b1335.2 (by decide : (14 : Int) ≤ 2147483647)) (by decide) (by decide) (fun h1361 => ?_) (fun h1361 => ?_)
            · have _q := h1361
              refine jx_ld (pc' := 54) (l' := L1336) (st' := [.ref 66]) rfl (jl_aloadn gL1336_0) ?_
              refine jx_ld (pc' := 55) (l' := L1336) (st' := [.int (i32 (r1305)), .ref 66]) rfl (jl_iloadn gL1336_2) ?_
              have b1362 : (0 : Int) ≤ A 12 (r1305).toNat ∧ A 12 (r1305).toNat ≤ 24 := hW.2 12 _
              have b1363 : (0 : Int) ≤ A 30 (A 12 (r1305).toNat).toNat ∧ A 30 (A 12 (r1305).toNat).toNat ≤ 6 := hW.2 30 _
              have b1364 : (0 : Int) ≤ A 29 (A 12 (r1305).toNat).toNat ∧ A 29 (A 12 (r1305).toNat).toNat ≤ 202 := hW.2 29 _
              refine jx_vr (pc' := 58) (as := [.int (i32 (r1305))]) (st := []) rfl rfl rfl rfl ⟨rfl, rfl, Nat.le_of_ble_eq_true rfl⟩ rfl rfl (c_readCall_w (dd := d) (hd := by omega) (hW := hW1341) (s := r1305) (ln := ln) (e_ln := show G1337 9 = ln from ((hF1342.1 9 rfl).trans ((hF1308.1 9 rfl).trans (e_ln)))) (le := le) (e_le := show A1338 4 (ln).toNat = le from (congrFun ((hF1342.2 4 rfl).trans (hF1308.2 4 rfl)) _).trans (e_le)) (at0 := at2_1339) (e_at0 := show G1337 10 = at2_1339 from (e1343)) (fk := fk2_1306) (e_fk := show G1337 16 = fk2_1306 from ((hF1342.1 16 rfl).trans (e1310))) (op0 := op0) (e_op0 := show G1337 15 = op0 from ((hF1342.1 15 rfl).trans ((hF1308.1 15 rfl).trans (e_op0)))) (nd := nd) (e_nd := show G1337 31 = nd from ((hF1342.1 31 rfl).trans ((hF1308.1 31 rfl).trans (e_nd)))) (tk0 := tk2_1340) (e_tk0 := show G1337 11 = tk2_1340 from (e1344)) (li := li) (e_li := show G1337 3 = li from ((hF1342.1 3 rfl).trans ((hF1308.1 3 rfl).trans (e_li)))) (kd := A 7 (r1305).toNat) (e_kd := show A1338 7 (r1305).toNat = A 7 (r1305).toNat from (congrFun ((hF1342.2 7 rfl).trans (hF1308.2 7 rfl)) _)) (nu := A 12 (r1305).toNat) (e_nu := show A1338 12 (r1305).toNat = A 12 (r1305).toNat from (congrFun ((hF1342.2 12 rfl).trans (hF1308.2 12 rfl)) _)) (mp := A 30 (A 12 (r1305).toNat).toNat) (e_mp := show A1338 30 (A 12 (r1305).toNat).toNat = A 30 (A 12 (r1305).toNat).toNat from (congrFun ((hF1342.2 30 rfl).trans (hF1308.2 30 rfl)) _)) (pp := A 29 (A 12 (r1305).toNat).toNat) (e_pp := show A1338 29 (A 12 (r1305).toNat).toNat = A 29 (A 12 (r1305).toNat).toNat from (congrFun ((hF1342.2 29 rfl).trans (hF1308.2 29 rfl)) _)) (ec := ec) (e_ec := show ecn A1338 (G1337 31) = ec from ec1351) (sy := sy) (e_sy := show G1337 19 = sy from ((hF1342.1 19 rfl).trans ((hF1308.1 19 rfl).trans (e_sy)))) (i_SV := (SV_ext (((hF1342.1 29 rfl).trans (hF1308.1 29 rfl))) (((hF1342.2 14 rfl).trans (hF1308.2 14 rfl))) i_SV)) (i_PQ := (PQ_ext (((hF1342.2 7 rfl).trans (hF1308.2 7 rfl))) (((hF1342.2 12 rfl).trans (hF1308.2 12 rfl))) (((hF1342.2 29 rfl).trans (hF1308.2 29 rfl))) (((hF1342.2 30 rfl).trans (hF1308.2 30 rfl))) i_PQ)) (h_s := ⟨(Int.le_trans (by decide : (-2147483648 : Int) ≤ -2147483648) b1309.1), (Int.le_trans b1309.2 (by decide : (2147483647 : Int) ≤ 2147483647))⟩)  (p_0 := by omega) (p_1 := by omega) (p_2 := by omega) (p_3 := by omega) (p_4 := by omega) (p_5 := by omega) (p_6 := by omega) (p_7 := by omega) (p_8 := a1320)) (fun o V' hq => ?_)
              obtain ⟨G1365, A1366, r1367, at2_1368, fk2_1369, nd2_1370, ln2_1371, ec2_1372, rfl, rfl, hW1373, hF1374, hQ1375, b1376, e1377, e1378, e1379, e1380, e1381, p1382, p1383, p1384, p1385, p1386, q1387⟩ := hq
              have hF1388 := Fr_tr hF1349 hF1374 (Fr_sub (by decide)) (Fr_sub (by decide))
              have hP1389 := Pf_tr hP1350 hQ1375 (by omega)
              have bat2_1368 : (0 : Int) ≤ at2_1368 ∧ at2_1368 ≤ 3002 := e1377 ▸ hW1373.1 10
              have bfk2_1369 : (0 : Int) ≤ fk2_1369 ∧ fk2_1369 ≤ 6 := e1378 ▸ hW1373.1 16
              have bnd2_1370 : (0 : Int) ≤ nd2_1370 ∧ nd2_1370 ≤ 6999 := e1379 ▸ hW1373.1 31
              have bln2_1371 : (0 : Int) ≤ ln2_1371 ∧ ln2_1371 ≤ 3000 := e1380 ▸ hW1373.1 9
              refine .inr ⟨_, rfl, ?_⟩
              rcases q1387 with ⟨a1390, a1391, a1392⟩ | ⟨a1393, a1394, a1395, a1396, a1397, a1398, a1399, a1400, a1401⟩
              · have _q : True := trivial
                refine jx_rt (v := some (.int (i32 (r1367)))) rfl rfl rfl rfl rfl rfl ?_
                exact ⟨_, _, _, at2_1368, fk2_1369, nd2_1370, ln2_1371, ec2_1372, rfl, rfl, hW1373, hF1388, hP1389, by omega, (e1377), (e1378), (e1379), (e1380), e1381, by omega, by omega, by omega, by omega, by omega, by first | exact Or.inl (⟨by omega, by omega, by omega⟩)⟩
              · have _q : True := trivial
                refine jx_rt (v := some (.int (i32 (r1367)))) rfl rfl rfl rfl rfl rfl ?_
                exact ⟨_, _, _, at2_1368, fk2_1369, nd2_1370, ln2_1371, ec2_1372, rfl, rfl, hW1373, hF1388, hP1389, by omega, (e1377), (e1378), (e1379), (e1380), e1381, by omega, by omega, by omega, by omega, by omega, by first | exact Or.inr ((⟨by omega, by omega, by omega, by omega, by omega, a1398, a1399, by omega, a1401⟩))⟩
            · have _q := h1361
              refine jx_ld (pc' := 46) (l' := L1336) (st' := [.ref 66]) rfl (jl_aloadn gL1336_0) ?_
              refine jx_ar (pc' := 47) (st' := [.int (i32 (4)), .ref 66]) rfl rfl rfl rfl ?_
              refine jx_ld (pc' := 48) (l' := L1336) (st' := [.int (i32 (G 12)), .int (i32 (4)), .ref 66]) rfl (jl_iloadn gL1336_1) ?_
              refine jx_vr (pc' := 51) (as := [.int (i32 (4)), .int (i32 (G 12))]) (st := []) rfl rfl rfl rfl ⟨rfl, rfl, Nat.le_of_ble_eq_true rfl⟩ rfl rfl (c_fail (dd := d) (hd := by omega) (hW := hW1341) (kind := 4) (place := G 12) (fk := fk2_1306) (e_fk := show G1337 16 = fk2_1306 from ((hF1342.1 16 rfl).trans (e1310)))  (h_kind := ⟨(by decide), (by decide)⟩) (h_place := ⟨(Int.le_trans (by decide : (-2147483648 : Int) ≤ -3000) b1301.1), (Int.le_trans b1301.2 (by decide : (3002 : Int) ≤ 2147483647))⟩)  (p_0 := by omega) (p_1 := by omega)) (fun o V' hq => ?_)
              obtain ⟨G1402, A1403, fk2_1404, rfl, rfl, hW1405, hF1406, e1407, p1408, -⟩ := hq
              have hF1410 := Fr_tr hF1349 hF1406 (Fr_sub (by decide)) (Fr_sub (by decide))
              have hP1411 := Pf_f hP1350 hF1406 (by decide)
              have ec1412 : ecn A1403 (G1402 31) = ec := (ecn_f (hF1406.2 15 rfl) (hF1406.1 31 rfl)).trans ec1351
              have bfk2_1404 : (0 : Int) ≤ fk2_1404 ∧ fk2_1404 ≤ 6 := e1407 ▸ hW1405.1 16
              refine .inl ⟨rfl, ?_⟩
              refine jx_ar (pc' := 52) (st' := [.int (i32 (0))]) rfl rfl rfl rfl ?_
              refine jx_rt (v := some (.int (i32 (0)))) rfl rfl rfl rfl rfl rfl ?_
              exact ⟨_, _, _, at2_1339, fk2_1404, nd, ln, ec, rfl, rfl, hW1405, hF1410, hP1411, by omega, ((hF1406.1 10 rfl).trans (e1343)), (e1407), ((hF1406.1 31 rfl).trans ((hF1342.1 31 rfl).trans ((hF1308.1 31 rfl).trans (e_nd)))), ((hF1406.1 9 rfl).trans ((hF1342.1 9 rfl).trans ((hF1308.1 9 rfl).trans (e_ln)))), ec1412, by omega, by omega, by omega, by omega, by omega, by first | exact Or.inl (⟨by omega, by omega, by omega⟩)⟩
        · have _q : True := trivial
          refine jx_if_eq (pc' := 39) (tg := 59) rfl rfl rfl (by decide) (by decide) (fun h1413 => ?_) (fun h1413 => ?_)
          · have _q := h1413
            refine jx_ar (pc' := 60) (st' := [.int (i32 (0))]) rfl rfl rfl rfl ?_
            refine jx_ld (pc' := 62) (l' := jSto1 L1336 4 (.int (i32 (0)))) (st' := []) rfl rfl ?_
            obtain ⟨L1414, eL1414⟩ : ∃ q, q = jSto1 L1336 4 (.int (i32 (0))) := ⟨_, rfl⟩
            rw [← eL1414]
            have gL1414_0 : jGet L1414 0 = some (.ref 66) := eL1414 ▸ jg_ne (by decide) gL1336_0 rfl
            have gL1414_1 : jGet L1414 1 = some (.int (i32 (G 12))) := eL1414 ▸ jg_ne (by decide) gL1336_1 rfl
            have gL1414_2 : jGet L1414 2 = some (.int (i32 (r1305))) := eL1414 ▸ jg_ne (by decide) gL1336_2 rfl
            have gL1414_3 : jGet L1414 3 = some (.int (i32 (A 7 (r1305).toNat))) := eL1414 ▸ jg_ne (by decide) gL1336_3 rfl
            have gL1414_4 : jGet L1414 4 = some (.int (i32 (0))) := eL1414 ▸ jg_eq
            refine jx_ld (pc' := 63) (l' := L1414) (st' := [.ref 66]) rfl (jl_aloadn gL1414_0) ?_
            refine jx_ar (pc' := 65) (st' := [.int (i32 (91)), .ref 66]) rfl rfl rfl rfl ?_
            refine jx_vr (pc' := 68) (as := [.int (i32 (91))]) (st := []) rfl rfl rfl rfl ⟨rfl, rfl, Nat.le_of_ble_eq_true rfl⟩ rfl rfl (c_is (dd := d) (hd := by omega) (hW := hW1341) (k := 91) (tk := tk2_1340) (e_tk := show G1337 11 = tk2_1340 from (e1344)) (tn := G1337 13) (e_tn := show G1337 13 = G1337 13 from rfl)  (h_k := ⟨(by decide), (by decide)⟩)  ) (fun o V' hq => ?_)
            obtain ⟨r1415, rfl, rfl, b1416, q1417⟩ := hq
            refine .inr ⟨_, rfl, ?_⟩
            rcases q1417 with ⟨rfl, a1418, a1419, a1420⟩ | rfl
            · have _q : True := trivial
              refine jx_ld (pc' := 70) (l' := jSto1 L1414 5 (.int (i32 (1)))) (st' := []) rfl rfl ?_
              obtain ⟨L1421, eL1421⟩ : ∃ q, q = jSto1 L1414 5 (.int (i32 (1))) := ⟨_, rfl⟩
              rw [← eL1421]
              have gL1421_0 : jGet L1421 0 = some (.ref 66) := eL1421 ▸ jg_ne (by decide) gL1414_0 rfl
              have gL1421_1 : jGet L1421 1 = some (.int (i32 (G 12))) := eL1421 ▸ jg_ne (by decide) gL1414_1 rfl
              have gL1421_2 : jGet L1421 2 = some (.int (i32 (r1305))) := eL1421 ▸ jg_ne (by decide) gL1414_2 rfl
              have gL1421_3 : jGet L1421 3 = some (.int (i32 (A 7 (r1305).toNat))) := eL1421 ▸ jg_ne (by decide) gL1414_3 rfl
              have gL1421_4 : jGet L1421 4 = some (.int (i32 (0))) := eL1421 ▸ jg_ne (by decide) gL1414_4 rfl
              have gL1421_5 : jGet L1421 5 = some (.int (i32 (1))) := eL1421 ▸ jg_eq
              refine jx_ld (pc' := 72) (l' := L1421) (st' := [.int (i32 (1))]) rfl (jl_iload gL1421_5) ?_
              refine jx_if_eq (pc' := 75) (tg := 110) rfl rfl rfl (by decide) (by decide) (fun h1422 => ?_) (fun h1422 => ?_)
              · have _q := h1422
                exact absurd h1422 (by omega)
              · have _q := h1422
                refine jx_ld (pc' := 76) (l' := L1421) (st' := [.int (i32 (A 7 (r1305).toNat))]) rfl (jl_iloadn gL1421_3) ?_
                refine jx_st (pc' := 79) (as := [.int (i32 (A 7 (r1305).toNat))]) (st := []) rfl rfl ⟨rfl, Nat.le_of_ble_eq_true rfl⟩ rfl rfl rfl (c_isArray (dd := d) (hd := by omega) (k := A 7 (r1305).toNat)   (h_k := ⟨(Int.le_trans (by decide : (-2147483648 : Int) ≤ 0) b1335.1), (Int.le_trans b1335.2 (by decide : (14 : Int) ≤ 2147483647))⟩)  ) (fun o V' hq => ?_)
                obtain ⟨r1423, rfl, rfl, b1424, q1425⟩ := hq
                refine .inr ⟨_, rfl, ?_⟩
                rcases q1425 with ⟨rfl, a1426⟩ | rfl
                · have _q : True := trivial
                  refine jx_if_ne (pc' := 82) (tg := 95) rfl rfl rfl (by decide) (by decide) (fun h1427 => ?_) (fun h1427 => ?_)
                  · have _q := h1427
                    refine jx_ld (pc' := 96) (l' := L1421) (st' := [.ref 66]) rfl (jl_aloadn gL1421_0) ?_
                    refine jx_vr (pc' := 99) (as := []) (st := []) rfl rfl rfl rfl ⟨rfl, rfl, Nat.le_of_ble_eq_true rfl⟩ rfl rfl (c_readIndex_w (dd := d) (k := 9) (hE := REw_all X 9) (hd := by omega) (hW := hW1341)  (ln := ln) (e_ln := show G1337 9 = ln from ((hF1342.1 9 rfl).trans ((hF1308.1 9 rfl).trans (e_ln)))) (le := le) (e_le := show A1338 4 (ln).toNat = le from (congrFun ((hF1342.2 4 rfl).trans (hF1308.2 4 rfl)) _).trans (e_le)) (at0 := at2_1339) (e_at0 := show G1337 10 = at2_1339 from (e1343)) (fk := fk2_1306) (e_fk := show G1337 16 = fk2_1306 from ((hF1342.1 16 rfl).trans (e1310))) (op0 := op0) (e_op0 := show G1337 15 = op0 from ((hF1342.1 15 rfl).trans ((hF1308.1 15 rfl).trans (e_op0)))) (nd := nd) (e_nd := show G1337 31 = nd from ((hF1342.1 31 rfl).trans ((hF1308.1 31 rfl).trans (e_nd)))) (tk0 := tk2_1340) (e_tk0 := show G1337 11 = tk2_1340 from (e1344)) (ec := ec) (e_ec := show ecn A1338 (G1337 31) = ec from ec1351) (sy := sy) (e_sy := show G1337 19 = sy from ((hF1342.1 19 rfl).trans ((hF1308.1 19 rfl).trans (e_sy)))) (i_SV := (SV_ext (((hF1342.1 29 rfl).trans (hF1308.1 29 rfl))) (((hF1342.2 14 rfl).trans (hF1308.2 14 rfl))) i_SV))   (p_0 := by omega) (p_1 := by omega) (p_2 := by omega) (p_3 := by omega) (p_4 := by omega) (p_5 := by omega) (p_6 := by omega) (p_7 := by omega) (p_8 := by omega)) (fun o V' hq => ?_)
                    obtain ⟨G1428, A1429, r1430, at2_1431, fk2_1432, op2_1433, nd2_1434, tk2_1435, ec2_1436, rfl, rfl, hW1437, hF1438, hQ1439, b1440, e1441, e1442, e1443, e1444, e1445, e1446, p1447, p1448, p1449, p1450, p1451, p1452, q1453⟩ := hq
                    have hF1454 := Fr_tr hF1349 hF1438 (Fr_sub (by decide)) (Fr_sub (by decide))
                    have hP1455 := Pf_tr hP1350 hQ1439 (by omega)
                    have bat2_1431 : (0 : Int) ≤ at2_1431 ∧ at2_1431 ≤ 3002 := e1441 ▸ hW1437.1 10
                    have bfk2_1432 : (0 : Int) ≤ fk2_1432 ∧ fk2_1432 ≤ 6 := e1442 ▸ hW1437.1 16
                    have bop2_1433 : (-2147483648 : Int) ≤ op2_1433 ∧ op2_1433 ≤ 2147483647 := e1443 ▸ hW1437.1 15
                    have bnd2_1434 : (0 : Int) ≤ nd2_1434 ∧ nd2_1434 ≤ 6999 := e1444 ▸ hW1437.1 31
                    have ztk2_1435 := tz_b tk2_1435
                    have btk2_1435 : (0 : Int) ≤ tk2_1435 ∧ tk2_1435 ≤ 5 := e1445 ▸ hW1437.1 11
                    refine .inr ⟨_, rfl, ?_⟩
                    rcases q1453 with ⟨a1456, a1457, a1458⟩ | ⟨a1459, a1460, a1461, a1462, a1463, a1464⟩
                    · have _q : True := trivial
                      refine jx_ld (pc' := 101) (l' := jSto1 L1421 4 (.int (i32 (r1430)))) (st' := []) rfl rfl ?_
                      obtain ⟨L1465, eL1465⟩ : ∃ q, q = jSto1 L1421 4 (.int (i32 (r1430))) := ⟨_, rfl⟩
                      rw [← eL1465]
                      have gL1465_0 : jGet L1465 0 = some (.ref 66) := eL1465 ▸ jg_ne (by decide) gL1421_0 rfl
                      have gL1465_1 : jGet L1465 1 = some (.int (i32 (G 12))) := eL1465 ▸ jg_ne (by decide) gL1421_1 rfl
                      have gL1465_2 : jGet L1465 2 = some (.int (i32 (r1305))) := eL1465 ▸ jg_ne (by decide) gL1421_2 rfl
                      have gL1465_3 : jGet L1465 3 = some (.int (i32 (A 7 (r1305).toNat))) := eL1465 ▸ jg_ne (by decide) gL1421_3 rfl
                      have gL1465_5 : jGet L1465 5 = some (.int (i32 (1))) := eL1465 ▸ jg_ne (by decide) gL1421_5 rfl
                      have gL1465_4 : jGet L1465 4 = some (.int (i32 (r1430))) := eL1465 ▸ jg_eq
                      refine jx_ld (pc' := 102) (l' := L1465) (st' := [.ref 66]) rfl (jl_aloadn gL1465_0) ?_
                      refine jx_vr (pc' := 105) (as := []) (st := []) rfl rfl rfl rfl ⟨rfl, rfl, Nat.le_of_ble_eq_true rfl⟩ rfl rfl (c_bad (dd := d) (hd := by omega) (hW := hW1437)  (fk := fk2_1432) (e_fk := show G1428 16 = fk2_1432 from (e1442))    ) (fun o V' hq => ?_)
                      obtain ⟨r1466, rfl, rfl, b1467, q1468⟩ := hq
                      refine .inr ⟨_, rfl, ?_⟩
                      rcases q1468 with ⟨rfl, a1469⟩ | ⟨rfl, a1470⟩
                      · have _q : True := trivial
                        refine jx_if_eq (pc' := 108) (tg := 110) rfl rfl rfl (by decide) (by decide) (fun h1471 => ?_) (fun h1471 => ?_)
                        · have _q := h1471
                          exact absurd h1471 (by omega)
                        · have _q := h1471
                          refine jx_ar (pc' := 109) (st' := [.int (i32 (0))]) rfl rfl rfl rfl ?_
                          refine jx_rt (v := some (.int (i32 (0)))) rfl rfl rfl rfl rfl rfl ?_
                          exact ⟨_, _, _, at2_1431, fk2_1432, nd2_1434, ln, ec2_1436, rfl, rfl, hW1437, hF1454, hP1455, by omega, (e1441), (e1442), (e1444), ((hF1438.1 9 rfl).trans ((hF1342.1 9 rfl).trans ((hF1308.1 9 rfl).trans (e_ln)))), e1446, by omega, by omega, by omega, by omega, by omega, by first | exact Or.inl (⟨by omega, by omega, by omega⟩)⟩
                      · have _q : True := trivial
                        exfalso
                        omega
                    · have _q : True := trivial
                      refine jx_ld (pc' := 101) (l' := jSto1 L1421 4 (.int (i32 (r1430)))) (st' := []) rfl rfl ?_
                      obtain ⟨L1472, eL1472⟩ : ∃ q, q = jSto1 L1421 4 (.int (i32 (r1430))) := ⟨_, rfl⟩
                      rw [← eL1472]
                      have gL1472_0 : jGet L1472 0 = some (.ref 66) := eL1472 ▸ jg_ne (by decide) gL1421_0 rfl
                      have gL1472_1 : jGet L1472 1 = some (.int (i32 (G 12))) := eL1472 ▸ jg_ne (by decide) gL1421_1 rfl
                      have gL1472_2 : jGet L1472 2 = some (.int (i32 (r1305))) := eL1472 ▸ jg_ne (by decide) gL1421_2 rfl
                      have gL1472_3 : jGet L1472 3 = some (.int (i32 (A 7 (r1305).toNat))) := eL1472 ▸ jg_ne (by decide) gL1421_3 rfl
                      have gL1472_5 : jGet L1472 5 = some (.int (i32 (1))) := eL1472 ▸ jg_ne (by decide) gL1421_5 rfl
                      have gL1472_4 : jGet L1472 4 = some (.int (i32 (r1430))) := eL1472 ▸ jg_eq
                      refine jx_ld (pc' := 102) (l' := L1472) (st' := [.ref 66]) rfl (jl_aloadn gL1472_0) ?_
                      refine jx_vr (pc' := 105) (as := []) (st := []) rfl rfl rfl rfl ⟨rfl, rfl, Nat.le_of_ble_eq_true rfl⟩ rfl rfl (c_bad (dd := d) (hd := by omega) (hW := hW1437)  (fk := fk2_1432) (e_fk := show G1428 16 = fk2_1432 from (e1442))    ) (fun o V' hq => ?_)
                      obtain ⟨r1473, rfl, rfl, b1474, q1475⟩ := hq
                      refine .inr ⟨_, rfl, ?_⟩
                      rcases q1475 with ⟨rfl, a1476⟩ | ⟨rfl, a1477⟩
                      · have _q : True := trivial
                        exfalso
                        omega
                      · have _q : True := trivial
                        refine jx_if_eq (pc' := 108) (tg := 110) rfl rfl rfl (by decide) (by decide) (fun h1478 => ?_) (fun h1478 => ?_)
                        · have _q := h1478
                          have z1479 := tz_f (tk2_1435)
                          exact c_readNamed_w_at_110_1 (X := X) (d := d) (Vs := Vs) (sb := sb) (pb := pb) (c0 := c0) (c1 := c1) (G := G) (A := A) (T := T) (ln := ln) (le := le) (at0 := at0) (fk := fk) (op0 := op0) (nd := nd) (tk0 := tk0) (li := li) (ec := ec) (sy := sy) (hd := hd) (hW := hW) (e_ln := e_ln) (e_le := e_le) (e_at0 := e_at0) (e_fk := e_fk) (e_op0 := e_op0) (e_nd := e_nd) (e_tk0 := e_tk0) (e_li := e_li) (e_ec := e_ec) (e_sy := e_sy) (i_SV := i_SV) (i_PQ := i_PQ) (p_0 := p_0) (p_1 := p_1) (p_2 := p_2) (p_3 := p_3) (p_4 := p_4) (p_5 := p_5) L1472 G1428 A1429 (G 12) (r1305) (r1430) (at2_1431) (tk2_1435) (fk2_1432) (nd2_1434) (op2_1433) (A 7 (r1305).toNat) (ec2_1436) gL1472_0 gL1472_5 gL1472_3 gL1472_1 gL1472_2 gL1472_4 hW1437 hF1454 hP1455 ((e1441)) ((e1445)) ((e1442)) ((e1444)) ((e1443)) ((congrFun ((hF1438.2 7 rfl).trans ((hF1342.2 7 rfl).trans (hF1308.2 7 rfl))) _)) (e1446) (((hF1438.1 9 rfl).trans ((hF1342.1 9 rfl).trans ((hF1308.1 9 rfl).trans (e_ln))))) (by omega) (by omega) (by omega) (by omega) (by omega) (by omega) (by omega) (by omega) (by omega) (by omega) (by omega) (a1320) ((wE_mono (by omega) (by omega) (by omega) a1462)) (by omega) (a1464)
                        · have _q := h1478
                          exact absurd h1478 (by omega)
                  · have _q := h1427
                    exact absurd h1427 (by omega)
                · have _q : True := trivial
                  refine jx_if_ne (pc' := 82) (tg := 95) rfl rfl rfl (by decide) (by decide) (fun h1480 => ?_) (fun h1480 => ?_)
                  · have _q := h1480
                    exact absurd h1480 (by omega)
                  · have _q := h1480
                    refine jx_ld (pc' := 83) (l' := L1421) (st' := [.int (i32 (A 7 (r1305).toNat))]) rfl (jl_iloadn gL1421_3) ?_
                    refine jx_ar (pc' := 84) (st' := [.int (i32 (4)), .int (i32 (A 7 (r1305).toNat))]) rfl rfl rfl rfl ?_
                    refine jx_icmp_eq (pc' := 87) (tg := 95) rfl rfl rfl (Int.le_trans (by decide : (-2147483648 : Int) ≤ 0) b1335.1) (Int.le_trans b1335.2 (by decide : (14 : Int) ≤ 2147483647)) (by decide) (by decide) (fun h1481 => ?_) (fun h1481 => ?_)
                    · have _q := h1481
                      refine jx_ld (pc' := 96) (l' := L1421) (st' := [.ref 66]) rfl (jl_aloadn gL1421_0) ?_
                      refine jx_vr (pc' := 99) (as := []) (st := []) rfl rfl rfl rfl ⟨rfl, rfl, Nat.le_of_ble_eq_true rfl⟩ rfl rfl (c_readIndex_w (dd := d) (k := 9) (hE := REw_all X 9) (hd := by omega) (hW := hW1341)  (ln := ln) (e_ln := show G1337 9 = ln from ((hF1342.1 9 rfl).trans ((hF1308.1 9 rfl).trans (e_ln)))) (le := le) (e_le := show A1338 4 (ln).toNat = le from (congrFun ((hF1342.2 4 rfl).trans (hF1308.2 4 rfl)) _).trans (e_le)) (at0 := at2_1339) (e_at0 := show G1337 10 = at2_1339 from (e1343)) (fk := fk2_1306) (e_fk := show G1337 16 = fk2_1306 from ((hF1342.1 16 rfl).trans (e1310))) (op0 := op0) (e_op0 := show G1337 15 = op0 from ((hF1342.1 15 rfl).trans ((hF1308.1 15 rfl).trans (e_op0)))) (nd := nd) (e_nd := show G1337 31 = nd from ((hF1342.1 31 rfl).trans ((hF1308.1 31 rfl).trans (e_nd)))) (tk0 := tk2_1340) (e_tk0 := show G1337 11 = tk2_1340 from (e1344)) (ec := ec) (e_ec := show ecn A1338 (G1337 31) = ec from ec1351) (sy := sy) (e_sy := show G1337 19 = sy from ((hF1342.1 19 rfl).trans ((hF1308.1 19 rfl).trans (e_sy)))) (i_SV := (SV_ext (((hF1342.1 29 rfl).trans (hF1308.1 29 rfl))) (((hF1342.2 14 rfl).trans (hF1308.2 14 rfl))) i_SV))   (p_0 := by omega) (p_1 := by omega) (p_2 := by omega) (p_3 := by omega) (p_4 := by omega) (p_5 := by omega) (p_6 := by omega) (p_7 := by omega) (p_8 := by omega)) (fun o V' hq => ?_)
                      obtain ⟨G1482, A1483, r1484, at2_1485, fk2_1486, op2_1487, nd2_1488, tk2_1489, ec2_1490, rfl, rfl, hW1491, hF1492, hQ1493, b1494, e1495, e1496, e1497, e1498, e1499, e1500, p1501, p1502, p1503, p1504, p1505, p1506, q1507⟩ := hq
                      have hF1508 := Fr_tr hF1349 hF1492 (Fr_sub (by decide)) (Fr_sub (by decide))
                      have hP1509 := Pf_tr hP1350 hQ1493 (by omega)
                      have bat2_1485 : (0 : Int) ≤ at2_1485 ∧ at2_1485 ≤ 3002 := e1495 ▸ hW1491.1 10
                      have bfk2_1486 : (0 : Int) ≤ fk2_1486 ∧ fk2_1486 ≤ 6 := e1496 ▸ hW1491.1 16
                      have bop2_1487 : (-2147483648 : Int) ≤ op2_1487 ∧ op2_1487 ≤ 2147483647 := e1497 ▸ hW1491.1 15
                      have bnd2_1488 : (0 : Int) ≤ nd2_1488 ∧ nd2_1488 ≤ 6999 := e1498 ▸ hW1491.1 31
                      have ztk2_1489 := tz_b tk2_1489
                      have btk2_1489 : (0 : Int) ≤ tk2_1489 ∧ tk2_1489 ≤ 5 := e1499 ▸ hW1491.1 11
                      refine .inr ⟨_, rfl, ?_⟩
                      rcases q1507 with ⟨a1510, a1511, a1512⟩ | ⟨a1513, a1514, a1515, a1516, a1517, a1518⟩
                      · have _q : True := trivial
                        refine jx_ld (pc' := 101) (l' := jSto1 L1421 4 (.int (i32 (r1484)))) (st' := []) rfl rfl ?_
                        obtain ⟨L1519, eL1519⟩ : ∃ q, q = jSto1 L1421 4 (.int (i32 (r1484))) := ⟨_, rfl⟩
                        rw [← eL1519]
                        have gL1519_0 : jGet L1519 0 = some (.ref 66) := eL1519 ▸ jg_ne (by decide) gL1421_0 rfl
                        have gL1519_1 : jGet L1519 1 = some (.int (i32 (G 12))) := eL1519 ▸ jg_ne (by decide) gL1421_1 rfl
                        have gL1519_2 : jGet L1519 2 = some (.int (i32 (r1305))) := eL1519 ▸ jg_ne (by decide) gL1421_2 rfl
                        have gL1519_3 : jGet L1519 3 = some (.int (i32 (A 7 (r1305).toNat))) := eL1519 ▸ jg_ne (by decide) gL1421_3 rfl
                        have gL1519_5 : jGet L1519 5 = some (.int (i32 (1))) := eL1519 ▸ jg_ne (by decide) gL1421_5 rfl
                        have gL1519_4 : jGet L1519 4 = some (.int (i32 (r1484))) := eL1519 ▸ jg_eq
                        refine jx_ld (pc' := 102) (l' := L1519) (st' := [.ref 66]) rfl (jl_aloadn gL1519_0) ?_
                        refine jx_vr (pc' := 105) (as := []) (st := []) rfl rfl rfl rfl ⟨rfl, rfl, Nat.le_of_ble_eq_true rfl⟩ rfl rfl (c_bad (dd := d) (hd := by omega) (hW := hW1491)  (fk := fk2_1486) (e_fk := show G1482 16 = fk2_1486 from (e1496))    ) (fun o V' hq => ?_)
                        obtain ⟨r1520, rfl, rfl, b1521, q1522⟩ := hq
                        refine .inr ⟨_, rfl, ?_⟩
                        rcases q1522 with ⟨rfl, a1523⟩ | ⟨rfl, a1524⟩
                        · have _q : True := trivial
                          refine jx_if_eq (pc' := 108) (tg := 110) rfl rfl rfl (by decide) (by decide) (fun h1525 => ?_) (fun h1525 => ?_)
                          · have _q := h1525
                            exact absurd h1525 (by omega)
                          · have _q := h1525
                            refine jx_ar (pc' := 109) (st' := [.int (i32 (0))]) rfl rfl rfl rfl ?_
                            refine jx_rt (v := some (.int (i32 (0)))) rfl rfl rfl rfl rfl rfl ?_
                            exact ⟨_, _, _, at2_1485, fk2_1486, nd2_1488, ln, ec2_1490, rfl, rfl, hW1491, hF1508, hP1509, by omega, (e1495), (e1496), (e1498), ((hF1492.1 9 rfl).trans ((hF1342.1 9 rfl).trans ((hF1308.1 9 rfl).trans (e_ln)))), e1500, by omega, by omega, by omega, by omega, by omega, by first | exact Or.inl (⟨by omega, by omega, by omega⟩)⟩
                        · have _q : True := trivial
                          exfalso
                          omega
                      · have _q : True := trivial
                        refine jx_ld (pc' := 101) (l' := jSto1 L1421 4 (.int (i32 (r1484)))) (st' := []) rfl rfl ?_
                        obtain ⟨L1526, eL1526⟩ : ∃ q, q = jSto1 L1421 4 (.int (i32 (r1484))) := ⟨_, rfl⟩
                        rw [← eL1526]
                        have gL1526_0 : jGet L1526 0 = some (.ref 66) := eL1526 ▸ jg_ne (by decide) gL1421_0 rfl
                        have gL1526_1 : jGet L1526 1 = some (.int (i32 (G 12))) := eL1526 ▸ jg_ne (by decide) gL1421_1 rfl
                        have gL1526_2 : jGet L1526 2 = some (.int (i32 (r1305))) := eL1526 ▸ jg_ne (by decide) gL1421_2 rfl
                        have gL1526_3 : jGet L1526 3 = some (.int (i32 (A 7 (r1305).toNat))) := eL1526 ▸ jg_ne (by decide) gL1421_3 rfl
                        have gL1526_5 : jGet L1526 5 = some (.int (i32 (1))) := eL1526 ▸ jg_ne (by decide) gL1421_5 rfl
                        have gL1526_4 : jGet L1526 4 = some (.int (i32 (r1484))) := eL1526 ▸ jg_eq
                        refine jx_ld (pc' := 102) (l' := L1526) (st' := [.ref 66]) rfl (jl_aloadn gL1526_0) ?_
                        refine jx_vr (pc' := 105) (as := []) (st := []) rfl rfl rfl rfl ⟨rfl, rfl, Nat.le_of_ble_eq_true rfl⟩ rfl rfl (c_bad (dd := d) (hd := by omega) (hW := hW1491)  (fk := fk2_1486) (e_fk := show G1482 16 = fk2_1486 from (e1496))    ) (fun o V' hq => ?_)
                        obtain ⟨r1527, rfl, rfl, b1528, q1529⟩ := hq
                        refine .inr ⟨_, rfl, ?_⟩
                        rcases q1529 with ⟨rfl, a1530⟩ | ⟨rfl, a1531⟩
                        · have _q : True := trivial
                          exfalso
                          omega
                        · have _q : True := trivial
                          refine jx_if_eq (pc' := 108) (tg := 110) rfl rfl rfl (by decide) (by decide) (fun h1532 => ?_) (fun h1532 => ?_)
                          · have _q := h1532
                            have z1533 := tz_f (tk2_1489)
                            exact c_readNamed_w_at_110_1 (X := X) (d := d) (Vs := Vs) (sb := sb) (pb := pb) (c0 := c0) (c1 := c1) (G := G) (A := A) (T := T) (ln := ln) (le := le) (at0 := at0) (fk := fk) (op0 := op0) (nd := nd) (tk0 := tk0) (li := li) (ec := ec) (sy := sy) (hd := hd) (hW := hW) (e_ln := e_ln) (e_le := e_le) (e_at0 := e_at0) (e_fk := e_fk) (e_op0 := e_op0) (e_nd := e_nd) (e_tk0 := e_tk0) (e_li := e_li) (e_ec := e_ec) (e_sy := e_sy) (i_SV := i_SV) (i_PQ := i_PQ) (p_0 := p_0) (p_1 := p_1) (p_2 := p_2) (p_3 := p_3) (p_4 := p_4) (p_5 := p_5) L1526 G1482 A1483 (G 12) (r1305) (r1484) (at2_1485) (tk2_1489) (fk2_1486) (nd2_1488) (op2_1487) (A 7 (r1305).toNat) (ec2_1490) gL1526_0 gL1526_5 gL1526_3 gL1526_1 gL1526_2 gL1526_4 hW1491 hF1508 hP1509 ((e1495)) ((e1499)) ((e1496)) ((e1498)) ((e1497)) ((congrFun ((hF1492.2 7 rfl).trans ((hF1342.2 7 rfl).trans (hF1308.2 7 rfl))) _)) (e1500) (((hF1492.1 9 rfl).trans ((hF1342.1 9 rfl).trans ((hF1308.1 9 rfl).trans (e_ln))))) (by omega) (by omega) (by omega) (by omega) (by omega) (by omega) (by omega) (by omega) (by omega) (by omega) (by omega) (a1320) ((wE_mono (by omega) (by omega) (by omega) a1516)) (by omega) (a1518)
                          · have _q := h1532
                            exact absurd h1532 (by omega)
                    · have _q := h1481
                      refine jx_ld (pc' := 88) (l' := L1421) (st' := [.ref 66]) rfl (jl_aloadn gL1421_0) ?_
                      refine jx_ar (pc' := 89) (st' := [.int (i32 (4)), .ref 66]) rfl rfl rfl rfl ?_
                      refine jx_ld (pc' := 90) (l' := L1421) (st' := [.int (i32 (G 12)), .int (i32 (4)), .ref 66]) rfl (jl_iloadn gL1421_1) ?_
                      refine jx_vr (pc' := 93) (as := [.int (i32 (4)), .int (i32 (G 12))]) (st := []) rfl rfl rfl rfl ⟨rfl, rfl, Nat.le_of_ble_eq_true rfl⟩ rfl rfl (c_fail (dd := d) (hd := by omega) (hW := hW1341) (kind := 4) (place := G 12) (fk := fk2_1306) (e_fk := show G1337 16 = fk2_1306 from ((hF1342.1 16 rfl).trans (e1310)))  (h_kind := ⟨(by decide), (by decide)⟩) (h_place := ⟨(Int.le_trans (by decide : (-2147483648 : Int) ≤ -3000) b1301.1), (Int.le_trans b1301.2 (by decide : (3002 : Int) ≤ 2147483647))⟩)  (p_0 := by omega) (p_1 := by omega)) (fun o V' hq => ?_)
                      obtain ⟨G1534, A1535, fk2_1536, rfl, rfl, hW1537, hF1538, e1539, p1540, -⟩ := hq
                      have hF1542 := Fr_tr hF1349 hF1538 (Fr_sub (by decide)) (Fr_sub (by decide))
                      have hP1543 := Pf_f hP1350 hF1538 (by decide)
                      have ec1544 : ecn A1535 (G1534 31) = ec := (ecn_f (hF1538.2 15 rfl) (hF1538.1 31 rfl)).trans ec1351
                      have bfk2_1536 : (0 : Int) ≤ fk2_1536 ∧ fk2_1536 ≤ 6 := e1539 ▸ hW1537.1 16
                      refine .inl ⟨rfl, ?_⟩
                      refine jx_ar (pc' := 94) (st' := [.int (i32 (0))]) rfl rfl rfl rfl ?_
                      refine jx_rt (v := some (.int (i32 (0)))) rfl rfl rfl rfl rfl rfl ?_
                      exact ⟨_, _, _, at2_1339, fk2_1536, nd, ln, ec, rfl, rfl, hW1537, hF1542, hP1543, by omega, ((hF1538.1 10 rfl).trans (e1343)), (e1539), ((hF1538.1 31 rfl).trans ((hF1342.1 31 rfl).trans ((hF1308.1 31 rfl).trans (e_nd)))), ((hF1538.1 9 rfl).trans ((hF1342.1 9 rfl).trans ((hF1308.1 9 rfl).trans (e_ln)))), ec1544, by omega, by omega, by omega, by omega, by omega, by first | exact Or.inl (⟨by omega, by omega, by omega⟩)⟩
            · have _q : True := trivial
              refine jx_ld (pc' := 70) (l' := jSto1 L1414 5 (.int (i32 (0)))) (st' := []) rfl rfl ?_
              obtain ⟨L1545, eL1545⟩ : ∃ q, q = jSto1 L1414 5 (.int (i32 (0))) := ⟨_, rfl⟩
              rw [← eL1545]
              have gL1545_0 : jGet L1545 0 = some (.ref 66) := eL1545 ▸ jg_ne (by decide) gL1414_0 rfl
              have gL1545_1 : jGet L1545 1 = some (.int (i32 (G 12))) := eL1545 ▸ jg_ne (by decide) gL1414_1 rfl
              have gL1545_2 : jGet L1545 2 = some (.int (i32 (r1305))) := eL1545 ▸ jg_ne (by decide) gL1414_2 rfl
              have gL1545_3 : jGet L1545 3 = some (.int (i32 (A 7 (r1305).toNat))) := eL1545 ▸ jg_ne (by decide) gL1414_3 rfl
              have gL1545_4 : jGet L1545 4 = some (.int (i32 (0))) := eL1545 ▸ jg_ne (by decide) gL1414_4 rfl
              have gL1545_5 : jGet L1545 5 = some (.int (i32 (0))) := eL1545 ▸ jg_eq
              refine jx_ld (pc' := 72) (l' := L1545) (st' := [.int (i32 (0))]) rfl (jl_iload gL1545_5) ?_
              refine jx_if_eq (pc' := 75) (tg := 110) rfl rfl rfl (by decide) (by decide) (fun h1546 => ?_) (fun h1546 => ?_)
              · have _q := h1546
                have z1547 := tz_f (tk2_1340)
                exact c_readNamed_w_at_110_0 (X := X) (d := d) (Vs := Vs) (sb := sb) (pb := pb) (c0 := c0) (c1 := c1) (G := G) (A := A) (T := T) (ln := ln) (le := le) (at0 := at0) (fk := fk) (op0 := op0) (nd := nd) (tk0 := tk0) (li := li) (ec := ec) (sy := sy) (hd := hd) (hW := hW) (e_ln := e_ln) (e_le := e_le) (e_at0 := e_at0) (e_fk := e_fk) (e_op0 := e_op0) (e_nd := e_nd) (e_tk0 := e_tk0) (e_li := e_li) (e_ec := e_ec) (e_sy := e_sy) (i_SV := i_SV) (i_PQ := i_PQ) (p_0 := p_0) (p_1 := p_1) (p_2 := p_2) (p_3 := p_3) (p_4 := p_4) (p_5 := p_5) L1545 G1337 A1338 (G 12) (r1305) (at2_1339) (tk2_1340) (fk2_1306) (nd) (op0) (A 7 (r1305).toNat) (ec) gL1545_0 gL1545_5 gL1545_3 gL1545_4 gL1545_1 gL1545_2 hW1341 hF1349 hP1350 ((e1343)) ((e1344)) (((hF1342.1 16 rfl).trans (e1310))) (((hF1342.1 31 rfl).trans ((hF1308.1 31 rfl).trans (e_nd)))) (((hF1342.1 15 rfl).trans ((hF1308.1 15 rfl).trans (e_op0)))) ((congrFun ((hF1342.2 7 rfl).trans (hF1308.2 7 rfl)) _)) (ec1351) (((hF1342.1 9 rfl).trans ((hF1308.1 9 rfl).trans (e_ln)))) (by omega) (by omega) (by omega) (by omega) (by omega) (by omega) (by omega) (by omega) (by omega) (by omega) (a1320) (by omega) ((NdM_0 (by omega)))
              · have _q := h1546
                exact absurd h1546 (by omega)
          · have _q := h1413
            exact absurd h1413 (by omega)
      · have _q := h1334
        exact absurd h1334 (by omega)
