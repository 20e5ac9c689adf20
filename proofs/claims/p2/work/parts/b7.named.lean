set_option maxRecDepth 20000 in
set_option maxHeartbeats 4000000 in
theorem c_readNamed_w_at_259_1 {X : jX} {d : Nat} {Vs : Nat → Prop} {sb pb : Int} {c0 c1 : jC} {G : Nat → Int} {A : Nat → Nat → Int} {T : jH} {ln le at0 fk op0 nd tk0 li ec : Int} (hd : 72 ≤ d + 1) (hW : Wk G A) (e_ln : G 9 = ln) (e_le : A 4 (ln).toNat = le) (e_at0 : G 10 = at0) (e_fk : G 16 = fk) (e_op0 : G 15 = op0) (e_nd : G 31 = nd) (e_tk0 : G 11 = tk0) (e_li : G 3 = li) (e_ec : ecn A (G 31) = ec) (i_SV : SV Vs sb G A) (i_PQ : PQ Vs sb pb G A) (p_0 : 0 ≤ op0 ∧ op0 ≤ 8) (p_1 : fk = 0) (p_2 : nd ≤ 2 * at0 - tz tk0 + 42) (p_3 : at0 ≤ le) (p_4 : ln < li) (p_5 : tk0 = 1) : ∀ (L : jL) (Gx : Nat → Int) (Ax : Nat → Nat → Int) (s ix at1 tk1 fk1 nd1 op1 ks ec1 : Int), jGet L 0 = some (.ref 66) → jGet L 5 = some (.int (i32 (1))) → jGet L 2 = some (.int (i32 s)) → jGet L 4 = some (.int (i32 ix)) → Wk Gx Ax → Fr [9, 10, 11, 12, 13, 14, 15, 16, 17, 18, 31] [15, 16, 17, 18, 19, 20, 21, 22, 24, 28] G A Gx Ax → Pf nd A Ax → Gx 10 = at1 → Gx 11 = tk1 → Gx 16 = fk1 → Gx 31 = nd1 → Gx 15 = op1 → Ax 7 (s).toNat = ks → ecn Ax (Gx 31) = ec1 → Gx 9 = ln → ((-2147483648 : Int) ≤ s ∧ s ≤ 2147483647) → ((-2147483648 : Int) ≤ ix ∧ ix ≤ 2147483647) → (at0 ≤ at1) → (at1 ≤ le) → (nd ≤ nd1) → (op1 = op0) → (fk1 = 0) → (nd1 - nd ≤ (2 * at1 - tz tk1) - (2 * at0 - tz tk0) - 1) → (tz tk1 = 1) → (0 ≤ s ∧ s ≤ 201) → (SY Vs sb (s)) → (ks = 4) → (wE Ax Vs sb (20) (ix) (nd) (nd1)) → (nd1 - nd + 5 * (ec1 - ec) ≤ (2 * at1 - tz tk1) - (2 * at0 - tz tk0) - 6 - tz tk1) → wj X d jm304 (259, L, [], rV c0 c1 Gx Ax T) (fun o V' => ∃ (G' : Nat → Int) (A' : Nat → Nat → Int) (r : Int) (at2 : Int) (fk2 : Int) (nd2 : Int) (ln2 : Int) (ec2 : Int), V' = rV c0 c1 G' A' T ∧ o = .inl (some (.int (i32 r))) ∧ Wk G' A' ∧ Fr [9, 10, 11, 12, 13, 14, 15, 16, 17, 18, 31] [15, 16, 17, 18, 19, 20, 21, 22, 24, 28] G A G' A' ∧ Pf nd A A' ∧ ((-2147483648 : Int) ≤ r ∧ r ≤ 2147483647) ∧ G' 10 = at2 ∧ G' 16 = fk2 ∧ G' 31 = nd2 ∧ G' 9 = ln2 ∧ ecn A' (G' 31) = ec2 ∧ (at0 ≤ at2) ∧ (at2 ≤ le) ∧ (nd ≤ nd2) ∧ (0 ≤ r) ∧ (r ≤ nd2) ∧ (((1 ≤ fk2) ∧ (ln2 = ln) ∧ (nd2 - nd ≤ 2 * at2 - 2 * at0 + 8)) ∨ ((fk2 = 0) ∧ (ln2 = ln + 1) ∧ (nd2 - nd ≤ 2 * at2 - (2 * at0 - tz tk0) + 0) ∧ (nd ≤ r) ∧ (r < nd2) ∧ (wL A' sb pb Vs (r) (nd) (nd2)) ∧ (NX A' (r)) ∧ (nd2 - nd + 5 * (ec2 - ec) ≤ 2 * at2 - (2 * at0 - tz tk0) + 0)))) := by
  have hF0 : Fr [9, 10, 11, 12, 13, 14, 15, 16, 17, 18, 31] [15, 16, 17, 18, 19, 20, 21, 22, 24, 28] G A G A := Fr_rf
  have hP0 : Pf nd A A := Pf_rf
  have b_ln : (0 : Int) ≤ ln ∧ ln ≤ 3000 := e_ln ▸ hW.1 9
  have b_le : (0 : Int) ≤ le ∧ le ≤ 3000 := e_le ▸ hW.2 4 _
  have b_at0 : (0 : Int) ≤ at0 ∧ at0 ≤ 3002 := e_at0 ▸ hW.1 10
  have b_fk : (0 : Int) ≤ fk ∧ fk ≤ 6 := e_fk ▸ hW.1 16
  have b_op0 : (-2147483648 : Int) ≤ op0 ∧ op0 ≤ 2147483647 := e_op0 ▸ hW.1 15
  have b_nd : (0 : Int) ≤ nd ∧ nd ≤ 6999 := e_nd ▸ hW.1 31
  have z_tk0 := tz_f tk0
  have b_tk0 : (0 : Int) ≤ tk0 ∧ tk0 ≤ 5 := e_tk0 ▸ hW.1 11
  have b_li : (0 : Int) ≤ li ∧ li ≤ 3000 := e_li ▸ hW.1 3
  intro L Gx Ax s ix at1 tk1 fk1 nd1 op1 ks ec1 gL_0 gL_5 gL_2 gL_4 hWx hFx hPx ex_at1 ex_tk1 ex_fk1 ex_nd1 ex_op1 ex_ks ex_ec1 fx_9 rx_s rx_ix iv_0 iv_1 iv_2 iv_3 iv_4 iv_5 iv_6 iv_7 iv_8 iv_9 iv_10 iv_11
  have b_at1 : (0 : Int) ≤ at1 ∧ at1 ≤ 3002 := ex_at1 ▸ hWx.1 10
  have z_tk1 := tz_f tk1
  have b_tk1 : (0 : Int) ≤ tk1 ∧ tk1 ≤ 5 := ex_tk1 ▸ hWx.1 11
  have b_fk1 : (0 : Int) ≤ fk1 ∧ fk1 ≤ 6 := ex_fk1 ▸ hWx.1 16
  have b_nd1 : (0 : Int) ≤ nd1 ∧ nd1 ≤ 6999 := ex_nd1 ▸ hWx.1 31
  have b_op1 : (-2147483648 : Int) ≤ op1 ∧ op1 ≤ 2147483647 := ex_op1 ▸ hWx.1 15
  have b_ks : (0 : Int) ≤ ks ∧ ks ≤ 14 := ex_ks ▸ hWx.2 7 _
  refine jx_ld (pc' := 260) (l' := L) (st' := [.ref 66]) rfl (jl_aloadn gL_0) ?_
  refine jx_ar (pc' := 262) (st' := [.int (i32 (33)), .ref 66]) rfl rfl rfl rfl ?_
  have b1 : (-2147483648 : Int) ≤ Gx 13 ∧ Gx 13 ≤ 2147483647 := hWx.1 13
  refine jx_vr (pc' := 265) (as := [.int (i32 (33))]) (st := []) rfl rfl rfl rfl ⟨rfl, rfl, Nat.le_of_ble_eq_true rfl⟩ rfl rfl (c_is (dd := d) (hd := by omega) (hW := hWx) (k := 33) (tk := tk1) (e_tk := show Gx 11 = tk1 from (ex_tk1)) (tn := Gx 13) (e_tn := show Gx 13 = Gx 13 from rfl)  (h_k := ⟨(by decide), (by decide)⟩)  ) (fun o V' hq => ?_)
  obtain ⟨r2, rfl, rfl, b3, q4⟩ := hq
  refine .inr ⟨_, rfl, ?_⟩
  rcases q4 with ⟨rfl, a5, a6, a7⟩ | rfl
  · have _q : True := trivial
    refine jx_ld (pc' := 267) (l' := jSto1 L 6 (.int (i32 (1)))) (st' := []) rfl rfl ?_
    obtain ⟨L8, eL8⟩ : ∃ q, q = jSto1 L 6 (.int (i32 (1))) := ⟨_, rfl⟩
    rw [← eL8]
    have gL8_0 : jGet L8 0 = some (.ref 66) := eL8 ▸ jg_ne (by decide) gL_0 rfl
    have gL8_5 : jGet L8 5 = some (.int (i32 (1))) := eL8 ▸ jg_ne (by decide) gL_5 rfl
    have gL8_2 : jGet L8 2 = some (.int (i32 (s))) := eL8 ▸ jg_ne (by decide) gL_2 rfl
    have gL8_4 : jGet L8 4 = some (.int (i32 (ix))) := eL8 ▸ jg_ne (by decide) gL_4 rfl
    have gL8_6 : jGet L8 6 = some (.int (i32 (1))) := eL8 ▸ jg_eq
    refine jx_ld (pc' := 268) (l' := L8) (st' := [.ref 66]) rfl (jl_aloadn gL8_0) ?_
    refine jx_ld (pc' := 270) (l' := L8) (st' := [.int (i32 (1)), .ref 66]) rfl (jl_iload gL8_6) ?_
    refine jx_if_eq (pc' := 273) (tg := 278) rfl rfl rfl (by decide) (by decide) (fun h9 => ?_) (fun h9 => ?_)
    · have _q := h9
      exact absurd h9 (by omega)
    · have _q := h9
      refine jx_ar (pc' := 275) (st' := [.int (i32 (23)), .ref 66]) rfl rfl rfl rfl ?_
      refine jx_go (tg := 280) rfl rfl ?_
      refine jx_ld (pc' := 281) (l' := L8) (st' := [.ref 66, .int (i32 (23)), .ref 66]) rfl (jl_aloadn gL8_0) ?_
      refine jx_ld (pc' := 283) (l' := L8) (st' := [.int (i32 (1)), .ref 66, .int (i32 (23)), .ref 66]) rfl (jl_iload gL8_5) ?_
      refine jx_if_eq (pc' := 286) (tg := 290) rfl rfl rfl (by decide) (by decide) (fun h10 => ?_) (fun h10 => ?_)
      · have _q := h10
        exact absurd h10 (by omega)
      · have _q := h10
        refine jx_ar (pc' := 287) (st' := [.int (i32 (3)), .ref 66, .int (i32 (23)), .ref 66]) rfl rfl rfl rfl ?_
        refine jx_go (tg := 291) rfl rfl ?_
        refine jx_ld (pc' := 292) (l' := L8) (st' := [.int (i32 (s)), .int (i32 (3)), .ref 66, .int (i32 (23)), .ref 66]) rfl (jl_iloadn gL8_2) ?_
        refine jx_ld (pc' := 294) (l' := L8) (st' := [.int (i32 (ix)), .int (i32 (s)), .int (i32 (3)), .ref 66, .int (i32 (23)), .ref 66]) rfl (jl_iload gL8_4) ?_
        refine jx_ar (pc' := 295) (st' := [.int (i32 (0)), .int (i32 (ix)), .int (i32 (s)), .int (i32 (3)), .ref 66, .int (i32 (23)), .ref 66]) rfl rfl rfl rfl ?_
        refine jx_ar (pc' := 296) (st' := [.int (i32 (0)), .int (i32 (0)), .int (i32 (ix)), .int (i32 (s)), .int (i32 (3)), .ref 66, .int (i32 (23)), .ref 66]) rfl rfl rfl rfl ?_
        refine jx_vr (pc' := 299) (as := [.int (i32 (3)), .int (i32 (s)), .int (i32 (ix)), .int (i32 (0)), .int (i32 (0))]) (st := [.int (i32 (23)), .ref 66]) rfl rfl rfl rfl ⟨rfl, rfl, Nat.le_of_ble_eq_true rfl⟩ rfl rfl (c_node_e (dd := d) (hd := by omega) (hW := hWx) (kind := 3) (a := s) (b := ix) (c := 0) (e := 0) (nd := nd1) (e_nd := show Gx 31 = nd1 from (ex_nd1)) (ec := ec1) (e_ec := show ecn Ax (Gx 31) = ec1 from ex_ec1)  (h_kind := ⟨(by decide), (by decide)⟩) (h_a := ⟨(Int.le_trans (by decide : (-2147483648 : Int) ≤ -2147483648) rx_s.1), (Int.le_trans rx_s.2 (by decide : (2147483647 : Int) ≤ 2147483647))⟩) (h_b := ⟨(Int.le_trans (by decide : (-2147483648 : Int) ≤ -2147483648) rx_ix.1), (Int.le_trans rx_ix.2 (by decide : (2147483647 : Int) ≤ 2147483647))⟩) (h_c := ⟨(by decide), (by decide)⟩) (h_e := ⟨(by decide), (by decide)⟩)  (p_0 := by omega) (p_1 := by omega) (p_2 := by omega)) (fun o V' hq => ?_)
        obtain ⟨G11, A12, nd2_13, ec2_14, rfl, rfl, hW15, hF16, hQ17, e18, e19, p20, p21, p22, -⟩ := hq
        have hF24 := Fr_tr hFx hF16 (Fr_sub (by decide)) (Fr_sub (by decide))
        have hP25 := Pf_tr hPx hQ17 (by omega)
        have sf26 : wE A12 Vs sb (20) (ix) (nd) (nd1) := wE_ag (by omega) (Sg_fr hF16 (by decide)) (Ag_pf hQ17 (by omega)) iv_10
        have bnd2_13 : (0 : Int) ≤ nd2_13 ∧ nd2_13 ≤ 6999 := e18 ▸ hW15.1 31
        refine .inr ⟨_, rfl, ?_⟩
        refine jx_ar (pc' := 300) (st' := [.int (i32 (0)), .int (i32 (nd1)), .int (i32 (23)), .ref 66]) rfl rfl rfl rfl ?_
        refine jx_ar (pc' := 301) (st' := [.int (i32 (0)), .int (i32 (0)), .int (i32 (nd1)), .int (i32 (23)), .ref 66]) rfl rfl rfl rfl ?_
        refine jx_ar (pc' := 302) (st' := [.int (i32 (0)), .int (i32 (0)), .int (i32 (0)), .int (i32 (nd1)), .int (i32 (23)), .ref 66]) rfl rfl rfl rfl ?_
        refine jx_vr (pc' := 305) (as := [.int (i32 (23)), .int (i32 (nd1)), .int (i32 (0)), .int (i32 (0)), .int (i32 (0))]) (st := []) rfl rfl rfl rfl ⟨rfl, rfl, Nat.le_of_ble_eq_true rfl⟩ rfl rfl (c_node_o (dd := d) (hd := by omega) (hW := hW15) (kind := 23) (a := nd1) (b := 0) (c := 0) (e := 0) (nd := nd2_13) (e_nd := show G11 31 = nd2_13 from (e18)) (ec := ec2_14) (e_ec := show ecn A12 (G11 31) = ec2_14 from e19)  (h_kind := ⟨(by decide), (by decide)⟩) (h_a := ⟨(Int.le_trans (by decide : (-2147483648 : Int) ≤ 0) b_nd1.1), (Int.le_trans b_nd1.2 (by decide : (6999 : Int) ≤ 2147483647))⟩) (h_b := ⟨(by decide), (by decide)⟩) (h_c := ⟨(by decide), (by decide)⟩) (h_e := ⟨(by decide), (by decide)⟩)  (p_0 := by omega) (p_1 := by omega) (p_2 := by omega)) (fun o V' hq => ?_)
        obtain ⟨G27, A28, nd2_29, ec2_30, rfl, rfl, hW31, hF32, hQ33, e34, e35, p36, p37, p38, -⟩ := hq
        have hF40 := Fr_tr hF24 hF32 (Fr_sub (by decide)) (Fr_sub (by decide))
        have hP41 := Pf_tr hP25 hQ33 (by omega)
        have sf42 : wE A28 Vs sb (20) (ix) (nd) (nd1) := wE_ag (by omega) (Sg_fr hF32 (by decide)) (Ag_pf hQ33 (by omega)) sf26
        have sf43 : ND A28 (nd1) (3) (s) (ix) (0) (0) (0) (0) := ND_ag (by omega) (Ag_pf hQ33 (by omega)) p22
        have bnd2_29 : (0 : Int) ≤ nd2_29 ∧ nd2_29 ≤ 6999 := e34 ▸ hW31.1 31
        refine .inr ⟨_, rfl, ?_⟩
        refine jx_ld (pc' := 307) (l' := jSto1 L8 7 (.int (i32 (nd2_13)))) (st' := []) rfl rfl ?_
        obtain ⟨L44, eL44⟩ : ∃ q, q = jSto1 L8 7 (.int (i32 (nd2_13))) := ⟨_, rfl⟩
        rw [← eL44]
        have gL44_0 : jGet L44 0 = some (.ref 66) := eL44 ▸ jg_ne (by decide) gL8_0 rfl
        have gL44_5 : jGet L44 5 = some (.int (i32 (1))) := eL44 ▸ jg_ne (by decide) gL8_5 rfl
        have gL44_2 : jGet L44 2 = some (.int (i32 (s))) := eL44 ▸ jg_ne (by decide) gL8_2 rfl
        have gL44_4 : jGet L44 4 = some (.int (i32 (ix))) := eL44 ▸ jg_ne (by decide) gL8_4 rfl
        have gL44_6 : jGet L44 6 = some (.int (i32 (1))) := eL44 ▸ jg_ne (by decide) gL8_6 rfl
        have gL44_7 : jGet L44 7 = some (.int (i32 (nd2_13))) := eL44 ▸ jg_eq
        refine jx_ld (pc' := 308) (l' := L44) (st' := [.ref 66]) rfl (jl_aloadn gL44_0) ?_
        refine jx_vr (pc' := 311) (as := []) (st := []) rfl rfl rfl rfl ⟨rfl, rfl, Nat.le_of_ble_eq_true rfl⟩ rfl rfl (c_next (dd := d) (hd := by omega) (hW := hW31)  (ln := ln) (e_ln := show G27 9 = ln from ((hF32.1 9 rfl).trans ((hF16.1 9 rfl).trans (fx_9)))) (le := le) (e_le := show A28 4 (ln).toNat = le from (congrFun ((hF32.2 4 rfl).trans ((hF16.2 4 rfl).trans (hFx.2 4 rfl))) _).trans (e_le)) (at0 := at1) (e_at0 := show G27 10 = at1 from ((hF32.1 10 rfl).trans ((hF16.1 10 rfl).trans (ex_at1))))    (p_0 := by omega)) (fun o V' hq => ?_)
        obtain ⟨G45, A46, at2_47, tk2_48, rfl, rfl, hW49, hF50, e51, e52, p53, p54, p55, -⟩ := hq
        have hF57 := Fr_tr hF40 hF50 (Fr_sub (by decide)) (Fr_sub (by decide))
        have hP58 := Pf_f hP41 hF50 (by decide)
        have sf59 : wE A46 Vs sb (20) (ix) (nd) (nd1) := wE_ag (by omega) (Sg_fr hF50 (by decide)) (Ag_fr hF50 (by decide)) sf42
        have sf60 : ND A46 (nd1) (3) (s) (ix) (0) (0) (0) (0) := ND_ag (by omega) (Ag_fr hF50 (by decide)) sf43
        have sf61 : ND A46 (nd2_13) (23) (nd1) (0) (0) (0) (0) (0) := ND_ag (by omega) (Ag_fr hF50 (by decide)) p38
        have ec62 : ecn A46 (G45 31) = ec2_30 := (ecn_f (hF50.2 15 rfl) (hF50.1 31 rfl)).trans e35
        have bat2_47 : (0 : Int) ≤ at2_47 ∧ at2_47 ≤ 3002 := e51 ▸ hW49.1 10
        have ztk2_48 := tz_b tk2_48
        have btk2_48 : (0 : Int) ≤ tk2_48 ∧ tk2_48 ≤ 5 := e52 ▸ hW49.1 11
        refine .inl ⟨rfl, ?_⟩
        have pz63 : at1 + tz tk2_48 ≤ at2_47 := by omega
        refine jx_ld (pc' := 312) (l' := L44) (st' := [.ref 66]) rfl (jl_aloadn gL44_0) ?_
        refine jr_get (pc' := 315) (i := 35) (v := .ref 85) rfl rfl (by decide) rfl rfl ?_
        refine jx_ld (pc' := 317) (l' := L44) (st' := [.int (i32 (nd2_13)), .ref 85]) rfl (jl_iload gL44_7) ?_
        refine jx_ld (pc' := 319) (l' := L44) (st' := [.int (i32 (1)), .int (i32 (nd2_13)), .ref 85]) rfl (jl_iload gL44_6) ?_
        refine jx_if_eq (pc' := 322) (tg := 329) rfl rfl rfl (by decide) (by decide) (fun h64 => ?_) (fun h64 => ?_)
        · have _q := h64
          exact absurd h64 (by omega)
        · have _q := h64
          refine jx_ld (pc' := 323) (l' := L44) (st' := [.ref 66, .int (i32 (nd2_13)), .ref 85]) rfl (jl_aloadn gL44_0) ?_
          refine jx_vr (pc' := 326) (as := []) (st := [.int (i32 (nd2_13)), .ref 85]) rfl rfl rfl rfl ⟨rfl, rfl, Nat.le_of_ble_eq_true rfl⟩ rfl rfl (REw_all X 9 (dd := d) (hd := by omega) (hW := hW49)  (ln := ln) (e_ln := show G45 9 = ln from ((hF50.1 9 rfl).trans ((hF32.1 9 rfl).trans ((hF16.1 9 rfl).trans (fx_9))))) (le := le) (e_le := show A46 4 (ln).toNat = le from (congrFun ((hF50.2 4 rfl).trans ((hF32.2 4 rfl).trans ((hF16.2 4 rfl).trans (hFx.2 4 rfl)))) _).trans (e_le)) (at0 := at2_47) (e_at0 := show G45 10 = at2_47 from (e51)) (fk := fk1) (e_fk := show G45 16 = fk1 from ((hF50.1 16 rfl).trans ((hF32.1 16 rfl).trans ((hF16.1 16 rfl).trans (ex_fk1))))) (op0 := op1) (e_op0 := show G45 15 = op1 from ((hF50.1 15 rfl).trans ((hF32.1 15 rfl).trans ((hF16.1 15 rfl).trans (ex_op1))))) (nd := nd2_29) (e_nd := show G45 31 = nd2_29 from ((hF50.1 31 rfl).trans (e34))) (tk0 := tk2_48) (e_tk0 := show G45 11 = tk2_48 from (e52)) (ec := ec2_30) (e_ec := show ecn A46 (G45 31) = ec2_30 from ec62) (i_SV := (SV_ext (((hF50.1 29 rfl).trans ((hF32.1 29 rfl).trans ((hF16.1 29 rfl).trans (hFx.1 29 rfl))))) (((hF50.2 14 rfl).trans ((hF32.2 14 rfl).trans ((hF16.2 14 rfl).trans (hFx.2 14 rfl))))) i_SV))   (p_0 := by omega) (p_1 := by omega) (p_2 := by omega) (p_3 := by omega) (p_4 := by omega) (p_5 := by omega)) (fun o V' hq => ?_)
          obtain ⟨G65, A66, r67, at2_68, fk2_69, op2_70, nd2_71, tk2_72, ec2_73, rfl, rfl, hW74, hF75, hQ76, b77, e78, e79, e80, e81, e82, e83, p84, p85, p86, p87, p88, p89, q90⟩ := hq
          have hF91 := Fr_tr hF57 hF75 (Fr_sub (by decide)) (Fr_sub (by decide))
          have hP92 := Pf_tr hP58 hQ76 (by omega)
          have sf93 : wE A66 Vs sb (20) (ix) (nd) (nd1) := wE_ag (by omega) (Sg_fr hF75 (by decide)) (Ag_pf hQ76 (by omega)) sf59
          have sf94 : ND A66 (nd1) (3) (s) (ix) (0) (0) (0) (0) := ND_ag (by omega) (Ag_pf hQ76 (by omega)) sf60
          have sf95 : ND A66 (nd2_13) (23) (nd1) (0) (0) (0) (0) (0) := ND_ag (by omega) (Ag_pf hQ76 (by omega)) sf61
          have bat2_68 : (0 : Int) ≤ at2_68 ∧ at2_68 ≤ 3002 := e78 ▸ hW74.1 10
          have bfk2_69 : (0 : Int) ≤ fk2_69 ∧ fk2_69 ≤ 6 := e79 ▸ hW74.1 16
          have bop2_70 : (-2147483648 : Int) ≤ op2_70 ∧ op2_70 ≤ 2147483647 := e80 ▸ hW74.1 15
          have bnd2_71 : (0 : Int) ≤ nd2_71 ∧ nd2_71 ≤ 6999 := e81 ▸ hW74.1 31
          have ztk2_72 := tz_b tk2_72
          have btk2_72 : (0 : Int) ≤ tk2_72 ∧ tk2_72 ≤ 5 := e82 ▸ hW74.1 11
          refine .inr ⟨_, rfl, ?_⟩
          rcases q90 with ⟨a96, a97, a98, a99, a100, a101⟩ | ⟨a102, a103, a104⟩ | ⟨a105, a106, a107, a108, a109, a110⟩
          · have _q : True := trivial
            exfalso
            omega
          · have _q : True := trivial
            refine jx_go (tg := 334) rfl rfl ?_
            refine jr_st (pc' := 335) (i := 18) (m := 7000) (z := nd2_13) (y := r67) rfl (by decide) rfl (by decide) (by omega) (by omega) rfl ?_
            have hW112 : Wk G65 (uA A66 18 (nd2_13).toNat (r67)) := Wk_a hW74 (show (-2147483648 : Int) ≤ r67 by omega) (show r67 ≤ (2147483647 : Int) by omega)
            have hF113 := Fr_a (z := r67) (k := 18) (n := (nd2_13).toNat) hF91 (by decide)
            obtain ⟨A111, eA111⟩ : ∃ q, q = uA A66 18 (nd2_13).toNat (r67) := ⟨_, rfl⟩
            rw [← eA111]
            rw [← eA111] at hW112 hF113
            have q114 : A111 18 (nd2_13).toNat = r67 := by rw [eA111]; exact uA_eq
            have hP115 : Pf nd A A111 := eA111 ▸ Pf_a hP92 (z := nd2_13) (by omega) (by omega)
            have sf116 : wE A111 Vs sb (20) (ix) (nd) (nd1) := wE_ag (by omega) (Sg_ne eA111 rfl) (Ag_st eA111 (by omega) (by omega)) sf93
            have sf117 : ND A111 (nd1) (3) (s) (ix) (0) (0) (0) (0) := ND_ag (by omega) (Ag_st eA111 (by omega) (by omega)) sf94
            have sf118 : ND A111 (nd2_13) (23) (nd1) (r67) (0) (0) (0) (0) := ND_b eA111 sf95
            have ec119 : ecn A111 (G65 31) = ec2_73 := (ecn_e ((congrFun eA111 15).trans (uA_ne (by decide)))).trans e83
            refine jx_ld (pc' := 336) (l' := L44) (st' := [.ref 66]) rfl (jl_aloadn gL44_0) ?_
            refine jx_vr (pc' := 339) (as := []) (st := []) rfl rfl rfl rfl ⟨rfl, rfl, Nat.le_of_ble_eq_true rfl⟩ rfl rfl (c_endLine (dd := d) (hd := by omega) (hW := hW112)  (ln := ln) (e_ln := show G65 9 = ln from ((hF75.1 9 rfl).trans ((hF50.1 9 rfl).trans ((hF32.1 9 rfl).trans ((hF16.1 9 rfl).trans (fx_9)))))) (li := li) (e_li := show G65 3 = li from ((hF75.1 3 rfl).trans ((hF50.1 3 rfl).trans ((hF32.1 3 rfl).trans ((hF16.1 3 rfl).trans ((hFx.1 3 rfl).trans (e_li))))))) (fk := fk2_69) (e_fk := show G65 16 = fk2_69 from (e79)) (tk0 := tk2_72) (e_tk0 := show G65 11 = tk2_72 from (e82))    (p_0 := by omega)) (fun o V' hq => ?_)
            obtain ⟨G120, A121, ln2_122, fk2_123, rfl, rfl, hW124, hF125, e126, e127, q128⟩ := hq
            have hF129 := Fr_tr hF113 hF125 (Fr_sub (by decide)) (Fr_sub (by decide))
            have hP130 := Pf_f hP115 hF125 (by decide)
            have sf131 : wE A121 Vs sb (20) (ix) (nd) (nd1) := wE_ag (by omega) (Sg_fr hF125 (by decide)) (Ag_fr hF125 (by decide)) sf116
            have sf132 : ND A121 (nd1) (3) (s) (ix) (0) (0) (0) (0) := ND_ag (by omega) (Ag_fr hF125 (by decide)) sf117
            have sf133 : ND A121 (nd2_13) (23) (nd1) (r67) (0) (0) (0) (0) := ND_ag (by omega) (Ag_fr hF125 (by decide)) sf118
            have ec134 : ecn A121 (G120 31) = ec2_73 := (ecn_f (hF125.2 15 rfl) (hF125.1 31 rfl)).trans ec119
            have bln2_122 : (0 : Int) ≤ ln2_122 ∧ ln2_122 ≤ 3000 := e126 ▸ hW124.1 9
            have bfk2_123 : (0 : Int) ≤ fk2_123 ∧ fk2_123 ≤ 6 := e127 ▸ hW124.1 16
            refine .inl ⟨rfl, ?_⟩
            rcases q128 with ⟨a135, a136, a137, a138, a139⟩ | ⟨a140, a141⟩
            · have _q : True := trivial
              exfalso
              omega
            · have _q : True := trivial
              refine jx_ld (pc' := 341) (l' := L44) (st' := [.int (i32 (nd2_13))]) rfl (jl_iload gL44_7) ?_
              refine jx_rt (v := some (.int (i32 (nd2_13)))) rfl rfl rfl rfl rfl rfl ?_
              exact ⟨_, _, _, at2_68, fk2_123, nd2_71, ln2_122, ec2_73, rfl, rfl, hW124, hF129, hP130, by omega, ((hF125.1 10 rfl).trans (e78)), (e127), ((hF125.1 31 rfl).trans (e81)), (e126), ec134, by omega, by omega, by omega, by omega, by omega, by first | exact Or.inl (⟨by omega, by omega, by omega⟩)⟩
          · have _q : True := trivial
            refine jx_go (tg := 334) rfl rfl ?_
            refine jr_st (pc' := 335) (i := 18) (m := 7000) (z := nd2_13) (y := r67) rfl (by decide) rfl (by decide) (by omega) (by omega) rfl ?_
            have hW143 : Wk G65 (uA A66 18 (nd2_13).toNat (r67)) := Wk_a hW74 (show (-2147483648 : Int) ≤ r67 by omega) (show r67 ≤ (2147483647 : Int) by omega)
            have hF144 := Fr_a (z := r67) (k := 18) (n := (nd2_13).toNat) hF91 (by decide)
            obtain ⟨A142, eA142⟩ : ∃ q, q = uA A66 18 (nd2_13).toNat (r67) := ⟨_, rfl⟩
            rw [← eA142]
            rw [← eA142] at hW143 hF144
            have q145 : A142 18 (nd2_13).toNat = r67 := by rw [eA142]; exact uA_eq
            have hP146 : Pf nd A A142 := eA142 ▸ Pf_a hP92 (z := nd2_13) (by omega) (by omega)
            have sf147 : wE A142 Vs sb (20) (ix) (nd) (nd1) := wE_ag (by omega) (Sg_ne eA142 rfl) (Ag_st eA142 (by omega) (by omega)) sf93
            have sf148 : ND A142 (nd1) (3) (s) (ix) (0) (0) (0) (0) := ND_ag (by omega) (Ag_st eA142 (by omega) (by omega)) sf94
            have sf149 : ND A142 (nd2_13) (23) (nd1) (r67) (0) (0) (0) (0) := ND_b eA142 sf95
            have sf150 : wE A142 Vs sb (2 * 9 + 2) (r67) (nd2_29) (nd2_71) := wE_ag (by omega) (Sg_ne eA142 rfl) (Ag_st eA142 (by omega) (by omega)) a108
            have ec151 : ecn A142 (G65 31) = ec2_73 := (ecn_e ((congrFun eA142 15).trans (uA_ne (by decide)))).trans e83
            refine jx_ld (pc' := 336) (l' := L44) (st' := [.ref 66]) rfl (jl_aloadn gL44_0) ?_
            refine jx_vr (pc' := 339) (as := []) (st := []) rfl rfl rfl rfl ⟨rfl, rfl, Nat.le_of_ble_eq_true rfl⟩ rfl rfl (c_endLine (dd := d) (hd := by omega) (hW := hW143)  (ln := ln) (e_ln := show G65 9 = ln from ((hF75.1 9 rfl).trans ((hF50.1 9 rfl).trans ((hF32.1 9 rfl).trans ((hF16.1 9 rfl).trans (fx_9)))))) (li := li) (e_li := show G65 3 = li from ((hF75.1 3 rfl).trans ((hF50.1 3 rfl).trans ((hF32.1 3 rfl).trans ((hF16.1 3 rfl).trans ((hFx.1 3 rfl).trans (e_li))))))) (fk := fk2_69) (e_fk := show G65 16 = fk2_69 from (e79)) (tk0 := tk2_72) (e_tk0 := show G65 11 = tk2_72 from (e82))    (p_0 := by omega)) (fun o V' hq => ?_)
            obtain ⟨G152, A153, ln2_154, fk2_155, rfl, rfl, hW156, hF157, e158, e159, q160⟩ := hq
            have hF161 := Fr_tr hF144 hF157 (Fr_sub (by decide)) (Fr_sub (by decide))
            have hP162 := Pf_f hP146 hF157 (by decide)
            have sf163 : wE A153 Vs sb (20) (ix) (nd) (nd1) := wE_ag (by omega) (Sg_fr hF157 (by decide)) (Ag_fr hF157 (by decide)) sf147
            have sf164 : ND A153 (nd1) (3) (s) (ix) (0) (0) (0) (0) := ND_ag (by omega) (Ag_fr hF157 (by decide)) sf148
            have sf165 : ND A153 (nd2_13) (23) (nd1) (r67) (0) (0) (0) (0) := ND_ag (by omega) (Ag_fr hF157 (by decide)) sf149
            have sf166 : wE A153 Vs sb (2 * 9 + 2) (r67) (nd2_29) (nd2_71) := wE_ag (by omega) (Sg_fr hF157 (by decide)) (Ag_fr hF157 (by decide)) sf150
            have ec167 : ecn A153 (G152 31) = ec2_73 := (ecn_f (hF157.2 15 rfl) (hF157.1 31 rfl)).trans ec151
            have bln2_154 : (0 : Int) ≤ ln2_154 ∧ ln2_154 ≤ 3000 := e158 ▸ hW156.1 9
            have bfk2_155 : (0 : Int) ≤ fk2_155 ∧ fk2_155 ≤ 6 := e159 ▸ hW156.1 16
            refine .inl ⟨rfl, ?_⟩
            rcases q160 with ⟨a168, a169, a170, a171, a172⟩ | ⟨a173, a174⟩
            · have _q : True := trivial
              refine jx_ld (pc' := 341) (l' := L44) (st' := [.int (i32 (nd2_13))]) rfl (jl_iload gL44_7) ?_
              refine jx_rt (v := some (.int (i32 (nd2_13)))) rfl rfl rfl rfl rfl rfl ?_
              exact ⟨_, _, _, at2_68, fk2_155, nd2_71, ln2_154, ec2_73, rfl, rfl, hW156, hF161, hP162, by omega, ((hF157.1 10 rfl).trans (e78)), (e159), ((hF157.1 31 rfl).trans (e81)), (e158), ec167, by omega, by omega, by omega, by omega, by omega, by first | exact Or.inr ((⟨by omega, by omega, by omega, by omega, by omega, (wL_out sf165 (by omega) (by omega) (wR_elem sf164 (by omega) (by omega) iv_8 (kq (P := kRow (1)) (show A153 7 (s).toNat = ks from (congrFun ((hF157.2 7 rfl).trans (((congrFun eA142 7).trans (uA_ne (by decide))).trans ((hF75.2 7 rfl).trans ((hF50.2 7 rfl).trans ((hF32.2 7 rfl).trans (hF16.2 7 rfl)))))) _).trans (ex_ks)) (by first | exact .inr ⟨by omega, by omega⟩)) (wE_mono (by omega) (by omega) (by omega) sf163)) (wE_mono (by omega) (by omega) (by omega) sf166)), (NX_nd sf165), by omega⟩))⟩
            · have _q : True := trivial
              refine jx_ld (pc' := 341) (l' := L44) (st' := [.int (i32 (nd2_13))]) rfl (jl_iload gL44_7) ?_
              refine jx_rt (v := some (.int (i32 (nd2_13)))) rfl rfl rfl rfl rfl rfl ?_
              exact ⟨_, _, _, at2_68, fk2_155, nd2_71, ln2_154, ec2_73, rfl, rfl, hW156, hF161, hP162, by omega, ((hF157.1 10 rfl).trans (e78)), (e159), ((hF157.1 31 rfl).trans (e81)), (e158), ec167, by omega, by omega, by omega, by omega, by omega, by first | exact Or.inl (⟨by omega, by omega, by omega⟩)⟩
  · have _q : True := trivial
    refine jx_ld (pc' := 267) (l' := jSto1 L 6 (.int (i32 (0)))) (st' := []) rfl rfl ?_
    obtain ⟨L175, eL175⟩ : ∃ q, q = jSto1 L 6 (.int (i32 (0))) := ⟨_, rfl⟩
    rw [← eL175]
    have gL175_0 : jGet L175 0 = some (.ref 66) := eL175 ▸ jg_ne (by decide) gL_0 rfl
    have gL175_5 : jGet L175 5 = some (.int (i32 (1))) := eL175 ▸ jg_ne (by decide) gL_5 rfl
    have gL175_2 : jGet L175 2 = some (.int (i32 (s))) := eL175 ▸ jg_ne (by decide) gL_2 rfl
    have gL175_4 : jGet L175 4 = some (.int (i32 (ix))) := eL175 ▸ jg_ne (by decide) gL_4 rfl
    have gL175_6 : jGet L175 6 = some (.int (i32 (0))) := eL175 ▸ jg_eq
    refine jx_ld (pc' := 268) (l' := L175) (st' := [.ref 66]) rfl (jl_aloadn gL175_0) ?_
    refine jx_ld (pc' := 270) (l' := L175) (st' := [.int (i32 (0)), .ref 66]) rfl (jl_iload gL175_6) ?_
    refine jx_if_eq (pc' := 273) (tg := 278) rfl rfl rfl (by decide) (by decide) (fun h176 => ?_) (fun h176 => ?_)
    · have _q := h176
      refine jx_ar (pc' := 280) (st' := [.int (i32 (24)), .ref 66]) rfl rfl rfl rfl ?_
      refine jx_ld (pc' := 281) (l' := L175) (st' := [.ref 66, .int (i32 (24)), .ref 66]) rfl (jl_aloadn gL175_0) ?_
      refine jx_ld (pc' := 283) (l' := L175) (st' := [.int (i32 (1)), .ref 66, .int (i32 (24)), .ref 66]) rfl (jl_iload gL175_5) ?_
      refine jx_if_eq (pc' := 286) (tg := 290) rfl rfl rfl (by decide) (by decide) (fun h177 => ?_) (fun h177 => ?_)
      · have _q := h177
        exact absurd h177 (by omega)
      · have _q := h177
        refine jx_ar (pc' := 287) (st' := [.int (i32 (3)), .ref 66, .int (i32 (24)), .ref 66]) rfl rfl rfl rfl ?_
        refine jx_go (tg := 291) rfl rfl ?_
        refine jx_ld (pc' := 292) (l' := L175) (st' := [.int (i32 (s)), .int (i32 (3)), .ref 66, .int (i32 (24)), .ref 66]) rfl (jl_iloadn gL175_2) ?_
        refine jx_ld (pc' := 294) (l' := L175) (st' := [.int (i32 (ix)), .int (i32 (s)), .int (i32 (3)), .ref 66, .int (i32 (24)), .ref 66]) rfl (jl_iload gL175_4) ?_
        refine jx_ar (pc' := 295) (st' := [.int (i32 (0)), .int (i32 (ix)), .int (i32 (s)), .int (i32 (3)), .ref 66, .int (i32 (24)), .ref 66]) rfl rfl rfl rfl ?_
        refine jx_ar (pc' := 296) (st' := [.int (i32 (0)), .int (i32 (0)), .int (i32 (ix)), .int (i32 (s)), .int (i32 (3)), .ref 66, .int (i32 (24)), .ref 66]) rfl rfl rfl rfl ?_
        refine jx_vr (pc' := 299) (as := [.int (i32 (3)), .int (i32 (s)), .int (i32 (ix)), .int (i32 (0)), .int (i32 (0))]) (st := [.int (i32 (24)), .ref 66]) rfl rfl rfl rfl ⟨rfl, rfl, Nat.le_of_ble_eq_true rfl⟩ rfl rfl (c_node_e (dd := d) (hd := by omega) (hW := hWx) (kind := 3) (a := s) (b := ix) (c := 0) (e := 0) (nd := nd1) (e_nd := show Gx 31 = nd1 from (ex_nd1)) (ec := ec1) (e_ec := show ecn Ax (Gx 31) = ec1 from ex_ec1)  (h_kind := ⟨(by decide), (by decide)⟩) (h_a := ⟨(Int.le_trans (by decide : (-2147483648 : Int) ≤ -2147483648) rx_s.1), (Int.le_trans rx_s.2 (by decide : (2147483647 : Int) ≤ 2147483647))⟩) (h_b := ⟨(Int.le_trans (by decide : (-2147483648 : Int) ≤ -2147483648) rx_ix.1), (Int.le_trans rx_ix.2 (by decide : (2147483647 : Int) ≤ 2147483647))⟩) (h_c := ⟨(by decide), (by decide)⟩) (h_e := ⟨(by decide), (by decide)⟩)  (p_0 := by omega) (p_1 := by omega) (p_2 := by omega)) (fun o V' hq => ?_)
        obtain ⟨G178, A179, nd2_180, ec2_181, rfl, rfl, hW182, hF183, hQ184, e185, e186, p187, p188, p189, -⟩ := hq
        have hF191 := Fr_tr hFx hF183 (Fr_sub (by decide)) (Fr_sub (by decide))
        have hP192 := Pf_tr hPx hQ184 (by omega)
        have sf193 : wE A179 Vs sb (20) (ix) (nd) (nd1) := wE_ag (by omega) (Sg_fr hF183 (by decide)) (Ag_pf hQ184 (by omega)) iv_10
        have bnd2_180 : (0 : Int) ≤ nd2_180 ∧ nd2_180 ≤ 6999 := e185 ▸ hW182.1 31
        refine .inr ⟨_, rfl, ?_⟩
        refine jx_ar (pc' := 300) (st' := [.int (i32 (0)), .int (i32 (nd1)), .int (i32 (24)), .ref 66]) rfl rfl rfl rfl ?_
        refine jx_ar (pc' := 301) (st' := [.int (i32 (0)), .int (i32 (0)), .int (i32 (nd1)), .int (i32 (24)), .ref 66]) rfl rfl rfl rfl ?_
        refine jx_ar (pc' := 302) (st' := [.int (i32 (0)), .int (i32 (0)), .int (i32 (0)), .int (i32 (nd1)), .int (i32 (24)), .ref 66]) rfl rfl rfl rfl ?_
        refine jx_vr (pc' := 305) (as := [.int (i32 (24)), .int (i32 (nd1)), .int (i32 (0)), .int (i32 (0)), .int (i32 (0))]) (st := []) rfl rfl rfl rfl ⟨rfl, rfl, Nat.le_of_ble_eq_true rfl⟩ rfl rfl (c_node_o (dd := d) (hd := by omega) (hW := hW182) (kind := 24) (a := nd1) (b := 0) (c := 0) (e := 0) (nd := nd2_180) (e_nd := show G178 31 = nd2_180 from (e185)) (ec := ec2_181) (e_ec := show ecn A179 (G178 31) = ec2_181 from e186)  (h_kind := ⟨(by decide), (by decide)⟩) (h_a := ⟨(Int.le_trans (by decide : (-2147483648 : Int) ≤ 0) b_nd1.1), (Int.le_trans b_nd1.2 (by decide : (6999 : Int) ≤ 2147483647))⟩) (h_b := ⟨(by decide), (by decide)⟩) (h_c := ⟨(by decide), (by decide)⟩) (h_e := ⟨(by decide), (by decide)⟩)  (p_0 := by omega) (p_1 := by omega) (p_2 := by omega)) (fun o V' hq => ?_)
        obtain ⟨G194, A195, nd2_196, ec2_197, rfl, rfl, hW198, hF199, hQ200, e201, e202, p203, p204, p205, -⟩ := hq
        have hF207 := Fr_tr hF191 hF199 (Fr_sub (by decide)) (Fr_sub (by decide))
        have hP208 := Pf_tr hP192 hQ200 (by omega)
        have sf209 : wE A195 Vs sb (20) (ix) (nd) (nd1) := wE_ag (by omega) (Sg_fr hF199 (by decide)) (Ag_pf hQ200 (by omega)) sf193
        have sf210 : ND A195 (nd1) (3) (s) (ix) (0) (0) (0) (0) := ND_ag (by omega) (Ag_pf hQ200 (by omega)) p189
        have bnd2_196 : (0 : Int) ≤ nd2_196 ∧ nd2_196 ≤ 6999 := e201 ▸ hW198.1 31
        refine .inr ⟨_, rfl, ?_⟩
        refine jx_ld (pc' := 307) (l' := jSto1 L175 7 (.int (i32 (nd2_180)))) (st' := []) rfl rfl ?_
        obtain ⟨L211, eL211⟩ : ∃ q, q = jSto1 L175 7 (.int (i32 (nd2_180))) := ⟨_, rfl⟩
        rw [← eL211]
        have gL211_0 : jGet L211 0 = some (.ref 66) := eL211 ▸ jg_ne (by decide) gL175_0 rfl
        have gL211_5 : jGet L211 5 = some (.int (i32 (1))) := eL211 ▸ jg_ne (by decide) gL175_5 rfl
        have gL211_2 : jGet L211 2 = some (.int (i32 (s))) := eL211 ▸ jg_ne (by decide) gL175_2 rfl
        have gL211_4 : jGet L211 4 = some (.int (i32 (ix))) := eL211 ▸ jg_ne (by decide) gL175_4 rfl
        have gL211_6 : jGet L211 6 = some (.int (i32 (0))) := eL211 ▸ jg_ne (by decide) gL175_6 rfl
        have gL211_7 : jGet L211 7 = some (.int (i32 (nd2_180))) := eL211 ▸ jg_eq
        refine jx_ld (pc' := 308) (l' := L211) (st' := [.ref 66]) rfl (jl_aloadn gL211_0) ?_
        refine jx_vr (pc' := 311) (as := []) (st := []) rfl rfl rfl rfl ⟨rfl, rfl, Nat.le_of_ble_eq_true rfl⟩ rfl rfl (c_next (dd := d) (hd := by omega) (hW := hW198)  (ln := ln) (e_ln := show G194 9 = ln from ((hF199.1 9 rfl).trans ((hF183.1 9 rfl).trans (fx_9)))) (le := le) (e_le := show A195 4 (ln).toNat = le from (congrFun ((hF199.2 4 rfl).trans ((hF183.2 4 rfl).trans (hFx.2 4 rfl))) _).trans (e_le)) (at0 := at1) (e_at0 := show G194 10 = at1 from ((hF199.1 10 rfl).trans ((hF183.1 10 rfl).trans (ex_at1))))    (p_0 := by omega)) (fun o V' hq => ?_)
        obtain ⟨G212, A213, at2_214, tk2_215, rfl, rfl, hW216, hF217, e218, e219, p220, p221, p222, -⟩ := hq
        have hF224 := Fr_tr hF207 hF217 (Fr_sub (by decide)) (Fr_sub (by decide))
        have hP225 := Pf_f hP208 hF217 (by decide)
        have sf226 : wE A213 Vs sb (20) (ix) (nd) (nd1) := wE_ag (by omega) (Sg_fr hF217 (by decide)) (Ag_fr hF217 (by decide)) sf209
        have sf227 : ND A213 (nd1) (3) (s) (ix) (0) (0) (0) (0) := ND_ag (by omega) (Ag_fr hF217 (by decide)) sf210
        have sf228 : ND A213 (nd2_180) (24) (nd1) (0) (0) (0) (0) (0) := ND_ag (by omega) (Ag_fr hF217 (by decide)) p205
        have ec229 : ecn A213 (G212 31) = ec2_197 := (ecn_f (hF217.2 15 rfl) (hF217.1 31 rfl)).trans e202
        have bat2_214 : (0 : Int) ≤ at2_214 ∧ at2_214 ≤ 3002 := e218 ▸ hW216.1 10
        have ztk2_215 := tz_b tk2_215
        have btk2_215 : (0 : Int) ≤ tk2_215 ∧ tk2_215 ≤ 5 := e219 ▸ hW216.1 11
        refine .inl ⟨rfl, ?_⟩
        have pz230 : at1 + tz tk2_215 ≤ at2_214 := by omega
        refine jx_ld (pc' := 312) (l' := L211) (st' := [.ref 66]) rfl (jl_aloadn gL211_0) ?_
        refine jr_get (pc' := 315) (i := 35) (v := .ref 85) rfl rfl (by decide) rfl rfl ?_
        refine jx_ld (pc' := 317) (l' := L211) (st' := [.int (i32 (nd2_180)), .ref 85]) rfl (jl_iload gL211_7) ?_
        refine jx_ld (pc' := 319) (l' := L211) (st' := [.int (i32 (0)), .int (i32 (nd2_180)), .ref 85]) rfl (jl_iload gL211_6) ?_
        refine jx_if_eq (pc' := 322) (tg := 329) rfl rfl rfl (by decide) (by decide) (fun h231 => ?_) (fun h231 => ?_)
        · have _q := h231
          refine jx_ld (pc' := 330) (l' := L211) (st' := [.ref 66, .int (i32 (nd2_180)), .ref 85]) rfl (jl_aloadn gL211_0) ?_
          refine jx_ar (pc' := 331) (st' := [.int (i32 (0)), .ref 66, .int (i32 (nd2_180)), .ref 85]) rfl rfl rfl rfl ?_
          refine jx_vr (pc' := 334) (as := [.int (i32 (0))]) (st := [.int (i32 (nd2_180)), .ref 85]) rfl rfl rfl rfl ⟨rfl, rfl, Nat.le_of_ble_eq_true rfl⟩ rfl rfl (c_readReference_w (dd := d) (hd := by omega) (hW := hW216) (ch := 0) (ln := ln) (e_ln := show G212 9 = ln from ((hF217.1 9 rfl).trans ((hF199.1 9 rfl).trans ((hF183.1 9 rfl).trans (fx_9))))) (le := le) (e_le := show A213 4 (ln).toNat = le from (congrFun ((hF217.2 4 rfl).trans ((hF199.2 4 rfl).trans ((hF183.2 4 rfl).trans (hFx.2 4 rfl)))) _).trans (e_le)) (at0 := at2_214) (e_at0 := show G212 10 = at2_214 from (e218)) (fk := fk1) (e_fk := show G212 16 = fk1 from ((hF217.1 16 rfl).trans ((hF199.1 16 rfl).trans ((hF183.1 16 rfl).trans (ex_fk1))))) (op0 := op1) (e_op0 := show G212 15 = op1 from ((hF217.1 15 rfl).trans ((hF199.1 15 rfl).trans ((hF183.1 15 rfl).trans (ex_op1))))) (nd := nd2_196) (e_nd := show G212 31 = nd2_196 from ((hF217.1 31 rfl).trans (e201))) (tk0 := tk2_215) (e_tk0 := show G212 11 = tk2_215 from (e219)) (ec := ec2_197) (e_ec := show ecn A213 (G212 31) = ec2_197 from ec229) (i_SV := (SV_ext (((hF217.1 29 rfl).trans ((hF199.1 29 rfl).trans ((hF183.1 29 rfl).trans (hFx.1 29 rfl))))) (((hF217.2 14 rfl).trans ((hF199.2 14 rfl).trans ((hF183.2 14 rfl).trans (hFx.2 14 rfl))))) i_SV)) (h_ch := ⟨(by decide), (by decide)⟩)  (p_0 := by omega) (p_1 := by omega) (p_2 := by omega) (p_3 := by omega) (p_4 := by omega)) (fun o V' hq => ?_)
          obtain ⟨G232, A233, r234, at2_235, fk2_236, op2_237, nd2_238, tk2_239, ec2_240, rfl, rfl, hW241, hF242, hQ243, b244, e245, e246, e247, e248, e249, e250, p251, p252, p253, p254, p255, p256, q257⟩ := hq
          have hF258 := Fr_tr hF224 hF242 (Fr_sub (by decide)) (Fr_sub (by decide))
          have hP259 := Pf_tr hP225 hQ243 (by omega)
          have sf260 : wE A233 Vs sb (20) (ix) (nd) (nd1) := wE_ag (by omega) (Sg_fr hF242 (by decide)) (Ag_pf hQ243 (by omega)) sf226
          have sf261 : ND A233 (nd1) (3) (s) (ix) (0) (0) (0) (0) := ND_ag (by omega) (Ag_pf hQ243 (by omega)) sf227
          have sf262 : ND A233 (nd2_180) (24) (nd1) (0) (0) (0) (0) (0) := ND_ag (by omega) (Ag_pf hQ243 (by omega)) sf228
          have bat2_235 : (0 : Int) ≤ at2_235 ∧ at2_235 ≤ 3002 := e245 ▸ hW241.1 10
          have bfk2_236 : (0 : Int) ≤ fk2_236 ∧ fk2_236 ≤ 6 := e246 ▸ hW241.1 16
          have bop2_237 : (-2147483648 : Int) ≤ op2_237 ∧ op2_237 ≤ 2147483647 := e247 ▸ hW241.1 15
          have bnd2_238 : (0 : Int) ≤ nd2_238 ∧ nd2_238 ≤ 6999 := e248 ▸ hW241.1 31
          have ztk2_239 := tz_b tk2_239
          have btk2_239 : (0 : Int) ≤ tk2_239 ∧ tk2_239 ≤ 5 := e249 ▸ hW241.1 11
          refine .inr ⟨_, rfl, ?_⟩
          rcases q257 with ⟨a263, a264, a265, a266, a267, a268⟩ | ⟨a269, a270, a271⟩ | ⟨a272, a273, a274, a275, a276, a277⟩
          · have _q : True := trivial
            exfalso
            omega
          · have _q : True := trivial
            refine jr_st (pc' := 335) (i := 18) (m := 7000) (z := nd2_180) (y := r234) rfl (by decide) rfl (by decide) (by omega) (by omega) rfl ?_
            have hW279 : Wk G232 (uA A233 18 (nd2_180).toNat (r234)) := Wk_a hW241 (show (-2147483648 : Int) ≤ r234 by omega) (show r234 ≤ (2147483647 : Int) by omega)
            have hF280 := Fr_a (z := r234) (k := 18) (n := (nd2_180).toNat) hF258 (by decide)
            obtain ⟨A278, eA278⟩ : ∃ q, q = uA A233 18 (nd2_180).toNat (r234) := ⟨_, rfl⟩
            rw [← eA278]
            rw [← eA278] at hW279 hF280
            have q281 : A278 18 (nd2_180).toNat = r234 := by rw [eA278]; exact uA_eq
            have hP282 : Pf nd A A278 := eA278 ▸ Pf_a hP259 (z := nd2_180) (by omega) (by omega)
            have sf283 : wE A278 Vs sb (20) (ix) (nd) (nd1) := wE_ag (by omega) (Sg_ne eA278 rfl) (Ag_st eA278 (by omega) (by omega)) sf260
            have sf284 : ND A278 (nd1) (3) (s) (ix) (0) (0) (0) (0) := ND_ag (by omega) (Ag_st eA278 (by omega) (by omega)) sf261
            have sf285 : ND A278 (nd2_180) (24) (nd1) (r234) (0) (0) (0) (0) := ND_b eA278 sf262
            have ec286 : ecn A278 (G232 31) = ec2_240 := (ecn_e ((congrFun eA278 15).trans (uA_ne (by decide)))).trans e250
            refine jx_ld (pc' := 336) (l' := L211) (st' := [.ref 66]) rfl (jl_aloadn gL211_0) ?_
            refine jx_vr (pc' := 339) (as := []) (st := []) rfl rfl rfl rfl ⟨rfl, rfl, Nat.le_of_ble_eq_true rfl⟩ rfl rfl (c_endLine (dd := d) (hd := by omega) (hW := hW279)  (ln := ln) (e_ln := show G232 9 = ln from ((hF242.1 9 rfl).trans ((hF217.1 9 rfl).trans ((hF199.1 9 rfl).trans ((hF183.1 9 rfl).trans (fx_9)))))) (li := li) (e_li := show G232 3 = li from ((hF242.1 3 rfl).trans ((hF217.1 3 rfl).trans ((hF199.1 3 rfl).trans ((hF183.1 3 rfl).trans ((hFx.1 3 rfl).trans (e_li))))))) (fk := fk2_236) (e_fk := show G232 16 = fk2_236 from (e246)) (tk0 := tk2_239) (e_tk0 := show G232 11 = tk2_239 from (e249))    (p_0 := by omega)) (fun o V' hq => ?_)
            obtain ⟨G287, A288, ln2_289, fk2_290, rfl, rfl, hW291, hF292, e293, e294, q295⟩ := hq
            have hF296 := Fr_tr hF280 hF292 (Fr_sub (by decide)) (Fr_sub (by decide))
            have hP297 := Pf_f hP282 hF292 (by decide)
            have sf298 : wE A288 Vs sb (20) (ix) (nd) (nd1) := wE_ag (by omega) (Sg_fr hF292 (by decide)) (Ag_fr hF292 (by decide)) sf283
            have sf299 : ND A288 (nd1) (3) (s) (ix) (0) (0) (0) (0) := ND_ag (by omega) (Ag_fr hF292 (by decide)) sf284
            have sf300 : ND A288 (nd2_180) (24) (nd1) (r234) (0) (0) (0) (0) := ND_ag (by omega) (Ag_fr hF292 (by decide)) sf285
            have ec301 : ecn A288 (G287 31) = ec2_240 := (ecn_f (hF292.2 15 rfl) (hF292.1 31 rfl)).trans ec286
            have bln2_289 : (0 : Int) ≤ ln2_289 ∧ ln2_289 ≤ 3000 := e293 ▸ hW291.1 9
            have bfk2_290 : (0 : Int) ≤ fk2_290 ∧ fk2_290 ≤ 6 := e294 ▸ hW291.1 16
            refine .inl ⟨rfl, ?_⟩
            rcases q295 with ⟨a302, a303, a304, a305, a306⟩ | ⟨a307, a308⟩
            · have _q : True := trivial
              exfalso
              omega
            · have _q : True := trivial
              refine jx_ld (pc' := 341) (l' := L211) (st' := [.int (i32 (nd2_180))]) rfl (jl_iload gL211_7) ?_
              refine jx_rt (v := some (.int (i32 (nd2_180)))) rfl rfl rfl rfl rfl rfl ?_
              exact ⟨_, _, _, at2_235, fk2_290, nd2_238, ln2_289, ec2_240, rfl, rfl, hW291, hF296, hP297, by omega, ((hF292.1 10 rfl).trans (e245)), (e294), ((hF292.1 31 rfl).trans (e248)), (e293), ec301, by omega, by omega, by omega, by omega, by omega, by first | exact Or.inl (⟨by omega, by omega, by omega⟩)⟩
          · have _q : True := trivial
            refine jr_st (pc' := 335) (i := 18) (m := 7000) (z := nd2_180) (y := r234) rfl (by decide) rfl (by decide) (by omega) (by omega) rfl ?_
            have hW310 : Wk G232 (uA A233 18 (nd2_180).toNat (r234)) := Wk_a hW241 (show (-2147483648 : Int) ≤ r234 by omega) (show r234 ≤ (2147483647 : Int) by omega)
            have hF311 := Fr_a (z := r234) (k := 18) (n := (nd2_180).toNat) hF258 (by decide)
            obtain ⟨A309, eA309⟩ : ∃ q, q = uA A233 18 (nd2_180).toNat (r234) := ⟨_, rfl⟩
            rw [← eA309]
            rw [← eA309] at hW310 hF311
            have q312 : A309 18 (nd2_180).toNat = r234 := by rw [eA309]; exact uA_eq
            have hP313 : Pf nd A A309 := eA309 ▸ Pf_a hP259 (z := nd2_180) (by omega) (by omega)
            have sf314 : wE A309 Vs sb (20) (ix) (nd) (nd1) := wE_ag (by omega) (Sg_ne eA309 rfl) (Ag_st eA309 (by omega) (by omega)) sf260
            have sf315 : ND A309 (nd1) (3) (s) (ix) (0) (0) (0) (0) := ND_ag (by omega) (Ag_st eA309 (by omega) (by omega)) sf261
            have sf316 : ND A309 (nd2_180) (24) (nd1) (r234) (0) (0) (0) (0) := ND_b eA309 sf262
            have sf317 : wR A309 Vs sb (20) (0) (r234) (nd2_196) (nd2_238) := wR_ag (by omega) (Sg_ne eA309 rfl) (Ag_st eA309 (by omega) (by omega)) a275
            have ec318 : ecn A309 (G232 31) = ec2_240 := (ecn_e ((congrFun eA309 15).trans (uA_ne (by decide)))).trans e250
            refine jx_ld (pc' := 336) (l' := L211) (st' := [.ref 66]) rfl (jl_aloadn gL211_0) ?_
            refine jx_vr (pc' := 339) (as := []) (st := []) rfl rfl rfl rfl ⟨rfl, rfl, Nat.le_of_ble_eq_true rfl⟩ rfl rfl (c_endLine (dd := d) (hd := by omega) (hW := hW310)  (ln := ln) (e_ln := show G232 9 = ln from ((hF242.1 9 rfl).trans ((hF217.1 9 rfl).trans ((hF199.1 9 rfl).trans ((hF183.1 9 rfl).trans (fx_9)))))) (li := li) (e_li := show G232 3 = li from ((hF242.1 3 rfl).trans ((hF217.1 3 rfl).trans ((hF199.1 3 rfl).trans ((hF183.1 3 rfl).trans ((hFx.1 3 rfl).trans (e_li))))))) (fk := fk2_236) (e_fk := show G232 16 = fk2_236 from (e246)) (tk0 := tk2_239) (e_tk0 := show G232 11 = tk2_239 from (e249))    (p_0 := by omega)) (fun o V' hq => ?_)
            obtain ⟨G319, A320, ln2_321, fk2_322, rfl, rfl, hW323, hF324, e325, e326, q327⟩ := hq
            have hF328 := Fr_tr hF311 hF324 (Fr_sub (by decide)) (Fr_sub (by decide))
            have hP329 := Pf_f hP313 hF324 (by decide)
            have sf330 : wE A320 Vs sb (20) (ix) (nd) (nd1) := wE_ag (by omega) (Sg_fr hF324 (by decide)) (Ag_fr hF324 (by decide)) sf314
            have sf331 : ND A320 (nd1) (3) (s) (ix) (0) (0) (0) (0) := ND_ag (by omega) (Ag_fr hF324 (by decide)) sf315
            have sf332 : ND A320 (nd2_180) (24) (nd1) (r234) (0) (0) (0) (0) := ND_ag (by omega) (Ag_fr hF324 (by decide)) sf316
            have sf333 : wR A320 Vs sb (20) (0) (r234) (nd2_196) (nd2_238) := wR_ag (by omega) (Sg_fr hF324 (by decide)) (Ag_fr hF324 (by decide)) sf317
            have ec334 : ecn A320 (G319 31) = ec2_240 := (ecn_f (hF324.2 15 rfl) (hF324.1 31 rfl)).trans ec318
            have bln2_321 : (0 : Int) ≤ ln2_321 ∧ ln2_321 ≤ 3000 := e325 ▸ hW323.1 9
            have bfk2_322 : (0 : Int) ≤ fk2_322 ∧ fk2_322 ≤ 6 := e326 ▸ hW323.1 16
            refine .inl ⟨rfl, ?_⟩
            rcases q327 with ⟨a335, a336, a337, a338, a339⟩ | ⟨a340, a341⟩
            · have _q : True := trivial
              refine jx_ld (pc' := 341) (l' := L211) (st' := [.int (i32 (nd2_180))]) rfl (jl_iload gL211_7) ?_
              refine jx_rt (v := some (.int (i32 (nd2_180)))) rfl rfl rfl rfl rfl rfl ?_
              exact ⟨_, _, _, at2_235, fk2_322, nd2_238, ln2_321, ec2_240, rfl, rfl, hW323, hF328, hP329, by omega, ((hF324.1 10 rfl).trans (e245)), (e326), ((hF324.1 31 rfl).trans (e248)), (e325), ec334, by omega, by omega, by omega, by omega, by omega, by first | exact Or.inr ((⟨by omega, by omega, by omega, by omega, by omega, (wL_in sf332 (by omega) (by omega) (wR_elem sf331 (by omega) (by omega) iv_8 (kq (P := kRow (1)) (show A320 7 (s).toNat = ks from (congrFun ((hF324.2 7 rfl).trans (((congrFun eA309 7).trans (uA_ne (by decide))).trans ((hF242.2 7 rfl).trans ((hF217.2 7 rfl).trans ((hF199.2 7 rfl).trans (hF183.2 7 rfl)))))) _).trans (ex_ks)) (by first | exact .inr ⟨by omega, by omega⟩)) (wE_mono (by omega) (by omega) (by omega) sf330)) (wR_mono (by omega) (by omega) (by omega) sf333)), (NX_nd sf332), by omega⟩))⟩
            · have _q : True := trivial
              refine jx_ld (pc' := 341) (l' := L211) (st' := [.int (i32 (nd2_180))]) rfl (jl_iload gL211_7) ?_
              refine jx_rt (v := some (.int (i32 (nd2_180)))) rfl rfl rfl rfl rfl rfl ?_
              exact ⟨_, _, _, at2_235, fk2_322, nd2_238, ln2_321, ec2_240, rfl, rfl, hW323, hF328, hP329, by omega, ((hF324.1 10 rfl).trans (e245)), (e326), ((hF324.1 31 rfl).trans (e248)), (e325), ec334, by omega, by omega, by omega, by omega, by omega, by first | exact Or.inl (⟨by omega, by omega, by omega⟩)⟩
        · have _q := h231
          exact absurd h231 (by omega)
    · have _q := h176
      exact absurd h176 (by omega)
set_option maxRecDepth 20000 in
set_option maxHeartbeats 4000000 in
theorem c_readNamed_w_at_259_0 {X : jX} {d : Nat} {Vs : Nat → Prop} {sb pb : Int} {c0 c1 : jC} {G : Nat → Int} {A : Nat → Nat → Int} {T : jH} {ln le at0 fk op0 nd tk0 li ec : Int} (hd : 72 ≤ d + 1) (hW : Wk G A) (e_ln : G 9 = ln) (e_le : A 4 (ln).toNat = le) (e_at0 : G 10 = at0) (e_fk : G 16 = fk) (e_op0 : G 15 = op0) (e_nd : G 31 = nd) (e_tk0 : G 11 = tk0) (e_li : G 3 = li) (e_ec : ecn A (G 31) = ec) (i_SV : SV Vs sb G A) (i_PQ : PQ Vs sb pb G A) (p_0 : 0 ≤ op0 ∧ op0 ≤ 8) (p_1 : fk = 0) (p_2 : nd ≤ 2 * at0 - tz tk0 + 42) (p_3 : at0 ≤ le) (p_4 : ln < li) (p_5 : tk0 = 1) : ∀ (L : jL) (Gx : Nat → Int) (Ax : Nat → Nat → Int) (s at1 tk1 fk1 nd1 op1 ks ec1 : Int), jGet L 0 = some (.ref 66) → jGet L 5 = some (.int (i32 (0))) → jGet L 4 = some (.int (i32 (0))) → jGet L 2 = some (.int (i32 s)) → Wk Gx Ax → Fr [9, 10, 11, 12, 13, 14, 15, 16, 17, 18, 31] [15, 16, 17, 18, 19, 20, 21, 22, 24, 28] G A Gx Ax → Pf nd A Ax → Gx 10 = at1 → Gx 11 = tk1 → Gx 16 = fk1 → Gx 31 = nd1 → Gx 15 = op1 → Ax 7 (s).toNat = ks → ecn Ax (Gx 31) = ec1 → Gx 9 = ln → ((-2147483648 : Int) ≤ s ∧ s ≤ 2147483647) → (at0 ≤ at1) → (at1 ≤ le) → (nd ≤ nd1) → (op1 = op0) → (fk1 = 0) → (nd1 - nd ≤ (2 * at1 - tz tk1) - (2 * at0 - tz tk0) - 1) → (tz tk1 = 1) → (0 ≤ s ∧ s ≤ 201) → (SY Vs sb (s)) → (kCh (ks)) → (nd1 - nd + 5 * (ec1 - ec) ≤ (2 * at1 - tz tk1) - (2 * at0 - tz tk0) - 1 - tz tk1) → wj X d jm304 (259, L, [], rV c0 c1 Gx Ax T) (fun o V' => ∃ (G' : Nat → Int) (A' : Nat → Nat → Int) (r : Int) (at2 : Int) (fk2 : Int) (nd2 : Int) (ln2 : Int) (ec2 : Int), V' = rV c0 c1 G' A' T ∧ o = .inl (some (.int (i32 r))) ∧ Wk G' A' ∧ Fr [9, 10, 11, 12, 13, 14, 15, 16, 17, 18, 31] [15, 16, 17, 18, 19, 20, 21, 22, 24, 28] G A G' A' ∧ Pf nd A A' ∧ ((-2147483648 : Int) ≤ r ∧ r ≤ 2147483647) ∧ G' 10 = at2 ∧ G' 16 = fk2 ∧ G' 31 = nd2 ∧ G' 9 = ln2 ∧ ecn A' (G' 31) = ec2 ∧ (at0 ≤ at2) ∧ (at2 ≤ le) ∧ (nd ≤ nd2) ∧ (0 ≤ r) ∧ (r ≤ nd2) ∧ (((1 ≤ fk2) ∧ (ln2 = ln) ∧ (nd2 - nd ≤ 2 * at2 - 2 * at0 + 8)) ∨ ((fk2 = 0) ∧ (ln2 = ln + 1) ∧ (nd2 - nd ≤ 2 * at2 - (2 * at0 - tz tk0) + 0) ∧ (nd ≤ r) ∧ (r < nd2) ∧ (wL A' sb pb Vs (r) (nd) (nd2)) ∧ (NX A' (r)) ∧ (nd2 - nd + 5 * (ec2 - ec) ≤ 2 * at2 - (2 * at0 - tz tk0) + 0)))) := by
  have hF0 : Fr [9, 10, 11, 12, 13, 14, 15, 16, 17, 18, 31] [15, 16, 17, 18, 19, 20, 21, 22, 24, 28] G A G A := Fr_rf
  have hP0 : Pf nd A A := Pf_rf
  have b_ln : (0 : Int) ≤ ln ∧ ln ≤ 3000 := e_ln ▸ hW.1 9
  have b_le : (0 : Int) ≤ le ∧ le ≤ 3000 := e_le ▸ hW.2 4 _
  have b_at0 : (0 : Int) ≤ at0 ∧ at0 ≤ 3002 := e_at0 ▸ hW.1 10
  have b_fk : (0 : Int) ≤ fk ∧ fk ≤ 6 := e_fk ▸ hW.1 16
  have b_op0 : (-2147483648 : Int) ≤ op0 ∧ op0 ≤ 2147483647 := e_op0 ▸ hW.1 15
  have b_nd : (0 : Int) ≤ nd ∧ nd ≤ 6999 := e_nd ▸ hW.1 31
  have z_tk0 := tz_f tk0
  have b_tk0 : (0 : Int) ≤ tk0 ∧ tk0 ≤ 5 := e_tk0 ▸ hW.1 11
  have b_li : (0 : Int) ≤ li ∧ li ≤ 3000 := e_li ▸ hW.1 3
  intro L Gx Ax s at1 tk1 fk1 nd1 op1 ks ec1 gL_0 gL_5 gL_4 gL_2 hWx hFx hPx ex_at1 ex_tk1 ex_fk1 ex_nd1 ex_op1 ex_ks ex_ec1 fx_9 rx_s iv_0 iv_1 iv_2 iv_3 iv_4 iv_5 iv_6 iv_7 iv_8 iv_9 iv_10
  have b_at1 : (0 : Int) ≤ at1 ∧ at1 ≤ 3002 := ex_at1 ▸ hWx.1 10
  have z_tk1 := tz_f tk1
  have b_tk1 : (0 : Int) ≤ tk1 ∧ tk1 ≤ 5 := ex_tk1 ▸ hWx.1 11
  have b_fk1 : (0 : Int) ≤ fk1 ∧ fk1 ≤ 6 := ex_fk1 ▸ hWx.1 16
  have b_nd1 : (0 : Int) ≤ nd1 ∧ nd1 ≤ 6999 := ex_nd1 ▸ hWx.1 31
  have b_op1 : (-2147483648 : Int) ≤ op1 ∧ op1 ≤ 2147483647 := ex_op1 ▸ hWx.1 15
  have b_ks : (0 : Int) ≤ ks ∧ ks ≤ 14 := ex_ks ▸ hWx.2 7 _
  refine jx_ld (pc' := 260) (l' := L) (st' := [.ref 66]) rfl (jl_aloadn gL_0) ?_
  refine jx_ar (pc' := 262) (st' := [.int (i32 (33)), .ref 66]) rfl rfl rfl rfl ?_
  have b342 : (-2147483648 : Int) ≤ Gx 13 ∧ Gx 13 ≤ 2147483647 := hWx.1 13
  refine jx_vr (pc' := 265) (as := [.int (i32 (33))]) (st := []) rfl rfl rfl rfl ⟨rfl, rfl, Nat.le_of_ble_eq_true rfl⟩ rfl rfl (c_is (dd := d) (hd := by omega) (hW := hWx) (k := 33) (tk := tk1) (e_tk := show Gx 11 = tk1 from (ex_tk1)) (tn := Gx 13) (e_tn := show Gx 13 = Gx 13 from rfl)  (h_k := ⟨(by decide), (by decide)⟩)  ) (fun o V' hq => ?_)
  obtain ⟨r343, rfl, rfl, b344, q345⟩ := hq
  refine .inr ⟨_, rfl, ?_⟩
  rcases q345 with ⟨rfl, a346, a347, a348⟩ | rfl
  · have _q : True := trivial
    refine jx_ld (pc' := 267) (l' := jSto1 L 6 (.int (i32 (1)))) (st' := []) rfl rfl ?_
    obtain ⟨L349, eL349⟩ : ∃ q, q = jSto1 L 6 (.int (i32 (1))) := ⟨_, rfl⟩
    rw [← eL349]
    have gL349_0 : jGet L349 0 = some (.ref 66) := eL349 ▸ jg_ne (by decide) gL_0 rfl
    have gL349_5 : jGet L349 5 = some (.int (i32 (0))) := eL349 ▸ jg_ne (by decide) gL_5 rfl
    have gL349_4 : jGet L349 4 = some (.int (i32 (0))) := eL349 ▸ jg_ne (by decide) gL_4 rfl
    have gL349_2 : jGet L349 2 = some (.int (i32 (s))) := eL349 ▸ jg_ne (by decide) gL_2 rfl
    have gL349_6 : jGet L349 6 = some (.int (i32 (1))) := eL349 ▸ jg_eq
    refine jx_ld (pc' := 268) (l' := L349) (st' := [.ref 66]) rfl (jl_aloadn gL349_0) ?_
    refine jx_ld (pc' := 270) (l' := L349) (st' := [.int (i32 (1)), .ref 66]) rfl (jl_iload gL349_6) ?_
    refine jx_if_eq (pc' := 273) (tg := 278) rfl rfl rfl (by decide) (by decide) (fun h350 => ?_) (fun h350 => ?_)
    · have _q := h350
      exact absurd h350 (by omega)
    · have _q := h350
      refine jx_ar (pc' := 275) (st' := [.int (i32 (23)), .ref 66]) rfl rfl rfl rfl ?_
      refine jx_go (tg := 280) rfl rfl ?_
      refine jx_ld (pc' := 281) (l' := L349) (st' := [.ref 66, .int (i32 (23)), .ref 66]) rfl (jl_aloadn gL349_0) ?_
      refine jx_ld (pc' := 283) (l' := L349) (st' := [.int (i32 (0)), .ref 66, .int (i32 (23)), .ref 66]) rfl (jl_iload gL349_5) ?_
      refine jx_if_eq (pc' := 286) (tg := 290) rfl rfl rfl (by decide) (by decide) (fun h351 => ?_) (fun h351 => ?_)
      · have _q := h351
        refine jx_ar (pc' := 291) (st' := [.int (i32 (2)), .ref 66, .int (i32 (23)), .ref 66]) rfl rfl rfl rfl ?_
        refine jx_ld (pc' := 292) (l' := L349) (st' := [.int (i32 (s)), .int (i32 (2)), .ref 66, .int (i32 (23)), .ref 66]) rfl (jl_iloadn gL349_2) ?_
        refine jx_ld (pc' := 294) (l' := L349) (st' := [.int (i32 (0)), .int (i32 (s)), .int (i32 (2)), .ref 66, .int (i32 (23)), .ref 66]) rfl (jl_iload gL349_4) ?_
        refine jx_ar (pc' := 295) (st' := [.int (i32 (0)), .int (i32 (0)), .int (i32 (s)), .int (i32 (2)), .ref 66, .int (i32 (23)), .ref 66]) rfl rfl rfl rfl ?_
        refine jx_ar (pc' := 296) (st' := [.int (i32 (0)), .int (i32 (0)), .int (i32 (0)), .int (i32 (s)), .int (i32 (2)), .ref 66, .int (i32 (23)), .ref 66]) rfl rfl rfl rfl ?_
        refine jx_vr (pc' := 299) (as := [.int (i32 (2)), .int (i32 (s)), .int (i32 (0)), .int (i32 (0)), .int (i32 (0))]) (st := [.int (i32 (23)), .ref 66]) rfl rfl rfl rfl ⟨rfl, rfl, Nat.le_of_ble_eq_true rfl⟩ rfl rfl (c_node_o (dd := d) (hd := by omega) (hW := hWx) (kind := 2) (a := s) (b := 0) (c := 0) (e := 0) (nd := nd1) (e_nd := show Gx 31 = nd1 from (ex_nd1)) (ec := ec1) (e_ec := show ecn Ax (Gx 31) = ec1 from ex_ec1)  (h_kind := ⟨(by decide), (by decide)⟩) (h_a := ⟨(Int.le_trans (by decide : (-2147483648 : Int) ≤ -2147483648) rx_s.1), (Int.le_trans rx_s.2 (by decide : (2147483647 : Int) ≤ 2147483647))⟩) (h_b := ⟨(by decide), (by decide)⟩) (h_c := ⟨(by decide), (by decide)⟩) (h_e := ⟨(by decide), (by decide)⟩)  (p_0 := by omega) (p_1 := by omega) (p_2 := by omega)) (fun o V' hq => ?_)
        obtain ⟨G352, A353, nd2_354, ec2_355, rfl, rfl, hW356, hF357, hQ358, e359, e360, p361, p362, p363, -⟩ := hq
        have hF365 := Fr_tr hFx hF357 (Fr_sub (by decide)) (Fr_sub (by decide))
        have hP366 := Pf_tr hPx hQ358 (by omega)
        have bnd2_354 : (0 : Int) ≤ nd2_354 ∧ nd2_354 ≤ 6999 := e359 ▸ hW356.1 31
        refine .inr ⟨_, rfl, ?_⟩
        refine jx_ar (pc' := 300) (st' := [.int (i32 (0)), .int (i32 (nd1)), .int (i32 (23)), .ref 66]) rfl rfl rfl rfl ?_
        refine jx_ar (pc' := 301) (st' := [.int (i32 (0)), .int (i32 (0)), .int (i32 (nd1)), .int (i32 (23)), .ref 66]) rfl rfl rfl rfl ?_
        refine jx_ar (pc' := 302) (st' := [.int (i32 (0)), .int (i32 (0)), .int (i32 (0)), .int (i32 (nd1)), .int (i32 (23)), .ref 66]) rfl rfl rfl rfl ?_
        refine jx_vr (pc' := 305) (as := [.int (i32 (23)), .int (i32 (nd1)), .int (i32 (0)), .int (i32 (0)), .int (i32 (0))]) (st := []) rfl rfl rfl rfl ⟨rfl, rfl, Nat.le_of_ble_eq_true rfl⟩ rfl rfl (c_node_o (dd := d) (hd := by omega) (hW := hW356) (kind := 23) (a := nd1) (b := 0) (c := 0) (e := 0) (nd := nd2_354) (e_nd := show G352 31 = nd2_354 from (e359)) (ec := ec2_355) (e_ec := show ecn A353 (G352 31) = ec2_355 from e360)  (h_kind := ⟨(by decide), (by decide)⟩) (h_a := ⟨(Int.le_trans (by decide : (-2147483648 : Int) ≤ 0) b_nd1.1), (Int.le_trans b_nd1.2 (by decide : (6999 : Int) ≤ 2147483647))⟩) (h_b := ⟨(by decide), (by decide)⟩) (h_c := ⟨(by decide), (by decide)⟩) (h_e := ⟨(by decide), (by decide)⟩)  (p_0 := by omega) (p_1 := by omega) (p_2 := by omega)) (fun o V' hq => ?_)
        obtain ⟨G367, A368, nd2_369, ec2_370, rfl, rfl, hW371, hF372, hQ373, e374, e375, p376, p377, p378, -⟩ := hq
        have hF380 := Fr_tr hF365 hF372 (Fr_sub (by decide)) (Fr_sub (by decide))
        have hP381 := Pf_tr hP366 hQ373 (by omega)
        have sf382 : ND A368 (nd1) (2) (s) (0) (0) (0) (0) (0) := ND_ag (by omega) (Ag_pf hQ373 (by omega)) p363
        have bnd2_369 : (0 : Int) ≤ nd2_369 ∧ nd2_369 ≤ 6999 := e374 ▸ hW371.1 31
        refine .inr ⟨_, rfl, ?_⟩
        refine jx_ld (pc' := 307) (l' := jSto1 L349 7 (.int (i32 (nd2_354)))) (st' := []) rfl rfl ?_
        obtain ⟨L383, eL383⟩ : ∃ q, q = jSto1 L349 7 (.int (i32 (nd2_354))) := ⟨_, rfl⟩
        rw [← eL383]
        have gL383_0 : jGet L383 0 = some (.ref 66) := eL383 ▸ jg_ne (by decide) gL349_0 rfl
        have gL383_5 : jGet L383 5 = some (.int (i32 (0))) := eL383 ▸ jg_ne (by decide) gL349_5 rfl
        have gL383_4 : jGet L383 4 = some (.int (i32 (0))) := eL383 ▸ jg_ne (by decide) gL349_4 rfl
        have gL383_2 : jGet L383 2 = some (.int (i32 (s))) := eL383 ▸ jg_ne (by decide) gL349_2 rfl
        have gL383_6 : jGet L383 6 = some (.int (i32 (1))) := eL383 ▸ jg_ne (by decide) gL349_6 rfl
        have gL383_7 : jGet L383 7 = some (.int (i32 (nd2_354))) := eL383 ▸ jg_eq
        refine jx_ld (pc' := 308) (l' := L383) (st' := [.ref 66]) rfl (jl_aloadn gL383_0) ?_
        refine jx_vr (pc' := 311) (as := []) (st := []) rfl rfl rfl rfl ⟨rfl, rfl, Nat.le_of_ble_eq_true rfl⟩ rfl rfl (c_next (dd := d) (hd := by omega) (hW := hW371)  (ln := ln) (e_ln := show G367 9 = ln from ((hF372.1 9 rfl).trans ((hF357.1 9 rfl).trans (fx_9)))) (le := le) (e_le := show A368 4 (ln).toNat = le from (congrFun ((hF372.2 4 rfl).trans ((hF357.2 4 rfl).trans (hFx.2 4 rfl))) _).trans (e_le)) (at0 := at1) (e_at0 := show G367 10 = at1 from ((hF372.1 10 rfl).trans ((hF357.1 10 rfl).trans (ex_at1))))    (p_0 := by omega)) (fun o V' hq => ?_)
        obtain ⟨G384, A385, at2_386, tk2_387, rfl, rfl, hW388, hF389, e390, e391, p392, p393, p394, -⟩ := hq
        have hF396 := Fr_tr hF380 hF389 (Fr_sub (by decide)) (Fr_sub (by decide))
        have hP397 := Pf_f hP381 hF389 (by decide)
        have sf398 : ND A385 (nd1) (2) (s) (0) (0) (0) (0) (0) := ND_ag (by omega) (Ag_fr hF389 (by decide)) sf382
        have sf399 : ND A385 (nd2_354) (23) (nd1) (0) (0) (0) (0) (0) := ND_ag (by omega) (Ag_fr hF389 (by decide)) p378
        have ec400 : ecn A385 (G384 31) = ec2_370 := (ecn_f (hF389.2 15 rfl) (hF389.1 31 rfl)).trans e375
        have bat2_386 : (0 : Int) ≤ at2_386 ∧ at2_386 ≤ 3002 := e390 ▸ hW388.1 10
        have ztk2_387 := tz_b tk2_387
        have btk2_387 : (0 : Int) ≤ tk2_387 ∧ tk2_387 ≤ 5 := e391 ▸ hW388.1 11
        refine .inl ⟨rfl, ?_⟩
        have pz401 : at1 + tz tk2_387 ≤ at2_386 := by omega
        refine jx_ld (pc' := 312) (l' := L383) (st' := [.ref 66]) rfl (jl_aloadn gL383_0) ?_
        refine jr_get (pc' := 315) (i := 35) (v := .ref 85) rfl rfl (by decide) rfl rfl ?_
        refine jx_ld (pc' := 317) (l' := L383) (st' := [.int (i32 (nd2_354)), .ref 85]) rfl (jl_iload gL383_7) ?_
        refine jx_ld (pc' := 319) (l' := L383) (st' := [.int (i32 (1)), .int (i32 (nd2_354)), .ref 85]) rfl (jl_iload gL383_6) ?_
        refine jx_if_eq (pc' := 322) (tg := 329) rfl rfl rfl (by decide) (by decide) (fun h402 => ?_) (fun h402 => ?_)
        · have _q := h402
          exact absurd h402 (by omega)
        · have _q := h402
          refine jx_ld (pc' := 323) (l' := L383) (st' := [.ref 66, .int (i32 (nd2_354)), .ref 85]) rfl (jl_aloadn gL383_0) ?_
          refine jx_vr (pc' := 326) (as := []) (st := [.int (i32 (nd2_354)), .ref 85]) rfl rfl rfl rfl ⟨rfl, rfl, Nat.le_of_ble_eq_true rfl⟩ rfl rfl (REw_all X 9 (dd := d) (hd := by omega) (hW := hW388)  (ln := ln) (e_ln := show G384 9 = ln from ((hF389.1 9 rfl).trans ((hF372.1 9 rfl).trans ((hF357.1 9 rfl).trans (fx_9))))) (le := le) (e_le := show A385 4 (ln).toNat = le from (congrFun ((hF389.2 4 rfl).trans ((hF372.2 4 rfl).trans ((hF357.2 4 rfl).trans (hFx.2 4 rfl)))) _).trans (e_le)) (at0 := at2_386) (e_at0 := show G384 10 = at2_386 from (e390)) (fk := fk1) (e_fk := show G384 16 = fk1 from ((hF389.1 16 rfl).trans ((hF372.1 16 rfl).trans ((hF357.1 16 rfl).trans (ex_fk1))))) (op0 := op1) (e_op0 := show G384 15 = op1 from ((hF389.1 15 rfl).trans ((hF372.1 15 rfl).trans ((hF357.1 15 rfl).trans (ex_op1))))) (nd := nd2_369) (e_nd := show G384 31 = nd2_369 from ((hF389.1 31 rfl).trans (e374))) (tk0 := tk2_387) (e_tk0 := show G384 11 = tk2_387 from (e391)) (ec := ec2_370) (e_ec := show ecn A385 (G384 31) = ec2_370 from ec400) (i_SV := (SV_ext (((hF389.1 29 rfl).trans ((hF372.1 29 rfl).trans ((hF357.1 29 rfl).trans (hFx.1 29 rfl))))) (((hF389.2 14 rfl).trans ((hF372.2 14 rfl).trans ((hF357.2 14 rfl).trans (hFx.2 14 rfl))))) i_SV))   (p_0 := by omega) (p_1 := by omega) (p_2 := by omega) (p_3 := by omega) (p_4 := by omega) (p_5 := by omega)) (fun o V' hq => ?_)
          obtain ⟨G403, A404, r405, at2_406, fk2_407, op2_408, nd2_409, tk2_410, ec2_411, rfl, rfl, hW412, hF413, hQ414, b415, e416, e417, e418, e419, e420, e421, p422, p423, p424, p425, p426, p427, q428⟩ := hq
          have hF429 := Fr_tr hF396 hF413 (Fr_sub (by decide)) (Fr_sub (by decide))
          have hP430 := Pf_tr hP397 hQ414 (by omega)
          have sf431 : ND A404 (nd1) (2) (s) (0) (0) (0) (0) (0) := ND_ag (by omega) (Ag_pf hQ414 (by omega)) sf398
          have sf432 : ND A404 (nd2_354) (23) (nd1) (0) (0) (0) (0) (0) := ND_ag (by omega) (Ag_pf hQ414 (by omega)) sf399
          have bat2_406 : (0 : Int) ≤ at2_406 ∧ at2_406 ≤ 3002 := e416 ▸ hW412.1 10
          have bfk2_407 : (0 : Int) ≤ fk2_407 ∧ fk2_407 ≤ 6 := e417 ▸ hW412.1 16
          have bop2_408 : (-2147483648 : Int) ≤ op2_408 ∧ op2_408 ≤ 2147483647 := e418 ▸ hW412.1 15
          have bnd2_409 : (0 : Int) ≤ nd2_409 ∧ nd2_409 ≤ 6999 := e419 ▸ hW412.1 31
          have ztk2_410 := tz_b tk2_410
          have btk2_410 : (0 : Int) ≤ tk2_410 ∧ tk2_410 ≤ 5 := e420 ▸ hW412.1 11
          refine .inr ⟨_, rfl, ?_⟩
          rcases q428 with ⟨a433, a434, a435, a436, a437, a438⟩ | ⟨a439, a440, a441⟩ | ⟨a442, a443, a444, a445, a446, a447⟩
          · have _q : True := trivial
            exfalso
            omega
          · have _q : True := trivial
            refine jx_go (tg := 334) rfl rfl ?_
            refine jr_st (pc' := 335) (i := 18) (m := 7000) (z := nd2_354) (y := r405) rfl (by decide) rfl (by decide) (by omega) (by omega) rfl ?_
            have hW449 : Wk G403 (uA A404 18 (nd2_354).toNat (r405)) := Wk_a hW412 (show (-2147483648 : Int) ≤ r405 by omega) (show r405 ≤ (2147483647 : Int) by omega)
            have hF450 := Fr_a (z := r405) (k := 18) (n := (nd2_354).toNat) hF429 (by decide)
            obtain ⟨A448, eA448⟩ : ∃ q, q = uA A404 18 (nd2_354).toNat (r405) := ⟨_, rfl⟩
            rw [← eA448]
            rw [← eA448] at hW449 hF450
            have q451 : A448 18 (nd2_354).toNat = r405 := by rw [eA448]; exact uA_eq
            have hP452 : Pf nd A A448 := eA448 ▸ Pf_a hP430 (z := nd2_354) (by omega) (by omega)
            have sf453 : ND A448 (nd1) (2) (s) (0) (0) (0) (0) (0) := ND_ag (by omega) (Ag_st eA448 (by omega) (by omega)) sf431
            have sf454 : ND A448 (nd2_354) (23) (nd1) (r405) (0) (0) (0) (0) := ND_b eA448 sf432
            have ec455 : ecn A448 (G403 31) = ec2_411 := (ecn_e ((congrFun eA448 15).trans (uA_ne (by decide)))).trans e421
            refine jx_ld (pc' := 336) (l' := L383) (st' := [.ref 66]) rfl (jl_aloadn gL383_0) ?_
            refine jx_vr (pc' := 339) (as := []) (st := []) rfl rfl rfl rfl ⟨rfl, rfl, Nat.le_of_ble_eq_true rfl⟩ rfl rfl (c_endLine (dd := d) (hd := by omega) (hW := hW449)  (ln := ln) (e_ln := show G403 9 = ln from ((hF413.1 9 rfl).trans ((hF389.1 9 rfl).trans ((hF372.1 9 rfl).trans ((hF357.1 9 rfl).trans (fx_9)))))) (li := li) (e_li := show G403 3 = li from ((hF413.1 3 rfl).trans ((hF389.1 3 rfl).trans ((hF372.1 3 rfl).trans ((hF357.1 3 rfl).trans ((hFx.1 3 rfl).trans (e_li))))))) (fk := fk2_407) (e_fk := show G403 16 = fk2_407 from (e417)) (tk0 := tk2_410) (e_tk0 := show G403 11 = tk2_410 from (e420))    (p_0 := by omega)) (fun o V' hq => ?_)
            obtain ⟨G456, A457, ln2_458, fk2_459, rfl, rfl, hW460, hF461, e462, e463, q464⟩ := hq
            have hF465 := Fr_tr hF450 hF461 (Fr_sub (by decide)) (Fr_sub (by decide))
            have hP466 := Pf_f hP452 hF461 (by decide)
            have sf467 : ND A457 (nd1) (2) (s) (0) (0) (0) (0) (0) := ND_ag (by omega) (Ag_fr hF461 (by decide)) sf453
            have sf468 : ND A457 (nd2_354) (23) (nd1) (r405) (0) (0) (0) (0) := ND_ag (by omega) (Ag_fr hF461 (by decide)) sf454
            have ec469 : ecn A457 (G456 31) = ec2_411 := (ecn_f (hF461.2 15 rfl) (hF461.1 31 rfl)).trans ec455
            have bln2_458 : (0 : Int) ≤ ln2_458 ∧ ln2_458 ≤ 3000 := e462 ▸ hW460.1 9
            have bfk2_459 : (0 : Int) ≤ fk2_459 ∧ fk2_459 ≤ 6 := e463 ▸ hW460.1 16
            refine .inl ⟨rfl, ?_⟩
            rcases q464 with ⟨a470, a471, a472, a473, a474⟩ | ⟨a475, a476⟩
            · have _q : True := trivial
              exfalso
              omega
            · have _q : True := trivial
              refine jx_ld (pc' := 341) (l' := L383) (st' := [.int (i32 (nd2_354))]) rfl (jl_iload gL383_7) ?_
              refine jx_rt (v := some (.int (i32 (nd2_354)))) rfl rfl rfl rfl rfl rfl ?_
              exact ⟨_, _, _, at2_406, fk2_459, nd2_409, ln2_458, ec2_411, rfl, rfl, hW460, hF465, hP466, by omega, ((hF461.1 10 rfl).trans (e416)), (e463), ((hF461.1 31 rfl).trans (e419)), (e462), ec469, by omega, by omega, by omega, by omega, by omega, by first | exact Or.inl (⟨by omega, by omega, by omega⟩)⟩
          · have _q : True := trivial
            refine jx_go (tg := 334) rfl rfl ?_
            refine jr_st (pc' := 335) (i := 18) (m := 7000) (z := nd2_354) (y := r405) rfl (by decide) rfl (by decide) (by omega) (by omega) rfl ?_
            have hW478 : Wk G403 (uA A404 18 (nd2_354).toNat (r405)) := Wk_a hW412 (show (-2147483648 : Int) ≤ r405 by omega) (show r405 ≤ (2147483647 : Int) by omega)
            have hF479 := Fr_a (z := r405) (k := 18) (n := (nd2_354).toNat) hF429 (by decide)
            obtain ⟨A477, eA477⟩ : ∃ q, q = uA A404 18 (nd2_354).toNat (r405) := ⟨_, rfl⟩
            rw [← eA477]
            rw [← eA477] at hW478 hF479
            have q480 : A477 18 (nd2_354).toNat = r405 := by rw [eA477]; exact uA_eq
            have hP481 : Pf nd A A477 := eA477 ▸ Pf_a hP430 (z := nd2_354) (by omega) (by omega)
            have sf482 : ND A477 (nd1) (2) (s) (0) (0) (0) (0) (0) := ND_ag (by omega) (Ag_st eA477 (by omega) (by omega)) sf431
            have sf483 : ND A477 (nd2_354) (23) (nd1) (r405) (0) (0) (0) (0) := ND_b eA477 sf432
            have sf484 : wE A477 Vs sb (2 * 9 + 2) (r405) (nd2_369) (nd2_409) := wE_ag (by omega) (Sg_ne eA477 rfl) (Ag_st eA477 (by omega) (by omega)) a445
            have ec485 : ecn A477 (G403 31) = ec2_411 := (ecn_e ((congrFun eA477 15).trans (uA_ne (by decide)))).trans e421
            refine jx_ld (pc' := 336) (l' := L383) (st' := [.ref 66]) rfl (jl_aloadn gL383_0) ?_
            refine jx_vr (pc' := 339) (as := []) (st := []) rfl rfl rfl rfl ⟨rfl, rfl, Nat.le_of_ble_eq_true rfl⟩ rfl rfl (c_endLine (dd := d) (hd := by omega) (hW := hW478)  (ln := ln) (e_ln := show G403 9 = ln from ((hF413.1 9 rfl).trans ((hF389.1 9 rfl).trans ((hF372.1 9 rfl).trans ((hF357.1 9 rfl).trans (fx_9)))))) (li := li) (e_li := show G403 3 = li from ((hF413.1 3 rfl).trans ((hF389.1 3 rfl).trans ((hF372.1 3 rfl).trans ((hF357.1 3 rfl).trans ((hFx.1 3 rfl).trans (e_li))))))) (fk := fk2_407) (e_fk := show G403 16 = fk2_407 from (e417)) (tk0 := tk2_410) (e_tk0 := show G403 11 = tk2_410 from (e420))    (p_0 := by omega)) (fun o V' hq => ?_)
            obtain ⟨G486, A487, ln2_488, fk2_489, rfl, rfl, hW490, hF491, e492, e493, q494⟩ := hq
            have hF495 := Fr_tr hF479 hF491 (Fr_sub (by decide)) (Fr_sub (by decide))
            have hP496 := Pf_f hP481 hF491 (by decide)
            have sf497 : ND A487 (nd1) (2) (s) (0) (0) (0) (0) (0) := ND_ag (by omega) (Ag_fr hF491 (by decide)) sf482
            have sf498 : ND A487 (nd2_354) (23) (nd1) (r405) (0) (0) (0) (0) := ND_ag (by omega) (Ag_fr hF491 (by decide)) sf483
            have sf499 : wE A487 Vs sb (2 * 9 + 2) (r405) (nd2_369) (nd2_409) := wE_ag (by omega) (Sg_fr hF491 (by decide)) (Ag_fr hF491 (by decide)) sf484
            have ec500 : ecn A487 (G486 31) = ec2_411 := (ecn_f (hF491.2 15 rfl) (hF491.1 31 rfl)).trans ec485
            have bln2_488 : (0 : Int) ≤ ln2_488 ∧ ln2_488 ≤ 3000 := e492 ▸ hW490.1 9
            have bfk2_489 : (0 : Int) ≤ fk2_489 ∧ fk2_489 ≤ 6 := e493 ▸ hW490.1 16
            refine .inl ⟨rfl, ?_⟩
            rcases q494 with ⟨a501, a502, a503, a504, a505⟩ | ⟨a506, a507⟩
            · have _q : True := trivial
              refine jx_ld (pc' := 341) (l' := L383) (st' := [.int (i32 (nd2_354))]) rfl (jl_iload gL383_7) ?_
              refine jx_rt (v := some (.int (i32 (nd2_354)))) rfl rfl rfl rfl rfl rfl ?_
              exact ⟨_, _, _, at2_406, fk2_489, nd2_409, ln2_488, ec2_411, rfl, rfl, hW490, hF495, hP496, by omega, ((hF491.1 10 rfl).trans (e416)), (e493), ((hF491.1 31 rfl).trans (e419)), (e492), ec500, by omega, by omega, by omega, by omega, by omega, by first | exact Or.inr ((⟨by omega, by omega, by omega, by omega, by omega, (wL_out sf498 (by omega) (by omega) (wR_var sf497 (by omega) (by omega) iv_8 (kq (P := kRef (1)) (show A487 7 (s).toNat = ks from (congrFun ((hF491.2 7 rfl).trans (((congrFun eA477 7).trans (uA_ne (by decide))).trans ((hF413.2 7 rfl).trans ((hF389.2 7 rfl).trans ((hF372.2 7 rfl).trans (hF357.2 7 rfl)))))) _).trans (ex_ks)) (by first | exact .inr ⟨by omega, iv_9⟩))) (wE_mono (by omega) (by omega) (by omega) sf499)), (NX_nd sf498), by omega⟩))⟩
            · have _q : True := trivial
              refine jx_ld (pc' := 341) (l' := L383) (st' := [.int (i32 (nd2_354))]) rfl (jl_iload gL383_7) ?_
              refine jx_rt (v := some (.int (i32 (nd2_354)))) rfl rfl rfl rfl rfl rfl ?_
              exact ⟨_, _, _, at2_406, fk2_489, nd2_409, ln2_488, ec2_411, rfl, rfl, hW490, hF495, hP496, by omega, ((hF491.1 10 rfl).trans (e416)), (e493), ((hF491.1 31 rfl).trans (e419)), (e492), ec500, by omega, by omega, by omega, by omega, by omega, by first | exact Or.inl (⟨by omega, by omega, by omega⟩)⟩
      · have _q := h351
        exact absurd h351 (by omega)
  · have _q : True := trivial
    refine jx_ld (pc' := 267) (l' := jSto1 L 6 (.int (i32 (0)))) (st' := []) rfl rfl ?_
    obtain ⟨L508, eL508⟩ : ∃ q, q = jSto1 L 6 (.int (i32 (0))) := ⟨_, rfl⟩
    rw [← eL508]
    have gL508_0 : jGet L508 0 = some (.ref 66) := eL508 ▸ jg_ne (by decide) gL_0 rfl
    have gL508_5 : jGet L508 5 = some (.int (i32 (0))) := eL508 ▸ jg_ne (by decide) gL_5 rfl
    have gL508_4 : jGet L508 4 = some (.int (i32 (0))) := eL508 ▸ jg_ne (by decide) gL_4 rfl
    have gL508_2 : jGet L508 2 = some (.int (i32 (s))) := eL508 ▸ jg_ne (by decide) gL_2 rfl
    have gL508_6 : jGet L508 6 = some (.int (i32 (0))) := eL508 ▸ jg_eq
    refine jx_ld (pc' := 268) (l' := L508) (st' := [.ref 66]) rfl (jl_aloadn gL508_0) ?_
    refine jx_ld (pc' := 270) (l' := L508) (st' := [.int (i32 (0)), .ref 66]) rfl (jl_iload gL508_6) ?_
    refine jx_if_eq (pc' := 273) (tg := 278) rfl rfl rfl (by decide) (by decide) (fun h509 => ?_) (fun h509 => ?_)
    · have _q := h509
      refine jx_ar (pc' := 280) (st' := [.int (i32 (24)), .ref 66]) rfl rfl rfl rfl ?_
      refine jx_ld (pc' := 281) (l' := L508) (st' := [.ref 66, .int (i32 (24)), .ref 66]) rfl (jl_aloadn gL508_0) ?_
      refine jx_ld (pc' := 283) (l' := L508) (st' := [.int (i32 (0)), .ref 66, .int (i32 (24)), .ref 66]) rfl (jl_iload gL508_5) ?_
      refine jx_if_eq (pc' := 286) (tg := 290) rfl rfl rfl (by decide) (by decide) (fun h510 => ?_) (fun h510 => ?_)
      · have _q := h510
        refine jx_ar (pc' := 291) (st' := [.int (i32 (2)), .ref 66, .int (i32 (24)), .ref 66]) rfl rfl rfl rfl ?_
        refine jx_ld (pc' := 292) (l' := L508) (st' := [.int (i32 (s)), .int (i32 (2)), .ref 66, .int (i32 (24)), .ref 66]) rfl (jl_iloadn gL508_2) ?_
        refine jx_ld (pc' := 294) (l' := L508) (st' := [.int (i32 (0)), .int (i32 (s)), .int (i32 (2)), .ref 66, .int (i32 (24)), .ref 66]) rfl (jl_iload gL508_4) ?_
        refine jx_ar (pc' := 295) (st' := [.int (i32 (0)), .int (i32 (0)), .int (i32 (s)), .int (i32 (2)), .ref 66, .int (i32 (24)), .ref 66]) rfl rfl rfl rfl ?_
        refine jx_ar (pc' := 296) (st' := [.int (i32 (0)), .int (i32 (0)), .int (i32 (0)), .int (i32 (s)), .int (i32 (2)), .ref 66, .int (i32 (24)), .ref 66]) rfl rfl rfl rfl ?_
        refine jx_vr (pc' := 299) (as := [.int (i32 (2)), .int (i32 (s)), .int (i32 (0)), .int (i32 (0)), .int (i32 (0))]) (st := [.int (i32 (24)), .ref 66]) rfl rfl rfl rfl ⟨rfl, rfl, Nat.le_of_ble_eq_true rfl⟩ rfl rfl (c_node_o (dd := d) (hd := by omega) (hW := hWx) (kind := 2) (a := s) (b := 0) (c := 0) (e := 0) (nd := nd1) (e_nd := show Gx 31 = nd1 from (ex_nd1)) (ec := ec1) (e_ec := show ecn Ax (Gx 31) = ec1 from ex_ec1)  (h_kind := ⟨(by decide), (by decide)⟩) (h_a := ⟨(Int.le_trans (by decide : (-2147483648 : Int) ≤ -2147483648) rx_s.1), (Int.le_trans rx_s.2 (by decide : (2147483647 : Int) ≤ 2147483647))⟩) (h_b := ⟨(by decide), (by decide)⟩) (h_c := ⟨(by decide), (by decide)⟩) (h_e := ⟨(by decide), (by decide)⟩)  (p_0 := by omega) (p_1 := by omega) (p_2 := by omega)) (fun o V' hq => ?_)
        obtain ⟨G511, A512, nd2_513, ec2_514, rfl, rfl, hW515, hF516, hQ517, e518, e519, p520, p521, p522, -⟩ := hq
        have hF524 := Fr_tr hFx hF516 (Fr_sub (by decide)) (Fr_sub (by decide))
        have hP525 := Pf_tr hPx hQ517 (by omega)
        have bnd2_513 : (0 : Int) ≤ nd2_513 ∧ nd2_513 ≤ 6999 := e518 ▸ hW515.1 31
        refine .inr ⟨_, rfl, ?_⟩
        refine jx_ar (pc' := 300) (st' := [.int (i32 (0)), .int (i32 (nd1)), .int (i32 (24)), .ref 66]) rfl rfl rfl rfl ?_
        refine jx_ar (pc' := 301) (st' := [.int (i32 (0)), .int (i32 (0)), .int (i32 (nd1)), .int (i32 (24)), .ref 66]) rfl rfl rfl rfl ?_
        refine jx_ar (pc' := 302) (st' := [.int (i32 (0)), .int (i32 (0)), .int (i32 (0)), .int (i32 (nd1)), .int (i32 (24)), .ref 66]) rfl rfl rfl rfl ?_
        refine jx_vr (pc' := 305) (as := [.int (i32 (24)), .int (i32 (nd1)), .int (i32 (0)), .int (i32 (0)), .int (i32 (0))]) (st := []) rfl rfl rfl rfl ⟨rfl, rfl, Nat.le_of_ble_eq_true rfl⟩ rfl rfl (c_node_o (dd := d) (hd := by omega) (hW := hW515) (kind := 24) (a := nd1) (b := 0) (c := 0) (e := 0) (nd := nd2_513) (e_nd := show G511 31 = nd2_513 from (e518)) (ec := ec2_514) (e_ec := show ecn A512 (G511 31) = ec2_514 from e519)  (h_kind := ⟨(by decide), (by decide)⟩) (h_a := ⟨(Int.le_trans (by decide : (-2147483648 : Int) ≤ 0) b_nd1.1), (Int.le_trans b_nd1.2 (by decide : (6999 : Int) ≤ 2147483647))⟩) (h_b := ⟨(by decide), (by decide)⟩) (h_c := ⟨(by decide), (by decide)⟩) (h_e := ⟨(by decide), (by decide)⟩)  (p_0 := by omega) (p_1 := by omega) (p_2 := by omega)) (fun o V' hq => ?_)
        obtain ⟨G526, A527, nd2_528, ec2_529, rfl, rfl, hW530, hF531, hQ532, e533, e534, p535, p536, p537, -⟩ := hq
        have hF539 := Fr_tr hF524 hF531 (Fr_sub (by decide)) (Fr_sub (by decide))
        have hP540 := Pf_tr hP525 hQ532 (by omega)
        have sf541 : ND A527 (nd1) (2) (s) (0) (0) (0) (0) (0) := ND_ag (by omega) (Ag_pf hQ532 (by omega)) p522
        have bnd2_528 : (0 : Int) ≤ nd2_528 ∧ nd2_528 ≤ 6999 := e533 ▸ hW530.1 31
        refine .inr ⟨_, rfl, ?_⟩
        refine jx_ld (pc' := 307) (l' := jSto1 L508 7 (.int (i32 (nd2_513)))) (st' := []) rfl rfl ?_
        obtain ⟨L542, eL542⟩ : ∃ q, q = jSto1 L508 7 (.int (i32 (nd2_513))) := ⟨_, rfl⟩
        rw [← eL542]
        have gL542_0 : jGet L542 0 = some (.ref 66) := eL542 ▸ jg_ne (by decide) gL508_0 rfl
        have gL542_5 : jGet L542 5 = some (.int (i32 (0))) := eL542 ▸ jg_ne (by decide) gL508_5 rfl
        have gL542_4 : jGet L542 4 = some (.int (i32 (0))) := eL542 ▸ jg_ne (by decide) gL508_4 rfl
        have gL542_2 : jGet L542 2 = some (.int (i32 (s))) := eL542 ▸ jg_ne (by decide) gL508_2 rfl
        have gL542_6 : jGet L542 6 = some (.int (i32 (0))) := eL542 ▸ jg_ne (by decide) gL508_6 rfl
        have gL542_7 : jGet L542 7 = some (.int (i32 (nd2_513))) := eL542 ▸ jg_eq
        refine jx_ld (pc' := 308) (l' := L542) (st' := [.ref 66]) rfl (jl_aloadn gL542_0) ?_
        refine jx_vr (pc' := 311) (as := []) (st := []) rfl rfl rfl rfl ⟨rfl, rfl, Nat.le_of_ble_eq_true rfl⟩ rfl rfl (c_next (dd := d) (hd := by omega) (hW := hW530)  (ln := ln) (e_ln := show G526 9 = ln from ((hF531.1 9 rfl).trans ((hF516.1 9 rfl).trans (fx_9)))) (le := le) (e_le := show A527 4 (ln).toNat = le from (congrFun ((hF531.2 4 rfl).trans ((hF516.2 4 rfl).trans (hFx.2 4 rfl))) _).trans (e_le)) (at0 := at1) (e_at0 := show G526 10 = at1 from ((hF531.1 10 rfl).trans ((hF516.1 10 rfl).trans (ex_at1))))    (p_0 := by omega)) (fun o V' hq => ?_)
        obtain ⟨G543, A544, at2_545, tk2_546, rfl, rfl, hW547, hF548, e549, e550, p551, p552, p553, -⟩ := hq
        have hF555 := Fr_tr hF539 hF548 (Fr_sub (by decide)) (Fr_sub (by decide))
        have hP556 := Pf_f hP540 hF548 (by decide)
        have sf557 : ND A544 (nd1) (2) (s) (0) (0) (0) (0) (0) := ND_ag (by omega) (Ag_fr hF548 (by decide)) sf541
        have sf558 : ND A544 (nd2_513) (24) (nd1) (0) (0) (0) (0) (0) := ND_ag (by omega) (Ag_fr hF548 (by decide)) p537
        have ec559 : ecn A544 (G543 31) = ec2_529 := (ecn_f (hF548.2 15 rfl) (hF548.1 31 rfl)).trans e534
        have bat2_545 : (0 : Int) ≤ at2_545 ∧ at2_545 ≤ 3002 := e549 ▸ hW547.1 10
        have ztk2_546 := tz_b tk2_546
        have btk2_546 : (0 : Int) ≤ tk2_546 ∧ tk2_546 ≤ 5 := e550 ▸ hW547.1 11
        refine .inl ⟨rfl, ?_⟩
        have pz560 : at1 + tz tk2_546 ≤ at2_545 := by omega
        refine jx_ld (pc' := 312) (l' := L542) (st' := [.ref 66]) rfl (jl_aloadn gL542_0) ?_
        refine jr_get (pc' := 315) (i := 35) (v := .ref 85) rfl rfl (by decide) rfl rfl ?_
        refine jx_ld (pc' := 317) (l' := L542) (st' := [.int (i32 (nd2_513)), .ref 85]) rfl (jl_iload gL542_7) ?_
        refine jx_ld (pc' := 319) (l' := L542) (st' := [.int (i32 (0)), .int (i32 (nd2_513)), .ref 85]) rfl (jl_iload gL542_6) ?_
        refine jx_if_eq (pc' := 322) (tg := 329) rfl rfl rfl (by decide) (by decide) (fun h561 => ?_) (fun h561 => ?_)
        · have _q := h561
          refine jx_ld (pc' := 330) (l' := L542) (st' := [.ref 66, .int (i32 (nd2_513)), .ref 85]) rfl (jl_aloadn gL542_0) ?_
          refine jx_ar (pc' := 331) (st' := [.int (i32 (0)), .ref 66, .int (i32 (nd2_513)), .ref 85]) rfl rfl rfl rfl ?_
          refine jx_vr (pc' := 334) (as := [.int (i32 (0))]) (st := [.int (i32 (nd2_513)), .ref 85]) rfl rfl rfl rfl ⟨rfl, rfl, Nat.le_of_ble_eq_true rfl⟩ rfl rfl (c_readReference_w (dd := d) (hd := by omega) (hW := hW547) (ch := 0) (ln := ln) (e_ln := show G543 9 = ln from ((hF548.1 9 rfl).trans ((hF531.1 9 rfl).trans ((hF516.1 9 rfl).trans (fx_9))))) (le := le) (e_le := show A544 4 (ln).toNat = le from (congrFun ((hF548.2 4 rfl).trans ((hF531.2 4 rfl).trans ((hF516.2 4 rfl).trans (hFx.2 4 rfl)))) _).trans (e_le)) (at0 := at2_545) (e_at0 := show G543 10 = at2_545 from (e549)) (fk := fk1) (e_fk := show G543 16 = fk1 from ((hF548.1 16 rfl).trans ((hF531.1 16 rfl).trans ((hF516.1 16 rfl).trans (ex_fk1))))) (op0 := op1) (e_op0 := show G543 15 = op1 from ((hF548.1 15 rfl).trans ((hF531.1 15 rfl).trans ((hF516.1 15 rfl).trans (ex_op1))))) (nd := nd2_528) (e_nd := show G543 31 = nd2_528 from ((hF548.1 31 rfl).trans (e533))) (tk0 := tk2_546) (e_tk0 := show G543 11 = tk2_546 from (e550)) (ec := ec2_529) (e_ec := show ecn A544 (G543 31) = ec2_529 from ec559) (i_SV := (SV_ext (((hF548.1 29 rfl).trans ((hF531.1 29 rfl).trans ((hF516.1 29 rfl).trans (hFx.1 29 rfl))))) (((hF548.2 14 rfl).trans ((hF531.2 14 rfl).trans ((hF516.2 14 rfl).trans (hFx.2 14 rfl))))) i_SV)) (h_ch := ⟨(by decide), (by decide)⟩)  (p_0 := by omega) (p_1 := by omega) (p_2 := by omega) (p_3 := by omega) (p_4 := by omega)) (fun o V' hq => ?_)
          obtain ⟨G562, A563, r564, at2_565, fk2_566, op2_567, nd2_568, tk2_569, ec2_570, rfl, rfl, hW571, hF572, hQ573, b574, e575, e576, e577, e578, e579, e580, p581, p582, p583, p584, p585, p586, q587⟩ := hq
          have hF588 := Fr_tr hF555 hF572 (Fr_sub (by decide)) (Fr_sub (by decide))
          have hP589 := Pf_tr hP556 hQ573 (by omega)
          have sf590 : ND A563 (nd1) (2) (s) (0) (0) (0) (0) (0) := ND_ag (by omega) (Ag_pf hQ573 (by omega)) sf557
          have sf591 : ND A563 (nd2_513) (24) (nd1) (0) (0) (0) (0) (0) := ND_ag (by omega) (Ag_pf hQ573 (by omega)) sf558
          have bat2_565 : (0 : Int) ≤ at2_565 ∧ at2_565 ≤ 3002 := e575 ▸ hW571.1 10
          have bfk2_566 : (0 : Int) ≤ fk2_566 ∧ fk2_566 ≤ 6 := e576 ▸ hW571.1 16
          have bop2_567 : (-2147483648 : Int) ≤ op2_567 ∧ op2_567 ≤ 2147483647 := e577 ▸ hW571.1 15
          have bnd2_568 : (0 : Int) ≤ nd2_568 ∧ nd2_568 ≤ 6999 := e578 ▸ hW571.1 31
          have ztk2_569 := tz_b tk2_569
          have btk2_569 : (0 : Int) ≤ tk2_569 ∧ tk2_569 ≤ 5 := e579 ▸ hW571.1 11
          refine .inr ⟨_, rfl, ?_⟩
          rcases q587 with ⟨a592, a593, a594, a595, a596, a597⟩ | ⟨a598, a599, a600⟩ | ⟨a601, a602, a603, a604, a605, a606⟩
          · have _q : True := trivial
            exfalso
            omega
          · have _q : True := trivial
            refine jr_st (pc' := 335) (i := 18) (m := 7000) (z := nd2_513) (y := r564) rfl (by decide) rfl (by decide) (by omega) (by omega) rfl ?_
            have hW608 : Wk G562 (uA A563 18 (nd2_513).toNat (r564)) := Wk_a hW571 (show (-2147483648 : Int) ≤ r564 by omega) (show r564 ≤ (2147483647 : Int) by omega)
            have hF609 := Fr_a (z := r564) (k := 18) (n := (nd2_513).toNat) hF588 (by decide)
            obtain ⟨A607, eA607⟩ : ∃ q, q = uA A563 18 (nd2_513).toNat (r564) := ⟨_, rfl⟩
            rw [← eA607]
            rw [← eA607] at hW608 hF609
            have q610 : A607 18 (nd2_513).toNat = r564 := by rw [eA607]; exact uA_eq
            have hP611 : Pf nd A A607 := eA607 ▸ Pf_a hP589 (z := nd2_513) (by omega) (by omega)
            have sf612 : ND A607 (nd1) (2) (s) (0) (0) (0) (0) (0) := ND_ag (by omega) (Ag_st eA607 (by omega) (by omega)) sf590
            have sf613 : ND A607 (nd2_513) (24) (nd1) (r564) (0) (0) (0) (0) := ND_b eA607 sf591
            have ec614 : ecn A607 (G562 31) = ec2_570 := (ecn_e ((congrFun eA607 15).trans (uA_ne (by decide)))).trans e580
            refine jx_ld (pc' := 336) (l' := L542) (st' := [.ref 66]) rfl (jl_aloadn gL542_0) ?_
            refine jx_vr (pc' := 339) (as := []) (st := []) rfl rfl rfl rfl ⟨rfl, rfl, Nat.le_of_ble_eq_true rfl⟩ rfl rfl (c_endLine (dd := d) (hd := by omega) (hW := hW608)  (ln := ln) (e_ln := show G562 9 = ln from ((hF572.1 9 rfl).trans ((hF548.1 9 rfl).trans ((hF531.1 9 rfl).trans ((hF516.1 9 rfl).trans (fx_9)))))) (li := li) (e_li := show G562 3 = li from ((hF572.1 3 rfl).trans ((hF548.1 3 rfl).trans ((hF531.1 3 rfl).trans ((hF516.1 3 rfl).trans ((hFx.1 3 rfl).trans (e_li))))))) (fk := fk2_566) (e_fk := show G562 16 = fk2_566 from (e576)) (tk0 := tk2_569) (e_tk0 := show G562 11 = tk2_569 from (e579))    (p_0 := by omega)) (fun o V' hq => ?_)
            obtain ⟨G615, A616, ln2_617, fk2_618, rfl, rfl, hW619, hF620, e621, e622, q623⟩ := hq
            have hF624 := Fr_tr hF609 hF620 (Fr_sub (by decide)) (Fr_sub (by decide))
            have hP625 := Pf_f hP611 hF620 (by decide)
            have sf626 : ND A616 (nd1) (2) (s) (0) (0) (0) (0) (0) := ND_ag (by omega) (Ag_fr hF620 (by decide)) sf612
            have sf627 : ND A616 (nd2_513) (24) (nd1) (r564) (0) (0) (0) (0) := ND_ag (by omega) (Ag_fr hF620 (by decide)) sf613
            have ec628 : ecn A616 (G615 31) = ec2_570 := (ecn_f (hF620.2 15 rfl) (hF620.1 31 rfl)).trans ec614
            have bln2_617 : (0 : Int) ≤ ln2_617 ∧ ln2_617 ≤ 3000 := e621 ▸ hW619.1 9
            have bfk2_618 : (0 : Int) ≤ fk2_618 ∧ fk2_618 ≤ 6 := e622 ▸ hW619.1 16
            refine .inl ⟨rfl, ?_⟩
            rcases q623 with ⟨a629, a630, a631, a632, a633⟩ | ⟨a634, a635⟩
            · have _q : True := trivial
              exfalso
              omega
            · have _q : True := trivial
              refine jx_ld (pc' := 341) (l' := L542) (st' := [.int (i32 (nd2_513))]) rfl (jl_iload gL542_7) ?_
              refine jx_rt (v := some (.int (i32 (nd2_513)))) rfl rfl rfl rfl rfl rfl ?_
              exact ⟨_, _, _, at2_565, fk2_618, nd2_568, ln2_617, ec2_570, rfl, rfl, hW619, hF624, hP625, by omega, ((hF620.1 10 rfl).trans (e575)), (e622), ((hF620.1 31 rfl).trans (e578)), (e621), ec628, by omega, by omega, by omega, by omega, by omega, by first | exact Or.inl (⟨by omega, by omega, by omega⟩)⟩
          · have _q : True := trivial
            refine jr_st (pc' := 335) (i := 18) (m := 7000) (z := nd2_513) (y := r564) rfl (by decide) rfl (by decide) (by omega) (by omega) rfl ?_
            have hW637 : Wk G562 (uA A563 18 (nd2_513).toNat (r564)) := Wk_a hW571 (show (-2147483648 : Int) ≤ r564 by omega) (show r564 ≤ (2147483647 : Int) by omega)
            have hF638 := Fr_a (z := r564) (k := 18) (n := (nd2_513).toNat) hF588 (by decide)
            obtain ⟨A636, eA636⟩ : ∃ q, q = uA A563 18 (nd2_513).toNat (r564) := ⟨_, rfl⟩
            rw [← eA636]
            rw [← eA636] at hW637 hF638
            have q639 : A636 18 (nd2_513).toNat = r564 := by rw [eA636]; exact uA_eq
            have hP640 : Pf nd A A636 := eA636 ▸ Pf_a hP589 (z := nd2_513) (by omega) (by omega)
            have sf641 : ND A636 (nd1) (2) (s) (0) (0) (0) (0) (0) := ND_ag (by omega) (Ag_st eA636 (by omega) (by omega)) sf590
            have sf642 : ND A636 (nd2_513) (24) (nd1) (r564) (0) (0) (0) (0) := ND_b eA636 sf591
            have sf643 : wR A636 Vs sb (20) (0) (r564) (nd2_528) (nd2_568) := wR_ag (by omega) (Sg_ne eA636 rfl) (Ag_st eA636 (by omega) (by omega)) a604
            have ec644 : ecn A636 (G562 31) = ec2_570 := (ecn_e ((congrFun eA636 15).trans (uA_ne (by decide)))).trans e580
            refine jx_ld (pc' := 336) (l' := L542) (st' := [.ref 66]) rfl (jl_aloadn gL542_0) ?_
            refine jx_vr (pc' := 339) (as := []) (st := []) rfl rfl rfl rfl ⟨rfl, rfl, Nat.le_of_ble_eq_true rfl⟩ rfl rfl (c_endLine (dd := d) (hd := by omega) (hW := hW637)  (ln := ln) (e_ln := show G562 9 = ln from ((hF572.1 9 rfl).trans ((hF548.1 9 rfl).trans ((hF531.1 9 rfl).trans ((hF516.1 9 rfl).trans (fx_9)))))) (li := li) (e_li := show G562 3 = li from ((hF572.1 3 rfl).trans ((hF548.1 3 rfl).trans ((hF531.1 3 rfl).trans ((hF516.1 3 rfl).trans ((hFx.1 3 rfl).trans (e_li))))))) (fk := fk2_566) (e_fk := show G562 16 = fk2_566 from (e576)) (tk0 := tk2_569) (e_tk0 := show G562 11 = tk2_569 from (e579))    (p_0 := by omega)) (fun o V' hq => ?_)
            obtain ⟨G645, A646, ln2_647, fk2_648, rfl, rfl, hW649, hF650, e651, e652, q653⟩ := hq
            have hF654 := Fr_tr hF638 hF650 (Fr_sub (by decide)) (Fr_sub (by decide))
            have hP655 := Pf_f hP640 hF650 (by decide)
            have sf656 : ND A646 (nd1) (2) (s) (0) (0) (0) (0) (0) := ND_ag (by omega) (Ag_fr hF650 (by decide)) sf641
            have sf657 : ND A646 (nd2_513) (24) (nd1) (r564) (0) (0) (0) (0) := ND_ag (by omega) (Ag_fr hF650 (by decide)) sf642
            have sf658 : wR A646 Vs sb (20) (0) (r564) (nd2_528) (nd2_568) := wR_ag (by omega) (Sg_fr hF650 (by decide)) (Ag_fr hF650 (by decide)) sf643
            have ec659 : ecn A646 (G645 31) = ec2_570 := (ecn_f (hF650.2 15 rfl) (hF650.1 31 rfl)).trans ec644
            have bln2_647 : (0 : Int) ≤ ln2_647 ∧ ln2_647 ≤ 3000 := e651 ▸ hW649.1 9
            have bfk2_648 : (0 : Int) ≤ fk2_648 ∧ fk2_648 ≤ 6 := e652 ▸ hW649.1 16
            refine .inl ⟨rfl, ?_⟩
            rcases q653 with ⟨a660, a661, a662, a663, a664⟩ | ⟨a665, a666⟩
            · have _q : True := trivial
              refine jx_ld (pc' := 341) (l' := L542) (st' := [.int (i32 (nd2_513))]) rfl (jl_iload gL542_7) ?_
              refine jx_rt (v := some (.int (i32 (nd2_513)))) rfl rfl rfl rfl rfl rfl ?_
              exact ⟨_, _, _, at2_565, fk2_648, nd2_568, ln2_647, ec2_570, rfl, rfl, hW649, hF654, hP655, by omega, ((hF650.1 10 rfl).trans (e575)), (e652), ((hF650.1 31 rfl).trans (e578)), (e651), ec659, by omega, by omega, by omega, by omega, by omega, by first | exact Or.inr ((⟨by omega, by omega, by omega, by omega, by omega, (wL_in sf657 (by omega) (by omega) (wR_var sf656 (by omega) (by omega) iv_8 (kq (P := kRef (1)) (show A646 7 (s).toNat = ks from (congrFun ((hF650.2 7 rfl).trans (((congrFun eA636 7).trans (uA_ne (by decide))).trans ((hF572.2 7 rfl).trans ((hF548.2 7 rfl).trans ((hF531.2 7 rfl).trans (hF516.2 7 rfl)))))) _).trans (ex_ks)) (by first | exact .inr ⟨by omega, iv_9⟩))) (wR_mono (by omega) (by omega) (by omega) sf658)), (NX_nd sf657), by omega⟩))⟩
            · have _q : True := trivial
              refine jx_ld (pc' := 341) (l' := L542) (st' := [.int (i32 (nd2_513))]) rfl (jl_iload gL542_7) ?_
              refine jx_rt (v := some (.int (i32 (nd2_513)))) rfl rfl rfl rfl rfl rfl ?_
              exact ⟨_, _, _, at2_565, fk2_648, nd2_568, ln2_647, ec2_570, rfl, rfl, hW649, hF654, hP655, by omega, ((hF650.1 10 rfl).trans (e575)), (e652), ((hF650.1 31 rfl).trans (e578)), (e651), ec659, by omega, by omega, by omega, by omega, by omega, by first | exact Or.inl (⟨by omega, by omega, by omega⟩)⟩
        · have _q := h561
          exact absurd h561 (by omega)
      · have _q := h510
        exact absurd h510 (by omega)
    · have _q := h509
      exact absurd h509 (by omega)
set_option maxRecDepth 20000 in
set_option maxHeartbeats 4000000 in
theorem c_readNamed_w_at_231_1 {X : jX} {d : Nat} {Vs : Nat → Prop} {sb pb : Int} {c0 c1 : jC} {G : Nat → Int} {A : Nat → Nat → Int} {T : jH} {ln le at0 fk op0 nd tk0 li ec : Int} (hd : 72 ≤ d + 1) (hW : Wk G A) (e_ln : G 9 = ln) (e_le : A 4 (ln).toNat = le) (e_at0 : G 10 = at0) (e_fk : G 16 = fk) (e_op0 : G 15 = op0) (e_nd : G 31 = nd) (e_tk0 : G 11 = tk0) (e_li : G 3 = li) (e_ec : ecn A (G 31) = ec) (i_SV : SV Vs sb G A) (i_PQ : PQ Vs sb pb G A) (p_0 : 0 ≤ op0 ∧ op0 ≤ 8) (p_1 : fk = 0) (p_2 : nd ≤ 2 * at0 - tz tk0 + 42) (p_3 : at0 ≤ le) (p_4 : ln < li) (p_5 : tk0 = 1) : ∀ (L : jL) (Gx : Nat → Int) (Ax : Nat → Nat → Int) (pl s ix at1 tk1 fk1 nd1 op1 ks ec1 : Int), jGet L 0 = some (.ref 66) → jGet L 5 = some (.int (i32 (1))) → jGet L 3 = some (.int (i32 (ks))) → jGet L 1 = some (.int (i32 pl)) → jGet L 2 = some (.int (i32 s)) → jGet L 4 = some (.int (i32 ix)) → Wk Gx Ax → Fr [9, 10, 11, 12, 13, 14, 15, 16, 17, 18, 31] [15, 16, 17, 18, 19, 20, 21, 22, 24, 28] G A Gx Ax → Pf nd A Ax → Gx 10 = at1 → Gx 11 = tk1 → Gx 16 = fk1 → Gx 31 = nd1 → Gx 15 = op1 → Ax 7 (s).toNat = ks → ecn Ax (Gx 31) = ec1 → Gx 9 = ln → ((-2147483648 : Int) ≤ pl ∧ pl ≤ 2147483647) → ((-2147483648 : Int) ≤ s ∧ s ≤ 2147483647) → ((-2147483648 : Int) ≤ ix ∧ ix ≤ 2147483647) → (at0 ≤ at1) → (at1 ≤ le) → (nd ≤ nd1) → (op1 = op0) → (fk1 = 0) → (nd1 - nd ≤ (2 * at1 - tz tk1) - (2 * at0 - tz tk0) - 1) → (tz tk1 = 1) → (0 ≤ s ∧ s ≤ 201) → (-3000 ≤ pl ∧ pl ≤ 3002) → (SY Vs sb (s)) → (wE Ax Vs sb (20) (ix) (nd) (nd1)) → (nd1 - nd + 5 * (ec1 - ec) ≤ (2 * at1 - tz tk1) - (2 * at0 - tz tk0) - 6 - tz tk1) → wj X d jm304 (231, L, [], rV c0 c1 Gx Ax T) (fun o V' => ∃ (G' : Nat → Int) (A' : Nat → Nat → Int) (r : Int) (at2 : Int) (fk2 : Int) (nd2 : Int) (ln2 : Int) (ec2 : Int), V' = rV c0 c1 G' A' T ∧ o = .inl (some (.int (i32 r))) ∧ Wk G' A' ∧ Fr [9, 10, 11, 12, 13, 14, 15, 16, 17, 18, 31] [15, 16, 17, 18, 19, 20, 21, 22, 24, 28] G A G' A' ∧ Pf nd A A' ∧ ((-2147483648 : Int) ≤ r ∧ r ≤ 2147483647) ∧ G' 10 = at2 ∧ G' 16 = fk2 ∧ G' 31 = nd2 ∧ G' 9 = ln2 ∧ ecn A' (G' 31) = ec2 ∧ (at0 ≤ at2) ∧ (at2 ≤ le) ∧ (nd ≤ nd2) ∧ (0 ≤ r) ∧ (r ≤ nd2) ∧ (((1 ≤ fk2) ∧ (ln2 = ln) ∧ (nd2 - nd ≤ 2 * at2 - 2 * at0 + 8)) ∨ ((fk2 = 0) ∧ (ln2 = ln + 1) ∧ (nd2 - nd ≤ 2 * at2 - (2 * at0 - tz tk0) + 0) ∧ (nd ≤ r) ∧ (r < nd2) ∧ (wL A' sb pb Vs (r) (nd) (nd2)) ∧ (NX A' (r)) ∧ (nd2 - nd + 5 * (ec2 - ec) ≤ 2 * at2 - (2 * at0 - tz tk0) + 0)))) := by
  have hF0 : Fr [9, 10, 11, 12, 13, 14, 15, 16, 17, 18, 31] [15, 16, 17, 18, 19, 20, 21, 22, 24, 28] G A G A := Fr_rf
  have hP0 : Pf nd A A := Pf_rf
  have b_ln : (0 : Int) ≤ ln ∧ ln ≤ 3000 := e_ln ▸ hW.1 9
  have b_le : (0 : Int) ≤ le ∧ le ≤ 3000 := e_le ▸ hW.2 4 _
  have b_at0 : (0 : Int) ≤ at0 ∧ at0 ≤ 3002 := e_at0 ▸ hW.1 10
  have b_fk : (0 : Int) ≤ fk ∧ fk ≤ 6 := e_fk ▸ hW.1 16
  have b_op0 : (-2147483648 : Int) ≤ op0 ∧ op0 ≤ 2147483647 := e_op0 ▸ hW.1 15
  have b_nd : (0 : Int) ≤ nd ∧ nd ≤ 6999 := e_nd ▸ hW.1 31
  have z_tk0 := tz_f tk0
  have b_tk0 : (0 : Int) ≤ tk0 ∧ tk0 ≤ 5 := e_tk0 ▸ hW.1 11
  have b_li : (0 : Int) ≤ li ∧ li ≤ 3000 := e_li ▸ hW.1 3
  intro L Gx Ax pl s ix at1 tk1 fk1 nd1 op1 ks ec1 gL_0 gL_5 gL_3 gL_1 gL_2 gL_4 hWx hFx hPx ex_at1 ex_tk1 ex_fk1 ex_nd1 ex_op1 ex_ks ex_ec1 fx_9 rx_pl rx_s rx_ix iv_0 iv_1 iv_2 iv_3 iv_4 iv_5 iv_6 iv_7 iv_8 iv_9 iv_10 iv_11
  have b_at1 : (0 : Int) ≤ at1 ∧ at1 ≤ 3002 := ex_at1 ▸ hWx.1 10
  have z_tk1 := tz_f tk1
  have b_tk1 : (0 : Int) ≤ tk1 ∧ tk1 ≤ 5 := ex_tk1 ▸ hWx.1 11
  have b_fk1 : (0 : Int) ≤ fk1 ∧ fk1 ≤ 6 := ex_fk1 ▸ hWx.1 16
  have b_nd1 : (0 : Int) ≤ nd1 ∧ nd1 ≤ 6999 := ex_nd1 ▸ hWx.1 31
  have b_op1 : (-2147483648 : Int) ≤ op1 ∧ op1 ≤ 2147483647 := ex_op1 ▸ hWx.1 15
  have b_ks : (0 : Int) ≤ ks ∧ ks ≤ 14 := ex_ks ▸ hWx.2 7 _
  refine jx_ld (pc' := 233) (l' := L) (st' := [.int (i32 (1))]) rfl (jl_iload gL_5) ?_
  refine jx_if_eq (pc' := 236) (tg := 244) rfl rfl rfl (by decide) (by decide) (fun h667 => ?_) (fun h667 => ?_)
  · have _q := h667
    exact absurd h667 (by omega)
  · have _q := h667
    refine jx_ld (pc' := 237) (l' := L) (st' := [.int (i32 (ks))]) rfl (jl_iloadn gL_3) ?_
    refine jx_ar (pc' := 238) (st' := [.int (i32 (4)), .int (i32 (ks))]) rfl rfl rfl rfl ?_
    refine jx_icmp_eq (pc' := 241) (tg := 259) rfl rfl rfl (Int.le_trans (by decide : (-2147483648 : Int) ≤ 0) b_ks.1) (Int.le_trans b_ks.2 (by decide : (14 : Int) ≤ 2147483647)) (by decide) (by decide) (fun h668 => ?_) (fun h668 => ?_)
    · have _q := h668
      have z669 := tz_f (tk1)
      exact c_readNamed_w_at_259_1 (X := X) (d := d) (Vs := Vs) (sb := sb) (pb := pb) (c0 := c0) (c1 := c1) (G := G) (A := A) (T := T) (ln := ln) (le := le) (at0 := at0) (fk := fk) (op0 := op0) (nd := nd) (tk0 := tk0) (li := li) (ec := ec) (hd := hd) (hW := hW) (e_ln := e_ln) (e_le := e_le) (e_at0 := e_at0) (e_fk := e_fk) (e_op0 := e_op0) (e_nd := e_nd) (e_tk0 := e_tk0) (e_li := e_li) (e_ec := e_ec) (i_SV := i_SV) (i_PQ := i_PQ) (p_0 := p_0) (p_1 := p_1) (p_2 := p_2) (p_3 := p_3) (p_4 := p_4) (p_5 := p_5) L Gx Ax (s) (ix) (at1) (tk1) (fk1) (nd1) (op1) (ks) (ec1) gL_0 gL_5 gL_2 gL_4 hWx hFx hPx ((ex_at1)) ((ex_tk1)) ((ex_fk1)) ((ex_nd1)) ((ex_op1)) ((ex_ks)) (ex_ec1) ((fx_9)) (by omega) (by omega) (by omega) (by omega) (by omega) (by omega) (by omega) (by omega) (by omega) (by omega) (iv_9) (by omega) (iv_10) (by omega)
    · have _q := h668
      refine jx_go (tg := 251) rfl rfl ?_
      refine jx_ld (pc' := 252) (l' := L) (st' := [.ref 66]) rfl (jl_aloadn gL_0) ?_
      refine jx_ar (pc' := 253) (st' := [.int (i32 (4)), .ref 66]) rfl rfl rfl rfl ?_
      refine jx_ld (pc' := 254) (l' := L) (st' := [.int (i32 (pl)), .int (i32 (4)), .ref 66]) rfl (jl_iloadn gL_1) ?_
      refine jx_vr (pc' := 257) (as := [.int (i32 (4)), .int (i32 (pl))]) (st := []) rfl rfl rfl rfl ⟨rfl, rfl, Nat.le_of_ble_eq_true rfl⟩ rfl rfl (c_fail (dd := d) (hd := by omega) (hW := hWx) (kind := 4) (place := pl) (fk := fk1) (e_fk := show Gx 16 = fk1 from (ex_fk1))  (h_kind := ⟨(by decide), (by decide)⟩) (h_place := ⟨(Int.le_trans (by decide : (-2147483648 : Int) ≤ -2147483648) rx_pl.1), (Int.le_trans rx_pl.2 (by decide : (2147483647 : Int) ≤ 2147483647))⟩)  (p_0 := by omega) (p_1 := by omega)) (fun o V' hq => ?_)
      obtain ⟨G670, A671, fk2_672, rfl, rfl, hW673, hF674, e675, p676, -⟩ := hq
      have hF678 := Fr_tr hFx hF674 (Fr_sub (by decide)) (Fr_sub (by decide))
      have hP679 := Pf_f hPx hF674 (by decide)
      have sf680 : wE A671 Vs sb (20) (ix) (nd) (nd1) := wE_ag (by omega) (Sg_fr hF674 (by decide)) (Ag_fr hF674 (by decide)) iv_10
      have ec681 : ecn A671 (G670 31) = ec1 := (ecn_f (hF674.2 15 rfl) (hF674.1 31 rfl)).trans ex_ec1
      have bfk2_672 : (0 : Int) ≤ fk2_672 ∧ fk2_672 ≤ 6 := e675 ▸ hW673.1 16
      refine .inl ⟨rfl, ?_⟩
      refine jx_ar (pc' := 258) (st' := [.int (i32 (0))]) rfl rfl rfl rfl ?_
      refine jx_rt (v := some (.int (i32 (0)))) rfl rfl rfl rfl rfl rfl ?_
      exact ⟨_, _, _, at1, fk2_672, nd1, ln, ec1, rfl, rfl, hW673, hF678, hP679, by omega, ((hF674.1 10 rfl).trans (ex_at1)), (e675), ((hF674.1 31 rfl).trans (ex_nd1)), ((hF674.1 9 rfl).trans (fx_9)), ec681, by omega, by omega, by omega, by omega, by omega, by first | exact Or.inl (⟨by omega, by omega, by omega⟩)⟩
set_option maxRecDepth 20000 in
set_option maxHeartbeats 4000000 in
theorem c_readNamed_w_at_231_0 {X : jX} {d : Nat} {Vs : Nat → Prop} {sb pb : Int} {c0 c1 : jC} {G : Nat → Int} {A : Nat → Nat → Int} {T : jH} {ln le at0 fk op0 nd tk0 li ec : Int} (hd : 72 ≤ d + 1) (hW : Wk G A) (e_ln : G 9 = ln) (e_le : A 4 (ln).toNat = le) (e_at0 : G 10 = at0) (e_fk : G 16 = fk) (e_op0 : G 15 = op0) (e_nd : G 31 = nd) (e_tk0 : G 11 = tk0) (e_li : G 3 = li) (e_ec : ecn A (G 31) = ec) (i_SV : SV Vs sb G A) (i_PQ : PQ Vs sb pb G A) (p_0 : 0 ≤ op0 ∧ op0 ≤ 8) (p_1 : fk = 0) (p_2 : nd ≤ 2 * at0 - tz tk0 + 42) (p_3 : at0 ≤ le) (p_4 : ln < li) (p_5 : tk0 = 1) : ∀ (L : jL) (Gx : Nat → Int) (Ax : Nat → Nat → Int) (pl s at1 tk1 fk1 nd1 op1 ks ec1 : Int), jGet L 0 = some (.ref 66) → jGet L 5 = some (.int (i32 (0))) → jGet L 3 = some (.int (i32 (ks))) → jGet L 4 = some (.int (i32 (0))) → jGet L 1 = some (.int (i32 pl)) → jGet L 2 = some (.int (i32 s)) → Wk Gx Ax → Fr [9, 10, 11, 12, 13, 14, 15, 16, 17, 18, 31] [15, 16, 17, 18, 19, 20, 21, 22, 24, 28] G A Gx Ax → Pf nd A Ax → Gx 10 = at1 → Gx 11 = tk1 → Gx 16 = fk1 → Gx 31 = nd1 → Gx 15 = op1 → Ax 7 (s).toNat = ks → ecn Ax (Gx 31) = ec1 → Gx 9 = ln → ((-2147483648 : Int) ≤ pl ∧ pl ≤ 2147483647) → ((-2147483648 : Int) ≤ s ∧ s ≤ 2147483647) → (at0 ≤ at1) → (at1 ≤ le) → (nd ≤ nd1) → (op1 = op0) → (fk1 = 0) → (nd1 - nd ≤ (2 * at1 - tz tk1) - (2 * at0 - tz tk0) - 1) → (tz tk1 = 1) → (0 ≤ s ∧ s ≤ 201) → (-3000 ≤ pl ∧ pl ≤ 3002) → (SY Vs sb (s)) → (nd1 - nd + 5 * (ec1 - ec) ≤ (2 * at1 - tz tk1) - (2 * at0 - tz tk0) - 1 - tz tk1) → wj X d jm304 (231, L, [], rV c0 c1 Gx Ax T) (fun o V' => ∃ (G' : Nat → Int) (A' : Nat → Nat → Int) (r : Int) (at2 : Int) (fk2 : Int) (nd2 : Int) (ln2 : Int) (ec2 : Int), V' = rV c0 c1 G' A' T ∧ o = .inl (some (.int (i32 r))) ∧ Wk G' A' ∧ Fr [9, 10, 11, 12, 13, 14, 15, 16, 17, 18, 31] [15, 16, 17, 18, 19, 20, 21, 22, 24, 28] G A G' A' ∧ Pf nd A A' ∧ ((-2147483648 : Int) ≤ r ∧ r ≤ 2147483647) ∧ G' 10 = at2 ∧ G' 16 = fk2 ∧ G' 31 = nd2 ∧ G' 9 = ln2 ∧ ecn A' (G' 31) = ec2 ∧ (at0 ≤ at2) ∧ (at2 ≤ le) ∧ (nd ≤ nd2) ∧ (0 ≤ r) ∧ (r ≤ nd2) ∧ (((1 ≤ fk2) ∧ (ln2 = ln) ∧ (nd2 - nd ≤ 2 * at2 - 2 * at0 + 8)) ∨ ((fk2 = 0) ∧ (ln2 = ln + 1) ∧ (nd2 - nd ≤ 2 * at2 - (2 * at0 - tz tk0) + 0) ∧ (nd ≤ r) ∧ (r < nd2) ∧ (wL A' sb pb Vs (r) (nd) (nd2)) ∧ (NX A' (r)) ∧ (nd2 - nd + 5 * (ec2 - ec) ≤ 2 * at2 - (2 * at0 - tz tk0) + 0)))) := by
  have hF0 : Fr [9, 10, 11, 12, 13, 14, 15, 16, 17, 18, 31] [15, 16, 17, 18, 19, 20, 21, 22, 24, 28] G A G A := Fr_rf
  have hP0 : Pf nd A A := Pf_rf
  have b_ln : (0 : Int) ≤ ln ∧ ln ≤ 3000 := e_ln ▸ hW.1 9
  have b_le : (0 : Int) ≤ le ∧ le ≤ 3000 := e_le ▸ hW.2 4 _
  have b_at0 : (0 : Int) ≤ at0 ∧ at0 ≤ 3002 := e_at0 ▸ hW.1 10
  have b_fk : (0 : Int) ≤ fk ∧ fk ≤ 6 := e_fk ▸ hW.1 16
  have b_op0 : (-2147483648 : Int) ≤ op0 ∧ op0 ≤ 2147483647 := e_op0 ▸ hW.1 15
  have b_nd : (0 : Int) ≤ nd ∧ nd ≤ 6999 := e_nd ▸ hW.1 31
  have z_tk0 := tz_f tk0
  have b_tk0 : (0 : Int) ≤ tk0 ∧ tk0 ≤ 5 := e_tk0 ▸ hW.1 11
  have b_li : (0 : Int) ≤ li ∧ li ≤ 3000 := e_li ▸ hW.1 3
  intro L Gx Ax pl s at1 tk1 fk1 nd1 op1 ks ec1 gL_0 gL_5 gL_3 gL_4 gL_1 gL_2 hWx hFx hPx ex_at1 ex_tk1 ex_fk1 ex_nd1 ex_op1 ex_ks ex_ec1 fx_9 rx_pl rx_s iv_0 iv_1 iv_2 iv_3 iv_4 iv_5 iv_6 iv_7 iv_8 iv_9 iv_10
  have b_at1 : (0 : Int) ≤ at1 ∧ at1 ≤ 3002 := ex_at1 ▸ hWx.1 10
  have z_tk1 := tz_f tk1
  have b_tk1 : (0 : Int) ≤ tk1 ∧ tk1 ≤ 5 := ex_tk1 ▸ hWx.1 11
  have b_fk1 : (0 : Int) ≤ fk1 ∧ fk1 ≤ 6 := ex_fk1 ▸ hWx.1 16
  have b_nd1 : (0 : Int) ≤ nd1 ∧ nd1 ≤ 6999 := ex_nd1 ▸ hWx.1 31
  have b_op1 : (-2147483648 : Int) ≤ op1 ∧ op1 ≤ 2147483647 := ex_op1 ▸ hWx.1 15
  have b_ks : (0 : Int) ≤ ks ∧ ks ≤ 14 := ex_ks ▸ hWx.2 7 _
  refine jx_ld (pc' := 233) (l' := L) (st' := [.int (i32 (0))]) rfl (jl_iload gL_5) ?_
  refine jx_if_eq (pc' := 236) (tg := 244) rfl rfl rfl (by decide) (by decide) (fun h682 => ?_) (fun h682 => ?_)
  · have _q := h682
    refine jx_ld (pc' := 245) (l' := L) (st' := [.int (i32 (ks))]) rfl (jl_iloadn gL_3) ?_
    refine jx_st (pc' := 248) (as := [.int (i32 (ks))]) (st := []) rfl rfl ⟨rfl, Nat.le_of_ble_eq_true rfl⟩ rfl rfl rfl (c_isChannel (dd := d) (hd := by omega) (k := ks)   (h_k := ⟨(Int.le_trans (by decide : (-2147483648 : Int) ≤ 0) b_ks.1), (Int.le_trans b_ks.2 (by decide : (14 : Int) ≤ 2147483647))⟩)  ) (fun o V' hq => ?_)
    obtain ⟨r683, rfl, rfl, b684, q685⟩ := hq
    refine .inr ⟨_, rfl, ?_⟩
    rcases q685 with ⟨rfl, a686⟩ | rfl
    · have _q : True := trivial
      refine jx_if_ne (pc' := 251) (tg := 259) rfl rfl rfl (by decide) (by decide) (fun h687 => ?_) (fun h687 => ?_)
      · have _q := h687
        have z688 := tz_f (tk1)
        exact c_readNamed_w_at_259_0 (X := X) (d := d) (Vs := Vs) (sb := sb) (pb := pb) (c0 := c0) (c1 := c1) (G := G) (A := A) (T := T) (ln := ln) (le := le) (at0 := at0) (fk := fk) (op0 := op0) (nd := nd) (tk0 := tk0) (li := li) (ec := ec) (hd := hd) (hW := hW) (e_ln := e_ln) (e_le := e_le) (e_at0 := e_at0) (e_fk := e_fk) (e_op0 := e_op0) (e_nd := e_nd) (e_tk0 := e_tk0) (e_li := e_li) (e_ec := e_ec) (i_SV := i_SV) (i_PQ := i_PQ) (p_0 := p_0) (p_1 := p_1) (p_2 := p_2) (p_3 := p_3) (p_4 := p_4) (p_5 := p_5) L Gx Ax (s) (at1) (tk1) (fk1) (nd1) (op1) (ks) (ec1) gL_0 gL_5 gL_4 gL_2 hWx hFx hPx ((ex_at1)) ((ex_tk1)) ((ex_fk1)) ((ex_nd1)) ((ex_op1)) ((ex_ks)) (ex_ec1) ((fx_9)) (by omega) (by omega) (by omega) (by omega) (by omega) (by omega) (by omega) (by omega) (by omega) (iv_9) (a686) (by omega)
      · have _q := h687
        exact absurd h687 (by omega)
    · have _q : True := trivial
      refine jx_if_ne (pc' := 251) (tg := 259) rfl rfl rfl (by decide) (by decide) (fun h689 => ?_) (fun h689 => ?_)
      · have _q := h689
        exact absurd h689 (by omega)
      · have _q := h689
        refine jx_ld (pc' := 252) (l' := L) (st' := [.ref 66]) rfl (jl_aloadn gL_0) ?_
        refine jx_ar (pc' := 253) (st' := [.int (i32 (4)), .ref 66]) rfl rfl rfl rfl ?_
        refine jx_ld (pc' := 254) (l' := L) (st' := [.int (i32 (pl)), .int (i32 (4)), .ref 66]) rfl (jl_iloadn gL_1) ?_
        refine jx_vr (pc' := 257) (as := [.int (i32 (4)), .int (i32 (pl))]) (st := []) rfl rfl rfl rfl ⟨rfl, rfl, Nat.le_of_ble_eq_true rfl⟩ rfl rfl (c_fail (dd := d) (hd := by omega) (hW := hWx) (kind := 4) (place := pl) (fk := fk1) (e_fk := show Gx 16 = fk1 from (ex_fk1))  (h_kind := ⟨(by decide), (by decide)⟩) (h_place := ⟨(Int.le_trans (by decide : (-2147483648 : Int) ≤ -2147483648) rx_pl.1), (Int.le_trans rx_pl.2 (by decide : (2147483647 : Int) ≤ 2147483647))⟩)  (p_0 := by omega) (p_1 := by omega)) (fun o V' hq => ?_)
        obtain ⟨G690, A691, fk2_692, rfl, rfl, hW693, hF694, e695, p696, -⟩ := hq
        have hF698 := Fr_tr hFx hF694 (Fr_sub (by decide)) (Fr_sub (by decide))
        have hP699 := Pf_f hPx hF694 (by decide)
        have ec700 : ecn A691 (G690 31) = ec1 := (ecn_f (hF694.2 15 rfl) (hF694.1 31 rfl)).trans ex_ec1
        have bfk2_692 : (0 : Int) ≤ fk2_692 ∧ fk2_692 ≤ 6 := e695 ▸ hW693.1 16
        refine .inl ⟨rfl, ?_⟩
        refine jx_ar (pc' := 258) (st' := [.int (i32 (0))]) rfl rfl rfl rfl ?_
        refine jx_rt (v := some (.int (i32 (0)))) rfl rfl rfl rfl rfl rfl ?_
        exact ⟨_, _, _, at1, fk2_692, nd1, ln, ec1, rfl, rfl, hW693, hF698, hP699, by omega, ((hF694.1 10 rfl).trans (ex_at1)), (e695), ((hF694.1 31 rfl).trans (ex_nd1)), ((hF694.1 9 rfl).trans (fx_9)), ec700, by omega, by omega, by omega, by omega, by omega, by first | exact Or.inl (⟨by omega, by omega, by omega⟩)⟩
  · have _q := h682
    exact absurd h682 (by omega)
set_option maxRecDepth 20000 in
set_option maxHeartbeats 4000000 in
theorem c_readNamed_w_at_150_1 {X : jX} {d : Nat} {Vs : Nat → Prop} {sb pb : Int} {c0 c1 : jC} {G : Nat → Int} {A : Nat → Nat → Int} {T : jH} {ln le at0 fk op0 nd tk0 li ec : Int} (hd : 72 ≤ d + 1) (hW : Wk G A) (e_ln : G 9 = ln) (e_le : A 4 (ln).toNat = le) (e_at0 : G 10 = at0) (e_fk : G 16 = fk) (e_op0 : G 15 = op0) (e_nd : G 31 = nd) (e_tk0 : G 11 = tk0) (e_li : G 3 = li) (e_ec : ecn A (G 31) = ec) (i_SV : SV Vs sb G A) (i_PQ : PQ Vs sb pb G A) (p_0 : 0 ≤ op0 ∧ op0 ≤ 8) (p_1 : fk = 0) (p_2 : nd ≤ 2 * at0 - tz tk0 + 42) (p_3 : at0 ≤ le) (p_4 : ln < li) (p_5 : tk0 = 1) : ∀ (L : jL) (Gx : Nat → Int) (Ax : Nat → Nat → Int) (s ix at1 tk1 fk1 nd1 op1 ks ec1 : Int), jGet L 0 = some (.ref 66) → jGet L 5 = some (.int (i32 (1))) → jGet L 2 = some (.int (i32 s)) → jGet L 4 = some (.int (i32 ix)) → Wk Gx Ax → Fr [9, 10, 11, 12, 13, 14, 15, 16, 17, 18, 31] [15, 16, 17, 18, 19, 20, 21, 22, 24, 28] G A Gx Ax → Pf nd A Ax → Gx 10 = at1 → Gx 11 = tk1 → Gx 16 = fk1 → Gx 31 = nd1 → Gx 15 = op1 → Ax 7 (s).toNat = ks → ecn Ax (Gx 31) = ec1 → Gx 9 = ln → ((-2147483648 : Int) ≤ s ∧ s ≤ 2147483647) → ((-2147483648 : Int) ≤ ix ∧ ix ≤ 2147483647) → (at0 ≤ at1) → (at1 ≤ le) → (nd ≤ nd1) → (op1 = op0) → (fk1 = 0) → (nd1 - nd ≤ (2 * at1 - tz tk1) - (2 * at0 - tz tk0) - 1) → (tz tk1 = 1) → (0 ≤ s ∧ s ≤ 201) → (SY Vs sb (s)) → (kArr (ks)) → (wE Ax Vs sb (20) (ix) (nd) (nd1)) → (nd1 - nd + 5 * (ec1 - ec) ≤ (2 * at1 - tz tk1) - (2 * at0 - tz tk0) - 6 - tz tk1) → wj X d jm304 (150, L, [], rV c0 c1 Gx Ax T) (fun o V' => ∃ (G' : Nat → Int) (A' : Nat → Nat → Int) (r : Int) (at2 : Int) (fk2 : Int) (nd2 : Int) (ln2 : Int) (ec2 : Int), V' = rV c0 c1 G' A' T ∧ o = .inl (some (.int (i32 r))) ∧ Wk G' A' ∧ Fr [9, 10, 11, 12, 13, 14, 15, 16, 17, 18, 31] [15, 16, 17, 18, 19, 20, 21, 22, 24, 28] G A G' A' ∧ Pf nd A A' ∧ ((-2147483648 : Int) ≤ r ∧ r ≤ 2147483647) ∧ G' 10 = at2 ∧ G' 16 = fk2 ∧ G' 31 = nd2 ∧ G' 9 = ln2 ∧ ecn A' (G' 31) = ec2 ∧ (at0 ≤ at2) ∧ (at2 ≤ le) ∧ (nd ≤ nd2) ∧ (0 ≤ r) ∧ (r ≤ nd2) ∧ (((1 ≤ fk2) ∧ (ln2 = ln) ∧ (nd2 - nd ≤ 2 * at2 - 2 * at0 + 8)) ∨ ((fk2 = 0) ∧ (ln2 = ln + 1) ∧ (nd2 - nd ≤ 2 * at2 - (2 * at0 - tz tk0) + 0) ∧ (nd ≤ r) ∧ (r < nd2) ∧ (wL A' sb pb Vs (r) (nd) (nd2)) ∧ (NX A' (r)) ∧ (nd2 - nd + 5 * (ec2 - ec) ≤ 2 * at2 - (2 * at0 - tz tk0) + 0)))) := by
  have hF0 : Fr [9, 10, 11, 12, 13, 14, 15, 16, 17, 18, 31] [15, 16, 17, 18, 19, 20, 21, 22, 24, 28] G A G A := Fr_rf
  have hP0 : Pf nd A A := Pf_rf
  have b_ln : (0 : Int) ≤ ln ∧ ln ≤ 3000 := e_ln ▸ hW.1 9
  have b_le : (0 : Int) ≤ le ∧ le ≤ 3000 := e_le ▸ hW.2 4 _
  have b_at0 : (0 : Int) ≤ at0 ∧ at0 ≤ 3002 := e_at0 ▸ hW.1 10
  have b_fk : (0 : Int) ≤ fk ∧ fk ≤ 6 := e_fk ▸ hW.1 16
  have b_op0 : (-2147483648 : Int) ≤ op0 ∧ op0 ≤ 2147483647 := e_op0 ▸ hW.1 15
  have b_nd : (0 : Int) ≤ nd ∧ nd ≤ 6999 := e_nd ▸ hW.1 31
  have z_tk0 := tz_f tk0
  have b_tk0 : (0 : Int) ≤ tk0 ∧ tk0 ≤ 5 := e_tk0 ▸ hW.1 11
  have b_li : (0 : Int) ≤ li ∧ li ≤ 3000 := e_li ▸ hW.1 3
  intro L Gx Ax s ix at1 tk1 fk1 nd1 op1 ks ec1 gL_0 gL_5 gL_2 gL_4 hWx hFx hPx ex_at1 ex_tk1 ex_fk1 ex_nd1 ex_op1 ex_ks ex_ec1 fx_9 rx_s rx_ix iv_0 iv_1 iv_2 iv_3 iv_4 iv_5 iv_6 iv_7 iv_8 iv_9 iv_10 iv_11
  have b_at1 : (0 : Int) ≤ at1 ∧ at1 ≤ 3002 := ex_at1 ▸ hWx.1 10
  have z_tk1 := tz_f tk1
  have b_tk1 : (0 : Int) ≤ tk1 ∧ tk1 ≤ 5 := ex_tk1 ▸ hWx.1 11
  have b_fk1 : (0 : Int) ≤ fk1 ∧ fk1 ≤ 6 := ex_fk1 ▸ hWx.1 16
  have b_nd1 : (0 : Int) ≤ nd1 ∧ nd1 ≤ 6999 := ex_nd1 ▸ hWx.1 31
  have b_op1 : (-2147483648 : Int) ≤ op1 ∧ op1 ≤ 2147483647 := ex_op1 ▸ hWx.1 15
  have b_ks : (0 : Int) ≤ ks ∧ ks ≤ 14 := ex_ks ▸ hWx.2 7 _
  refine jx_ld (pc' := 151) (l' := L) (st' := [.ref 66]) rfl (jl_aloadn gL_0) ?_
  refine jx_ar (pc' := 153) (st' := [.int (i32 (22)), .ref 66]) rfl rfl rfl rfl ?_
  refine jx_ld (pc' := 154) (l' := L) (st' := [.ref 66, .int (i32 (22)), .ref 66]) rfl (jl_aloadn gL_0) ?_
  refine jx_ld (pc' := 156) (l' := L) (st' := [.int (i32 (1)), .ref 66, .int (i32 (22)), .ref 66]) rfl (jl_iload gL_5) ?_
  refine jx_if_eq (pc' := 159) (tg := 163) rfl rfl rfl (by decide) (by decide) (fun h701 => ?_) (fun h701 => ?_)
  · have _q := h701
    exact absurd h701 (by omega)
  · have _q := h701
    refine jx_ar (pc' := 160) (st' := [.int (i32 (3)), .ref 66, .int (i32 (22)), .ref 66]) rfl rfl rfl rfl ?_
    refine jx_go (tg := 164) rfl rfl ?_
    refine jx_ld (pc' := 165) (l' := L) (st' := [.int (i32 (s)), .int (i32 (3)), .ref 66, .int (i32 (22)), .ref 66]) rfl (jl_iloadn gL_2) ?_
    refine jx_ld (pc' := 167) (l' := L) (st' := [.int (i32 (ix)), .int (i32 (s)), .int (i32 (3)), .ref 66, .int (i32 (22)), .ref 66]) rfl (jl_iload gL_4) ?_
    refine jx_ar (pc' := 168) (st' := [.int (i32 (0)), .int (i32 (ix)), .int (i32 (s)), .int (i32 (3)), .ref 66, .int (i32 (22)), .ref 66]) rfl rfl rfl rfl ?_
    refine jx_ar (pc' := 169) (st' := [.int (i32 (0)), .int (i32 (0)), .int (i32 (ix)), .int (i32 (s)), .int (i32 (3)), .ref 66, .int (i32 (22)), .ref 66]) rfl rfl rfl rfl ?_
    refine jx_vr (pc' := 172) (as := [.int (i32 (3)), .int (i32 (s)), .int (i32 (ix)), .int (i32 (0)), .int (i32 (0))]) (st := [.int (i32 (22)), .ref 66]) rfl rfl rfl rfl ⟨rfl, rfl, Nat.le_of_ble_eq_true rfl⟩ rfl rfl (c_node_e (dd := d) (hd := by omega) (hW := hWx) (kind := 3) (a := s) (b := ix) (c := 0) (e := 0) (nd := nd1) (e_nd := show Gx 31 = nd1 from (ex_nd1)) (ec := ec1) (e_ec := show ecn Ax (Gx 31) = ec1 from ex_ec1)  (h_kind := ⟨(by decide), (by decide)⟩) (h_a := ⟨(Int.le_trans (by decide : (-2147483648 : Int) ≤ -2147483648) rx_s.1), (Int.le_trans rx_s.2 (by decide : (2147483647 : Int) ≤ 2147483647))⟩) (h_b := ⟨(Int.le_trans (by decide : (-2147483648 : Int) ≤ -2147483648) rx_ix.1), (Int.le_trans rx_ix.2 (by decide : (2147483647 : Int) ≤ 2147483647))⟩) (h_c := ⟨(by decide), (by decide)⟩) (h_e := ⟨(by decide), (by decide)⟩)  (p_0 := by omega) (p_1 := by omega) (p_2 := by omega)) (fun o V' hq => ?_)
    obtain ⟨G702, A703, nd2_704, ec2_705, rfl, rfl, hW706, hF707, hQ708, e709, e710, p711, p712, p713, -⟩ := hq
    have hF715 := Fr_tr hFx hF707 (Fr_sub (by decide)) (Fr_sub (by decide))
    have hP716 := Pf_tr hPx hQ708 (by omega)
    have sf717 : wE A703 Vs sb (20) (ix) (nd) (nd1) := wE_ag (by omega) (Sg_fr hF707 (by decide)) (Ag_pf hQ708 (by omega)) iv_10
    have bnd2_704 : (0 : Int) ≤ nd2_704 ∧ nd2_704 ≤ 6999 := e709 ▸ hW706.1 31
    refine .inr ⟨_, rfl, ?_⟩
    refine jx_ar (pc' := 173) (st' := [.int (i32 (0)), .int (i32 (nd1)), .int (i32 (22)), .ref 66]) rfl rfl rfl rfl ?_
    refine jx_ar (pc' := 174) (st' := [.int (i32 (0)), .int (i32 (0)), .int (i32 (nd1)), .int (i32 (22)), .ref 66]) rfl rfl rfl rfl ?_
    refine jx_ar (pc' := 175) (st' := [.int (i32 (0)), .int (i32 (0)), .int (i32 (0)), .int (i32 (nd1)), .int (i32 (22)), .ref 66]) rfl rfl rfl rfl ?_
    refine jx_vr (pc' := 178) (as := [.int (i32 (22)), .int (i32 (nd1)), .int (i32 (0)), .int (i32 (0)), .int (i32 (0))]) (st := []) rfl rfl rfl rfl ⟨rfl, rfl, Nat.le_of_ble_eq_true rfl⟩ rfl rfl (c_node_o (dd := d) (hd := by omega) (hW := hW706) (kind := 22) (a := nd1) (b := 0) (c := 0) (e := 0) (nd := nd2_704) (e_nd := show G702 31 = nd2_704 from (e709)) (ec := ec2_705) (e_ec := show ecn A703 (G702 31) = ec2_705 from e710)  (h_kind := ⟨(by decide), (by decide)⟩) (h_a := ⟨(Int.le_trans (by decide : (-2147483648 : Int) ≤ 0) b_nd1.1), (Int.le_trans b_nd1.2 (by decide : (6999 : Int) ≤ 2147483647))⟩) (h_b := ⟨(by decide), (by decide)⟩) (h_c := ⟨(by decide), (by decide)⟩) (h_e := ⟨(by decide), (by decide)⟩)  (p_0 := by omega) (p_1 := by omega) (p_2 := by omega)) (fun o V' hq => ?_)
    obtain ⟨G718, A719, nd2_720, ec2_721, rfl, rfl, hW722, hF723, hQ724, e725, e726, p727, p728, p729, -⟩ := hq
    have hF731 := Fr_tr hF715 hF723 (Fr_sub (by decide)) (Fr_sub (by decide))
    have hP732 := Pf_tr hP716 hQ724 (by omega)
    have sf733 : wE A719 Vs sb (20) (ix) (nd) (nd1) := wE_ag (by omega) (Sg_fr hF723 (by decide)) (Ag_pf hQ724 (by omega)) sf717
    have sf734 : ND A719 (nd1) (3) (s) (ix) (0) (0) (0) (0) := ND_ag (by omega) (Ag_pf hQ724 (by omega)) p713
    have bnd2_720 : (0 : Int) ≤ nd2_720 ∧ nd2_720 ≤ 6999 := e725 ▸ hW722.1 31
    refine .inr ⟨_, rfl, ?_⟩
    refine jx_ld (pc' := 180) (l' := jSto1 L 6 (.int (i32 (nd2_704)))) (st' := []) rfl rfl ?_
    obtain ⟨L735, eL735⟩ : ∃ q, q = jSto1 L 6 (.int (i32 (nd2_704))) := ⟨_, rfl⟩
    rw [← eL735]
    have gL735_0 : jGet L735 0 = some (.ref 66) := eL735 ▸ jg_ne (by decide) gL_0 rfl
    have gL735_5 : jGet L735 5 = some (.int (i32 (1))) := eL735 ▸ jg_ne (by decide) gL_5 rfl
    have gL735_2 : jGet L735 2 = some (.int (i32 (s))) := eL735 ▸ jg_ne (by decide) gL_2 rfl
    have gL735_4 : jGet L735 4 = some (.int (i32 (ix))) := eL735 ▸ jg_ne (by decide) gL_4 rfl
    have gL735_6 : jGet L735 6 = some (.int (i32 (nd2_704))) := eL735 ▸ jg_eq
    refine jx_ld (pc' := 181) (l' := L735) (st' := [.ref 66]) rfl (jl_aloadn gL735_0) ?_
    refine jx_vr (pc' := 184) (as := []) (st := []) rfl rfl rfl rfl ⟨rfl, rfl, Nat.le_of_ble_eq_true rfl⟩ rfl rfl (c_next (dd := d) (hd := by omega) (hW := hW722)  (ln := ln) (e_ln := show G718 9 = ln from ((hF723.1 9 rfl).trans ((hF707.1 9 rfl).trans (fx_9)))) (le := le) (e_le := show A719 4 (ln).toNat = le from (congrFun ((hF723.2 4 rfl).trans ((hF707.2 4 rfl).trans (hFx.2 4 rfl))) _).trans (e_le)) (at0 := at1) (e_at0 := show G718 10 = at1 from ((hF723.1 10 rfl).trans ((hF707.1 10 rfl).trans (ex_at1))))    (p_0 := by omega)) (fun o V' hq => ?_)
    obtain ⟨G736, A737, at2_738, tk2_739, rfl, rfl, hW740, hF741, e742, e743, p744, p745, p746, -⟩ := hq
    have hF748 := Fr_tr hF731 hF741 (Fr_sub (by decide)) (Fr_sub (by decide))
    have hP749 := Pf_f hP732 hF741 (by decide)
    have sf750 : wE A737 Vs sb (20) (ix) (nd) (nd1) := wE_ag (by omega) (Sg_fr hF741 (by decide)) (Ag_fr hF741 (by decide)) sf733
    have sf751 : ND A737 (nd1) (3) (s) (ix) (0) (0) (0) (0) := ND_ag (by omega) (Ag_fr hF741 (by decide)) sf734
    have sf752 : ND A737 (nd2_704) (22) (nd1) (0) (0) (0) (0) (0) := ND_ag (by omega) (Ag_fr hF741 (by decide)) p729
    have ec753 : ecn A737 (G736 31) = ec2_721 := (ecn_f (hF741.2 15 rfl) (hF741.1 31 rfl)).trans e726
    have bat2_738 : (0 : Int) ≤ at2_738 ∧ at2_738 ≤ 3002 := e742 ▸ hW740.1 10
    have ztk2_739 := tz_b tk2_739
    have btk2_739 : (0 : Int) ≤ tk2_739 ∧ tk2_739 ≤ 5 := e743 ▸ hW740.1 11
    refine .inl ⟨rfl, ?_⟩
    have pz754 : at1 + tz tk2_739 ≤ at2_738 := by omega
    refine jx_ld (pc' := 185) (l' := L735) (st' := [.ref 66]) rfl (jl_aloadn gL735_0) ?_
    refine jr_get (pc' := 188) (i := 35) (v := .ref 85) rfl rfl (by decide) rfl rfl ?_
    refine jx_ld (pc' := 190) (l' := L735) (st' := [.int (i32 (nd2_704)), .ref 85]) rfl (jl_iload gL735_6) ?_
    refine jx_ld (pc' := 191) (l' := L735) (st' := [.ref 66, .int (i32 (nd2_704)), .ref 85]) rfl (jl_aloadn gL735_0) ?_
    refine jx_vr (pc' := 194) (as := []) (st := [.int (i32 (nd2_704)), .ref 85]) rfl rfl rfl rfl ⟨rfl, rfl, Nat.le_of_ble_eq_true rfl⟩ rfl rfl (REw_all X 9 (dd := d) (hd := by omega) (hW := hW740)  (ln := ln) (e_ln := show G736 9 = ln from ((hF741.1 9 rfl).trans ((hF723.1 9 rfl).trans ((hF707.1 9 rfl).trans (fx_9))))) (le := le) (e_le := show A737 4 (ln).toNat = le from (congrFun ((hF741.2 4 rfl).trans ((hF723.2 4 rfl).trans ((hF707.2 4 rfl).trans (hFx.2 4 rfl)))) _).trans (e_le)) (at0 := at2_738) (e_at0 := show G736 10 = at2_738 from (e742)) (fk := fk1) (e_fk := show G736 16 = fk1 from ((hF741.1 16 rfl).trans ((hF723.1 16 rfl).trans ((hF707.1 16 rfl).trans (ex_fk1))))) (op0 := op1) (e_op0 := show G736 15 = op1 from ((hF741.1 15 rfl).trans ((hF723.1 15 rfl).trans ((hF707.1 15 rfl).trans (ex_op1))))) (nd := nd2_720) (e_nd := show G736 31 = nd2_720 from ((hF741.1 31 rfl).trans (e725))) (tk0 := tk2_739) (e_tk0 := show G736 11 = tk2_739 from (e743)) (ec := ec2_721) (e_ec := show ecn A737 (G736 31) = ec2_721 from ec753) (i_SV := (SV_ext (((hF741.1 29 rfl).trans ((hF723.1 29 rfl).trans ((hF707.1 29 rfl).trans (hFx.1 29 rfl))))) (((hF741.2 14 rfl).trans ((hF723.2 14 rfl).trans ((hF707.2 14 rfl).trans (hFx.2 14 rfl))))) i_SV))   (p_0 := by omega) (p_1 := by omega) (p_2 := by omega) (p_3 := by omega) (p_4 := by omega) (p_5 := by omega)) (fun o V' hq => ?_)
    obtain ⟨G755, A756, r757, at2_758, fk2_759, op2_760, nd2_761, tk2_762, ec2_763, rfl, rfl, hW764, hF765, hQ766, b767, e768, e769, e770, e771, e772, e773, p774, p775, p776, p777, p778, p779, q780⟩ := hq
    have hF781 := Fr_tr hF748 hF765 (Fr_sub (by decide)) (Fr_sub (by decide))
    have hP782 := Pf_tr hP749 hQ766 (by omega)
    have sf783 : wE A756 Vs sb (20) (ix) (nd) (nd1) := wE_ag (by omega) (Sg_fr hF765 (by decide)) (Ag_pf hQ766 (by omega)) sf750
    have sf784 : ND A756 (nd1) (3) (s) (ix) (0) (0) (0) (0) := ND_ag (by omega) (Ag_pf hQ766 (by omega)) sf751
    have sf785 : ND A756 (nd2_704) (22) (nd1) (0) (0) (0) (0) (0) := ND_ag (by omega) (Ag_pf hQ766 (by omega)) sf752
    have bat2_758 : (0 : Int) ≤ at2_758 ∧ at2_758 ≤ 3002 := e768 ▸ hW764.1 10
    have bfk2_759 : (0 : Int) ≤ fk2_759 ∧ fk2_759 ≤ 6 := e769 ▸ hW764.1 16
    have bop2_760 : (-2147483648 : Int) ≤ op2_760 ∧ op2_760 ≤ 2147483647 := e770 ▸ hW764.1 15
    have bnd2_761 : (0 : Int) ≤ nd2_761 ∧ nd2_761 ≤ 6999 := e771 ▸ hW764.1 31
    have ztk2_762 := tz_b tk2_762
    have btk2_762 : (0 : Int) ≤ tk2_762 ∧ tk2_762 ≤ 5 := e772 ▸ hW764.1 11
    refine .inr ⟨_, rfl, ?_⟩
    rcases q780 with ⟨a786, a787, a788, a789, a790, a791⟩ | ⟨a792, a793, a794⟩ | ⟨a795, a796, a797, a798, a799, a800⟩
    · have _q : True := trivial
      exfalso
      omega
    · have _q : True := trivial
      refine jr_st (pc' := 195) (i := 18) (m := 7000) (z := nd2_704) (y := r757) rfl (by decide) rfl (by decide) (by omega) (by omega) rfl ?_
      have hW802 : Wk G755 (uA A756 18 (nd2_704).toNat (r757)) := Wk_a hW764 (show (-2147483648 : Int) ≤ r757 by omega) (show r757 ≤ (2147483647 : Int) by omega)
      have hF803 := Fr_a (z := r757) (k := 18) (n := (nd2_704).toNat) hF781 (by decide)
      obtain ⟨A801, eA801⟩ : ∃ q, q = uA A756 18 (nd2_704).toNat (r757) := ⟨_, rfl⟩
      rw [← eA801]
      rw [← eA801] at hW802 hF803
      have q804 : A801 18 (nd2_704).toNat = r757 := by rw [eA801]; exact uA_eq
      have hP805 : Pf nd A A801 := eA801 ▸ Pf_a hP782 (z := nd2_704) (by omega) (by omega)
      have sf806 : wE A801 Vs sb (20) (ix) (nd) (nd1) := wE_ag (by omega) (Sg_ne eA801 rfl) (Ag_st eA801 (by omega) (by omega)) sf783
      have sf807 : ND A801 (nd1) (3) (s) (ix) (0) (0) (0) (0) := ND_ag (by omega) (Ag_st eA801 (by omega) (by omega)) sf784
      have sf808 : ND A801 (nd2_704) (22) (nd1) (r757) (0) (0) (0) (0) := ND_b eA801 sf785
      have ec809 : ecn A801 (G755 31) = ec2_763 := (ecn_e ((congrFun eA801 15).trans (uA_ne (by decide)))).trans e773
      refine jx_ld (pc' := 196) (l' := L735) (st' := [.ref 66]) rfl (jl_aloadn gL735_0) ?_
      refine jx_vr (pc' := 199) (as := []) (st := []) rfl rfl rfl rfl ⟨rfl, rfl, Nat.le_of_ble_eq_true rfl⟩ rfl rfl (c_endLine (dd := d) (hd := by omega) (hW := hW802)  (ln := ln) (e_ln := show G755 9 = ln from ((hF765.1 9 rfl).trans ((hF741.1 9 rfl).trans ((hF723.1 9 rfl).trans ((hF707.1 9 rfl).trans (fx_9)))))) (li := li) (e_li := show G755 3 = li from ((hF765.1 3 rfl).trans ((hF741.1 3 rfl).trans ((hF723.1 3 rfl).trans ((hF707.1 3 rfl).trans ((hFx.1 3 rfl).trans (e_li))))))) (fk := fk2_759) (e_fk := show G755 16 = fk2_759 from (e769)) (tk0 := tk2_762) (e_tk0 := show G755 11 = tk2_762 from (e772))    (p_0 := by omega)) (fun o V' hq => ?_)
      obtain ⟨G810, A811, ln2_812, fk2_813, rfl, rfl, hW814, hF815, e816, e817, q818⟩ := hq
      have hF819 := Fr_tr hF803 hF815 (Fr_sub (by decide)) (Fr_sub (by decide))
      have hP820 := Pf_f hP805 hF815 (by decide)
      have sf821 : wE A811 Vs sb (20) (ix) (nd) (nd1) := wE_ag (by omega) (Sg_fr hF815 (by decide)) (Ag_fr hF815 (by decide)) sf806
      have sf822 : ND A811 (nd1) (3) (s) (ix) (0) (0) (0) (0) := ND_ag (by omega) (Ag_fr hF815 (by decide)) sf807
      have sf823 : ND A811 (nd2_704) (22) (nd1) (r757) (0) (0) (0) (0) := ND_ag (by omega) (Ag_fr hF815 (by decide)) sf808
      have ec824 : ecn A811 (G810 31) = ec2_763 := (ecn_f (hF815.2 15 rfl) (hF815.1 31 rfl)).trans ec809
      have bln2_812 : (0 : Int) ≤ ln2_812 ∧ ln2_812 ≤ 3000 := e816 ▸ hW814.1 9
      have bfk2_813 : (0 : Int) ≤ fk2_813 ∧ fk2_813 ≤ 6 := e817 ▸ hW814.1 16
      refine .inl ⟨rfl, ?_⟩
      rcases q818 with ⟨a825, a826, a827, a828, a829⟩ | ⟨a830, a831⟩
      · have _q : True := trivial
        exfalso
        omega
      · have _q : True := trivial
        refine jx_ld (pc' := 201) (l' := L735) (st' := [.int (i32 (nd2_704))]) rfl (jl_iload gL735_6) ?_
        refine jx_rt (v := some (.int (i32 (nd2_704)))) rfl rfl rfl rfl rfl rfl ?_
        exact ⟨_, _, _, at2_758, fk2_813, nd2_761, ln2_812, ec2_763, rfl, rfl, hW814, hF819, hP820, by omega, ((hF815.1 10 rfl).trans (e768)), (e817), ((hF815.1 31 rfl).trans (e771)), (e816), ec824, by omega, by omega, by omega, by omega, by omega, by first | exact Or.inl (⟨by omega, by omega, by omega⟩)⟩
    · have _q : True := trivial
      refine jr_st (pc' := 195) (i := 18) (m := 7000) (z := nd2_704) (y := r757) rfl (by decide) rfl (by decide) (by omega) (by omega) rfl ?_
      have hW833 : Wk G755 (uA A756 18 (nd2_704).toNat (r757)) := Wk_a hW764 (show (-2147483648 : Int) ≤ r757 by omega) (show r757 ≤ (2147483647 : Int) by omega)
      have hF834 := Fr_a (z := r757) (k := 18) (n := (nd2_704).toNat) hF781 (by decide)
      obtain ⟨A832, eA832⟩ : ∃ q, q = uA A756 18 (nd2_704).toNat (r757) := ⟨_, rfl⟩
      rw [← eA832]
      rw [← eA832] at hW833 hF834
      have q835 : A832 18 (nd2_704).toNat = r757 := by rw [eA832]; exact uA_eq
      have hP836 : Pf nd A A832 := eA832 ▸ Pf_a hP782 (z := nd2_704) (by omega) (by omega)
      have sf837 : wE A832 Vs sb (20) (ix) (nd) (nd1) := wE_ag (by omega) (Sg_ne eA832 rfl) (Ag_st eA832 (by omega) (by omega)) sf783
      have sf838 : ND A832 (nd1) (3) (s) (ix) (0) (0) (0) (0) := ND_ag (by omega) (Ag_st eA832 (by omega) (by omega)) sf784
      have sf839 : ND A832 (nd2_704) (22) (nd1) (r757) (0) (0) (0) (0) := ND_b eA832 sf785
      have sf840 : wE A832 Vs sb (2 * 9 + 2) (r757) (nd2_720) (nd2_761) := wE_ag (by omega) (Sg_ne eA832 rfl) (Ag_st eA832 (by omega) (by omega)) a798
      have ec841 : ecn A832 (G755 31) = ec2_763 := (ecn_e ((congrFun eA832 15).trans (uA_ne (by decide)))).trans e773
      refine jx_ld (pc' := 196) (l' := L735) (st' := [.ref 66]) rfl (jl_aloadn gL735_0) ?_
      refine jx_vr (pc' := 199) (as := []) (st := []) rfl rfl rfl rfl ⟨rfl, rfl, Nat.le_of_ble_eq_true rfl⟩ rfl rfl (c_endLine (dd := d) (hd := by omega) (hW := hW833)  (ln := ln) (e_ln := show G755 9 = ln from ((hF765.1 9 rfl).trans ((hF741.1 9 rfl).trans ((hF723.1 9 rfl).trans ((hF707.1 9 rfl).trans (fx_9)))))) (li := li) (e_li := show G755 3 = li from ((hF765.1 3 rfl).trans ((hF741.1 3 rfl).trans ((hF723.1 3 rfl).trans ((hF707.1 3 rfl).trans ((hFx.1 3 rfl).trans (e_li))))))) (fk := fk2_759) (e_fk := show G755 16 = fk2_759 from (e769)) (tk0 := tk2_762) (e_tk0 := show G755 11 = tk2_762 from (e772))    (p_0 := by omega)) (fun o V' hq => ?_)
      obtain ⟨G842, A843, ln2_844, fk2_845, rfl, rfl, hW846, hF847, e848, e849, q850⟩ := hq
      have hF851 := Fr_tr hF834 hF847 (Fr_sub (by decide)) (Fr_sub (by decide))
      have hP852 := Pf_f hP836 hF847 (by decide)
      have sf853 : wE A843 Vs sb (20) (ix) (nd) (nd1) := wE_ag (by omega) (Sg_fr hF847 (by decide)) (Ag_fr hF847 (by decide)) sf837
      have sf854 : ND A843 (nd1) (3) (s) (ix) (0) (0) (0) (0) := ND_ag (by omega) (Ag_fr hF847 (by decide)) sf838
      have sf855 : ND A843 (nd2_704) (22) (nd1) (r757) (0) (0) (0) (0) := ND_ag (by omega) (Ag_fr hF847 (by decide)) sf839
      have sf856 : wE A843 Vs sb (2 * 9 + 2) (r757) (nd2_720) (nd2_761) := wE_ag (by omega) (Sg_fr hF847 (by decide)) (Ag_fr hF847 (by decide)) sf840
      have ec857 : ecn A843 (G842 31) = ec2_763 := (ecn_f (hF847.2 15 rfl) (hF847.1 31 rfl)).trans ec841
      have bln2_844 : (0 : Int) ≤ ln2_844 ∧ ln2_844 ≤ 3000 := e848 ▸ hW846.1 9
      have bfk2_845 : (0 : Int) ≤ fk2_845 ∧ fk2_845 ≤ 6 := e849 ▸ hW846.1 16
      refine .inl ⟨rfl, ?_⟩
      rcases q850 with ⟨a858, a859, a860, a861, a862⟩ | ⟨a863, a864⟩
      · have _q : True := trivial
        refine jx_ld (pc' := 201) (l' := L735) (st' := [.int (i32 (nd2_704))]) rfl (jl_iload gL735_6) ?_
        refine jx_rt (v := some (.int (i32 (nd2_704)))) rfl rfl rfl rfl rfl rfl ?_
        exact ⟨_, _, _, at2_758, fk2_845, nd2_761, ln2_844, ec2_763, rfl, rfl, hW846, hF851, hP852, by omega, ((hF847.1 10 rfl).trans (e768)), (e849), ((hF847.1 31 rfl).trans (e771)), (e848), ec857, by omega, by omega, by omega, by omega, by omega, by first | exact Or.inr ((⟨by omega, by omega, by omega, by omega, by omega, (wL_set sf855 (by omega) (by omega) (wR_elem sf854 (by omega) (by omega) iv_8 (kq (P := kRow (0)) (show A843 7 (s).toNat = ks from (congrFun ((hF847.2 7 rfl).trans (((congrFun eA832 7).trans (uA_ne (by decide))).trans ((hF765.2 7 rfl).trans ((hF741.2 7 rfl).trans ((hF723.2 7 rfl).trans (hF707.2 7 rfl)))))) _).trans (ex_ks)) (by first | exact .inl ⟨by omega, iv_9⟩ | exact .inr ⟨by omega, by omega⟩)) (wE_mono (by omega) (by omega) (by omega) sf853)) (wE_mono (by omega) (by omega) (by omega) sf856)), (NX_nd sf855), by omega⟩))⟩
      · have _q : True := trivial
        refine jx_ld (pc' := 201) (l' := L735) (st' := [.int (i32 (nd2_704))]) rfl (jl_iload gL735_6) ?_
        refine jx_rt (v := some (.int (i32 (nd2_704)))) rfl rfl rfl rfl rfl rfl ?_
        exact ⟨_, _, _, at2_758, fk2_845, nd2_761, ln2_844, ec2_763, rfl, rfl, hW846, hF851, hP852, by omega, ((hF847.1 10 rfl).trans (e768)), (e849), ((hF847.1 31 rfl).trans (e771)), (e848), ec857, by omega, by omega, by omega, by omega, by omega, by first | exact Or.inl (⟨by omega, by omega, by omega⟩)⟩
set_option maxRecDepth 20000 in
set_option maxHeartbeats 4000000 in
theorem c_readNamed_w_at_150_0 {X : jX} {d : Nat} {Vs : Nat → Prop} {sb pb : Int} {c0 c1 : jC} {G : Nat → Int} {A : Nat → Nat → Int} {T : jH} {ln le at0 fk op0 nd tk0 li ec : Int} (hd : 72 ≤ d + 1) (hW : Wk G A) (e_ln : G 9 = ln) (e_le : A 4 (ln).toNat = le) (e_at0 : G 10 = at0) (e_fk : G 16 = fk) (e_op0 : G 15 = op0) (e_nd : G 31 = nd) (e_tk0 : G 11 = tk0) (e_li : G 3 = li) (e_ec : ecn A (G 31) = ec) (i_SV : SV Vs sb G A) (i_PQ : PQ Vs sb pb G A) (p_0 : 0 ≤ op0 ∧ op0 ≤ 8) (p_1 : fk = 0) (p_2 : nd ≤ 2 * at0 - tz tk0 + 42) (p_3 : at0 ≤ le) (p_4 : ln < li) (p_5 : tk0 = 1) : ∀ (L : jL) (Gx : Nat → Int) (Ax : Nat → Nat → Int) (s at1 tk1 fk1 nd1 op1 ks ec1 : Int), jGet L 0 = some (.ref 66) → jGet L 5 = some (.int (i32 (0))) → jGet L 4 = some (.int (i32 (0))) → jGet L 2 = some (.int (i32 s)) → Wk Gx Ax → Fr [9, 10, 11, 12, 13, 14, 15, 16, 17, 18, 31] [15, 16, 17, 18, 19, 20, 21, 22, 24, 28] G A Gx Ax → Pf nd A Ax → Gx 10 = at1 → Gx 11 = tk1 → Gx 16 = fk1 → Gx 31 = nd1 → Gx 15 = op1 → Ax 7 (s).toNat = ks → ecn Ax (Gx 31) = ec1 → Gx 9 = ln → ((-2147483648 : Int) ≤ s ∧ s ≤ 2147483647) → (at0 ≤ at1) → (at1 ≤ le) → (nd ≤ nd1) → (op1 = op0) → (fk1 = 0) → (nd1 - nd ≤ (2 * at1 - tz tk1) - (2 * at0 - tz tk0) - 1) → (tz tk1 = 1) → (0 ≤ s ∧ s ≤ 201) → (SY Vs sb (s)) → (kVar (ks)) → (nd1 - nd + 5 * (ec1 - ec) ≤ (2 * at1 - tz tk1) - (2 * at0 - tz tk0) - 1 - tz tk1) → wj X d jm304 (150, L, [], rV c0 c1 Gx Ax T) (fun o V' => ∃ (G' : Nat → Int) (A' : Nat → Nat → Int) (r : Int) (at2 : Int) (fk2 : Int) (nd2 : Int) (ln2 : Int) (ec2 : Int), V' = rV c0 c1 G' A' T ∧ o = .inl (some (.int (i32 r))) ∧ Wk G' A' ∧ Fr [9, 10, 11, 12, 13, 14, 15, 16, 17, 18, 31] [15, 16, 17, 18, 19, 20, 21, 22, 24, 28] G A G' A' ∧ Pf nd A A' ∧ ((-2147483648 : Int) ≤ r ∧ r ≤ 2147483647) ∧ G' 10 = at2 ∧ G' 16 = fk2 ∧ G' 31 = nd2 ∧ G' 9 = ln2 ∧ ecn A' (G' 31) = ec2 ∧ (at0 ≤ at2) ∧ (at2 ≤ le) ∧ (nd ≤ nd2) ∧ (0 ≤ r) ∧ (r ≤ nd2) ∧ (((1 ≤ fk2) ∧ (ln2 = ln) ∧ (nd2 - nd ≤ 2 * at2 - 2 * at0 + 8)) ∨ ((fk2 = 0) ∧ (ln2 = ln + 1) ∧ (nd2 - nd ≤ 2 * at2 - (2 * at0 - tz tk0) + 0) ∧ (nd ≤ r) ∧ (r < nd2) ∧ (wL A' sb pb Vs (r) (nd) (nd2)) ∧ (NX A' (r)) ∧ (nd2 - nd + 5 * (ec2 - ec) ≤ 2 * at2 - (2 * at0 - tz tk0) + 0)))) := by
  have hF0 : Fr [9, 10, 11, 12, 13, 14, 15, 16, 17, 18, 31] [15, 16, 17, 18, 19, 20, 21, 22, 24, 28] G A G A := Fr_rf
  have hP0 : Pf nd A A := Pf_rf
  have b_ln : (0 : Int) ≤ ln ∧ ln ≤ 3000 := e_ln ▸ hW.1 9
  have b_le : (0 : Int) ≤ le ∧ le ≤ 3000 := e_le ▸ hW.2 4 _
  have b_at0 : (0 : Int) ≤ at0 ∧ at0 ≤ 3002 := e_at0 ▸ hW.1 10
  have b_fk : (0 : Int) ≤ fk ∧ fk ≤ 6 := e_fk ▸ hW.1 16
  have b_op0 : (-2147483648 : Int) ≤ op0 ∧ op0 ≤ 2147483647 := e_op0 ▸ hW.1 15
  have b_nd : (0 : Int) ≤ nd ∧ nd ≤ 6999 := e_nd ▸ hW.1 31
  have z_tk0 := tz_f tk0
  have b_tk0 : (0 : Int) ≤ tk0 ∧ tk0 ≤ 5 := e_tk0 ▸ hW.1 11
  have b_li : (0 : Int) ≤ li ∧ li ≤ 3000 := e_li ▸ hW.1 3
  intro L Gx Ax s at1 tk1 fk1 nd1 op1 ks ec1 gL_0 gL_5 gL_4 gL_2 hWx hFx hPx ex_at1 ex_tk1 ex_fk1 ex_nd1 ex_op1 ex_ks ex_ec1 fx_9 rx_s iv_0 iv_1 iv_2 iv_3 iv_4 iv_5 iv_6 iv_7 iv_8 iv_9 iv_10
  have b_at1 : (0 : Int) ≤ at1 ∧ at1 ≤ 3002 := ex_at1 ▸ hWx.1 10
  have z_tk1 := tz_f tk1
  have b_tk1 : (0 : Int) ≤ tk1 ∧ tk1 ≤ 5 := ex_tk1 ▸ hWx.1 11
  have b_fk1 : (0 : Int) ≤ fk1 ∧ fk1 ≤ 6 := ex_fk1 ▸ hWx.1 16
  have b_nd1 : (0 : Int) ≤ nd1 ∧ nd1 ≤ 6999 := ex_nd1 ▸ hWx.1 31
  have b_op1 : (-2147483648 : Int) ≤ op1 ∧ op1 ≤ 2147483647 := ex_op1 ▸ hWx.1 15
  have b_ks : (0 : Int) ≤ ks ∧ ks ≤ 14 := ex_ks ▸ hWx.2 7 _
  refine jx_ld (pc' := 151) (l' := L) (st' := [.ref 66]) rfl (jl_aloadn gL_0) ?_
  refine jx_ar (pc' := 153) (st' := [.int (i32 (22)), .ref 66]) rfl rfl rfl rfl ?_
  refine jx_ld (pc' := 154) (l' := L) (st' := [.ref 66, .int (i32 (22)), .ref 66]) rfl (jl_aloadn gL_0) ?_
  refine jx_ld (pc' := 156) (l' := L) (st' := [.int (i32 (0)), .ref 66, .int (i32 (22)), .ref 66]) rfl (jl_iload gL_5) ?_
  refine jx_if_eq (pc' := 159) (tg := 163) rfl rfl rfl (by decide) (by decide) (fun h865 => ?_) (fun h865 => ?_)
  · have _q := h865
    refine jx_ar (pc' := 164) (st' := [.int (i32 (2)), .ref 66, .int (i32 (22)), .ref 66]) rfl rfl rfl rfl ?_
    refine jx_ld (pc' := 165) (l' := L) (st' := [.int (i32 (s)), .int (i32 (2)), .ref 66, .int (i32 (22)), .ref 66]) rfl (jl_iloadn gL_2) ?_
    refine jx_ld (pc' := 167) (l' := L) (st' := [.int (i32 (0)), .int (i32 (s)), .int (i32 (2)), .ref 66, .int (i32 (22)), .ref 66]) rfl (jl_iload gL_4) ?_
    refine jx_ar (pc' := 168) (st' := [.int (i32 (0)), .int (i32 (0)), .int (i32 (s)), .int (i32 (2)), .ref 66, .int (i32 (22)), .ref 66]) rfl rfl rfl rfl ?_
    refine jx_ar (pc' := 169) (st' := [.int (i32 (0)), .int (i32 (0)), .int (i32 (0)), .int (i32 (s)), .int (i32 (2)), .ref 66, .int (i32 (22)), .ref 66]) rfl rfl rfl rfl ?_
    refine jx_vr (pc' := 172) (as := [.int (i32 (2)), .int (i32 (s)), .int (i32 (0)), .int (i32 (0)), .int (i32 (0))]) (st := [.int (i32 (22)), .ref 66]) rfl rfl rfl rfl ⟨rfl, rfl, Nat.le_of_ble_eq_true rfl⟩ rfl rfl (c_node_o (dd := d) (hd := by omega) (hW := hWx) (kind := 2) (a := s) (b := 0) (c := 0) (e := 0) (nd := nd1) (e_nd := show Gx 31 = nd1 from (ex_nd1)) (ec := ec1) (e_ec := show ecn Ax (Gx 31) = ec1 from ex_ec1)  (h_kind := ⟨(by decide), (by decide)⟩) (h_a := ⟨(Int.le_trans (by decide : (-2147483648 : Int) ≤ -2147483648) rx_s.1), (Int.le_trans rx_s.2 (by decide : (2147483647 : Int) ≤ 2147483647))⟩) (h_b := ⟨(by decide), (by decide)⟩) (h_c := ⟨(by decide), (by decide)⟩) (h_e := ⟨(by decide), (by decide)⟩)  (p_0 := by omega) (p_1 := by omega) (p_2 := by omega)) (fun o V' hq => ?_)
    obtain ⟨G866, A867, nd2_868, ec2_869, rfl, rfl, hW870, hF871, hQ872, e873, e874, p875, p876, p877, -⟩ := hq
    have hF879 := Fr_tr hFx hF871 (Fr_sub (by decide)) (Fr_sub (by decide))
    have hP880 := Pf_tr hPx hQ872 (by omega)
    have bnd2_868 : (0 : Int) ≤ nd2_868 ∧ nd2_868 ≤ 6999 := e873 ▸ hW870.1 31
    refine .inr ⟨_, rfl, ?_⟩
    refine jx_ar (pc' := 173) (st' := [.int (i32 (0)), .int (i32 (nd1)), .int (i32 (22)), .ref 66]) rfl rfl rfl rfl ?_
    refine jx_ar (pc' := 174) (st' := [.int (i32 (0)), .int (i32 (0)), .int (i32 (nd1)), .int (i32 (22)), .ref 66]) rfl rfl rfl rfl ?_
    refine jx_ar (pc' := 175) (st' := [.int (i32 (0)), .int (i32 (0)), .int (i32 (0)), .int (i32 (nd1)), .int (i32 (22)), .ref 66]) rfl rfl rfl rfl ?_
    refine jx_vr (pc' := 178) (as := [.int (i32 (22)), .int (i32 (nd1)), .int (i32 (0)), .int (i32 (0)), .int (i32 (0))]) (st := []) rfl rfl rfl rfl ⟨rfl, rfl, Nat.le_of_ble_eq_true rfl⟩ rfl rfl (c_node_o (dd := d) (hd := by omega) (hW := hW870) (kind := 22) (a := nd1) (b := 0) (c := 0) (e := 0) (nd := nd2_868) (e_nd := show G866 31 = nd2_868 from (e873)) (ec := ec2_869) (e_ec := show ecn A867 (G866 31) = ec2_869 from e874)  (h_kind := ⟨(by decide), (by decide)⟩) (h_a := ⟨(Int.le_trans (by decide : (-2147483648 : Int) ≤ 0) b_nd1.1), (Int.le_trans b_nd1.2 (by decide : (6999 : Int) ≤ 2147483647))⟩) (h_b := ⟨(by decide), (by decide)⟩) (h_c := ⟨(by decide), (by decide)⟩) (h_e := ⟨(by decide), (by decide)⟩)  (p_0 := by omega) (p_1 := by omega) (p_2 := by omega)) (fun o V' hq => ?_)
    obtain ⟨G881, A882, nd2_883, ec2_884, rfl, rfl, hW885, hF886, hQ887, e888, e889, p890, p891, p892, -⟩ := hq
    have hF894 := Fr_tr hF879 hF886 (Fr_sub (by decide)) (Fr_sub (by decide))
    have hP895 := Pf_tr hP880 hQ887 (by omega)
    have sf896 : ND A882 (nd1) (2) (s) (0) (0) (0) (0) (0) := ND_ag (by omega) (Ag_pf hQ887 (by omega)) p877
    have bnd2_883 : (0 : Int) ≤ nd2_883 ∧ nd2_883 ≤ 6999 := e888 ▸ hW885.1 31
    refine .inr ⟨_, rfl, ?_⟩
    refine jx_ld (pc' := 180) (l' := jSto1 L 6 (.int (i32 (nd2_868)))) (st' := []) rfl rfl ?_
    obtain ⟨L897, eL897⟩ : ∃ q, q = jSto1 L 6 (.int (i32 (nd2_868))) := ⟨_, rfl⟩
    rw [← eL897]
    have gL897_0 : jGet L897 0 = some (.ref 66) := eL897 ▸ jg_ne (by decide) gL_0 rfl
    have gL897_5 : jGet L897 5 = some (.int (i32 (0))) := eL897 ▸ jg_ne (by decide) gL_5 rfl
    have gL897_4 : jGet L897 4 = some (.int (i32 (0))) := eL897 ▸ jg_ne (by decide) gL_4 rfl
    have gL897_2 : jGet L897 2 = some (.int (i32 (s))) := eL897 ▸ jg_ne (by decide) gL_2 rfl
    have gL897_6 : jGet L897 6 = some (.int (i32 (nd2_868))) := eL897 ▸ jg_eq
    refine jx_ld (pc' := 181) (l' := L897) (st' := [.ref 66]) rfl (jl_aloadn gL897_0) ?_
    refine jx_vr (pc' := 184) (as := []) (st := []) rfl rfl rfl rfl ⟨rfl, rfl, Nat.le_of_ble_eq_true rfl⟩ rfl rfl (c_next (dd := d) (hd := by omega) (hW := hW885)  (ln := ln) (e_ln := show G881 9 = ln from ((hF886.1 9 rfl).trans ((hF871.1 9 rfl).trans (fx_9)))) (le := le) (e_le := show A882 4 (ln).toNat = le from (congrFun ((hF886.2 4 rfl).trans ((hF871.2 4 rfl).trans (hFx.2 4 rfl))) _).trans (e_le)) (at0 := at1) (e_at0 := show G881 10 = at1 from ((hF886.1 10 rfl).trans ((hF871.1 10 rfl).trans (ex_at1))))    (p_0 := by omega)) (fun o V' hq => ?_)
    obtain ⟨G898, A899, at2_900, tk2_901, rfl, rfl, hW902, hF903, e904, e905, p906, p907, p908, -⟩ := hq
    have hF910 := Fr_tr hF894 hF903 (Fr_sub (by decide)) (Fr_sub (by decide))
    have hP911 := Pf_f hP895 hF903 (by decide)
    have sf912 : ND A899 (nd1) (2) (s) (0) (0) (0) (0) (0) := ND_ag (by omega) (Ag_fr hF903 (by decide)) sf896
    have sf913 : ND A899 (nd2_868) (22) (nd1) (0) (0) (0) (0) (0) := ND_ag (by omega) (Ag_fr hF903 (by decide)) p892
    have ec914 : ecn A899 (G898 31) = ec2_884 := (ecn_f (hF903.2 15 rfl) (hF903.1 31 rfl)).trans e889
    have bat2_900 : (0 : Int) ≤ at2_900 ∧ at2_900 ≤ 3002 := e904 ▸ hW902.1 10
    have ztk2_901 := tz_b tk2_901
    have btk2_901 : (0 : Int) ≤ tk2_901 ∧ tk2_901 ≤ 5 := e905 ▸ hW902.1 11
    refine .inl ⟨rfl, ?_⟩
    have pz915 : at1 + tz tk2_901 ≤ at2_900 := by omega
    refine jx_ld (pc' := 185) (l' := L897) (st' := [.ref 66]) rfl (jl_aloadn gL897_0) ?_
    refine jr_get (pc' := 188) (i := 35) (v := .ref 85) rfl rfl (by decide) rfl rfl ?_
    refine jx_ld (pc' := 190) (l' := L897) (st' := [.int (i32 (nd2_868)), .ref 85]) rfl (jl_iload gL897_6) ?_
    refine jx_ld (pc' := 191) (l' := L897) (st' := [.ref 66, .int (i32 (nd2_868)), .ref 85]) rfl (jl_aloadn gL897_0) ?_
    refine jx_vr (pc' := 194) (as := []) (st := [.int (i32 (nd2_868)), .ref 85]) rfl rfl rfl rfl ⟨rfl, rfl, Nat.le_of_ble_eq_true rfl⟩ rfl rfl (REw_all X 9 (dd := d) (hd := by omega) (hW := hW902)  (ln := ln) (e_ln := show G898 9 = ln from ((hF903.1 9 rfl).trans ((hF886.1 9 rfl).trans ((hF871.1 9 rfl).trans (fx_9))))) (le := le) (e_le := show A899 4 (ln).toNat = le from (congrFun ((hF903.2 4 rfl).trans ((hF886.2 4 rfl).trans ((hF871.2 4 rfl).trans (hFx.2 4 rfl)))) _).trans (e_le)) (at0 := at2_900) (e_at0 := show G898 10 = at2_900 from (e904)) (fk := fk1) (e_fk := show G898 16 = fk1 from ((hF903.1 16 rfl).trans ((hF886.1 16 rfl).trans ((hF871.1 16 rfl).trans (ex_fk1))))) (op0 := op1) (e_op0 := show G898 15 = op1 from ((hF903.1 15 rfl).trans ((hF886.1 15 rfl).trans ((hF871.1 15 rfl).trans (ex_op1))))) (nd := nd2_883) (e_nd := show G898 31 = nd2_883 from ((hF903.1 31 rfl).trans (e888))) (tk0 := tk2_901) (e_tk0 := show G898 11 = tk2_901 from (e905)) (ec := ec2_884) (e_ec := show ecn A899 (G898 31) = ec2_884 from ec914) (i_SV := (SV_ext (((hF903.1 29 rfl).trans ((hF886.1 29 rfl).trans ((hF871.1 29 rfl).trans (hFx.1 29 rfl))))) (((hF903.2 14 rfl).trans ((hF886.2 14 rfl).trans ((hF871.2 14 rfl).trans (hFx.2 14 rfl))))) i_SV))   (p_0 := by omega) (p_1 := by omega) (p_2 := by omega) (p_3 := by omega) (p_4 := by omega) (p_5 := by omega)) (fun o V' hq => ?_)
    obtain ⟨G916, A917, r918, at2_919, fk2_920, op2_921, nd2_922, tk2_923, ec2_924, rfl, rfl, hW925, hF926, hQ927, b928, e929, e930, e931, e932, e933, e934, p935, p936, p937, p938, p939, p940, q941⟩ := hq
    have hF942 := Fr_tr hF910 hF926 (Fr_sub (by decide)) (Fr_sub (by decide))
    have hP943 := Pf_tr hP911 hQ927 (by omega)
    have sf944 : ND A917 (nd1) (2) (s) (0) (0) (0) (0) (0) := ND_ag (by omega) (Ag_pf hQ927 (by omega)) sf912
    have sf945 : ND A917 (nd2_868) (22) (nd1) (0) (0) (0) (0) (0) := ND_ag (by omega) (Ag_pf hQ927 (by omega)) sf913
    have bat2_919 : (0 : Int) ≤ at2_919 ∧ at2_919 ≤ 3002 := e929 ▸ hW925.1 10
    have bfk2_920 : (0 : Int) ≤ fk2_920 ∧ fk2_920 ≤ 6 := e930 ▸ hW925.1 16
    have bop2_921 : (-2147483648 : Int) ≤ op2_921 ∧ op2_921 ≤ 2147483647 := e931 ▸ hW925.1 15
    have bnd2_922 : (0 : Int) ≤ nd2_922 ∧ nd2_922 ≤ 6999 := e932 ▸ hW925.1 31
    have ztk2_923 := tz_b tk2_923
    have btk2_923 : (0 : Int) ≤ tk2_923 ∧ tk2_923 ≤ 5 := e933 ▸ hW925.1 11
    refine .inr ⟨_, rfl, ?_⟩
    rcases q941 with ⟨a946, a947, a948, a949, a950, a951⟩ | ⟨a952, a953, a954⟩ | ⟨a955, a956, a957, a958, a959, a960⟩
    · have _q : True := trivial
      exfalso
      omega
    · have _q : True := trivial
      refine jr_st (pc' := 195) (i := 18) (m := 7000) (z := nd2_868) (y := r918) rfl (by decide) rfl (by decide) (by omega) (by omega) rfl ?_
      have hW962 : Wk G916 (uA A917 18 (nd2_868).toNat (r918)) := Wk_a hW925 (show (-2147483648 : Int) ≤ r918 by omega) (show r918 ≤ (2147483647 : Int) by omega)
      have hF963 := Fr_a (z := r918) (k := 18) (n := (nd2_868).toNat) hF942 (by decide)
      obtain ⟨A961, eA961⟩ : ∃ q, q = uA A917 18 (nd2_868).toNat (r918) := ⟨_, rfl⟩
      rw [← eA961]
      rw [← eA961] at hW962 hF963
      have q964 : A961 18 (nd2_868).toNat = r918 := by rw [eA961]; exact uA_eq
      have hP965 : Pf nd A A961 := eA961 ▸ Pf_a hP943 (z := nd2_868) (by omega) (by omega)
      have sf966 : ND A961 (nd1) (2) (s) (0) (0) (0) (0) (0) := ND_ag (by omega) (Ag_st eA961 (by omega) (by omega)) sf944
      have sf967 : ND A961 (nd2_868) (22) (nd1) (r918) (0) (0) (0) (0) := ND_b eA961 sf945
      have ec968 : ecn A961 (G916 31) = ec2_924 := (ecn_e ((congrFun eA961 15).trans (uA_ne (by decide)))).trans e934
      refine jx_ld (pc' := 196) (l' := L897) (st' := [.ref 66]) rfl (jl_aloadn gL897_0) ?_
      refine jx_vr (pc' := 199) (as := []) (st := []) rfl rfl rfl rfl ⟨rfl, rfl, Nat.le_of_ble_eq_true rfl⟩ rfl rfl (c_endLine (dd := d) (hd := by omega) (hW := hW962)  (ln := ln) (e_ln := show G916 9 = ln from ((hF926.1 9 rfl).trans ((hF903.1 9 rfl).trans ((hF886.1 9 rfl).trans ((hF871.1 9 rfl).trans (fx_9)))))) (li := li) (e_li := show G916 3 = li from ((hF926.1 3 rfl).trans ((hF903.1 3 rfl).trans ((hF886.1 3 rfl).trans ((hF871.1 3 rfl).trans ((hFx.1 3 rfl).trans (e_li))))))) (fk := fk2_920) (e_fk := show G916 16 = fk2_920 from (e930)) (tk0 := tk2_923) (e_tk0 := show G916 11 = tk2_923 from (e933))    (p_0 := by omega)) (fun o V' hq => ?_)
      obtain ⟨G969, A970, ln2_971, fk2_972, rfl, rfl, hW973, hF974, e975, e976, q977⟩ := hq
      have hF978 := Fr_tr hF963 hF974 (Fr_sub (by decide)) (Fr_sub (by decide))
      have hP979 := Pf_f hP965 hF974 (by decide)
      have sf980 : ND A970 (nd1) (2) (s) (0) (0) (0) (0) (0) := ND_ag (by omega) (Ag_fr hF974 (by decide)) sf966
      have sf981 : ND A970 (nd2_868) (22) (nd1) (r918) (0) (0) (0) (0) := ND_ag (by omega) (Ag_fr hF974 (by decide)) sf967
      have ec982 : ecn A970 (G969 31) = ec2_924 := (ecn_f (hF974.2 15 rfl) (hF974.1 31 rfl)).trans ec968
      have bln2_971 : (0 : Int) ≤ ln2_971 ∧ ln2_971 ≤ 3000 := e975 ▸ hW973.1 9
      have bfk2_972 : (0 : Int) ≤ fk2_972 ∧ fk2_972 ≤ 6 := e976 ▸ hW973.1 16
      refine .inl ⟨rfl, ?_⟩
      rcases q977 with ⟨a983, a984, a985, a986, a987⟩ | ⟨a988, a989⟩
      · have _q : True := trivial
        exfalso
        omega
      · have _q : True := trivial
        refine jx_ld (pc' := 201) (l' := L897) (st' := [.int (i32 (nd2_868))]) rfl (jl_iload gL897_6) ?_
        refine jx_rt (v := some (.int (i32 (nd2_868)))) rfl rfl rfl rfl rfl rfl ?_
        exact ⟨_, _, _, at2_919, fk2_972, nd2_922, ln2_971, ec2_924, rfl, rfl, hW973, hF978, hP979, by omega, ((hF974.1 10 rfl).trans (e929)), (e976), ((hF974.1 31 rfl).trans (e932)), (e975), ec982, by omega, by omega, by omega, by omega, by omega, by first | exact Or.inl (⟨by omega, by omega, by omega⟩)⟩
    · have _q : True := trivial
      refine jr_st (pc' := 195) (i := 18) (m := 7000) (z := nd2_868) (y := r918) rfl (by decide) rfl (by decide) (by omega) (by omega) rfl ?_
      have hW991 : Wk G916 (uA A917 18 (nd2_868).toNat (r918)) := Wk_a hW925 (show (-2147483648 : Int) ≤ r918 by omega) (show r918 ≤ (2147483647 : Int) by omega)
      have hF992 := Fr_a (z := r918) (k := 18) (n := (nd2_868).toNat) hF942 (by decide)
      obtain ⟨A990, eA990⟩ : ∃ q, q = uA A917 18 (nd2_868).toNat (r918) := ⟨_, rfl⟩
      rw [← eA990]
      rw [← eA990] at hW991 hF992
      have q993 : A990 18 (nd2_868).toNat = r918 := by rw [eA990]; exact uA_eq
      have hP994 : Pf nd A A990 := eA990 ▸ Pf_a hP943 (z := nd2_868) (by omega) (by omega)
      have sf995 : ND A990 (nd1) (2) (s) (0) (0) (0) (0) (0) := ND_ag (by omega) (Ag_st eA990 (by omega) (by omega)) sf944
      have sf996 : ND A990 (nd2_868) (22) (nd1) (r918) (0) (0) (0) (0) := ND_b eA990 sf945
      have sf997 : wE A990 Vs sb (2 * 9 + 2) (r918) (nd2_883) (nd2_922) := wE_ag (by omega) (Sg_ne eA990 rfl) (Ag_st eA990 (by omega) (by omega)) a958
      have ec998 : ecn A990 (G916 31) = ec2_924 := (ecn_e ((congrFun eA990 15).trans (uA_ne (by decide)))).trans e934
      refine jx_ld (pc' := 196) (l' := L897) (st' := [.ref 66]) rfl (jl_aloadn gL897_0) ?_
      refine jx_vr (pc' := 199) (as := []) (st := []) rfl rfl rfl rfl ⟨rfl, rfl, Nat.le_of_ble_eq_true rfl⟩ rfl rfl (c_endLine (dd := d) (hd := by omega) (hW := hW991)  (ln := ln) (e_ln := show G916 9 = ln from ((hF926.1 9 rfl).trans ((hF903.1 9 rfl).trans ((hF886.1 9 rfl).trans ((hF871.1 9 rfl).trans (fx_9)))))) (li := li) (e_li := show G916 3 = li from ((hF926.1 3 rfl).trans ((hF903.1 3 rfl).trans ((hF886.1 3 rfl).trans ((hF871.1 3 rfl).trans ((hFx.1 3 rfl).trans (e_li))))))) (fk := fk2_920) (e_fk := show G916 16 = fk2_920 from (e930)) (tk0 := tk2_923) (e_tk0 := show G916 11 = tk2_923 from (e933))    (p_0 := by omega)) (fun o V' hq => ?_)
      obtain ⟨G999, A1000, ln2_1001, fk2_1002, rfl, rfl, hW1003, hF1004, e1005, e1006, q1007⟩ := hq
      have hF1008 := Fr_tr hF992 hF1004 (Fr_sub (by decide)) (Fr_sub (by decide))
      have hP1009 := Pf_f hP994 hF1004 (by decide)
      have sf1010 : ND A1000 (nd1) (2) (s) (0) (0) (0) (0) (0) := ND_ag (by omega) (Ag_fr hF1004 (by decide)) sf995
      have sf1011 : ND A1000 (nd2_868) (22) (nd1) (r918) (0) (0) (0) (0) := ND_ag (by omega) (Ag_fr hF1004 (by decide)) sf996
      have sf1012 : wE A1000 Vs sb (2 * 9 + 2) (r918) (nd2_883) (nd2_922) := wE_ag (by omega) (Sg_fr hF1004 (by decide)) (Ag_fr hF1004 (by decide)) sf997
      have ec1013 : ecn A1000 (G999 31) = ec2_924 := (ecn_f (hF1004.2 15 rfl) (hF1004.1 31 rfl)).trans ec998
      have bln2_1001 : (0 : Int) ≤ ln2_1001 ∧ ln2_1001 ≤ 3000 := e1005 ▸ hW1003.1 9
      have bfk2_1002 : (0 : Int) ≤ fk2_1002 ∧ fk2_1002 ≤ 6 := e1006 ▸ hW1003.1 16
      refine .inl ⟨rfl, ?_⟩
      rcases q1007 with ⟨a1014, a1015, a1016, a1017, a1018⟩ | ⟨a1019, a1020⟩
      · have _q : True := trivial
        refine jx_ld (pc' := 201) (l' := L897) (st' := [.int (i32 (nd2_868))]) rfl (jl_iload gL897_6) ?_
        refine jx_rt (v := some (.int (i32 (nd2_868)))) rfl rfl rfl rfl rfl rfl ?_
        exact ⟨_, _, _, at2_919, fk2_1002, nd2_922, ln2_1001, ec2_924, rfl, rfl, hW1003, hF1008, hP1009, by omega, ((hF1004.1 10 rfl).trans (e929)), (e1006), ((hF1004.1 31 rfl).trans (e932)), (e1005), ec1013, by omega, by omega, by omega, by omega, by omega, by first | exact Or.inr ((⟨by omega, by omega, by omega, by omega, by omega, (wL_set sf1011 (by omega) (by omega) (wR_var sf1010 (by omega) (by omega) iv_8 (kq (P := kRef (0)) (show A1000 7 (s).toNat = ks from (congrFun ((hF1004.2 7 rfl).trans (((congrFun eA990 7).trans (uA_ne (by decide))).trans ((hF926.2 7 rfl).trans ((hF903.2 7 rfl).trans ((hF886.2 7 rfl).trans (hF871.2 7 rfl)))))) _).trans (ex_ks)) (by first | exact .inl ⟨by omega, iv_9⟩))) (wE_mono (by omega) (by omega) (by omega) sf1012)), (NX_nd sf1011), by omega⟩))⟩
      · have _q : True := trivial
        refine jx_ld (pc' := 201) (l' := L897) (st' := [.int (i32 (nd2_868))]) rfl (jl_iload gL897_6) ?_
        refine jx_rt (v := some (.int (i32 (nd2_868)))) rfl rfl rfl rfl rfl rfl ?_
        exact ⟨_, _, _, at2_919, fk2_1002, nd2_922, ln2_1001, ec2_924, rfl, rfl, hW1003, hF1008, hP1009, by omega, ((hF1004.1 10 rfl).trans (e929)), (e1006), ((hF1004.1 31 rfl).trans (e932)), (e1005), ec1013, by omega, by omega, by omega, by omega, by omega, by first | exact Or.inl (⟨by omega, by omega, by omega⟩)⟩
  · have _q := h865
    exact absurd h865 (by omega)
set_option maxRecDepth 20000 in
set_option maxHeartbeats 4000000 in
theorem c_readNamed_w_at_110_1 {X : jX} {d : Nat} {Vs : Nat → Prop} {sb pb : Int} {c0 c1 : jC} {G : Nat → Int} {A : Nat → Nat → Int} {T : jH} {ln le at0 fk op0 nd tk0 li ec : Int} (hd : 72 ≤ d + 1) (hW : Wk G A) (e_ln : G 9 = ln) (e_le : A 4 (ln).toNat = le) (e_at0 : G 10 = at0) (e_fk : G 16 = fk) (e_op0 : G 15 = op0) (e_nd : G 31 = nd) (e_tk0 : G 11 = tk0) (e_li : G 3 = li) (e_ec : ecn A (G 31) = ec) (i_SV : SV Vs sb G A) (i_PQ : PQ Vs sb pb G A) (p_0 : 0 ≤ op0 ∧ op0 ≤ 8) (p_1 : fk = 0) (p_2 : nd ≤ 2 * at0 - tz tk0 + 42) (p_3 : at0 ≤ le) (p_4 : ln < li) (p_5 : tk0 = 1) : ∀ (L : jL) (Gx : Nat → Int) (Ax : Nat → Nat → Int) (pl s ix at1 tk1 fk1 nd1 op1 ks ec1 : Int), jGet L 0 = some (.ref 66) → jGet L 5 = some (.int (i32 (1))) → jGet L 3 = some (.int (i32 (ks))) → jGet L 1 = some (.int (i32 pl)) → jGet L 2 = some (.int (i32 s)) → jGet L 4 = some (.int (i32 ix)) → Wk Gx Ax → Fr [9, 10, 11, 12, 13, 14, 15, 16, 17, 18, 31] [15, 16, 17, 18, 19, 20, 21, 22, 24, 28] G A Gx Ax → Pf nd A Ax → Gx 10 = at1 → Gx 11 = tk1 → Gx 16 = fk1 → Gx 31 = nd1 → Gx 15 = op1 → Ax 7 (s).toNat = ks → ecn Ax (Gx 31) = ec1 → Gx 9 = ln → ((-2147483648 : Int) ≤ pl ∧ pl ≤ 2147483647) → ((-2147483648 : Int) ≤ s ∧ s ≤ 2147483647) → ((-2147483648 : Int) ≤ ix ∧ ix ≤ 2147483647) → (at0 ≤ at1) → (at1 ≤ le) → (nd ≤ nd1) → (op1 = op0) → (fk1 = 0) → (nd1 - nd ≤ (2 * at1 - tz tk1) - (2 * at0 - tz tk0) - 1) → (0 ≤ s ∧ s ≤ 201) → (-3000 ≤ pl ∧ pl ≤ 3002) → (SY Vs sb (s)) → (wE Ax Vs sb (20) (ix) (nd) (nd1)) → (nd1 - nd + 5 * (ec1 - ec) ≤ (2 * at1 - tz tk1) - (2 * at0 - tz tk0) - 6 - tz tk1) → wj X d jm304 (110, L, [], rV c0 c1 Gx Ax T) (fun o V' => ∃ (G' : Nat → Int) (A' : Nat → Nat → Int) (r : Int) (at2 : Int) (fk2 : Int) (nd2 : Int) (ln2 : Int) (ec2 : Int), V' = rV c0 c1 G' A' T ∧ o = .inl (some (.int (i32 r))) ∧ Wk G' A' ∧ Fr [9, 10, 11, 12, 13, 14, 15, 16, 17, 18, 31] [15, 16, 17, 18, 19, 20, 21, 22, 24, 28] G A G' A' ∧ Pf nd A A' ∧ ((-2147483648 : Int) ≤ r ∧ r ≤ 2147483647) ∧ G' 10 = at2 ∧ G' 16 = fk2 ∧ G' 31 = nd2 ∧ G' 9 = ln2 ∧ ecn A' (G' 31) = ec2 ∧ (at0 ≤ at2) ∧ (at2 ≤ le) ∧ (nd ≤ nd2) ∧ (0 ≤ r) ∧ (r ≤ nd2) ∧ (((1 ≤ fk2) ∧ (ln2 = ln) ∧ (nd2 - nd ≤ 2 * at2 - 2 * at0 + 8)) ∨ ((fk2 = 0) ∧ (ln2 = ln + 1) ∧ (nd2 - nd ≤ 2 * at2 - (2 * at0 - tz tk0) + 0) ∧ (nd ≤ r) ∧ (r < nd2) ∧ (wL A' sb pb Vs (r) (nd) (nd2)) ∧ (NX A' (r)) ∧ (nd2 - nd + 5 * (ec2 - ec) ≤ 2 * at2 - (2 * at0 - tz tk0) + 0)))) := by
  have hF0 : Fr [9, 10, 11, 12, 13, 14, 15, 16, 17, 18, 31] [15, 16, 17, 18, 19, 20, 21, 22, 24, 28] G A G A := Fr_rf
  have hP0 : Pf nd A A := Pf_rf
  have b_ln : (0 : Int) ≤ ln ∧ ln ≤ 3000 := e_ln ▸ hW.1 9
  have b_le : (0 : Int) ≤ le ∧ le ≤ 3000 := e_le ▸ hW.2 4 _
  have b_at0 : (0 : Int) ≤ at0 ∧ at0 ≤ 3002 := e_at0 ▸ hW.1 10
  have b_fk : (0 : Int) ≤ fk ∧ fk ≤ 6 := e_fk ▸ hW.1 16
  have b_op0 : (-2147483648 : Int) ≤ op0 ∧ op0 ≤ 2147483647 := e_op0 ▸ hW.1 15
  have b_nd : (0 : Int) ≤ nd ∧ nd ≤ 6999 := e_nd ▸ hW.1 31
  have z_tk0 := tz_f tk0
  have b_tk0 : (0 : Int) ≤ tk0 ∧ tk0 ≤ 5 := e_tk0 ▸ hW.1 11
  have b_li : (0 : Int) ≤ li ∧ li ≤ 3000 := e_li ▸ hW.1 3
  intro L Gx Ax pl s ix at1 tk1 fk1 nd1 op1 ks ec1 gL_0 gL_5 gL_3 gL_1 gL_2 gL_4 hWx hFx hPx ex_at1 ex_tk1 ex_fk1 ex_nd1 ex_op1 ex_ks ex_ec1 fx_9 rx_pl rx_s rx_ix iv_0 iv_1 iv_2 iv_3 iv_4 iv_5 iv_6 iv_7 iv_8 iv_9 iv_10
  have b_at1 : (0 : Int) ≤ at1 ∧ at1 ≤ 3002 := ex_at1 ▸ hWx.1 10
  have z_tk1 := tz_f tk1
  have b_tk1 : (0 : Int) ≤ tk1 ∧ tk1 ≤ 5 := ex_tk1 ▸ hWx.1 11
  have b_fk1 : (0 : Int) ≤ fk1 ∧ fk1 ≤ 6 := ex_fk1 ▸ hWx.1 16
  have b_nd1 : (0 : Int) ≤ nd1 ∧ nd1 ≤ 6999 := ex_nd1 ▸ hWx.1 31
  have b_op1 : (-2147483648 : Int) ≤ op1 ∧ op1 ≤ 2147483647 := ex_op1 ▸ hWx.1 15
  have b_ks : (0 : Int) ≤ ks ∧ ks ≤ 14 := ex_ks ▸ hWx.2 7 _
  refine jx_ld (pc' := 111) (l' := L) (st' := [.ref 66]) rfl (jl_aloadn gL_0) ?_
  refine jx_ar (pc' := 114) (st' := [.int (i32 (300)), .ref 66]) rfl rfl rfl rfl ?_
  have b1021 : (-2147483648 : Int) ≤ Gx 13 ∧ Gx 13 ≤ 2147483647 := hWx.1 13
  refine jx_vr (pc' := 117) (as := [.int (i32 (300))]) (st := []) rfl rfl rfl rfl ⟨rfl, rfl, Nat.le_of_ble_eq_true rfl⟩ rfl rfl (c_is (dd := d) (hd := by omega) (hW := hWx) (k := 300) (tk := tk1) (e_tk := show Gx 11 = tk1 from (ex_tk1)) (tn := Gx 13) (e_tn := show Gx 13 = Gx 13 from rfl)  (h_k := ⟨(by decide), (by decide)⟩)  ) (fun o V' hq => ?_)
  obtain ⟨r1022, rfl, rfl, b1023, q1024⟩ := hq
  refine .inr ⟨_, rfl, ?_⟩
  rcases q1024 with ⟨rfl, a1025, a1026, a1027⟩ | rfl
  · have _q : True := trivial
    refine jx_if_eq (pc' := 120) (tg := 202) rfl rfl rfl (by decide) (by decide) (fun h1028 => ?_) (fun h1028 => ?_)
    · have _q := h1028
      exact absurd h1028 (by omega)
    · have _q := h1028
      refine jx_ld (pc' := 122) (l' := L) (st' := [.int (i32 (1))]) rfl (jl_iload gL_5) ?_
      refine jx_if_eq (pc' := 125) (tg := 135) rfl rfl rfl (by decide) (by decide) (fun h1029 => ?_) (fun h1029 => ?_)
      · have _q := h1029
        exact absurd h1029 (by omega)
      · have _q := h1029
        refine jx_ld (pc' := 126) (l' := L) (st' := [.int (i32 (ks))]) rfl (jl_iloadn gL_3) ?_
        refine jx_st (pc' := 129) (as := [.int (i32 (ks))]) (st := []) rfl rfl ⟨rfl, Nat.le_of_ble_eq_true rfl⟩ rfl rfl rfl (c_isArray (dd := d) (hd := by omega) (k := ks)   (h_k := ⟨(Int.le_trans (by decide : (-2147483648 : Int) ≤ 0) b_ks.1), (Int.le_trans b_ks.2 (by decide : (14 : Int) ≤ 2147483647))⟩)  ) (fun o V' hq => ?_)
        obtain ⟨r1030, rfl, rfl, b1031, q1032⟩ := hq
        refine .inr ⟨_, rfl, ?_⟩
        rcases q1032 with ⟨rfl, a1033⟩ | rfl
        · have _q : True := trivial
          refine jx_if_ne (pc' := 132) (tg := 150) rfl rfl rfl (by decide) (by decide) (fun h1034 => ?_) (fun h1034 => ?_)
          · have _q := h1034
            have z1035 := tz_f (tk1)
            exact c_readNamed_w_at_150_1 (X := X) (d := d) (Vs := Vs) (sb := sb) (pb := pb) (c0 := c0) (c1 := c1) (G := G) (A := A) (T := T) (ln := ln) (le := le) (at0 := at0) (fk := fk) (op0 := op0) (nd := nd) (tk0 := tk0) (li := li) (ec := ec) (hd := hd) (hW := hW) (e_ln := e_ln) (e_le := e_le) (e_at0 := e_at0) (e_fk := e_fk) (e_op0 := e_op0) (e_nd := e_nd) (e_tk0 := e_tk0) (e_li := e_li) (e_ec := e_ec) (i_SV := i_SV) (i_PQ := i_PQ) (p_0 := p_0) (p_1 := p_1) (p_2 := p_2) (p_3 := p_3) (p_4 := p_4) (p_5 := p_5) L Gx Ax (s) (ix) (at1) (tk1) (fk1) (nd1) (op1) (ks) (ec1) gL_0 gL_5 gL_2 gL_4 hWx hFx hPx ((ex_at1)) ((ex_tk1)) ((ex_fk1)) ((ex_nd1)) ((ex_op1)) ((ex_ks)) (ex_ec1) ((fx_9)) (by omega) (by omega) (by omega) (by omega) (by omega) (by omega) (by omega) (by omega) (by omega) (by omega) (iv_8) (a1033) (iv_9) (by omega)
          · have _q := h1034
            exact absurd h1034 (by omega)
        · have _q : True := trivial
          refine jx_if_ne (pc' := 132) (tg := 150) rfl rfl rfl (by decide) (by decide) (fun h1036 => ?_) (fun h1036 => ?_)
          · have _q := h1036
            exact absurd h1036 (by omega)
          · have _q := h1036
            refine jx_go (tg := 142) rfl rfl ?_
            refine jx_ld (pc' := 143) (l' := L) (st' := [.ref 66]) rfl (jl_aloadn gL_0) ?_
            refine jx_ar (pc' := 144) (st' := [.int (i32 (4)), .ref 66]) rfl rfl rfl rfl ?_
            refine jx_ld (pc' := 145) (l' := L) (st' := [.int (i32 (pl)), .int (i32 (4)), .ref 66]) rfl (jl_iloadn gL_1) ?_
            refine jx_vr (pc' := 148) (as := [.int (i32 (4)), .int (i32 (pl))]) (st := []) rfl rfl rfl rfl ⟨rfl, rfl, Nat.le_of_ble_eq_true rfl⟩ rfl rfl (c_fail (dd := d) (hd := by omega) (hW := hWx) (kind := 4) (place := pl) (fk := fk1) (e_fk := show Gx 16 = fk1 from (ex_fk1))  (h_kind := ⟨(by decide), (by decide)⟩) (h_place := ⟨(Int.le_trans (by decide : (-2147483648 : Int) ≤ -2147483648) rx_pl.1), (Int.le_trans rx_pl.2 (by decide : (2147483647 : Int) ≤ 2147483647))⟩)  (p_0 := by omega) (p_1 := by omega)) (fun o V' hq => ?_)
            obtain ⟨G1037, A1038, fk2_1039, rfl, rfl, hW1040, hF1041, e1042, p1043, -⟩ := hq
            have hF1045 := Fr_tr hFx hF1041 (Fr_sub (by decide)) (Fr_sub (by decide))
            have hP1046 := Pf_f hPx hF1041 (by decide)
            have sf1047 : wE A1038 Vs sb (20) (ix) (nd) (nd1) := wE_ag (by omega) (Sg_fr hF1041 (by decide)) (Ag_fr hF1041 (by decide)) iv_9
            have ec1048 : ecn A1038 (G1037 31) = ec1 := (ecn_f (hF1041.2 15 rfl) (hF1041.1 31 rfl)).trans ex_ec1
            have bfk2_1039 : (0 : Int) ≤ fk2_1039 ∧ fk2_1039 ≤ 6 := e1042 ▸ hW1040.1 16
            refine .inl ⟨rfl, ?_⟩
            refine jx_ar (pc' := 149) (st' := [.int (i32 (0))]) rfl rfl rfl rfl ?_
            refine jx_rt (v := some (.int (i32 (0)))) rfl rfl rfl rfl rfl rfl ?_
            exact ⟨_, _, _, at1, fk2_1039, nd1, ln, ec1, rfl, rfl, hW1040, hF1045, hP1046, by omega, ((hF1041.1 10 rfl).trans (ex_at1)), (e1042), ((hF1041.1 31 rfl).trans (ex_nd1)), ((hF1041.1 9 rfl).trans (fx_9)), ec1048, by omega, by omega, by omega, by omega, by omega, by first | exact Or.inl (⟨by omega, by omega, by omega⟩)⟩
  · have _q : True := trivial
    refine jx_if_eq (pc' := 120) (tg := 202) rfl rfl rfl (by decide) (by decide) (fun h1049 => ?_) (fun h1049 => ?_)
    · have _q := h1049
      refine jx_ld (pc' := 203) (l' := L) (st' := [.ref 66]) rfl (jl_aloadn gL_0) ?_
      refine jx_ar (pc' := 205) (st' := [.int (i32 (33)), .ref 66]) rfl rfl rfl rfl ?_
      refine jx_vr (pc' := 208) (as := [.int (i32 (33))]) (st := []) rfl rfl rfl rfl ⟨rfl, rfl, Nat.le_of_ble_eq_true rfl⟩ rfl rfl (c_is (dd := d) (hd := by omega) (hW := hWx) (k := 33) (tk := tk1) (e_tk := show Gx 11 = tk1 from (ex_tk1)) (tn := Gx 13) (e_tn := show Gx 13 = Gx 13 from rfl)  (h_k := ⟨(by decide), (by decide)⟩)  ) (fun o V' hq => ?_)
      obtain ⟨r1050, rfl, rfl, b1051, q1052⟩ := hq
      refine .inr ⟨_, rfl, ?_⟩
      rcases q1052 with ⟨rfl, a1053, a1054, a1055⟩ | rfl
      · have _q : True := trivial
        refine jx_if_ne (pc' := 211) (tg := 231) rfl rfl rfl (by decide) (by decide) (fun h1056 => ?_) (fun h1056 => ?_)
        · have _q := h1056
          have z1057 := tz_f (tk1)
          exact c_readNamed_w_at_231_1 (X := X) (d := d) (Vs := Vs) (sb := sb) (pb := pb) (c0 := c0) (c1 := c1) (G := G) (A := A) (T := T) (ln := ln) (le := le) (at0 := at0) (fk := fk) (op0 := op0) (nd := nd) (tk0 := tk0) (li := li) (ec := ec) (hd := hd) (hW := hW) (e_ln := e_ln) (e_le := e_le) (e_at0 := e_at0) (e_fk := e_fk) (e_op0 := e_op0) (e_nd := e_nd) (e_tk0 := e_tk0) (e_li := e_li) (e_ec := e_ec) (i_SV := i_SV) (i_PQ := i_PQ) (p_0 := p_0) (p_1 := p_1) (p_2 := p_2) (p_3 := p_3) (p_4 := p_4) (p_5 := p_5) L Gx Ax (pl) (s) (ix) (at1) (tk1) (fk1) (nd1) (op1) (ks) (ec1) gL_0 gL_5 gL_3 gL_1 gL_2 gL_4 hWx hFx hPx ((ex_at1)) ((ex_tk1)) ((ex_fk1)) ((ex_nd1)) ((ex_op1)) ((ex_ks)) (ex_ec1) ((fx_9)) (by omega) (by omega) (by omega) (by omega) (by omega) (by omega) (by omega) (by omega) (by omega) (by omega) (by omega) (by omega) (iv_8) (iv_9) (by omega)
        · have _q := h1056
          exact absurd h1056 (by omega)
      · have _q : True := trivial
        refine jx_if_ne (pc' := 211) (tg := 231) rfl rfl rfl (by decide) (by decide) (fun h1058 => ?_) (fun h1058 => ?_)
        · have _q := h1058
          exact absurd h1058 (by omega)
        · have _q := h1058
          refine jx_ld (pc' := 212) (l' := L) (st' := [.ref 66]) rfl (jl_aloadn gL_0) ?_
          refine jx_ar (pc' := 214) (st' := [.int (i32 (63)), .ref 66]) rfl rfl rfl rfl ?_
          refine jx_vr (pc' := 217) (as := [.int (i32 (63))]) (st := []) rfl rfl rfl rfl ⟨rfl, rfl, Nat.le_of_ble_eq_true rfl⟩ rfl rfl (c_is (dd := d) (hd := by omega) (hW := hWx) (k := 63) (tk := tk1) (e_tk := show Gx 11 = tk1 from (ex_tk1)) (tn := Gx 13) (e_tn := show Gx 13 = Gx 13 from rfl)  (h_k := ⟨(by decide), (by decide)⟩)  ) (fun o V' hq => ?_)
          obtain ⟨r1059, rfl, rfl, b1060, q1061⟩ := hq
          refine .inr ⟨_, rfl, ?_⟩
          rcases q1061 with ⟨rfl, a1062, a1063, a1064⟩ | rfl
          · have _q : True := trivial
            refine jx_if_ne (pc' := 220) (tg := 231) rfl rfl rfl (by decide) (by decide) (fun h1065 => ?_) (fun h1065 => ?_)
            · have _q := h1065
              have z1066 := tz_f (tk1)
              exact c_readNamed_w_at_231_1 (X := X) (d := d) (Vs := Vs) (sb := sb) (pb := pb) (c0 := c0) (c1 := c1) (G := G) (A := A) (T := T) (ln := ln) (le := le) (at0 := at0) (fk := fk) (op0 := op0) (nd := nd) (tk0 := tk0) (li := li) (ec := ec) (hd := hd) (hW := hW) (e_ln := e_ln) (e_le := e_le) (e_at0 := e_at0) (e_fk := e_fk) (e_op0 := e_op0) (e_nd := e_nd) (e_tk0 := e_tk0) (e_li := e_li) (e_ec := e_ec) (i_SV := i_SV) (i_PQ := i_PQ) (p_0 := p_0) (p_1 := p_1) (p_2 := p_2) (p_3 := p_3) (p_4 := p_4) (p_5 := p_5) L Gx Ax (pl) (s) (ix) (at1) (tk1) (fk1) (nd1) (op1) (ks) (ec1) gL_0 gL_5 gL_3 gL_1 gL_2 gL_4 hWx hFx hPx ((ex_at1)) ((ex_tk1)) ((ex_fk1)) ((ex_nd1)) ((ex_op1)) ((ex_ks)) (ex_ec1) ((fx_9)) (by omega) (by omega) (by omega) (by omega) (by omega) (by omega) (by omega) (by omega) (by omega) (by omega) (by omega) (by omega) (iv_8) (iv_9) (by omega)
            · have _q := h1065
              exact absurd h1065 (by omega)
          · have _q : True := trivial
            refine jx_if_ne (pc' := 220) (tg := 231) rfl rfl rfl (by decide) (by decide) (fun h1067 => ?_) (fun h1067 => ?_)
            · have _q := h1067
              exact absurd h1067 (by omega)
            · have _q := h1067
              refine jx_ld (pc' := 221) (l' := L) (st' := [.ref 66]) rfl (jl_aloadn gL_0) ?_
              refine jx_ar (pc' := 222) (st' := [.int (i32 (1)), .ref 66]) rfl rfl rfl rfl ?_
              refine jx_ld (pc' := 223) (l' := L) (st' := [.ref 66, .int (i32 (1)), .ref 66]) rfl (jl_aloadn gL_0) ?_
              have b1068 : (-3000 : Int) ≤ Gx 12 ∧ Gx 12 ≤ 3002 := hWx.1 12
              refine jr_get (pc' := 226) (i := 12) (v := .int (i32 (Gx 12))) rfl rfl (by decide) rfl rfl ?_
              refine jx_vr (pc' := 229) (as := [.int (i32 (1)), .int (i32 (Gx 12))]) (st := []) rfl rfl rfl rfl ⟨rfl, rfl, Nat.le_of_ble_eq_true rfl⟩ rfl rfl (c_fail (dd := d) (hd := by omega) (hW := hWx) (kind := 1) (place := Gx 12) (fk := fk1) (e_fk := show Gx 16 = fk1 from (ex_fk1))  (h_kind := ⟨(by decide), (by decide)⟩) (h_place := ⟨(Int.le_trans (by decide : (-2147483648 : Int) ≤ -3000) b1068.1), (Int.le_trans b1068.2 (by decide : (3002 : Int) ≤ 2147483647))⟩)  (p_0 := by omega) (p_1 := by omega)) (fun o V' hq => ?_)
              obtain ⟨G1069, A1070, fk2_1071, rfl, rfl, hW1072, hF1073, e1074, p1075, -⟩ := hq
              have hF1077 := Fr_tr hFx hF1073 (Fr_sub (by decide)) (Fr_sub (by decide))
              have hP1078 := Pf_f hPx hF1073 (by decide)
              have sf1079 : wE A1070 Vs sb (20) (ix) (nd) (nd1) := wE_ag (by omega) (Sg_fr hF1073 (by decide)) (Ag_fr hF1073 (by decide)) iv_9
              have ec1080 : ecn A1070 (G1069 31) = ec1 := (ecn_f (hF1073.2 15 rfl) (hF1073.1 31 rfl)).trans ex_ec1
              have bfk2_1071 : (0 : Int) ≤ fk2_1071 ∧ fk2_1071 ≤ 6 := e1074 ▸ hW1072.1 16
              refine .inl ⟨rfl, ?_⟩
              refine jx_ar (pc' := 230) (st' := [.int (i32 (0))]) rfl rfl rfl rfl ?_
              refine jx_rt (v := some (.int (i32 (0)))) rfl rfl rfl rfl rfl rfl ?_
              exact ⟨_, _, _, at1, fk2_1071, nd1, ln, ec1, rfl, rfl, hW1072, hF1077, hP1078, by omega, ((hF1073.1 10 rfl).trans (ex_at1)), (e1074), ((hF1073.1 31 rfl).trans (ex_nd1)), ((hF1073.1 9 rfl).trans (fx_9)), ec1080, by omega, by omega, by omega, by omega, by omega, by first | exact Or.inl (⟨by omega, by omega, by omega⟩)⟩
    · have _q := h1049
      exact absurd h1049 (by omega)
set_option maxRecDepth 20000 in
set_option maxHeartbeats 4000000 in
theorem c_readNamed_w_at_110_0 {X : jX} {d : Nat} {Vs : Nat → Prop} {sb pb : Int} {c0 c1 : jC} {G : Nat → Int} {A : Nat → Nat → Int} {T : jH} {ln le at0 fk op0 nd tk0 li ec : Int} (hd : 72 ≤ d + 1) (hW : Wk G A) (e_ln : G 9 = ln) (e_le : A 4 (ln).toNat = le) (e_at0 : G 10 = at0) (e_fk : G 16 = fk) (e_op0 : G 15 = op0) (e_nd : G 31 = nd) (e_tk0 : G 11 = tk0) (e_li : G 3 = li) (e_ec : ecn A (G 31) = ec) (i_SV : SV Vs sb G A) (i_PQ : PQ Vs sb pb G A) (p_0 : 0 ≤ op0 ∧ op0 ≤ 8) (p_1 : fk = 0) (p_2 : nd ≤ 2 * at0 - tz tk0 + 42) (p_3 : at0 ≤ le) (p_4 : ln < li) (p_5 : tk0 = 1) : ∀ (L : jL) (Gx : Nat → Int) (Ax : Nat → Nat → Int) (pl s at1 tk1 fk1 nd1 op1 ks ec1 : Int), jGet L 0 = some (.ref 66) → jGet L 5 = some (.int (i32 (0))) → jGet L 3 = some (.int (i32 (ks))) → jGet L 4 = some (.int (i32 (0))) → jGet L 1 = some (.int (i32 pl)) → jGet L 2 = some (.int (i32 s)) → Wk Gx Ax → Fr [9, 10, 11, 12, 13, 14, 15, 16, 17, 18, 31] [15, 16, 17, 18, 19, 20, 21, 22, 24, 28] G A Gx Ax → Pf nd A Ax → Gx 10 = at1 → Gx 11 = tk1 → Gx 16 = fk1 → Gx 31 = nd1 → Gx 15 = op1 → Ax 7 (s).toNat = ks → ecn Ax (Gx 31) = ec1 → Gx 9 = ln → ((-2147483648 : Int) ≤ pl ∧ pl ≤ 2147483647) → ((-2147483648 : Int) ≤ s ∧ s ≤ 2147483647) → (at0 ≤ at1) → (at1 ≤ le) → (nd ≤ nd1) → (op1 = op0) → (fk1 = 0) → (nd1 - nd ≤ (2 * at1 - tz tk1) - (2 * at0 - tz tk0) - 1) → (0 ≤ s ∧ s ≤ 201) → (-3000 ≤ pl ∧ pl ≤ 3002) → (SY Vs sb (s)) → (nd1 - nd + 5 * (ec1 - ec) ≤ (2 * at1 - tz tk1) - (2 * at0 - tz tk0) - 1 - tz tk1) → wj X d jm304 (110, L, [], rV c0 c1 Gx Ax T) (fun o V' => ∃ (G' : Nat → Int) (A' : Nat → Nat → Int) (r : Int) (at2 : Int) (fk2 : Int) (nd2 : Int) (ln2 : Int) (ec2 : Int), V' = rV c0 c1 G' A' T ∧ o = .inl (some (.int (i32 r))) ∧ Wk G' A' ∧ Fr [9, 10, 11, 12, 13, 14, 15, 16, 17, 18, 31] [15, 16, 17, 18, 19, 20, 21, 22, 24, 28] G A G' A' ∧ Pf nd A A' ∧ ((-2147483648 : Int) ≤ r ∧ r ≤ 2147483647) ∧ G' 10 = at2 ∧ G' 16 = fk2 ∧ G' 31 = nd2 ∧ G' 9 = ln2 ∧ ecn A' (G' 31) = ec2 ∧ (at0 ≤ at2) ∧ (at2 ≤ le) ∧ (nd ≤ nd2) ∧ (0 ≤ r) ∧ (r ≤ nd2) ∧ (((1 ≤ fk2) ∧ (ln2 = ln) ∧ (nd2 - nd ≤ 2 * at2 - 2 * at0 + 8)) ∨ ((fk2 = 0) ∧ (ln2 = ln + 1) ∧ (nd2 - nd ≤ 2 * at2 - (2 * at0 - tz tk0) + 0) ∧ (nd ≤ r) ∧ (r < nd2) ∧ (wL A' sb pb Vs (r) (nd) (nd2)) ∧ (NX A' (r)) ∧ (nd2 - nd + 5 * (ec2 - ec) ≤ 2 * at2 - (2 * at0 - tz tk0) + 0)))) := by
  have hF0 : Fr [9, 10, 11, 12, 13, 14, 15, 16, 17, 18, 31] [15, 16, 17, 18, 19, 20, 21, 22, 24, 28] G A G A := Fr_rf
  have hP0 : Pf nd A A := Pf_rf
  have b_ln : (0 : Int) ≤ ln ∧ ln ≤ 3000 := e_ln ▸ hW.1 9
  have b_le : (0 : Int) ≤ le ∧ le ≤ 3000 := e_le ▸ hW.2 4 _
  have b_at0 : (0 : Int) ≤ at0 ∧ at0 ≤ 3002 := e_at0 ▸ hW.1 10
  have b_fk : (0 : Int) ≤ fk ∧ fk ≤ 6 := e_fk ▸ hW.1 16
  have b_op0 : (-2147483648 : Int) ≤ op0 ∧ op0 ≤ 2147483647 := e_op0 ▸ hW.1 15
  have b_nd : (0 : Int) ≤ nd ∧ nd ≤ 6999 := e_nd ▸ hW.1 31
  have z_tk0 := tz_f tk0
  have b_tk0 : (0 : Int) ≤ tk0 ∧ tk0 ≤ 5 := e_tk0 ▸ hW.1 11
  have b_li : (0 : Int) ≤ li ∧ li ≤ 3000 := e_li ▸ hW.1 3
  intro L Gx Ax pl s at1 tk1 fk1 nd1 op1 ks ec1 gL_0 gL_5 gL_3 gL_4 gL_1 gL_2 hWx hFx hPx ex_at1 ex_tk1 ex_fk1 ex_nd1 ex_op1 ex_ks ex_ec1 fx_9 rx_pl rx_s iv_0 iv_1 iv_2 iv_3 iv_4 iv_5 iv_6 iv_7 iv_8 iv_9
  have b_at1 : (0 : Int) ≤ at1 ∧ at1 ≤ 3002 := ex_at1 ▸ hWx.1 10
  have z_tk1 := tz_f tk1
  have b_tk1 : (0 : Int) ≤ tk1 ∧ tk1 ≤ 5 := ex_tk1 ▸ hWx.1 11
  have b_fk1 : (0 : Int) ≤ fk1 ∧ fk1 ≤ 6 := ex_fk1 ▸ hWx.1 16
  have b_nd1 : (0 : Int) ≤ nd1 ∧ nd1 ≤ 6999 := ex_nd1 ▸ hWx.1 31
  have b_op1 : (-2147483648 : Int) ≤ op1 ∧ op1 ≤ 2147483647 := ex_op1 ▸ hWx.1 15
  have b_ks : (0 : Int) ≤ ks ∧ ks ≤ 14 := ex_ks ▸ hWx.2 7 _
  refine jx_ld (pc' := 111) (l' := L) (st' := [.ref 66]) rfl (jl_aloadn gL_0) ?_
  refine jx_ar (pc' := 114) (st' := [.int (i32 (300)), .ref 66]) rfl rfl rfl rfl ?_
  have b1081 : (-2147483648 : Int) ≤ Gx 13 ∧ Gx 13 ≤ 2147483647 := hWx.1 13
  refine jx_vr (pc' := 117) (as := [.int (i32 (300))]) (st := []) rfl rfl rfl rfl ⟨rfl, rfl, Nat.le_of_ble_eq_true rfl⟩ rfl rfl (c_is (dd := d) (hd := by omega) (hW := hWx) (k := 300) (tk := tk1) (e_tk := show Gx 11 = tk1 from (ex_tk1)) (tn := Gx 13) (e_tn := show Gx 13 = Gx 13 from rfl)  (h_k := ⟨(by decide), (by decide)⟩)  ) (fun o V' hq => ?_)
  obtain ⟨r1082, rfl, rfl, b1083, q1084⟩ := hq
  refine .inr ⟨_, rfl, ?_⟩
  rcases q1084 with ⟨rfl, a1085, a1086, a1087⟩ | rfl
  · have _q : True := trivial
    refine jx_if_eq (pc' := 120) (tg := 202) rfl rfl rfl (by decide) (by decide) (fun h1088 => ?_) (fun h1088 => ?_)
    · have _q := h1088
      exact absurd h1088 (by omega)
    · have _q := h1088
      refine jx_ld (pc' := 122) (l' := L) (st' := [.int (i32 (0))]) rfl (jl_iload gL_5) ?_
      refine jx_if_eq (pc' := 125) (tg := 135) rfl rfl rfl (by decide) (by decide) (fun h1089 => ?_) (fun h1089 => ?_)
      · have _q := h1089
        refine jx_ld (pc' := 136) (l' := L) (st' := [.int (i32 (ks))]) rfl (jl_iloadn gL_3) ?_
        refine jx_st (pc' := 139) (as := [.int (i32 (ks))]) (st := []) rfl rfl ⟨rfl, Nat.le_of_ble_eq_true rfl⟩ rfl rfl rfl (c_isVariable (dd := d) (hd := by omega) (k := ks)   (h_k := ⟨(Int.le_trans (by decide : (-2147483648 : Int) ≤ 0) b_ks.1), (Int.le_trans b_ks.2 (by decide : (14 : Int) ≤ 2147483647))⟩)  ) (fun o V' hq => ?_)
        obtain ⟨r1090, rfl, rfl, b1091, q1092⟩ := hq
        refine .inr ⟨_, rfl, ?_⟩
        rcases q1092 with ⟨rfl, a1093⟩ | rfl
        · have _q : True := trivial
          refine jx_if_ne (pc' := 142) (tg := 150) rfl rfl rfl (by decide) (by decide) (fun h1094 => ?_) (fun h1094 => ?_)
          · have _q := h1094
            have z1095 := tz_f (tk1)
            exact c_readNamed_w_at_150_0 (X := X) (d := d) (Vs := Vs) (sb := sb) (pb := pb) (c0 := c0) (c1 := c1) (G := G) (A := A) (T := T) (ln := ln) (le := le) (at0 := at0) (fk := fk) (op0 := op0) (nd := nd) (tk0 := tk0) (li := li) (ec := ec) (hd := hd) (hW := hW) (e_ln := e_ln) (e_le := e_le) (e_at0 := e_at0) (e_fk := e_fk) (e_op0 := e_op0) (e_nd := e_nd) (e_tk0 := e_tk0) (e_li := e_li) (e_ec := e_ec) (i_SV := i_SV) (i_PQ := i_PQ) (p_0 := p_0) (p_1 := p_1) (p_2 := p_2) (p_3 := p_3) (p_4 := p_4) (p_5 := p_5) L Gx Ax (s) (at1) (tk1) (fk1) (nd1) (op1) (ks) (ec1) gL_0 gL_5 gL_4 gL_2 hWx hFx hPx ((ex_at1)) ((ex_tk1)) ((ex_fk1)) ((ex_nd1)) ((ex_op1)) ((ex_ks)) (ex_ec1) ((fx_9)) (by omega) (by omega) (by omega) (by omega) (by omega) (by omega) (by omega) (by omega) (by omega) (iv_8) (a1093) (by omega)
          · have _q := h1094
            exact absurd h1094 (by omega)
        · have _q : True := trivial
          refine jx_if_ne (pc' := 142) (tg := 150) rfl rfl rfl (by decide) (by decide) (fun h1096 => ?_) (fun h1096 => ?_)
          · have _q := h1096
            exact absurd h1096 (by omega)
          · have _q := h1096
            refine jx_ld (pc' := 143) (l' := L) (st' := [.ref 66]) rfl (jl_aloadn gL_0) ?_
            refine jx_ar (pc' := 144) (st' := [.int (i32 (4)), .ref 66]) rfl rfl rfl rfl ?_
            refine jx_ld (pc' := 145) (l' := L) (st' := [.int (i32 (pl)), .int (i32 (4)), .ref 66]) rfl (jl_iloadn gL_1) ?_
            refine jx_vr (pc' := 148) (as := [.int (i32 (4)), .int (i32 (pl))]) (st := []) rfl rfl rfl rfl ⟨rfl, rfl, Nat.le_of_ble_eq_true rfl⟩ rfl rfl (c_fail (dd := d) (hd := by omega) (hW := hWx) (kind := 4) (place := pl) (fk := fk1) (e_fk := show Gx 16 = fk1 from (ex_fk1))  (h_kind := ⟨(by decide), (by decide)⟩) (h_place := ⟨(Int.le_trans (by decide : (-2147483648 : Int) ≤ -2147483648) rx_pl.1), (Int.le_trans rx_pl.2 (by decide : (2147483647 : Int) ≤ 2147483647))⟩)  (p_0 := by omega) (p_1 := by omega)) (fun o V' hq => ?_)
            obtain ⟨G1097, A1098, fk2_1099, rfl, rfl, hW1100, hF1101, e1102, p1103, -⟩ := hq
            have hF1105 := Fr_tr hFx hF1101 (Fr_sub (by decide)) (Fr_sub (by decide))
            have hP1106 := Pf_f hPx hF1101 (by decide)
            have ec1107 : ecn A1098 (G1097 31) = ec1 := (ecn_f (hF1101.2 15 rfl) (hF1101.1 31 rfl)).trans ex_ec1
            have bfk2_1099 : (0 : Int) ≤ fk2_1099 ∧ fk2_1099 ≤ 6 := e1102 ▸ hW1100.1 16
            refine .inl ⟨rfl, ?_⟩
            refine jx_ar (pc' := 149) (st' := [.int (i32 (0))]) rfl rfl rfl rfl ?_
            refine jx_rt (v := some (.int (i32 (0)))) rfl rfl rfl rfl rfl rfl ?_
            exact ⟨_, _, _, at1, fk2_1099, nd1, ln, ec1, rfl, rfl, hW1100, hF1105, hP1106, by omega, ((hF1101.1 10 rfl).trans (ex_at1)), (e1102), ((hF1101.1 31 rfl).trans (ex_nd1)), ((hF1101.1 9 rfl).trans (fx_9)), ec1107, by omega, by omega, by omega, by omega, by omega, by first | exact Or.inl (⟨by omega, by omega, by omega⟩)⟩
      · have _q := h1089
        exact absurd h1089 (by omega)
  · have _q : True := trivial
    refine jx_if_eq (pc' := 120) (tg := 202) rfl rfl rfl (by decide) (by decide) (fun h1108 => ?_) (fun h1108 => ?_)
    · have _q := h1108
      refine jx_ld (pc' := 203) (l' := L) (st' := [.ref 66]) rfl (jl_aloadn gL_0) ?_
      refine jx_ar (pc' := 205) (st' := [.int (i32 (33)), .ref 66]) rfl rfl rfl rfl ?_
      refine jx_vr (pc' := 208) (as := [.int (i32 (33))]) (st := []) rfl rfl rfl rfl ⟨rfl, rfl, Nat.le_of_ble_eq_true rfl⟩ rfl rfl (c_is (dd := d) (hd := by omega) (hW := hWx) (k := 33) (tk := tk1) (e_tk := show Gx 11 = tk1 from (ex_tk1)) (tn := Gx 13) (e_tn := show Gx 13 = Gx 13 from rfl)  (h_k := ⟨(by decide), (by decide)⟩)  ) (fun o V' hq => ?_)
      obtain ⟨r1109, rfl, rfl, b1110, q1111⟩ := hq
      refine .inr ⟨_, rfl, ?_⟩
      rcases q1111 with ⟨rfl, a1112, a1113, a1114⟩ | rfl
      · have _q : True := trivial
        refine jx_if_ne (pc' := 211) (tg := 231) rfl rfl rfl (by decide) (by decide) (fun h1115 => ?_) (fun h1115 => ?_)
        · have _q := h1115
          have z1116 := tz_f (tk1)
          exact c_readNamed_w_at_231_0 (X := X) (d := d) (Vs := Vs) (sb := sb) (pb := pb) (c0 := c0) (c1 := c1) (G := G) (A := A) (T := T) (ln := ln) (le := le) (at0 := at0) (fk := fk) (op0 := op0) (nd := nd) (tk0 := tk0) (li := li) (ec := ec) (hd := hd) (hW := hW) (e_ln := e_ln) (e_le := e_le) (e_at0 := e_at0) (e_fk := e_fk) (e_op0 := e_op0) (e_nd := e_nd) (e_tk0 := e_tk0) (e_li := e_li) (e_ec := e_ec) (i_SV := i_SV) (i_PQ := i_PQ) (p_0 := p_0) (p_1 := p_1) (p_2 := p_2) (p_3 := p_3) (p_4 := p_4) (p_5 := p_5) L Gx Ax (pl) (s) (at1) (tk1) (fk1) (nd1) (op1) (ks) (ec1) gL_0 gL_5 gL_3 gL_4 gL_1 gL_2 hWx hFx hPx ((ex_at1)) ((ex_tk1)) ((ex_fk1)) ((ex_nd1)) ((ex_op1)) ((ex_ks)) (ex_ec1) ((fx_9)) (by omega) (by omega) (by omega) (by omega) (by omega) (by omega) (by omega) (by omega) (by omega) (by omega) (by omega) (iv_8) (by omega)
        · have _q := h1115
          exact absurd h1115 (by omega)
      · have _q : True := trivial
        refine jx_if_ne (pc' := 211) (tg := 231) rfl rfl rfl (by decide) (by decide) (fun h1117 => ?_) (fun h1117 => ?_)
        · have _q := h1117
          exact absurd h1117 (by omega)
        · have _q := h1117
          refine jx_ld (pc' := 212) (l' := L) (st' := [.ref 66]) rfl (jl_aloadn gL_0) ?_
          refine jx_ar (pc' := 214) (st' := [.int (i32 (63)), .ref 66]) rfl rfl rfl rfl ?_
          refine jx_vr (pc' := 217) (as := [.int (i32 (63))]) (st := []) rfl rfl rfl rfl ⟨rfl, rfl, Nat.le_of_ble_eq_true rfl⟩ rfl rfl (c_is (dd := d) (hd := by omega) (hW := hWx) (k := 63) (tk := tk1) (e_tk := show Gx 11 = tk1 from (ex_tk1)) (tn := Gx 13) (e_tn := show Gx 13 = Gx 13 from rfl)  (h_k := ⟨(by decide), (by decide)⟩)  ) (fun o V' hq => ?_)
          obtain ⟨r1118, rfl, rfl, b1119, q1120⟩ := hq
          refine .inr ⟨_, rfl, ?_⟩
          rcases q1120 with ⟨rfl, a1121, a1122, a1123⟩ | rfl
          · have _q : True := trivial
            refine jx_if_ne (pc' := 220) (tg := 231) rfl rfl rfl (by decide) (by decide) (fun h1124 => ?_) (fun h1124 => ?_)
            · have _q := h1124
              have z1125 := tz_f (tk1)
              exact c_readNamed_w_at_231_0 (X := X) (d := d) (Vs := Vs) (sb := sb) (pb := pb) (c0 := c0) (c1 := c1) (G := G) (A := A) (T := T) (ln := ln) (le := le) (at0 := at0) (fk := fk) (op0 := op0) (nd := nd) (tk0 := tk0) (li := li) (ec := ec) (hd := hd) (hW := hW) (e_ln := e_ln) (e_le := e_le) (e_at0 := e_at0) (e_fk := e_fk) (e_op0 := e_op0) (e_nd := e_nd) (e_tk0 := e_tk0) (e_li := e_li) (e_ec := e_ec) (i_SV := i_SV) (i_PQ := i_PQ) (p_0 := p_0) (p_1 := p_1) (p_2 := p_2) (p_3 := p_3) (p_4 := p_4) (p_5 := p_5) L Gx Ax (pl) (s) (at1) (tk1) (fk1) (nd1) (op1) (ks) (ec1) gL_0 gL_5 gL_3 gL_4 gL_1 gL_2 hWx hFx hPx ((ex_at1)) ((ex_tk1)) ((ex_fk1)) ((ex_nd1)) ((ex_op1)) ((ex_ks)) (ex_ec1) ((fx_9)) (by omega) (by omega) (by omega) (by omega) (by omega) (by omega) (by omega) (by omega) (by omega) (by omega) (by omega) (iv_8) (by omega)
            · have _q := h1124
              exact absurd h1124 (by omega)
          · have _q : True := trivial
            refine jx_if_ne (pc' := 220) (tg := 231) rfl rfl rfl (by decide) (by decide) (fun h1126 => ?_) (fun h1126 => ?_)
            · have _q := h1126
              exact absurd h1126 (by omega)
            · have _q := h1126
              refine jx_ld (pc' := 221) (l' := L) (st' := [.ref 66]) rfl (jl_aloadn gL_0) ?_
              refine jx_ar (pc' := 222) (st' := [.int (i32 (1)), .ref 66]) rfl rfl rfl rfl ?_
              refine jx_ld (pc' := 223) (l' := L) (st' := [.ref 66, .int (i32 (1)), .ref 66]) rfl (jl_aloadn gL_0) ?_
              have b1127 : (-3000 : Int) ≤ Gx 12 ∧ Gx 12 ≤ 3002 := hWx.1 12
              refine jr_get (pc' := 226) (i := 12) (v := .int (i32 (Gx 12))) rfl rfl (by decide) rfl rfl ?_
              refine jx_vr (pc' := 229) (as := [.int (i32 (1)), .int (i32 (Gx 12))]) (st := []) rfl rfl rfl rfl ⟨rfl, rfl, Nat.le_of_ble_eq_true rfl⟩ rfl rfl (c_fail (dd := d) (hd := by omega) (hW := hWx) (kind := 1) (place := Gx 12) (fk := fk1) (e_fk := show Gx 16 = fk1 from (ex_fk1))  (h_kind := ⟨(by decide), (by decide)⟩) (h_place := ⟨(Int.le_trans (by decide : (-2147483648 : Int) ≤ -3000) b1127.1), (Int.le_trans b1127.2 (by decide : (3002 : Int) ≤ 2147483647))⟩)  (p_0 := by omega) (p_1 := by omega)) (fun o V' hq => ?_)
              obtain ⟨G1128, A1129, fk2_1130, rfl, rfl, hW1131, hF1132, e1133, p1134, -⟩ := hq
              have hF1136 := Fr_tr hFx hF1132 (Fr_sub (by decide)) (Fr_sub (by decide))
              have hP1137 := Pf_f hPx hF1132 (by decide)
              have ec1138 : ecn A1129 (G1128 31) = ec1 := (ecn_f (hF1132.2 15 rfl) (hF1132.1 31 rfl)).trans ex_ec1
              have bfk2_1130 : (0 : Int) ≤ fk2_1130 ∧ fk2_1130 ≤ 6 := e1133 ▸ hW1131.1 16
              refine .inl ⟨rfl, ?_⟩
              refine jx_ar (pc' := 230) (st' := [.int (i32 (0))]) rfl rfl rfl rfl ?_
              refine jx_rt (v := some (.int (i32 (0)))) rfl rfl rfl rfl rfl rfl ?_
              exact ⟨_, _, _, at1, fk2_1130, nd1, ln, ec1, rfl, rfl, hW1131, hF1136, hP1137, by omega, ((hF1132.1 10 rfl).trans (ex_at1)), (e1133), ((hF1132.1 31 rfl).trans (ex_nd1)), ((hF1132.1 9 rfl).trans (fx_9)), ec1138, by omega, by omega, by omega, by omega, by omega, by first | exact Or.inl (⟨by omega, by omega, by omega⟩)⟩
    · have _q := h1108
      exact absurd h1108 (by omega)
set_option maxRecDepth 20000 in
set_option maxHeartbeats 4000000 in
theorem c_readNamed_w {X : jX} {dd : Nat} {Vs : Nat → Prop} {sb pb : Int} {c0 c1 : jC} {G : Nat → Int} {A : Nat → Nat → Int} {T : jH} {ln le at0 fk op0 nd tk0 li ec : Int} (hd : 72 ≤ dd) (hW : Wk G A) (e_ln : G 9 = ln) (e_le : A 4 (ln).toNat = le) (e_at0 : G 10 = at0) (e_fk : G 16 = fk) (e_op0 : G 15 = op0) (e_nd : G 31 = nd) (e_tk0 : G 11 = tk0) (e_li : G 3 = li) (e_ec : ecn A (G 31) = ec) (i_SV : SV Vs sb G A) (i_PQ : PQ Vs sb pb G A) (p_0 : 0 ≤ op0 ∧ op0 ≤ 8) (p_1 : fk = 0) (p_2 : nd ≤ 2 * at0 - tz tk0 + 42) (p_3 : at0 ≤ le) (p_4 : ln < li) (p_5 : tk0 = 1) : wk X dd 304 [.ref 66] (rV c0 c1 G A T) (fun o V' => ∃ (G' : Nat → Int) (A' : Nat → Nat → Int) (r : Int) (at2 : Int) (fk2 : Int) (nd2 : Int) (ln2 : Int) (ec2 : Int), V' = rV c0 c1 G' A' T ∧ o = .inl (some (.int (i32 r))) ∧ Wk G' A' ∧ Fr [9, 10, 11, 12, 13, 14, 15, 16, 17, 18, 31] [15, 16, 17, 18, 19, 20, 21, 22, 24, 28] G A G' A' ∧ Pf nd A A' ∧ ((-2147483648 : Int) ≤ r ∧ r ≤ 2147483647) ∧ G' 10 = at2 ∧ G' 16 = fk2 ∧ G' 31 = nd2 ∧ G' 9 = ln2 ∧ ecn A' (G' 31) = ec2 ∧ (at0 ≤ at2) ∧ (at2 ≤ le) ∧ (nd ≤ nd2) ∧ (0 ≤ r) ∧ (r ≤ nd2) ∧ (((1 ≤ fk2) ∧ (ln2 = ln) ∧ (nd2 - nd ≤ 2 * at2 - 2 * at0 + 8)) ∨ ((fk2 = 0) ∧ (ln2 = ln + 1) ∧ (nd2 - nd ≤ 2 * at2 - (2 * at0 - tz tk0) + 0) ∧ (nd ≤ r) ∧ (r < nd2) ∧ (wL A' sb pb Vs (r) (nd) (nd2)) ∧ (NX A' (r)) ∧ (nd2 - nd + 5 * (ec2 - ec) ≤ 2 * at2 - (2 * at0 - tz tk0) + 0)))) := by
  obtain ⟨d, rfl⟩ : ∃ d, dd = d + 1 := ⟨dd - 1, by omega⟩
  refine wk_of (e := jm304) rfl (Nat.le_of_ble_eq_true rfl) ?_
  show wj X d jm304 (0, [(0, .ref 66)], [], rV c0 c1 G A T) _
  have hF0 : Fr [9, 10, 11, 12, 13, 14, 15, 16, 17, 18, 31] [15, 16, 17, 18, 19, 20, 21, 22, 24, 28] G A G A := Fr_rf
  have hP0 : Pf nd A A := Pf_rf
  have b_ln : (0 : Int) ≤ ln ∧ ln ≤ 3000 := e_ln ▸ hW.1 9
  have b_le : (0 : Int) ≤ le ∧ le ≤ 3000 := e_le ▸ hW.2 4 _
  have b_at0 : (0 : Int) ≤ at0 ∧ at0 ≤ 3002 := e_at0 ▸ hW.1 10
  have b_fk : (0 : Int) ≤ fk ∧ fk ≤ 6 := e_fk ▸ hW.1 16
  have b_op0 : (-2147483648 : Int) ≤ op0 ∧ op0 ≤ 2147483647 := e_op0 ▸ hW.1 15
  have b_nd : (0 : Int) ≤ nd ∧ nd ≤ 6999 := e_nd ▸ hW.1 31
  have z_tk0 := tz_f tk0
  have b_tk0 : (0 : Int) ≤ tk0 ∧ tk0 ≤ 5 := e_tk0 ▸ hW.1 11
  have b_li : (0 : Int) ≤ li ∧ li ≤ 3000 := e_li ▸ hW.1 3
  refine jx_ld (pc' := 1) (l' := [(0, .ref 66)]) (st' := [.ref 66]) rfl (jl_aloadn rfl) ?_
  have b1139 : (-3000 : Int) ≤ G 12 ∧ G 12 ≤ 3002 := hW.1 12
  refine jr_get (pc' := 4) (i := 12) (v := .int (i32 (G 12))) rfl rfl (by decide) rfl rfl ?_
  refine jx_ld (pc' := 5) (l' := jSto1 [(0, .ref 66)] 1 (.int (i32 (G 12)))) (st' := []) rfl rfl ?_
  obtain ⟨L1140, eL1140⟩ : ∃ q, q = jSto1 [(0, .ref 66)] 1 (.int (i32 (G 12))) := ⟨_, rfl⟩
  rw [← eL1140]
  have gL1140_0 : jGet L1140 0 = some (.ref 66) := eL1140 ▸ jg_ne (by decide) (rfl : jGet [(0, .ref 66)] 0 = some (.ref 66)) rfl
  have gL1140_1 : jGet L1140 1 = some (.int (i32 (G 12))) := eL1140 ▸ jg_eq
  refine jx_ld (pc' := 6) (l' := L1140) (st' := [.ref 66]) rfl (jl_aloadn gL1140_0) ?_
  refine jx_vr (pc' := 9) (as := []) (st := []) rfl rfl rfl rfl ⟨rfl, rfl, Nat.le_of_ble_eq_true rfl⟩ rfl rfl (c_lookUp (dd := d) (hd := by omega) (hW := hW)  (fk := fk) (e_fk := show G 16 = fk from (e_fk)) (i_SV := (SV_ext (rfl) (rfl) i_SV))   ) (fun o V' hq => ?_)
  obtain ⟨G1141, A1142, r1143, fk2_1144, rfl, rfl, hW1145, hF1146, b1147, e1148, q1149⟩ := hq
  have hF1150 := Fr_tr hF0 hF1146 (Fr_sub (by decide)) (Fr_sub (by decide))
  have hP1151 := Pf_f hP0 hF1146 (by decide)
  have ec1152 : ecn A1142 (G1141 31) = ec := (ecn_f (hF1146.2 15 rfl) (hF1146.1 31 rfl)).trans e_ec
  have bfk2_1144 : (0 : Int) ≤ fk2_1144 ∧ fk2_1144 ≤ 6 := e1148 ▸ hW1145.1 16
  refine .inr ⟨_, rfl, ?_⟩
  rcases q1149 with ⟨a1153, a1154⟩ | ⟨a1155, a1156, a1157, a1158⟩
  · have _q : True := trivial
    refine jx_ld (pc' := 10) (l' := jSto1 L1140 2 (.int (i32 (r1143)))) (st' := []) rfl rfl ?_
    obtain ⟨L1159, eL1159⟩ : ∃ q, q = jSto1 L1140 2 (.int (i32 (r1143))) := ⟨_, rfl⟩
    rw [← eL1159]
    have gL1159_0 : jGet L1159 0 = some (.ref 66) := eL1159 ▸ jg_ne (by decide) gL1140_0 rfl
    have gL1159_1 : jGet L1159 1 = some (.int (i32 (G 12))) := eL1159 ▸ jg_ne (by decide) gL1140_1 rfl
    have gL1159_2 : jGet L1159 2 = some (.int (i32 (r1143))) := eL1159 ▸ jg_eq
    refine jx_ld (pc' := 11) (l' := L1159) (st' := [.ref 66]) rfl (jl_aloadn gL1159_0) ?_
    refine jx_vr (pc' := 14) (as := []) (st := []) rfl rfl rfl rfl ⟨rfl, rfl, Nat.le_of_ble_eq_true rfl⟩ rfl rfl (c_bad (dd := d) (hd := by omega) (hW := hW1145)  (fk := fk2_1144) (e_fk := show G1141 16 = fk2_1144 from (e1148))    ) (fun o V' hq => ?_)
    obtain ⟨r1160, rfl, rfl, b1161, q1162⟩ := hq
    refine .inr ⟨_, rfl, ?_⟩
    rcases q1162 with ⟨rfl, a1163⟩ | ⟨rfl, a1164⟩
    · have _q : True := trivial
      refine jx_if_eq (pc' := 17) (tg := 19) rfl rfl rfl (by decide) (by decide) (fun h1165 => ?_) (fun h1165 => ?_)
      · have _q := h1165
        exact absurd h1165 (by omega)
      · have _q := h1165
        refine jx_ar (pc' := 18) (st' := [.int (i32 (0))]) rfl rfl rfl rfl ?_
        refine jx_rt (v := some (.int (i32 (0)))) rfl rfl rfl rfl rfl rfl ?_
        exact ⟨_, _, _, at0, fk2_1144, nd, ln, ec, rfl, rfl, hW1145, hF1150, hP1151, by omega, ((hF1146.1 10 rfl).trans (e_at0)), (e1148), ((hF1146.1 31 rfl).trans (e_nd)), ((hF1146.1 9 rfl).trans (e_ln)), ec1152, by omega, by omega, by omega, by omega, by omega, by first | exact Or.inl (⟨by omega, by omega, by omega⟩)⟩
    · have _q : True := trivial
      exfalso
      omega
  · have _q : True := trivial
    refine jx_ld (pc' := 10) (l' := jSto1 L1140 2 (.int (i32 (r1143)))) (st' := []) rfl rfl ?_
    obtain ⟨L1166, eL1166⟩ : ∃ q, q = jSto1 L1140 2 (.int (i32 (r1143))) := ⟨_, rfl⟩
    rw [← eL1166]
    have gL1166_0 : jGet L1166 0 = some (.ref 66) := eL1166 ▸ jg_ne (by decide) gL1140_0 rfl
    have gL1166_1 : jGet L1166 1 = some (.int (i32 (G 12))) := eL1166 ▸ jg_ne (by decide) gL1140_1 rfl
    have gL1166_2 : jGet L1166 2 = some (.int (i32 (r1143))) := eL1166 ▸ jg_eq
    refine jx_ld (pc' := 11) (l' := L1166) (st' := [.ref 66]) rfl (jl_aloadn gL1166_0) ?_
    refine jx_vr (pc' := 14) (as := []) (st := []) rfl rfl rfl rfl ⟨rfl, rfl, Nat.le_of_ble_eq_true rfl⟩ rfl rfl (c_bad (dd := d) (hd := by omega) (hW := hW1145)  (fk := fk2_1144) (e_fk := show G1141 16 = fk2_1144 from (e1148))    ) (fun o V' hq => ?_)
    obtain ⟨r1167, rfl, rfl, b1168, q1169⟩ := hq
    refine .inr ⟨_, rfl, ?_⟩
    rcases q1169 with ⟨rfl, a1170⟩ | ⟨rfl, a1171⟩
    · have _q : True := trivial
      exfalso
      omega
    · have _q : True := trivial
      refine jx_if_eq (pc' := 17) (tg := 19) rfl rfl rfl (by decide) (by decide) (fun h1172 => ?_) (fun h1172 => ?_)
      · have _q := h1172
        refine jx_ld (pc' := 20) (l' := L1166) (st' := [.ref 66]) rfl (jl_aloadn gL1166_0) ?_
        refine jr_get (pc' := 23) (i := 21) (v := .ref 74) rfl rfl (by decide) rfl rfl ?_
        refine jx_ld (pc' := 24) (l' := L1166) (st' := [.int (i32 (r1143)), .ref 74]) rfl (jl_iloadn gL1166_2) ?_
        have b1173 : (0 : Int) ≤ A 7 (r1143).toNat ∧ A 7 (r1143).toNat ≤ 14 := hW.2 7 _
        refine jr_ldv (pc' := 25) (i := 7) (m := 260) (z := r1143) (y := A 7 (r1143).toNat) rfl (by decide) rfl (by decide) (by omega) (by omega) rfl (show A1142 7 (r1143).toNat = A 7 (r1143).toNat from (congrFun (hF1146.2 7 rfl) _)) ?_
        refine jx_ld (pc' := 26) (l' := jSto1 L1166 3 (.int (i32 (A 7 (r1143).toNat)))) (st' := []) rfl rfl ?_
        obtain ⟨L1174, eL1174⟩ : ∃ q, q = jSto1 L1166 3 (.int (i32 (A 7 (r1143).toNat))) := ⟨_, rfl⟩
        rw [← eL1174]
        have gL1174_0 : jGet L1174 0 = some (.ref 66) := eL1174 ▸ jg_ne (by decide) gL1166_0 rfl
        have gL1174_1 : jGet L1174 1 = some (.int (i32 (G 12))) := eL1174 ▸ jg_ne (by decide) gL1166_1 rfl
        have gL1174_2 : jGet L1174 2 = some (.int (i32 (r1143))) := eL1174 ▸ jg_ne (by decide) gL1166_2 rfl
        have gL1174_3 : jGet L1174 3 = some (.int (i32 (A 7 (r1143).toNat))) := eL1174 ▸ jg_eq
        refine jx_ld (pc' := 27) (l' := L1174) (st' := [.ref 66]) rfl (jl_aloadn gL1174_0) ?_
        refine jx_vr (pc' := 30) (as := []) (st := []) rfl rfl rfl rfl ⟨rfl, rfl, Nat.le_of_ble_eq_true rfl⟩ rfl rfl (c_next (dd := d) (hd := by omega) (hW := hW1145)  (ln := ln) (e_ln := show G1141 9 = ln from ((hF1146.1 9 rfl).trans (e_ln))) (le := le) (e_le := show A1142 4 (ln).toNat = le from (congrFun (hF1146.2 4 rfl) _).trans (e_le)) (at0 := at0) (e_at0 := show G1141 10 = at0 from ((hF1146.1 10 rfl).trans (e_at0)))    (p_0 := by omega)) (fun o V' hq => ?_)
        obtain ⟨G1175, A1176, at2_1177, tk2_1178, rfl, rfl, hW1179, hF1180, e1181, e1182, p1183, p1184, p1185, -⟩ := hq
        have hF1187 := Fr_tr hF1150 hF1180 (Fr_sub (by decide)) (Fr_sub (by decide))
        have hP1188 := Pf_f hP1151 hF1180 (by decide)
        have ec1189 : ecn A1176 (G1175 31) = ec := (ecn_f (hF1180.2 15 rfl) (hF1180.1 31 rfl)).trans ec1152
        have bat2_1177 : (0 : Int) ≤ at2_1177 ∧ at2_1177 ≤ 3002 := e1181 ▸ hW1179.1 10
        have ztk2_1178 := tz_b tk2_1178
        have btk2_1178 : (0 : Int) ≤ tk2_1178 ∧ tk2_1178 ≤ 5 := e1182 ▸ hW1179.1 11
        refine .inl ⟨rfl, ?_⟩
        have pz1190 : at0 + tz tk2_1178 ≤ at2_1177 := by omega
        refine jx_ld (pc' := 31) (l' := L1174) (st' := [.ref 66]) rfl (jl_aloadn gL1174_0) ?_
        refine jx_ar (pc' := 33) (st' := [.int (i32 (40)), .ref 66]) rfl rfl rfl rfl ?_
        have b1191 : (-2147483648 : Int) ≤ G1175 13 ∧ G1175 13 ≤ 2147483647 := hW1179.1 13
        refine jx_vr (pc' := 36) (as := [.int (i32 (40))]) (st := []) rfl rfl rfl rfl ⟨rfl, rfl, Nat.le_of_ble_eq_true rfl⟩ rfl rfl (c_is (dd := d) (hd := by omega) (hW := hW1179) (k := 40) (tk := tk2_1178) (e_tk := show G1175 11 = tk2_1178 from (e1182)) (tn := G1175 13) (e_tn := show G1175 13 = G1175 13 from rfl)  (h_k := ⟨(by decide), (by decide)⟩)  ) (fun o V' hq => ?_)
        obtain ⟨r1192, rfl, rfl, b1193, q1194⟩ := hq
        refine .inr ⟨_, rfl, ?_⟩
        rcases q1194 with ⟨rfl, a1195, a1196, a1197⟩ | rfl
        · have _q : True := trivial
          refine jx_if_eq (pc' := 39) (tg := 59) rfl rfl rfl (by decide) (by decide) (fun h1198 => ?_) (fun h1198 => ?_)
          · have _q := h1198
            exact absurd h1198 (by omega)
          · have _q := h1198
            refine jx_ld (pc' := 40) (l' := L1174) (st' := [.int (i32 (A 7 (r1143).toNat))]) rfl (jl_iloadn gL1174_3) ?_
            refine jx_ar (pc' := 42) (st' := [.int (i32 (14)), .int (i32 (A 7 (r1143).toNat))]) rfl rfl rfl rfl ?_
            refine jx_icmp_eq (pc' := 45) (tg := 53) rfl rfl rfl (Int.le_trans (by decide : (-2147483648 : Int) ≤ 0) b1173.1) (Int.le_trans b1173.2 (by decide : (14 : Int) ≤ 2147483647)) (by decide) (by decide) (fun h1199 => ?_) (fun h1199 => ?_)
            · have _q := h1199
              refine jx_ld (pc' := 54) (l' := L1174) (st' := [.ref 66]) rfl (jl_aloadn gL1174_0) ?_
              refine jx_ld (pc' := 55) (l' := L1174) (st' := [.int (i32 (r1143)), .ref 66]) rfl (jl_iloadn gL1174_2) ?_
              have b1200 : (0 : Int) ≤ A 12 (r1143).toNat ∧ A 12 (r1143).toNat ≤ 24 := hW.2 12 _
              have b1201 : (0 : Int) ≤ A 30 (A 12 (r1143).toNat).toNat ∧ A 30 (A 12 (r1143).toNat).toNat ≤ 6 := hW.2 30 _
              have b1202 : (0 : Int) ≤ A 29 (A 12 (r1143).toNat).toNat ∧ A 29 (A 12 (r1143).toNat).toNat ≤ 202 := hW.2 29 _
              refine jx_vr (pc' := 58) (as := [.int (i32 (r1143))]) (st := []) rfl rfl rfl rfl ⟨rfl, rfl, Nat.le_of_ble_eq_true rfl⟩ rfl rfl (c_readCall_w (dd := d) (hd := by omega) (hW := hW1179) (s := r1143) (ln := ln) (e_ln := show G1175 9 = ln from ((hF1180.1 9 rfl).trans ((hF1146.1 9 rfl).trans (e_ln)))) (le := le) (e_le := show A1176 4 (ln).toNat = le from (congrFun ((hF1180.2 4 rfl).trans (hF1146.2 4 rfl)) _).trans (e_le)) (at0 := at2_1177) (e_at0 := show G1175 10 = at2_1177 from (e1181)) (fk := fk2_1144) (e_fk := show G1175 16 = fk2_1144 from ((hF1180.1 16 rfl).trans (e1148))) (op0 := op0) (e_op0 := show G1175 15 = op0 from ((hF1180.1 15 rfl).trans ((hF1146.1 15 rfl).trans (e_op0)))) (nd := nd) (e_nd := show G1175 31 = nd from ((hF1180.1 31 rfl).trans ((hF1146.1 31 rfl).trans (e_nd)))) (tk0 := tk2_1178) (e_tk0 := show G1175 11 = tk2_1178 from (e1182)) (li := li) (e_li := show G1175 3 = li from ((hF1180.1 3 rfl).trans ((hF1146.1 3 rfl).trans (e_li)))) (kd := A 7 (r1143).toNat) (e_kd := show A1176 7 (r1143).toNat = A 7 (r1143).toNat from (congrFun ((hF1180.2 7 rfl).trans (hF1146.2 7 rfl)) _)) (nu := A 12 (r1143).toNat) (e_nu := show A1176 12 (r1143).toNat = A 12 (r1143).toNat from (congrFun ((hF1180.2 12 rfl).trans (hF1146.2 12 rfl)) _)) (mp := A 30 (A 12 (r1143).toNat).toNat) (e_mp := show A1176 30 (A 12 (r1143).toNat).toNat = A 30 (A 12 (r1143).toNat).toNat from (congrFun ((hF1180.2 30 rfl).trans (hF1146.2 30 rfl)) _)) (pp := A 29 (A 12 (r1143).toNat).toNat) (e_pp := show A1176 29 (A 12 (r1143).toNat).toNat = A 29 (A 12 (r1143).toNat).toNat from (congrFun ((hF1180.2 29 rfl).trans (hF1146.2 29 rfl)) _)) (ec := ec) (e_ec := show ecn A1176 (G1175 31) = ec from ec1189) (i_SV := (SV_ext (((hF1180.1 29 rfl).trans (hF1146.1 29 rfl))) (((hF1180.2 14 rfl).trans (hF1146.2 14 rfl))) i_SV)) (i_PQ := (PQ_ext (((hF1180.2 7 rfl).trans (hF1146.2 7 rfl))) (((hF1180.2 12 rfl).trans (hF1146.2 12 rfl))) (((hF1180.2 29 rfl).trans (hF1146.2 29 rfl))) (((hF1180.2 30 rfl).trans (hF1146.2 30 rfl))) i_PQ)) (h_s := ⟨(Int.le_trans (by decide : (-2147483648 : Int) ≤ -2147483648) b1147.1), (Int.le_trans b1147.2 (by decide : (2147483647 : Int) ≤ 2147483647))⟩)  (p_0 := by omega) (p_1 := by omega) (p_2 := by omega) (p_3 := by omega) (p_4 := by omega) (p_5 := by omega) (p_6 := by omega) (p_7 := by omega) (p_8 := a1158)) (fun o V' hq => ?_)
              obtain ⟨G1203, A1204, r1205, at2_1206, fk2_1207, nd2_1208, ln2_1209, ec2_1210, rfl, rfl, hW1211, hF1212, hQ1213, b1214, e1215, e1216, e1217, e1218, e1219, p1220, p1221, p1222, p1223, p1224, q1225⟩ := hq
              have hF1226 := Fr_tr hF1187 hF1212 (Fr_sub (by decide)) (Fr_sub (by decide))
              have hP1227 := Pf_tr hP1188 hQ1213 (by omega)
              have bat2_1206 : (0 : Int) ≤ at2_1206 ∧ at2_1206 ≤ 3002 := e1215 ▸ hW1211.1 10
              have bfk2_1207 : (0 : Int) ≤ fk2_1207 ∧ fk2_1207 ≤ 6 := e1216 ▸ hW1211.1 16
              have bnd2_1208 : (0 : Int) ≤ nd2_1208 ∧ nd2_1208 ≤ 6999 := e1217 ▸ hW1211.1 31
              have bln2_1209 : (0 : Int) ≤ ln2_1209 ∧ ln2_1209 ≤ 3000 := e1218 ▸ hW1211.1 9
              refine .inr ⟨_, rfl, ?_⟩
              rcases q1225 with ⟨a1228, a1229, a1230⟩ | ⟨a1231, a1232, a1233, a1234, a1235, a1236, a1237, a1238⟩
              · have _q : True := trivial
                refine jx_rt (v := some (.int (i32 (r1205)))) rfl rfl rfl rfl rfl rfl ?_
                exact ⟨_, _, _, at2_1206, fk2_1207, nd2_1208, ln2_1209, ec2_1210, rfl, rfl, hW1211, hF1226, hP1227, by omega, (e1215), (e1216), (e1217), (e1218), e1219, by omega, by omega, by omega, by omega, by omega, by first | exact Or.inl (⟨by omega, by omega, by omega⟩)⟩
              · have _q : True := trivial
                refine jx_rt (v := some (.int (i32 (r1205)))) rfl rfl rfl rfl rfl rfl ?_
                exact ⟨_, _, _, at2_1206, fk2_1207, nd2_1208, ln2_1209, ec2_1210, rfl, rfl, hW1211, hF1226, hP1227, by omega, (e1215), (e1216), (e1217), (e1218), e1219, by omega, by omega, by omega, by omega, by omega, by first | exact Or.inr ((⟨by omega, by omega, by omega, by omega, by omega, a1236, a1237, by omega⟩))⟩
            · have _q := h1199
              refine jx_ld (pc' := 46) (l' := L1174) (st' := [.ref 66]) rfl (jl_aloadn gL1174_0) ?_
              refine jx_ar (pc' := 47) (st' := [.int (i32 (4)), .ref 66]) rfl rfl rfl rfl ?_
              refine jx_ld (pc' := 48) (l' := L1174) (st' := [.int (i32 (G 12)), .int (i32 (4)), .ref 66]) rfl (jl_iloadn gL1174_1) ?_
              refine jx_vr (pc' := 51) (as := [.int (i32 (4)), .int (i32 (G 12))]) (st := []) rfl rfl rfl rfl ⟨rfl, rfl, Nat.le_of_ble_eq_true rfl⟩ rfl rfl (c_fail (dd := d) (hd := by omega) (hW := hW1179) (kind := 4) (place := G 12) (fk := fk2_1144) (e_fk := show G1175 16 = fk2_1144 from ((hF1180.1 16 rfl).trans (e1148)))  (h_kind := ⟨(by decide), (by decide)⟩) (h_place := ⟨(Int.le_trans (by decide : (-2147483648 : Int) ≤ -3000) b1139.1), (Int.le_trans b1139.2 (by decide : (3002 : Int) ≤ 2147483647))⟩)  (p_0 := by omega) (p_1 := by omega)) (fun o V' hq => ?_)
              obtain ⟨G1239, A1240, fk2_1241, rfl, rfl, hW1242, hF1243, e1244, p1245, -⟩ := hq
              have hF1247 := Fr_tr hF1187 hF1243 (Fr_sub (by decide)) (Fr_sub (by decide))
              have hP1248 := Pf_f hP1188 hF1243 (by decide)
              have ec1249 : ecn A1240 (G1239 31) = ec := (ecn_f (hF1243.2 15 rfl) (hF1243.1 31 rfl)).trans ec1189
              have bfk2_1241 : (0 : Int) ≤ fk2_1241 ∧ fk2_1241 ≤ 6 := e1244 ▸ hW1242.1 16
              refine .inl ⟨rfl, ?_⟩
              refine jx_ar (pc' := 52) (st' := [.int (i32 (0))]) rfl rfl rfl rfl ?_
              refine jx_rt (v := some (.int (i32 (0)))) rfl rfl rfl rfl rfl rfl ?_
              exact ⟨_, _, _, at2_1177, fk2_1241, nd, ln, ec, rfl, rfl, hW1242, hF1247, hP1248, by omega, ((hF1243.1 10 rfl).trans (e1181)), (e1244), ((hF1243.1 31 rfl).trans ((hF1180.1 31 rfl).trans ((hF1146.1 31 rfl).trans (e_nd)))), ((hF1243.1 9 rfl).trans ((hF1180.1 9 rfl).trans ((hF1146.1 9 rfl).trans (e_ln)))), ec1249, by omega, by omega, by omega, by omega, by omega, by first | exact Or.inl (⟨by omega, by omega, by omega⟩)⟩
        · have _q : True := trivial
          refine jx_if_eq (pc' := 39) (tg := 59) rfl rfl rfl (by decide) (by decide) (fun h1250 => ?_) (fun h1250 => ?_)
          · have _q := h1250
            refine jx_ar (pc' := 60) (st' := [.int (i32 (0))]) rfl rfl rfl rfl ?_
            refine jx_ld (pc' := 62) (l' := jSto1 L1174 4 (.int (i32 (0)))) (st' := []) rfl rfl ?_
            obtain ⟨L1251, eL1251⟩ : ∃ q, q = jSto1 L1174 4 (.int (i32 (0))) := ⟨_, rfl⟩
            rw [← eL1251]
            have gL1251_0 : jGet L1251 0 = some (.ref 66) := eL1251 ▸ jg_ne (by decide) gL1174_0 rfl
            have gL1251_1 : jGet L1251 1 = some (.int (i32 (G 12))) := eL1251 ▸ jg_ne (by decide) gL1174_1 rfl
            have gL1251_2 : jGet L1251 2 = some (.int (i32 (r1143))) := eL1251 ▸ jg_ne (by decide) gL1174_2 rfl
            have gL1251_3 : jGet L1251 3 = some (.int (i32 (A 7 (r1143).toNat))) := eL1251 ▸ jg_ne (by decide) gL1174_3 rfl
            have gL1251_4 : jGet L1251 4 = some (.int (i32 (0))) := eL1251 ▸ jg_eq
            refine jx_ld (pc' := 63) (l' := L1251) (st' := [.ref 66]) rfl (jl_aloadn gL1251_0) ?_
            refine jx_ar (pc' := 65) (st' := [.int (i32 (91)), .ref 66]) rfl rfl rfl rfl ?_
            refine jx_vr (pc' := 68) (as := [.int (i32 (91))]) (st := []) rfl rfl rfl rfl ⟨rfl, rfl, Nat.le_of_ble_eq_true rfl⟩ rfl rfl (c_is (dd := d) (hd := by omega) (hW := hW1179) (k := 91) (tk := tk2_1178) (e_tk := show G1175 11 = tk2_1178 from (e1182)) (tn := G1175 13) (e_tn := show G1175 13 = G1175 13 from rfl)  (h_k := ⟨(by decide), (by decide)⟩)  ) (fun o V' hq => ?_)
            obtain ⟨r1252, rfl, rfl, b1253, q1254⟩ := hq
            refine .inr ⟨_, rfl, ?_⟩
            rcases q1254 with ⟨rfl, a1255, a1256, a1257⟩ | rfl
            · have _q : True := trivial
              refine jx_ld (pc' := 70) (l' := jSto1 L1251 5 (.int (i32 (1)))) (st' := []) rfl rfl ?_
              obtain ⟨L1258, eL1258⟩ : ∃ q, q = jSto1 L1251 5 (.int (i32 (1))) := ⟨_, rfl⟩
              rw [← eL1258]
              have gL1258_0 : jGet L1258 0 = some (.ref 66) := eL1258 ▸ jg_ne (by decide) gL1251_0 rfl
              have gL1258_1 : jGet L1258 1 = some (.int (i32 (G 12))) := eL1258 ▸ jg_ne (by decide) gL1251_1 rfl
              have gL1258_2 : jGet L1258 2 = some (.int (i32 (r1143))) := eL1258 ▸ jg_ne (by decide) gL1251_2 rfl
              have gL1258_3 : jGet L1258 3 = some (.int (i32 (A 7 (r1143).toNat))) := eL1258 ▸ jg_ne (by decide) gL1251_3 rfl
              have gL1258_4 : jGet L1258 4 = some (.int (i32 (0))) := eL1258 ▸ jg_ne (by decide) gL1251_4 rfl
              have gL1258_5 : jGet L1258 5 = some (.int (i32 (1))) := eL1258 ▸ jg_eq
              refine jx_ld (pc' := 72) (l' := L1258) (st' := [.int (i32 (1))]) rfl (jl_iload gL1258_5) ?_
              refine jx_if_eq (pc' := 75) (tg := 110) rfl rfl rfl (by decide) (by decide) (fun h1259 => ?_) (fun h1259 => ?_)
              · have _q := h1259
                exact absurd h1259 (by omega)
              · have _q := h1259
                refine jx_ld (pc' := 76) (l' := L1258) (st' := [.int (i32 (A 7 (r1143).toNat))]) rfl (jl_iloadn gL1258_3) ?_
                refine jx_st (pc' := 79) (as := [.int (i32 (A 7 (r1143).toNat))]) (st := []) rfl rfl ⟨rfl, Nat.le_of_ble_eq_true rfl⟩ rfl rfl rfl (c_isArray (dd := d) (hd := by omega) (k := A 7 (r1143).toNat)   (h_k := ⟨(Int.le_trans (by decide : (-2147483648 : Int) ≤ 0) b1173.1), (Int.le_trans b1173.2 (by decide : (14 : Int) ≤ 2147483647))⟩)  ) (fun o V' hq => ?_)
                obtain ⟨r1260, rfl, rfl, b1261, q1262⟩ := hq
                refine .inr ⟨_, rfl, ?_⟩
                rcases q1262 with ⟨rfl, a1263⟩ | rfl
                · have _q : True := trivial
                  refine jx_if_ne (pc' := 82) (tg := 95) rfl rfl rfl (by decide) (by decide) (fun h1264 => ?_) (fun h1264 => ?_)
                  · have _q := h1264
                    refine jx_ld (pc' := 96) (l' := L1258) (st' := [.ref 66]) rfl (jl_aloadn gL1258_0) ?_
                    refine jx_vr (pc' := 99) (as := []) (st := []) rfl rfl rfl rfl ⟨rfl, rfl, Nat.le_of_ble_eq_true rfl⟩ rfl rfl (c_readIndex_w (dd := d) (k := 9) (hE := REw_all X 9) (hd := by omega) (hW := hW1179)  (ln := ln) (e_ln := show G1175 9 = ln from ((hF1180.1 9 rfl).trans ((hF1146.1 9 rfl).trans (e_ln)))) (le := le) (e_le := show A1176 4 (ln).toNat = le from (congrFun ((hF1180.2 4 rfl).trans (hF1146.2 4 rfl)) _).trans (e_le)) (at0 := at2_1177) (e_at0 := show G1175 10 = at2_1177 from (e1181)) (fk := fk2_1144) (e_fk := show G1175 16 = fk2_1144 from ((hF1180.1 16 rfl).trans (e1148))) (op0 := op0) (e_op0 := show G1175 15 = op0 from ((hF1180.1 15 rfl).trans ((hF1146.1 15 rfl).trans (e_op0)))) (nd := nd) (e_nd := show G1175 31 = nd from ((hF1180.1 31 rfl).trans ((hF1146.1 31 rfl).trans (e_nd)))) (tk0 := tk2_1178) (e_tk0 := show G1175 11 = tk2_1178 from (e1182)) (ec := ec) (e_ec := show ecn A1176 (G1175 31) = ec from ec1189) (i_SV := (SV_ext (((hF1180.1 29 rfl).trans (hF1146.1 29 rfl))) (((hF1180.2 14 rfl).trans (hF1146.2 14 rfl))) i_SV))   (p_0 := by omega) (p_1 := by omega) (p_2 := by omega) (p_3 := by omega) (p_4 := by omega) (p_5 := by omega) (p_6 := by omega) (p_7 := by omega) (p_8 := by omega)) (fun o V' hq => ?_)
                    obtain ⟨G1265, A1266, r1267, at2_1268, fk2_1269, op2_1270, nd2_1271, tk2_1272, ec2_1273, rfl, rfl, hW1274, hF1275, hQ1276, b1277, e1278, e1279, e1280, e1281, e1282, e1283, p1284, p1285, p1286, p1287, p1288, p1289, q1290⟩ := hq
                    have hF1291 := Fr_tr hF1187 hF1275 (Fr_sub (by decide)) (Fr_sub (by decide))
                    have hP1292 := Pf_tr hP1188 hQ1276 (by omega)
                    have bat2_1268 : (0 : Int) ≤ at2_1268 ∧ at2_1268 ≤ 3002 := e1278 ▸ hW1274.1 10
                    have bfk2_1269 : (0 : Int) ≤ fk2_1269 ∧ fk2_1269 ≤ 6 := e1279 ▸ hW1274.1 16
                    have bop2_1270 : (-2147483648 : Int) ≤ op2_1270 ∧ op2_1270 ≤ 2147483647 := e1280 ▸ hW1274.1 15
                    have bnd2_1271 : (0 : Int) ≤ nd2_1271 ∧ nd2_1271 ≤ 6999 := e1281 ▸ hW1274.1 31
                    have ztk2_1272 := tz_b tk2_1272
                    have btk2_1272 : (0 : Int) ≤ tk2_1272 ∧ tk2_1272 ≤ 5 := e1282 ▸ hW1274.1 11
                    refine .inr ⟨_, rfl, ?_⟩
                    rcases q1290 with ⟨a1293, a1294, a1295⟩ | ⟨a1296, a1297, a1298, a1299, a1300⟩
                    · have _q : True := trivial
                      refine jx_ld (pc' := 101) (l' := jSto1 L1258 4 (.int (i32 (r1267)))) (st' := []) rfl rfl ?_
                      obtain ⟨L1301, eL1301⟩ : ∃ q, q = jSto1 L1258 4 (.int (i32 (r1267))) := ⟨_, rfl⟩
                      rw [← eL1301]
                      have gL1301_0 : jGet L1301 0 = some (.ref 66) := eL1301 ▸ jg_ne (by decide) gL1258_0 rfl
                      have gL1301_1 : jGet L1301 1 = some (.int (i32 (G 12))) := eL1301 ▸ jg_ne (by decide) gL1258_1 rfl
                      have gL1301_2 : jGet L1301 2 = some (.int (i32 (r1143))) := eL1301 ▸ jg_ne (by decide) gL1258_2 rfl
                      have gL1301_3 : jGet L1301 3 = some (.int (i32 (A 7 (r1143).toNat))) := eL1301 ▸ jg_ne (by decide) gL1258_3 rfl
                      have gL1301_5 : jGet L1301 5 = some (.int (i32 (1))) := eL1301 ▸ jg_ne (by decide) gL1258_5 rfl
                      have gL1301_4 : jGet L1301 4 = some (.int (i32 (r1267))) := eL1301 ▸ jg_eq
                      refine jx_ld (pc' := 102) (l' := L1301) (st' := [.ref 66]) rfl (jl_aloadn gL1301_0) ?_
                      refine jx_vr (pc' := 105) (as := []) (st := []) rfl rfl rfl rfl ⟨rfl, rfl, Nat.le_of_ble_eq_true rfl⟩ rfl rfl (c_bad (dd := d) (hd := by omega) (hW := hW1274)  (fk := fk2_1269) (e_fk := show G1265 16 = fk2_1269 from (e1279))    ) (fun o V' hq => ?_)
                      obtain ⟨r1302, rfl, rfl, b1303, q1304⟩ := hq
                      refine .inr ⟨_, rfl, ?_⟩
                      rcases q1304 with ⟨rfl, a1305⟩ | ⟨rfl, a1306⟩
                      · have _q : True := trivial
                        refine jx_if_eq (pc' := 108) (tg := 110) rfl rfl rfl (by decide) (by decide) (fun h1307 => ?_) (fun h1307 => ?_)
                        · have _q := h1307
                          exact absurd h1307 (by omega)
                        · have _q := h1307
                          refine jx_ar (pc' := 109) (st' := [.int (i32 (0))]) rfl rfl rfl rfl ?_
                          refine jx_rt (v := some (.int (i32 (0)))) rfl rfl rfl rfl rfl rfl ?_
                          exact ⟨_, _, _, at2_1268, fk2_1269, nd2_1271, ln, ec2_1273, rfl, rfl, hW1274, hF1291, hP1292, by omega, (e1278), (e1279), (e1281), ((hF1275.1 9 rfl).trans ((hF1180.1 9 rfl).trans ((hF1146.1 9 rfl).trans (e_ln)))), e1283, by omega, by omega, by omega, by omega, by omega, by first | exact Or.inl (⟨by omega, by omega, by omega⟩)⟩
                      · have _q : True := trivial
                        exfalso
                        omega
                    · have _q : True := trivial
                      refine jx_ld (pc' := 101) (l' := jSto1 L1258 4 (.int (i32 (r1267)))) (st' := []) rfl rfl ?_
                      obtain ⟨L1308, eL1308⟩ : ∃ q, q = jSto1 L1258 4 (.int (i32 (r1267))) := ⟨_, rfl⟩
                      rw [← eL1308]
                      have gL1308_0 : jGet L1308 0 = some (.ref 66) := eL1308 ▸ jg_ne (by decide) gL1258_0 rfl
                      have gL1308_1 : jGet L1308 1 = some (.int (i32 (G 12))) := eL1308 ▸ jg_ne (by decide) gL1258_1 rfl
                      have gL1308_2 : jGet L1308 2 = some (.int (i32 (r1143))) := eL1308 ▸ jg_ne (by decide) gL1258_2 rfl
                      have gL1308_3 : jGet L1308 3 = some (.int (i32 (A 7 (r1143).toNat))) := eL1308 ▸ jg_ne (by decide) gL1258_3 rfl
                      have gL1308_5 : jGet L1308 5 = some (.int (i32 (1))) := eL1308 ▸ jg_ne (by decide) gL1258_5 rfl
                      have gL1308_4 : jGet L1308 4 = some (.int (i32 (r1267))) := eL1308 ▸ jg_eq
                      refine jx_ld (pc' := 102) (l' := L1308) (st' := [.ref 66]) rfl (jl_aloadn gL1308_0) ?_
                      refine jx_vr (pc' := 105) (as := []) (st := []) rfl rfl rfl rfl ⟨rfl, rfl, Nat.le_of_ble_eq_true rfl⟩ rfl rfl (c_bad (dd := d) (hd := by omega) (hW := hW1274)  (fk := fk2_1269) (e_fk := show G1265 16 = fk2_1269 from (e1279))    ) (fun o V' hq => ?_)
                      obtain ⟨r1309, rfl, rfl, b1310, q1311⟩ := hq
                      refine .inr ⟨_, rfl, ?_⟩
                      rcases q1311 with ⟨rfl, a1312⟩ | ⟨rfl, a1313⟩
                      · have _q : True := trivial
                        exfalso
                        omega
                      · have _q : True := trivial
                        refine jx_if_eq (pc' := 108) (tg := 110) rfl rfl rfl (by decide) (by decide) (fun h1314 => ?_) (fun h1314 => ?_)
                        · have _q := h1314
                          have z1315 := tz_f (tk2_1272)
                          exact c_readNamed_w_at_110_1 (X := X) (d := d) (Vs := Vs) (sb := sb) (pb := pb) (c0 := c0) (c1 := c1) (G := G) (A := A) (T := T) (ln := ln) (le := le) (at0 := at0) (fk := fk) (op0 := op0) (nd := nd) (tk0 := tk0) (li := li) (ec := ec) (hd := hd) (hW := hW) (e_ln := e_ln) (e_le := e_le) (e_at0 := e_at0) (e_fk := e_fk) (e_op0 := e_op0) (e_nd := e_nd) (e_tk0 := e_tk0) (e_li := e_li) (e_ec := e_ec) (i_SV := i_SV) (i_PQ := i_PQ) (p_0 := p_0) (p_1 := p_1) (p_2 := p_2) (p_3 := p_3) (p_4 := p_4) (p_5 := p_5) L1308 G1265 A1266 (G 12) (r1143) (r1267) (at2_1268) (tk2_1272) (fk2_1269) (nd2_1271) (op2_1270) (A 7 (r1143).toNat) (ec2_1273) gL1308_0 gL1308_5 gL1308_3 gL1308_1 gL1308_2 gL1308_4 hW1274 hF1291 hP1292 ((e1278)) ((e1282)) ((e1279)) ((e1281)) ((e1280)) ((congrFun ((hF1275.2 7 rfl).trans ((hF1180.2 7 rfl).trans (hF1146.2 7 rfl))) _)) (e1283) (((hF1275.1 9 rfl).trans ((hF1180.1 9 rfl).trans ((hF1146.1 9 rfl).trans (e_ln))))) (by omega) (by omega) (by omega) (by omega) (by omega) (by omega) (by omega) (by omega) (by omega) (by omega) (by omega) (a1158) ((wE_mono (by omega) (by omega) (by omega) a1299)) (by omega)
                        · have _q := h1314
                          exact absurd h1314 (by omega)
                  · have _q := h1264
                    exact absurd h1264 (by omega)
                · have _q : True := trivial
                  refine jx_if_ne (pc' := 82) (tg := 95) rfl rfl rfl (by decide) (by decide) (fun h1316 => ?_) (fun h1316 => ?_)
                  · have _q := h1316
                    exact absurd h1316 (by omega)
                  · have _q := h1316
                    refine jx_ld (pc' := 83) (l' := L1258) (st' := [.int (i32 (A 7 (r1143).toNat))]) rfl (jl_iloadn gL1258_3) ?_
                    refine jx_ar (pc' := 84) (st' := [.int (i32 (4)), .int (i32 (A 7 (r1143).toNat))]) rfl rfl rfl rfl ?_
                    refine jx_icmp_eq (pc' := 87) (tg := 95) rfl rfl rfl (Int.le_trans (by decide : (-2147483648 : Int) ≤ 0) b1173.1) (Int.le_trans b1173.2 (by decide : (14 : Int) ≤ 2147483647)) (by decide) (by decide) (fun h1317 => ?_) (fun h1317 => ?_)
                    · have _q := h1317
                      refine jx_ld (pc' := 96) (l' := L1258) (st' := [.ref 66]) rfl (jl_aloadn gL1258_0) ?_
                      refine jx_vr (pc' := 99) (as := []) (st := []) rfl rfl rfl rfl ⟨rfl, rfl, Nat.le_of_ble_eq_true rfl⟩ rfl rfl (c_readIndex_w (dd := d) (k := 9) (hE := REw_all X 9) (hd := by omega) (hW := hW1179)  (ln := ln) (e_ln := show G1175 9 = ln from ((hF1180.1 9 rfl).trans ((hF1146.1 9 rfl).trans (e_ln)))) (le := le) (e_le := show A1176 4 (ln).toNat = le from (congrFun ((hF1180.2 4 rfl).trans (hF1146.2 4 rfl)) _).trans (e_le)) (at0 := at2_1177) (e_at0 := show G1175 10 = at2_1177 from (e1181)) (fk := fk2_1144) (e_fk := show G1175 16 = fk2_1144 from ((hF1180.1 16 rfl).trans (e1148))) (op0 := op0) (e_op0 := show G1175 15 = op0 from ((hF1180.1 15 rfl).trans ((hF1146.1 15 rfl).trans (e_op0)))) (nd := nd) (e_nd := show G1175 31 = nd from ((hF1180.1 31 rfl).trans ((hF1146.1 31 rfl).trans (e_nd)))) (tk0 := tk2_1178) (e_tk0 := show G1175 11 = tk2_1178 from (e1182)) (ec := ec) (e_ec := show ecn A1176 (G1175 31) = ec from ec1189) (i_SV := (SV_ext (((hF1180.1 29 rfl).trans (hF1146.1 29 rfl))) (((hF1180.2 14 rfl).trans (hF1146.2 14 rfl))) i_SV))   (p_0 := by omega) (p_1 := by omega) (p_2 := by omega) (p_3 := by omega) (p_4 := by omega) (p_5 := by omega) (p_6 := by omega) (p_7 := by omega) (p_8 := by omega)) (fun o V' hq => ?_)
                      obtain ⟨G1318, A1319, r1320, at2_1321, fk2_1322, op2_1323, nd2_1324, tk2_1325, ec2_1326, rfl, rfl, hW1327, hF1328, hQ1329, b1330, e1331, e1332, e1333, e1334, e1335, e1336, p1337, p1338, p1339, p1340, p1341, p1342, q1343⟩ := hq
                      have hF1344 := Fr_tr hF1187 hF1328 (Fr_sub (by decide)) (Fr_sub (by decide))
                      have hP1345 := Pf_tr hP1188 hQ1329 (by omega)
                      have bat2_1321 : (0 : Int) ≤ at2_1321 ∧ at2_1321 ≤ 3002 := e1331 ▸ hW1327.1 10
                      have bfk2_1322 : (0 : Int) ≤ fk2_1322 ∧ fk2_1322 ≤ 6 := e1332 ▸ hW1327.1 16
                      have bop2_1323 : (-2147483648 : Int) ≤ op2_1323 ∧ op2_1323 ≤ 2147483647 := e1333 ▸ hW1327.1 15
                      have bnd2_1324 : (0 : Int) ≤ nd2_1324 ∧ nd2_1324 ≤ 6999 := e1334 ▸ hW1327.1 31
                      have ztk2_1325 := tz_b tk2_1325
                      have btk2_1325 : (0 : Int) ≤ tk2_1325 ∧ tk2_1325 ≤ 5 := e1335 ▸ hW1327.1 11
                      refine .inr ⟨_, rfl, ?_⟩
                      rcases q1343 with ⟨a1346, a1347, a1348⟩ | ⟨a1349, a1350, a1351, a1352, a1353⟩
                      · have _q : True := trivial
                        refine jx_ld (pc' := 101) (l' := jSto1 L1258 4 (.int (i32 (r1320)))) (st' := []) rfl rfl ?_
                        obtain ⟨L1354, eL1354⟩ : ∃ q, q = jSto1 L1258 4 (.int (i32 (r1320))) := ⟨_, rfl⟩
                        rw [← eL1354]
                        have gL1354_0 : jGet L1354 0 = some (.ref 66) := eL1354 ▸ jg_ne (by decide) gL1258_0 rfl
                        have gL1354_1 : jGet L1354 1 = some (.int (i32 (G 12))) := eL1354 ▸ jg_ne (by decide) gL1258_1 rfl
                        have gL1354_2 : jGet L1354 2 = some (.int (i32 (r1143))) := eL1354 ▸ jg_ne (by decide) gL1258_2 rfl
                        have gL1354_3 : jGet L1354 3 = some (.int (i32 (A 7 (r1143).toNat))) := eL1354 ▸ jg_ne (by decide) gL1258_3 rfl
                        have gL1354_5 : jGet L1354 5 = some (.int (i32 (1))) := eL1354 ▸ jg_ne (by decide) gL1258_5 rfl
                        have gL1354_4 : jGet L1354 4 = some (.int (i32 (r1320))) := eL1354 ▸ jg_eq
                        refine jx_ld (pc' := 102) (l' := L1354) (st' := [.ref 66]) rfl (jl_aloadn gL1354_0) ?_
                        refine jx_vr (pc' := 105) (as := []) (st := []) rfl rfl rfl rfl ⟨rfl, rfl, Nat.le_of_ble_eq_true rfl⟩ rfl rfl (c_bad (dd := d) (hd := by omega) (hW := hW1327)  (fk := fk2_1322) (e_fk := show G1318 16 = fk2_1322 from (e1332))    ) (fun o V' hq => ?_)
                        obtain ⟨r1355, rfl, rfl, b1356, q1357⟩ := hq
                        refine .inr ⟨_, rfl, ?_⟩
                        rcases q1357 with ⟨rfl, a1358⟩ | ⟨rfl, a1359⟩
                        · have _q : True := trivial
                          refine jx_if_eq (pc' := 108) (tg := 110) rfl rfl rfl (by decide) (by decide) (fun h1360 => ?_) (fun h1360 => ?_)
                          · have _q := h1360
                            exact absurd h1360 (by omega)
                          · have _q := h1360
                            refine jx_ar (pc' := 109) (st' := [.int (i32 (0))]) rfl rfl rfl rfl ?_
                            refine jx_rt (v := some (.int (i32 (0)))) rfl rfl rfl rfl rfl rfl ?_
                            exact ⟨_, _, _, at2_1321, fk2_1322, nd2_1324, ln, ec2_1326, rfl, rfl, hW1327, hF1344, hP1345, by omega, (e1331), (e1332), (e1334), ((hF1328.1 9 rfl).trans ((hF1180.1 9 rfl).trans ((hF1146.1 9 rfl).trans (e_ln)))), e1336, by omega, by omega, by omega, by omega, by omega, by first | exact Or.inl (⟨by omega, by omega, by omega⟩)⟩
                        · have _q : True := trivial
                          exfalso
                          omega
                      · have _q : True := trivial
                        refine jx_ld (pc' := 101) (l' := jSto1 L1258 4 (.int (i32 (r1320)))) (st' := []) rfl rfl ?_
                        obtain ⟨L1361, eL1361⟩ : ∃ q, q = jSto1 L1258 4 (.int (i32 (r1320))) := ⟨_, rfl⟩
                        rw [← eL1361]
                        have gL1361_0 : jGet L1361 0 = some (.ref 66) := eL1361 ▸ jg_ne (by decide) gL1258_0 rfl
                        have gL1361_1 : jGet L1361 1 = some (.int (i32 (G 12))) := eL1361 ▸ jg_ne (by decide) gL1258_1 rfl
                        have gL1361_2 : jGet L1361 2 = some (.int (i32 (r1143))) := eL1361 ▸ jg_ne (by decide) gL1258_2 rfl
                        have gL1361_3 : jGet L1361 3 = some (.int (i32 (A 7 (r1143).toNat))) := eL1361 ▸ jg_ne (by decide) gL1258_3 rfl
                        have gL1361_5 : jGet L1361 5 = some (.int (i32 (1))) := eL1361 ▸ jg_ne (by decide) gL1258_5 rfl
                        have gL1361_4 : jGet L1361 4 = some (.int (i32 (r1320))) := eL1361 ▸ jg_eq
                        refine jx_ld (pc' := 102) (l' := L1361) (st' := [.ref 66]) rfl (jl_aloadn gL1361_0) ?_
                        refine jx_vr (pc' := 105) (as := []) (st := []) rfl rfl rfl rfl ⟨rfl, rfl, Nat.le_of_ble_eq_true rfl⟩ rfl rfl (c_bad (dd := d) (hd := by omega) (hW := hW1327)  (fk := fk2_1322) (e_fk := show G1318 16 = fk2_1322 from (e1332))    ) (fun o V' hq => ?_)
                        obtain ⟨r1362, rfl, rfl, b1363, q1364⟩ := hq
                        refine .inr ⟨_, rfl, ?_⟩
                        rcases q1364 with ⟨rfl, a1365⟩ | ⟨rfl, a1366⟩
                        · have _q : True := trivial
                          exfalso
                          omega
                        · have _q : True := trivial
                          refine jx_if_eq (pc' := 108) (tg := 110) rfl rfl rfl (by decide) (by decide) (fun h1367 => ?_) (fun h1367 => ?_)
                          · have _q := h1367
                            have z1368 := tz_f (tk2_1325)
                            exact c_readNamed_w_at_110_1 (X := X) (d := d) (Vs := Vs) (sb := sb) (pb := pb) (c0 := c0) (c1 := c1) (G := G) (A := A) (T := T) (ln := ln) (le := le) (at0 := at0) (fk := fk) (op0 := op0) (nd := nd) (tk0 := tk0) (li := li) (ec := ec) (hd := hd) (hW := hW) (e_ln := e_ln) (e_le := e_le) (e_at0 := e_at0) (e_fk := e_fk) (e_op0 := e_op0) (e_nd := e_nd) (e_tk0 := e_tk0) (e_li := e_li) (e_ec := e_ec) (i_SV := i_SV) (i_PQ := i_PQ) (p_0 := p_0) (p_1 := p_1) (p_2 := p_2) (p_3 := p_3) (p_4 := p_4) (p_5 := p_5) L1361 G1318 A1319 (G 12) (r1143) (r1320) (at2_1321) (tk2_1325) (fk2_1322) (nd2_1324) (op2_1323) (A 7 (r1143).toNat) (ec2_1326) gL1361_0 gL1361_5 gL1361_3 gL1361_1 gL1361_2 gL1361_4 hW1327 hF1344 hP1345 ((e1331)) ((e1335)) ((e1332)) ((e1334)) ((e1333)) ((congrFun ((hF1328.2 7 rfl).trans ((hF1180.2 7 rfl).trans (hF1146.2 7 rfl))) _)) (e1336) (((hF1328.1 9 rfl).trans ((hF1180.1 9 rfl).trans ((hF1146.1 9 rfl).trans (e_ln))))) (by omega) (by omega) (by omega) (by omega) (by omega) (by omega) (by omega) (by omega) (by omega) (by omega) (by omega) (a1158) ((wE_mono (by omega) (by omega) (by omega) a1352)) (by omega)
                          · have _q := h1367
                            exact absurd h1367 (by omega)
                    · have _q := h1317
                      refine jx_ld (pc' := 88) (l' := L1258) (st' := [.ref 66]) rfl (jl_aloadn gL1258_0) ?_
                      refine jx_ar (pc' := 89) (st' := [.int (i32 (4)), .ref 66]) rfl rfl rfl rfl ?_
                      refine jx_ld (pc' := 90) (l' := L1258) (st' := [.int (i32 (G 12)), .int (i32 (4)), .ref 66]) rfl (jl_iloadn gL1258_1) ?_
                      refine jx_vr (pc' := 93) (as := [.int (i32 (4)), .int (i32 (G 12))]) (st := []) rfl rfl rfl rfl ⟨rfl, rfl, Nat.le_of_ble_eq_true rfl⟩ rfl rfl (c_fail (dd := d) (hd := by omega) (hW := hW1179) (kind := 4) (place := G 12) (fk := fk2_1144) (e_fk := show G1175 16 = fk2_1144 from ((hF1180.1 16 rfl).trans (e1148)))  (h_kind := ⟨(by decide), (by decide)⟩) (h_place := ⟨(Int.le_trans (by decide : (-2147483648 : Int) ≤ -3000) b1139.1), (Int.le_trans b1139.2 (by decide : (3002 : Int) ≤ 2147483647))⟩)  (p_0 := by omega) (p_1 := by omega)) (fun o V' hq => ?_)
                      obtain ⟨G1369, A1370, fk2_1371, rfl, rfl, hW1372, hF1373, e1374, p1375, -⟩ := hq
                      have hF1377 := Fr_tr hF1187 hF1373 (Fr_sub (by decide)) (Fr_sub (by decide))
                      have hP1378 := Pf_f hP1188 hF1373 (by decide)
                      have ec1379 : ecn A1370 (G1369 31) = ec := (ecn_f (hF1373.2 15 rfl) (hF1373.1 31 rfl)).trans ec1189
                      have bfk2_1371 : (0 : Int) ≤ fk2_1371 ∧ fk2_1371 ≤ 6 := e1374 ▸ hW1372.1 16
                      refine .inl ⟨rfl, ?_⟩
                      refine jx_ar (pc' := 94) (st' := [.int (i32 (0))]) rfl rfl rfl rfl ?_
                      refine jx_rt (v := some (.int (i32 (0)))) rfl rfl rfl rfl rfl rfl ?_
                      exact ⟨_, _, _, at2_1177, fk2_1371, nd, ln, ec, rfl, rfl, hW1372, hF1377, hP1378, by omega, ((hF1373.1 10 rfl).trans (e1181)), (e1374), ((hF1373.1 31 rfl).trans ((hF1180.1 31 rfl).trans ((hF1146.1 31 rfl).trans (e_nd)))), ((hF1373.1 9 rfl).trans ((hF1180.1 9 rfl).trans ((hF1146.1 9 rfl).trans (e_ln)))), ec1379, by omega, by omega, by omega, by omega, by omega, by first | exact Or.inl (⟨by omega, by omega, by omega⟩)⟩
            · have _q : True := trivial
              refine jx_ld (pc' := 70) (l' := jSto1 L1251 5 (.int (i32 (0)))) (st' := []) rfl rfl ?_
              obtain ⟨L1380, eL1380⟩ : ∃ q, q = jSto1 L1251 5 (.int (i32 (0))) := ⟨_, rfl⟩
              rw [← eL1380]
              have gL1380_0 : jGet L1380 0 = some (.ref 66) := eL1380 ▸ jg_ne (by decide) gL1251_0 rfl
              have gL1380_1 : jGet L1380 1 = some (.int (i32 (G 12))) := eL1380 ▸ jg_ne (by decide) gL1251_1 rfl
              have gL1380_2 : jGet L1380 2 = some (.int (i32 (r1143))) := eL1380 ▸ jg_ne (by decide) gL1251_2 rfl
              have gL1380_3 : jGet L1380 3 = some (.int (i32 (A 7 (r1143).toNat))) := eL1380 ▸ jg_ne (by decide) gL1251_3 rfl
              have gL1380_4 : jGet L1380 4 = some (.int (i32 (0))) := eL1380 ▸ jg_ne (by decide) gL1251_4 rfl
              have gL1380_5 : jGet L1380 5 = some (.int (i32 (0))) := eL1380 ▸ jg_eq
              refine jx_ld (pc' := 72) (l' := L1380) (st' := [.int (i32 (0))]) rfl (jl_iload gL1380_5) ?_
              refine jx_if_eq (pc' := 75) (tg := 110) rfl rfl rfl (by decide) (by decide) (fun h1381 => ?_) (fun h1381 => ?_)
              · have _q := h1381
                have z1382 := tz_f (tk2_1178)
                exact c_readNamed_w_at_110_0 (X := X) (d := d) (Vs := Vs) (sb := sb) (pb := pb) (c0 := c0) (c1 := c1) (G := G) (A := A) (T := T) (ln := ln) (le := le) (at0 := at0) (fk := fk) (op0 := op0) (nd := nd) (tk0 := tk0) (li := li) (ec := ec) (hd := hd) (hW := hW) (e_ln := e_ln) (e_le := e_le) (e_at0 := e_at0) (e_fk := e_fk) (e_op0 := e_op0) (e_nd := e_nd) (e_tk0 := e_tk0) (e_li := e_li) (e_ec := e_ec) (i_SV := i_SV) (i_PQ := i_PQ) (p_0 := p_0) (p_1 := p_1) (p_2 := p_2) (p_3 := p_3) (p_4 := p_4) (p_5 := p_5) L1380 G1175 A1176 (G 12) (r1143) (at2_1177) (tk2_1178) (fk2_1144) (nd) (op0) (A 7 (r1143).toNat) (ec) gL1380_0 gL1380_5 gL1380_3 gL1380_4 gL1380_1 gL1380_2 hW1179 hF1187 hP1188 ((e1181)) ((e1182)) (((hF1180.1 16 rfl).trans (e1148))) (((hF1180.1 31 rfl).trans ((hF1146.1 31 rfl).trans (e_nd)))) (((hF1180.1 15 rfl).trans ((hF1146.1 15 rfl).trans (e_op0)))) ((congrFun ((hF1180.2 7 rfl).trans (hF1146.2 7 rfl)) _)) (ec1189) (((hF1180.1 9 rfl).trans ((hF1146.1 9 rfl).trans (e_ln)))) (by omega) (by omega) (by omega) (by omega) (by omega) (by omega) (by omega) (by omega) (by omega) (by omega) (a1158) (by omega)
              · have _q := h1381
                exact absurd h1381 (by omega)
          · have _q := h1250
            exact absurd h1250 (by omega)
      · have _q := h1172
        exact absurd h1172 (by omega)
