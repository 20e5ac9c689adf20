set_option maxRecDepth 20000 in
set_option maxHeartbeats 4000000 in
theorem c_readNamed_w_at_259_1 {X : jX} {d : Nat} {Vs : Nat → Prop} {sb pb : Int} {c0 c1 : jC} {G : Nat → Int} {A : Nat → Nat → Int} {T : jH} {ln le at0 fk op0 nd tk0 li ec : Int} (hd : 72 ≤ d + 1) (hW : Wk G A) (e_ln : G 9 = ln) (e_le : A 4 (ln).toNat = le) (e_at0 : G 10 = at0) (e_fk : G 16 = fk) (e_op0 : G 15 = op0) (e_nd : G 31 = nd) (e_tk0 : G 11 = tk0) (e_li : G 3 = li) (e_ec : ecn A (G 31) = ec) (i_SV : SV Vs sb G A) (i_PQ : PQ Vs sb pb G A) (p_0 : 0 ≤ op0 ∧ op0 ≤ 8) (p_1 : fk = 0) (p_2 : nd ≤ 2 * at0 - tz tk0 + 42) (p_3 : at0 ≤ le) (p_4 : ln < li) (p_5 : tk0 = 1) : ∀ (L : jL) (Gx : Nat → Int) (Ax : Nat → Nat → Int) (s ix at1 tk1 fk1 nd1 op1 ks ec1 : Int), jGet L 0 = some (.ref 66) → jGet L 5 = some (.int (i32 (1))) → jGet L 2 = some (.int (i32 s)) → jGet L 4 = some (.int (i32 ix)) → Wk Gx Ax → Fr [9, 10, 11, 12, 13, 14, 15, 16, 17, 18, 31] [15, 16, 17, 18, 19, 20, 21, 22, 24, 28] G A Gx Ax → Pf nd A Ax → Gx 10 = at1 → Gx 11 = tk1 → Gx 16 = fk1 → Gx 31 = nd1 → Gx 15 = op1 → Ax 7 (s).toNat = ks → ecn Ax (Gx 31) = ec1 → Gx 9 = ln → ((-2147483648 : Int) ≤ s ∧ s ≤ 2147483647) → ((-2147483648 : Int) ≤ ix ∧ ix ≤ 2147483647) → (at0 ≤ at1) → (at1 ≤ le) → (nd ≤ nd1) → (op1 = op0) → (fk1 = 0) → (nd1 - nd ≤ (2 * at1 - tz tk1) - (2 * at0 - tz tk0) - 1) → (tz tk1 = 1) → (0 ≤ s ∧ s ≤ 201) → (SY Vs sb (s)) → (ks = 4) → (wE Ax Vs sb (20) (ix) (nd) (nd1)) → (nd + 5 * ec ≤  - 6 - tz tk1) → (nd1 - nd + 5 * (ec1 - ec) ≤ (2 * at1 - tz tk1) - (2 * at0 - tz tk0) - 6 - tz tk1) → wj X d jm304 (259, L, [], rV c0 c1 Gx Ax T) (fun o V' => ∃ (G' : Nat → Int) (A' : Nat → Nat → Int) (r : Int) (at2 : Int) (fk2 : Int) (nd2 : Int) (ln2 : Int) (ec2 : Int), V' = rV c0 c1 G' A' T ∧ o = .inl (some (.int (i32 r))) ∧ Wk G' A' ∧ Fr [9, 10, 11, 12, 13, 14, 15, 16, 17, 18, 31] [15, 16, 17, 18, 19, 20, 21, 22, 24, 28] G A G' A' ∧ Pf nd A A' ∧ ((-2147483648 : Int) ≤ r ∧ r ≤ 2147483647) ∧ G' 10 = at2 ∧ G' 16 = fk2 ∧ G' 31 = nd2 ∧ G' 9 = ln2 ∧ ecn A' (G' 31) = ec2 ∧ (at0 ≤ at2) ∧ (at2 ≤ le) ∧ (nd ≤ nd2) ∧ (0 ≤ r) ∧ (r ≤ nd2) ∧ (((1 ≤ fk2) ∧ (ln2 = ln) ∧ (nd2 - nd ≤ 2 * at2 - 2 * at0 + 8)) ∨ ((fk2 = 0) ∧ (ln2 = ln + 1) ∧ (nd2 - nd ≤ 2 * at2 - (2 * at0 - tz tk0) + 0) ∧ (nd ≤ r) ∧ (r < nd2) ∧ (wL A' sb pb Vs (r) (nd) (nd2)) ∧ (NX A' (r)) ∧ (nd2 - nd + 5 * (ec2 - ec) ≤ 2 * at2 - (2 * at0 - tz tk0) + 0) ∧ (nd + 5 * ec ≤ r)))) := by
  have hF0 : Fr [9, 10, 11, 12, 13, 14, 15, 16, 17, 18, 31] [15, 16, 17, 18, 19, 20, 21, 22, 24, 28] G A G A := Fr_rf
  have hP0 : Pf nd A A := Pf_rf
  have b_ln : (0 : Int) ≤ ln ∧ ln ≤ 3000 := e_ln ▸ hW.1 9
  have b_le : (0 : Int) ≤ le ∧ le ≤ 3000 := e_le ▸ hW.2 4 _
  have b_at0 : (0 : Int) ≤ at0 ∧ at0 ≤ 3002 := e_at0 ▸ hW.1 10
  have b_fk : (0 : Int) ≤ fk ∧ fk ≤ 6 := e_fk ▸ hW.1 16
  have b_op0 : (-2147483648 : Int) ≤ op0 ∧ op0 ≤ 2147483647 := e_op0 ▸ hW.1 15
  have b_nd : (0 : Int) ≤ nd ∧ nd ≤ 6999 := e_nd ▸ hW.1 31
  have z_tk0 := tz_f tk0
  have b_tk0 : (0 : Int) ≤ tk0 ∧ tk0 ≤ 5 := e_tk0 ▸ hW.1 11
  have b_li : (0 : Int) ≤ li ∧ li ≤ 3000 := e_li ▸ hW.1 3
  intro L Gx Ax s ix at1 tk1 fk1 nd1 op1 ks ec1 gL_0 gL_5 gL_2 gL_4 hWx hFx hPx ex_at1 ex_tk1 ex_fk1 ex_nd1 ex_op1 ex_ks ex_ec1 fx_9 rx_s rx_ix iv_0 iv_1 iv_2 iv_3 iv_4 iv_5 iv_6 iv_7 iv_8 iv_9 iv_10 iv_11 iv_12
  have b_at1 : (0 : Int) ≤ at1 ∧ at1 ≤ 3002 := ex_at1 ▸ hWx.1 10
  have z_tk1 := tz_f tk1
  have b_tk1 : (0 : Int) ≤ tk1 ∧ tk1 ≤ 5 := ex_tk1 ▸ hWx.1 11
  have b_fk1 : (0 : Int) ≤ fk1 ∧ fk1 ≤ 6 := ex_fk1 ▸ hWx.1 16
  have b_nd1 : (0 : Int) ≤ nd1 ∧ nd1 ≤ 6999 := ex_nd1 ▸ hWx.1 31
  have b_op1 : (-2147483648 : Int) ≤ op1 ∧ op1 ≤ 2147483647 := ex_op1 ▸ hWx.1 15
  have b_ks : (0 : Int) ≤ ks ∧ ks ≤ 14 := ex_ks ▸ hWx.2 7 _
  refine jx_ld (pc' := 260) (l' := L) (st' := [.ref 66]) rfl (jl_aloadn gL_0) ?_
  refine jx_ar (pc' := 262) (st' := [.int (i32 (33)), .ref 66]) rfl rfl rfl rfl ?_
  have b1 : (-2147483648 : Int) ≤ Gx 13 ∧ Gx 13 ≤ 2147483647 := hWx.1 13
  refine jx_vr (pc' := 265) (as := [.int (i32 (33))]) (st := []) rfl rfl rfl rfl ⟨rfl, rfl, Nat.le_of_ble_eq_true rfl⟩ rfl rfl (c_is (dd := d) (hd := by omega) (hW := hWx) (k := 33) (tk := tk1) (e_tk := show Gx 11 = tk1 from (ex_tk1)) (tn := Gx 13) (e_tn := show Gx 13 = Gx 13 from rfl)  (h_k := ⟨(by decide), (by decide)⟩)  ) (fun o V' hq => ?_)
  obtain ⟨r2, rfl, rfl, b3, q4⟩ := hq
  refine .inr ⟨_, rfl, ?_⟩
  rcases q4 with ⟨rfl, a5, a6, a7⟩ | rfl
  · have _q : True := trivial
    refine jx_ld (pc' := 267) (l' := jSto1 L 6 (.int (i32 (1)))) (st' := []) rfl rfl ?_
    obtain ⟨L8, eL8⟩ : ∃ q, q = jSto1 L 6 (.int (i32 (1))) := ⟨_, rfl⟩
    rw [← eL8]
    have gL8_0 : jGet L8 0 = some (.ref 66) := eL8 ▸ jg_ne (by decide) gL_0 rfl
    have gL8_5 : jGet L8 5 = some (.int (i32 (1))) := eL8 ▸ jg_ne (by decide) gL_5 rfl
    have gL8_2 : jGet L8 2 = some (.int (i32 (s))) := eL8 ▸ jg_ne (by decide) gL_2 rfl
    have gL8_4 : jGet L8 4 = some (.int (i32 (ix))) := eL8 ▸ jg_ne (by decide) gL_4 rfl
    have gL8_6 : jGet L8 6 = some (.int (i32 (1))) := eL8 ▸ jg_eq
    refine jx_ld (pc' := 268) (l' := L8) (st' := [.ref 66]) rfl (jl_aloadn gL8_0) ?_
    refine jx_ld (pc' := 270) (l' := L8) (st' := [.int (i32 (1)), .ref 66]) rfl (jl_iload gL8_6) ?_
    refine jx_if_eq (pc' := 273) (tg := 278) rfl rfl rfl (by decide) (by decide) (fun h9 => ?_) (fun h9 => ?_)
    · have _q := h9
      exact absurd h9 (by omega)
    · have _q := h9
      refine jx_ar (pc' := 275) (st' := [.int (i32 (23)), .ref 66]) rfl rfl rfl rfl ?_
      refine jx_go (tg := 280) rfl rfl ?_
      refine jx_ld (pc' := 281) (l' := L8) (st' := [.ref 66, .int (i32 (23)), .ref 66]) rfl (jl_aloadn gL8_0) ?_
      refine jx_ld (pc' := 283) (l' := L8) (st' := [.int (i32 (1)), .ref 66, .int (i32 (23)), .ref 66]) rfl (jl_iload gL8_5) ?_
      refine jx_if_eq (pc' := 286) (tg := 290) rfl rfl rfl (by decide) (by decide) (fun h10 => ?_) (fun h10 => ?_)
      · have _q := h10
        exact absurd h10 (by omega)
      · have _q := h10
        refine jx_ar (pc' := 287) (st' := [.int (i32 (3)), .ref 66, .int (i32 (23)), .ref 66]) rfl rfl rfl rfl ?_
        refine jx_go (tg := 291) rfl rfl ?_
        refine jx_ld (pc' := 292) (l' := L8) (st' := [.int (i32 (s)), .int (i32 (3)), .ref 66, .int (i32 (23)), .ref 66]) rfl (jl_iloadn gL8_2) ?_
        refine jx_ld (pc' := 294) (l' := L8) (st' := [.int (i32 (ix)), .int (i32 (s)), .int (i32 (3)), .ref 66, .int (i32 (23)), .ref 66]) rfl (jl_iload gL8_4) ?_
        refine jx_ar (pc' := 295) (st' := [.int (i32 (0)), .int (i32 (ix)), .int (i32 (s)), .int (i32 (3)), .ref 66, .int (i32 (23)), .ref 66]) rfl rfl rfl rfl ?_
        refine jx_ar (pc' := 296) (st' := [.int (i32 (0)), .int (i32 (0)), .int (i32 (ix)), .int (i32 (s)), .int (i32 (3)), .ref 66, .int (i32 (23)), .ref 66]) rfl rfl rfl rfl ?_
        refine jx_vr (pc' := 299) (as := [.int (i32 (3)), .int (i32 (s)), .int (i32 (ix)), .int (i32 (0)), .int (i32 (0))]) (st := [.int (i32 (23)), .ref 66]) rfl rfl rfl rfl ⟨rfl, rfl, Nat.le_of_ble_eq_true rfl⟩ rfl rfl (c_node_e (dd := d) (hd := by omega) (hW := hWx) (kind := 3) (a := s) (b := ix) (c := 0) (e := 0) (nd := nd1) (e_nd := show Gx 31 = nd1 from (ex_nd1)) (ec := ec1) (e_ec := show ecn Ax (Gx 31) = ec1 from ex_ec1)  (h_kind := ⟨(by decide), (by decide)⟩) (h_a := ⟨(Int.le_trans (by decide : (-2147483648 : Int) ≤ -2147483648) rx_s.1), (Int.le_trans rx_s.2 (by decide : (2147483647 : Int) ≤ 2147483647))⟩) (h_b := ⟨(Int.le_trans (by decide : (-2147483648 : Int) ≤ -2147483648) rx_ix.1), (Int.le_trans rx_ix.2 (by decide : (2147483647 : Int) ≤ 2147483647))⟩) (h_c := ⟨(by decide), (by decide)⟩) (h_e := ⟨(by decide), (by decide)⟩)  (p_0 := by omega) (p_1 := by omega) (p_2 := by omega)) (fun o V' hq => ?_)
        obtain ⟨G11, A12, nd2_13, ec2_14, rfl, rfl, hW15, hF16, hQ17, e18, e19, p20, p21, p22, -⟩ := hq
        have hF24 := Fr_tr hFx hF16 (Fr_sub (by decide)) (Fr_sub (by decide))
        have hP25 := Pf_tr hPx hQ17 (by omega)
        have sf26 : wE A12 Vs sb (20) (ix) (nd) (nd1) := wE_ag (by omega) (Sg_fr hF16 (by decide)) (Ag_pf hQ17 (by omega)) iv_10
        have bnd2_13 : (0 : Int) ≤ nd2_13 ∧ nd2_13 ≤ 6999 := e18 ▸ hW15.1 31
        refine .inr ⟨_, rfl, ?_⟩
        refine jx_ar (pc' := 300) (st' := [.int (i32 (0)), .int (i32 (nd1)), .int (i32 (23)), .ref 66]) rfl rfl rfl rfl ?_
        refine jx_ar (pc' := 301) (st' := [.int (i32 (0)), .int (i32 (0)), .int (i32 (nd1)), .int (i32 (23)), .ref 66]) rfl rfl rfl rfl ?_
        refine jx_ar (pc' := 302) (st' := [.int (i32 (0)), .int (i32 (0)), .int (i32 (0)), .int (i32 (nd1)), .int (i32 (23)), .ref 66]) rfl rfl rfl rfl ?_
        refine jx_vr (pc' := 305) (as := [.int (i32 (23)), .int (i32 (nd1)), .int (i32 (0)), .int (i32 (0)), .int (i32 (0))]) (st := []) rfl rfl rfl rfl ⟨rfl, rfl, Nat.le_of_ble_eq_true rfl⟩ rfl rfl (c_node_o (dd := d) (hd := by omega) (hW := hW15) (kind := 23) (a := nd1) (b := 0) (c := 0) (e := 0) (nd := nd2_13) (e_nd := show G11 31 = nd2_13 from (e18)) (ec := ec2_14) (e_ec := show ecn A12 (G11 31) = ec2_14 from e19)  (h_kind := ⟨(by decide), (by decide)⟩) (h_a := ⟨(Int.le_trans (by decide : (-2147483648 : Int) ≤ 0) b_nd1.1), (Int.le_trans b_nd1.2 (by decide : (6999 : Int) ≤ 2147483647))⟩) (h_b := ⟨(by decide), (by decide)⟩) (h_c := ⟨(by decide), (by decide)⟩) (h_e := ⟨(by decide), (by decide)⟩)  (p_0 := by omega) (p_1 := by omega) (p_2 := by omega)) (fun o V' hq => ?_)
        obtain ⟨G27, A28, nd2_29, ec2_30, rfl, rfl, hW31, hF32, hQ33, e34, e35, p36, p37, p38, -⟩ := hq
        have hF40 := Fr_tr hF24 hF32 (Fr_sub (by decide)) (Fr_sub (by decide))
        have hP41 := Pf_tr hP25 hQ33 (by omega)
        have sf42 : wE A28 Vs sb (20) (ix) (nd) (nd1) := wE_ag (by omega) (Sg_fr hF32 (by decide)) (Ag_pf hQ33 (by omega)) sf26
        have sf43 : ND A28 (nd1) (3) (s) (ix) (0) (0) (0) (0) := ND_ag (by omega) (Ag_pf hQ33 (by omega)) p22
        have bnd2_29 : (0 : Int) ≤ nd2_29 ∧ nd2_29 ≤ 6999 := e34 ▸ hW31.1 31
        refine .inr ⟨_, rfl, ?_⟩
        refine jx_ld (pc' := 307) (l' := jSto1 L8 7 (.int (i32 (nd2_13)))) (st' := []) rfl rfl ?_
        obtain ⟨L44, eL44⟩ : ∃ q, q = jSto1 L8 7 (.int (i32 (nd2_13))) := ⟨_, rfl⟩
        rw [← eL44]
        have gL44_0 : jGet L44 0 = some (.ref 66) := eL44 ▸ jg_ne (by decide) gL8_0 rfl
        have gL44_5 : jGet L44 5 = some (.int (i32 (1))) := eL44 ▸ jg_ne (by decide) gL8_5 rfl
        have gL44_2 : jGet L44 2 = some (.int (i32 (s))) := eL44 ▸ jg_ne (by decide) gL8_2 rfl
        have gL44_4 : jGet L44 4 = some (.int (i32 (ix))) := eL44 ▸ jg_ne (by decide) gL8_4 rfl
        have gL44_6 : jGet L44 6 = some (.int (i32 (1))) := eL44 ▸ jg_ne (by decide) gL8_6 rfl
        have gL44_7 : jGet L44 7 = some (.int (i32 (nd2_13))) := eL44 ▸ jg_eq
        refine jx_ld (pc' := 308) (l' := L44) (st' := [.ref 66]) rfl (jl_aloadn gL44_0) ?_
        refine jx_vr (pc' := 311) (as := []) (st := []) rfl rfl rfl rfl ⟨rfl, rfl, Nat.le_of_ble_eq_true rfl⟩ rfl rfl (c_next (dd := d) (hd := by omega) (hW := hW31)  (ln := ln) (e_ln := show G27 9 = ln from ((hF32.1 9 rfl).trans ((hF16.1 9 rfl).trans (fx_9)))) (le := le) (e_le := show A28 4 (ln).toNat = le from (congrFun ((hF32.2 4 rfl).trans ((hF16.2 4 rfl).trans (hFx.2 4 rfl))) _).trans (e_le)) (at0 := at1) (e_at0 := show G27 10 = at1 from ((hF32.1 10 rfl).trans ((hF16.1 10 rfl).trans (ex_at1))))    (p_0 := by omega)) (fun o V' hq => ?_)
        obtain ⟨G45, A46, at2_47, tk2_48, rfl, rfl, hW49, hF50, e51, e52, p53, p54, p55, -⟩ := hq
        have hF57 := Fr_tr hF40 hF50 (Fr_sub (by decide)) (Fr_sub (by decide))
        have hP58 := Pf_f hP41 hF50 (by decide)
        have sf59 : wE A46 Vs sb (20) (ix) (nd) (nd1) := wE_ag (by omega) (Sg_fr hF50 (by decide)) (Ag_fr hF50 (by decide)) sf42
        have sf60 : ND A46 (nd1) (3) (s) (ix) (0) (0) (0) (0) := ND_ag (by omega) (Ag_fr hF50 (by decide)) sf43
        have sf61 : ND A46 (nd2_13) (23) (nd1) (0) (0) (0) (0) (0) := ND_ag (by omega) (Ag_fr hF50 (by decide)) p38
        have ec62 : ecn A46 (G45 31) = ec2_30 := (ecn_f (hF50.2 15 rfl) (hF50.1 31 rfl)).trans e35
        have bat2_47 : (0 : Int) ≤ at2_47 ∧ at2_47 ≤ 3002 := e51 ▸ hW49.1 10
        have ztk2_48 := tz_b tk2_48
        have btk2_48 : (0 : Int) ≤ tk2_48 ∧ tk2_48 ≤ 5 := e52 ▸ hW49.1 11
        refine .inl ⟨rfl, ?_⟩
        refine jx_ld (pc' := 312) (l' := L44) (st' := [.ref 66]) rfl (jl_aloadn gL44_0) ?_
        refine jr_get (pc' := 315) (i := 35) (v := .ref 85) rfl rfl (by decide) rfl rfl ?_
        refine jx_ld (pc' := 317) (l' := L44) (st' := [.int (i32 (nd2_13)), .ref 85]) rfl (jl_iload gL44_7) ?_
        refine jx_ld (pc' := 319) (l' := L44) (st' := [.int (i32 (1)), .int (i32 (nd2_13)), .ref 85]) rfl (jl_iload gL44_6) ?_
        refine jx_if_eq (pc' := 322) (tg := 329) rfl rfl rfl (by decide) (by decide) (fun h63 => ?_) (fun h63 => ?_)
        · have _q := h63
          exact absurd h63 (by omega)
        · have _q := h63
          refine jx_ld (pc' := 323) (l' := L44) (st' := [.ref 66, .int (i32 (nd2_13)), .ref 85]) rfl (jl_aloadn gL44_0) ?_
          refine jx_vr (pc' := 326) (as := []) (st := [.int (i32 (nd2_13)), .ref 85]) rfl rfl rfl rfl ⟨rfl, rfl, Nat.le_of_ble_eq_true rfl⟩ rfl rfl (RE_all X 9 (dd := d) (hd := by omega) (hW := hW49)  (ln := ln) (e_ln := show G45 9 = ln from ((hF50.1 9 rfl).trans ((hF32.1 9 rfl).trans ((hF16.1 9 rfl).trans (fx_9))))) (le := le) (e_le := show A46 4 (ln).toNat = le from (congrFun ((hF50.2 4 rfl).trans ((hF32.2 4 rfl).trans ((hF16.2 4 rfl).trans (hFx.2 4 rfl)))) _).trans (e_le)) (at0 := at2_47) (e_at0 := show G45 10 = at2_47 from (e51)) (fk := fk1) (e_fk := show G45 16 = fk1 from ((hF50.1 16 rfl).trans ((hF32.1 16 rfl).trans ((hF16.1 16 rfl).trans (ex_fk1))))) (op0 := op1) (e_op0 := show G45 15 = op1 from ((hF50.1 15 rfl).trans ((hF32.1 15 rfl).trans ((hF16.1 15 rfl).trans (ex_op1))))) (nd := nd2_29) (e_nd := show G45 31 = nd2_29 from ((hF50.1 31 rfl).trans (e34))) (tk0 := tk2_48) (e_tk0 := show G45 11 = tk2_48 from (e52)) (ec := ec2_30) (e_ec := show ecn A46 (G45 31) = ec2_30 from ec62) (i_SV := (SV_ext (((hF50.1 29 rfl).trans ((hF32.1 29 rfl).trans ((hF16.1 29 rfl).trans (hFx.1 29 rfl))))) (((hF50.2 14 rfl).trans ((hF32.2 14 rfl).trans ((hF16.2 14 rfl).trans (hFx.2 14 rfl))))) i_SV))   (p_0 := by omega) (p_1 := by omega) (p_2 := by omega) (p_3 := by omega) (p_4 := by omega) (p_5 := by omega)) (fun o V' hq => ?_)
          obtain ⟨G64, A65, r66, at2_67, fk2_68, op2_69, nd2_70, tk2_71, ec2_72, rfl, rfl, hW73, hF74, hQ75, b76, e77, e78, e79, e80, e81, e82, p83, p84, p85, p86, p87, p88, q89⟩ := hq
          have hF90 := Fr_tr hF57 hF74 (Fr_sub (by decide)) (Fr_sub (by decide))
          have hP91 := Pf_tr hP58 hQ75 (by omega)
          have sf92 : wE A65 Vs sb (20) (ix) (nd) (nd1) := wE_ag (by omega) (Sg_fr hF74 (by decide)) (Ag_pf hQ75 (by omega)) sf59
          have sf93 : ND A65 (nd1) (3) (s) (ix) (0) (0) (0) (0) := ND_ag (by omega) (Ag_pf hQ75 (by omega)) sf60
          have sf94 : ND A65 (nd2_13) (23) (nd1) (0) (0) (0) (0) (0) := ND_ag (by omega) (Ag_pf hQ75 (by omega)) sf61
          have bat2_67 : (0 : Int) ≤ at2_67 ∧ at2_67 ≤ 3002 := e77 ▸ hW73.1 10
          have bfk2_68 : (0 : Int) ≤ fk2_68 ∧ fk2_68 ≤ 6 := e78 ▸ hW73.1 16
          have bop2_69 : (-2147483648 : Int) ≤ op2_69 ∧ op2_69 ≤ 2147483647 := e79 ▸ hW73.1 15
          have bnd2_70 : (0 : Int) ≤ nd2_70 ∧ nd2_70 ≤ 6999 := e80 ▸ hW73.1 31
          have ztk2_71 := tz_b tk2_71
          have btk2_71 : (0 : Int) ≤ tk2_71 ∧ tk2_71 ≤ 5 := e81 ▸ hW73.1 11
          refine .inr ⟨_, rfl, ?_⟩
          rcases q89 with ⟨a95, a96, a97, a98, a99, a100⟩ | ⟨a101, a102, a103⟩ | ⟨a104, a105, a106, a107, a108⟩
          · have _q : True := trivial
            exfalso
            omega
          · have _q : True := trivial
            refine jx_go (tg := 334) rfl rfl ?_
            refine jr_st (pc' := 335) (i := 18) (m := 7000) (z := nd2_13) (y := r66) rfl (by decide) rfl (by decide) (by omega) (by omega) rfl ?_
            have hW110 : Wk G64 (uA A65 18 (nd2_13).toNat (r66)) := Wk_a hW73 (show (-2147483648 : Int) ≤ r66 by omega) (show r66 ≤ (2147483647 : Int) by omega)
            have hF111 := Fr_a (z := r66) (k := 18) (n := (nd2_13).toNat) hF90 (by decide)
            obtain ⟨A109, eA109⟩ : ∃ q, q = uA A65 18 (nd2_13).toNat (r66) := ⟨_, rfl⟩
            rw [← eA109]
            rw [← eA109] at hW110 hF111
            have q112 : A109 18 (nd2_13).toNat = r66 := by rw [eA109]; exact uA_eq
            have hP113 : Pf nd A A109 := eA109 ▸ Pf_a hP91 (z := nd2_13) (by omega) (by omega)
            have sf114 : wE A109 Vs sb (20) (ix) (nd) (nd1) := wE_ag (by omega) (Sg_ne eA109 rfl) (Ag_st eA109 (by omega) (by omega)) sf92
            have sf115 : ND A109 (nd1) (3) (s) (ix) (0) (0) (0) (0) := ND_ag (by omega) (Ag_st eA109 (by omega) (by omega)) sf93
            have sf116 : ND A109 (nd2_13) (23) (nd1) (r66) (0) (0) (0) (0) := ND_b eA109 sf94
            have ec117 : ecn A109 (G64 31) = ec2_72 := (ecn_e ((congrFun eA109 15).trans (uA_ne (by decide)))).trans e82
            refine jx_ld (pc' := 336) (l' := L44) (st' := [.ref 66]) rfl (jl_aloadn gL44_0) ?_
            refine jx_vr (pc' := 339) (as := []) (st := []) rfl rfl rfl rfl ⟨rfl, rfl, Nat.le_of_ble_eq_true rfl⟩ rfl rfl (c_endLine (dd := d) (hd := by omega) (hW := hW110)  (ln := ln) (e_ln := show G64 9 = ln from ((hF74.1 9 rfl).trans ((hF50.1 9 rfl).trans ((hF32.1 9 rfl).trans ((hF16.1 9 rfl).trans (fx_9)))))) (li := li) (e_li := show G64 3 = li from ((hF74.1 3 rfl).trans ((hF50.1 3 rfl).trans ((hF32.1 3 rfl).trans ((hF16.1 3 rfl).trans ((hFx.1 3 rfl).trans (e_li))))))) (fk := fk2_68) (e_fk := show G64 16 = fk2_68 from (e78)) (tk0 := tk2_71) (e_tk0 := show G64 11 = tk2_71 from (e81))    (p_0 := by omega)) (fun o V' hq => ?_)
            obtain ⟨G118, A119, ln2_120, fk2_121, rfl, rfl, hW122, hF123, e124, e125, q126⟩ := hq
            have hF127 := Fr_tr hF111 hF123 (Fr_sub (by decide)) (Fr_sub (by decide))
            have hP128 := Pf_f hP113 hF123 (by decide)
            have sf129 : wE A119 Vs sb (20) (ix) (nd) (nd1) := wE_ag (by omega) (Sg_fr hF123 (by decide)) (Ag_fr hF123 (by decide)) sf114
            have sf130 : ND A119 (nd1) (3) (s) (ix) (0) (0) (0) (0) := ND_ag (by omega) (Ag_fr hF123 (by decide)) sf115
            have sf131 : ND A119 (nd2_13) (23) (nd1) (r66) (0) (0) (0) (0) := ND_ag (by omega) (Ag_fr hF123 (by decide)) sf116
            have ec132 : ecn A119 (G118 31) = ec2_72 := (ecn_f (hF123.2 15 rfl) (hF123.1 31 rfl)).trans ec117
            have bln2_120 : (0 : Int) ≤ ln2_120 ∧ ln2_120 ≤ 3000 := e124 ▸ hW122.1 9
            have bfk2_121 : (0 : Int) ≤ fk2_121 ∧ fk2_121 ≤ 6 := e125 ▸ hW122.1 16
            refine .inl ⟨rfl, ?_⟩
            rcases q126 with ⟨a133, a134, a135, a136, a137⟩ | ⟨a138, a139⟩
            · have _q : True := trivial
              exfalso
              omega
            · have _q : True := trivial
              refine jx_ld (pc' := 341) (l' := L44) (st' := [.int (i32 (nd2_13))]) rfl (jl_iload gL44_7) ?_
              refine jx_rt (v := some (.int (i32 (nd2_13)))) rfl rfl rfl rfl rfl rfl ?_
              exact ⟨_, _, _, at2_67, fk2_121, nd2_70, ln2_120, ec2_72, rfl, rfl, hW122, hF127, hP128, by omega, ((hF123.1 10 rfl).trans (e77)), (e125), ((hF123.1 31 rfl).trans (e80)), (e124), ec132, by omega, by omega, by omega, by omega, by omega, by first | exact Or.inl (⟨by omega, by omega, by omega⟩)⟩
          · have _q : True := trivial
            refine jx_go (tg := 334) rfl rfl ?_
            refine jr_st (pc' := 335) (i := 18) (m := 7000) (z := nd2_13) (y := r66) rfl (by decide) rfl (by decide) (by omega) (by omega) rfl ?_
            have hW141 : Wk G64 (uA A65 18 (nd2_13).toNat (r66)) := Wk_a hW73 (show (-2147483648 : Int) ≤ r66 by omega) (show r66 ≤ (2147483647 : Int) by omega)
            have hF142 := Fr_a (z := r66) (k := 18) (n := (nd2_13).toNat) hF90 (by decide)
            obtain ⟨A140, eA140⟩ : ∃ q, q = uA A65 18 (nd2_13).toNat (r66) := ⟨_, rfl⟩
            rw [← eA140]
            rw [← eA140] at hW141 hF142
            have q143 : A140 18 (nd2_13).toNat = r66 := by rw [eA140]; exact uA_eq
            have hP144 : Pf nd A A140 := eA140 ▸ Pf_a hP91 (z := nd2_13) (by omega) (by omega)
            have sf145 : wE A140 Vs sb (20) (ix) (nd) (nd1) := wE_ag (by omega) (Sg_ne eA140 rfl) (Ag_st eA140 (by omega) (by omega)) sf92
            have sf146 : ND A140 (nd1) (3) (s) (ix) (0) (0) (0) (0) := ND_ag (by omega) (Ag_st eA140 (by omega) (by omega)) sf93
            have sf147 : ND A140 (nd2_13) (23) (nd1) (r66) (0) (0) (0) (0) := ND_b eA140 sf94
            have sf148 : wE A140 Vs sb (2 * 9 + 2) (r66) (nd2_29) (nd2_70) := wE_ag (by omega) (Sg_ne eA140 rfl) (Ag_st eA140 (by omega) (by omega)) a107
            have ec149 : ecn A140 (G64 31) = ec2_72 := (ecn_e ((congrFun eA140 15).trans (uA_ne (by decide)))).trans e82
            refine jx_ld (pc' := 336) (l' := L44) (st' := [.ref 66]) rfl (jl_aloadn gL44_0) ?_
            refine jx_vr (pc' := 339) (as := []) (st := []) rfl rfl rfl rfl ⟨rfl, rfl, Nat.le_of_ble_eq_true rfl⟩ rfl rfl (c_endLine (dd := d) (hd := by omega) (hW := hW141)  (ln := ln) (e_ln := show G64 9 = ln from ((hF74.1 9 rfl).trans ((hF50.1 9 rfl).trans ((hF32.1 9 rfl).trans ((hF16.1 9 rfl).trans (fx_9)))))) (li := li) (e_li := show G64 3 = li from ((hF74.1 3 rfl).trans ((hF50.1 3 rfl).trans ((hF32.1 3 rfl).trans ((hF16.1 3 rfl).trans ((hFx.1 3 rfl).trans (e_li))))))) (fk := fk2_68) (e_fk := show G64 16 = fk2_68 from (e78)) (tk0 := tk2_71) (e_tk0 := show G64 11 = tk2_71 from (e81))    (p_0 := by omega)) (fun o V' hq => ?_)
            obtain ⟨G150, A151, ln2_152, fk2_153, rfl, rfl, hW154, hF155, e156, e157, q158⟩ := hq
            have hF159 := Fr_tr hF142 hF155 (Fr_sub (by decide)) (Fr_sub (by decide))
            have hP160 := Pf_f hP144 hF155 (by decide)
            have sf161 : wE A151 Vs sb (20) (ix) (nd) (nd1) := wE_ag (by omega) (Sg_fr hF155 (by decide)) (Ag_fr hF155 (by decide)) sf145
            have sf162 : ND A151 (nd1) (3) (s) (ix) (0) (0) (0) (0) := ND_ag (by omega) (Ag_fr hF155 (by decide)) sf146
            have sf163 : ND A151 (nd2_13) (23) (nd1) (r66) (0) (0) (0) (0) := ND_ag (by omega) (Ag_fr hF155 (by decide)) sf147
            have sf164 : wE A151 Vs sb (2 * 9 + 2) (r66) (nd2_29) (nd2_70) := wE_ag (by omega) (Sg_fr hF155 (by decide)) (Ag_fr hF155 (by decide)) sf148
            have ec165 : ecn A151 (G150 31) = ec2_72 := (ecn_f (hF155.2 15 rfl) (hF155.1 31 rfl)).trans ec149
            have bln2_152 : (0 : Int) ≤ ln2_152 ∧ ln2_152 ≤ 3000 := e156 ▸ hW154.1 9
            have bfk2_153 : (0 : Int) ≤ fk2_153 ∧ fk2_153 ≤ 6 := e157 ▸ hW154.1 16
            refine .inl ⟨rfl, ?_⟩
            rcases q158 with ⟨a166, a167, a168, a169, a170⟩ | ⟨a171, a172⟩
            · have _q : True := trivial
              refine jx_ld (pc' := 341) (l' := L44) (st' := [.int (i32 (nd2_13))]) rfl (jl_iload gL44_7) ?_
              refine jx_rt (v := some (.int (i32 (nd2_13)))) rfl rfl rfl rfl rfl rfl ?_
              exact ⟨_, _, _, at2_67, fk2_153, nd2_70, ln2_152, ec2_72, rfl, rfl, hW154, hF159, hP160, by omega, ((hF155.1 10 rfl).trans (e77)), (e157), ((hF155.1 31 rfl).trans (e80)), (e156), ec165, by omega, by omega, by omega, by omega, by omega, by first | exact Or.inr ((⟨by omega, by omega, by omega, by omega, by omega, (wL_out sf163 (by omega) (by omega) (wR_elem sf162 (by omega) (by omega) iv_8 (kq (P := kRow (1)) (show A151 7 (s).toNat = ks from (congrFun ((hF155.2 7 rfl).trans (((congrFun eA140 7).trans (uA_ne (by decide))).trans ((hF74.2 7 rfl).trans ((hF50.2 7 rfl).trans ((hF32.2 7 rfl).trans (hF16.2 7 rfl)))))) _).trans (ex_ks)) (by first | exact .inr ⟨by omega, by omega⟩)) (wE_mono (by omega) (by omega) (by omega) sf161)) (wE_mono (by omega) (by omega) (by omega) sf164)), (NX_nd sf163), by omega, by omega⟩))⟩
            · have _q : True := trivial
              refine jx_ld (pc' := 341) (l' := L44) (st' := [.int (i32 (nd2_13))]) rfl (jl_iload gL44_7) ?_
              refine jx_rt (v := some (.int (i32 (nd2_13)))) rfl rfl rfl rfl rfl rfl ?_
              exact ⟨_, _, _, at2_67, fk2_153, nd2_70, ln2_152, ec2_72, rfl, rfl, hW154, hF159, hP160, by omega, ((hF155.1 10 rfl).trans (e77)), (e157), ((hF155.1 31 rfl).trans (e80)), (e156), ec165, by omega, by omega, by omega, by omega, by omega, by first | exact Or.inl (⟨by omega, by omega, by omega⟩)⟩
  · have _q : True := trivial
    refine jx_ld (pc' := 267) (l' := jSto1 L 6 (.int (i32 (0)))) (st' := []) rfl rfl ?_
    obtain ⟨L173, eL173⟩ : ∃ q, q = jSto1 L 6 (.int (i32 (0))) := ⟨_, rfl⟩
    rw [← eL173]
    have gL173_0 : jGet L173 0 = some (.ref 66) := eL173 ▸ jg_ne (by decide) gL_0 rfl
    have gL173_5 : jGet L173 5 = some (.int (i32 (1))) := eL173 ▸ jg_ne (by decide) gL_5 rfl
    have gL173_2 : jGet L173 2 = some (.int (i32 (s))) := eL173 ▸ jg_ne (by decide) gL_2 rfl
    have gL173_4 : jGet L173 4 = some (.int (i32 (ix))) := eL173 ▸ jg_ne (by decide) gL_4 rfl
    have gL173_6 : jGet L173 6 = some (.int (i32 (0))) := eL173 ▸ jg_eq
    refine jx_ld (pc' := 268) (l' := L173) (st' := [.ref 66]) rfl (jl_aloadn gL173_0) ?_
    refine jx_ld (pc' := 270) (l' := L173) (st' := [.int (i32 (0)), .ref 66]) rfl (jl_iload gL173_6) ?_
    refine jx_if_eq (pc' := 273) (tg := 278) rfl rfl rfl (by decide) (by decide) (fun h174 => ?_) (fun h174 => ?_)
    · have _q := h174
      refine jx_ar (pc' := 280) (st' := [.int (i32 (24)), .ref 66]) rfl rfl rfl rfl ?_
      refine jx_ld (pc' := 281) (l' := L173) (st' := [.ref 66, .int (i32 (24)), .ref 66]) rfl (jl_aloadn gL173_0) ?_
      refine jx_ld (pc' := 283) (l' := L173) (st' := [.int (i32 (1)), .ref 66, .int (i32 (24)), .ref 66]) rfl (jl_iload gL173_5) ?_
      refine jx_if_eq (pc' := 286) (tg := 290) rfl rfl rfl (by decide) (by decide) (fun h175 => ?_) (fun h175 => ?_)
      · have _q := h175
        exact absurd h175 (by omega)
      · have _q := h175
        refine jx_ar (pc' := 287) (st' := [.int (i32 (3)), .ref 66, .int (i32 (24)), .ref 66]) rfl rfl rfl rfl ?_
        refine jx_go (tg := 291) rfl rfl ?_
        refine jx_ld (pc' := 292) (l' := L173) (st' := [.int (i32 (s)), .int (i32 (3)), .ref 66, .int (i32 (24)), .ref 66]) rfl (jl_iloadn gL173_2) ?_
        refine jx_ld (pc' := 294) (l' := L173) (st' := [.int (i32 (ix)), .int (i32 (s)), .int (i32 (3)), .ref 66, .int (i32 (24)), .ref 66]) rfl (jl_iload gL173_4) ?_
        refine jx_ar (pc' := 295) (st' := [.int (i32 (0)), .int (i32 (ix)), .int (i32 (s)), .int (i32 (3)), .ref 66, .int (i32 (24)), .ref 66]) rfl rfl rfl rfl ?_
        refine jx_ar (pc' := 296) (st' := [.int (i32 (0)), .int (i32 (0)), .int (i32 (ix)), .int (i32 (s)), .int (i32 (3)), .ref 66, .int (i32 (24)), .ref 66]) rfl rfl rfl rfl ?_
        refine jx_vr (pc' := 299) (as := [.int (i32 (3)), .int (i32 (s)), .int (i32 (ix)), .int (i32 (0)), .int (i32 (0))]) (st := [.int (i32 (24)), .ref 66]) rfl rfl rfl rfl ⟨rfl, rfl, Nat.le_of_ble_eq_true rfl⟩ rfl rfl (c_node_e (dd := d) (hd := by omega) (hW := hWx) (kind := 3) (a := s) (b := ix) (c := 0) (e := 0) (nd := nd1) (e_nd := show Gx 31 = nd1 from (ex_nd1)) (ec := ec1) (e_ec := show ecn Ax (Gx 31) = ec1 from ex_ec1)  (h_kind := ⟨(by decide), (by decide)⟩) (h_a := ⟨(Int.le_trans (by decide : (-2147483648 : Int) ≤ -2147483648) rx_s.1), (Int.le_trans rx_s.2 (by decide : (2147483647 : Int) ≤ 2147483647))⟩) (h_b := ⟨(Int.le_trans (by decide : (-2147483648 : Int) ≤ -2147483648) rx_ix.1), (Int.le_trans rx_ix.2 (by decide : (2147483647 : Int) ≤ 2147483647))⟩) (h_c := ⟨(by decide), (by decide)⟩) (h_e := ⟨(by decide), (by decide)⟩)  (p_0 := by omega) (p_1 := by omega) (p_2 := by omega)) (fun o V' hq => ?_)
        obtain ⟨G176, A177, nd2_178, ec2_179, rfl, rfl, hW180, hF181, hQ182, e183, e184, p185, p186, p187, -⟩ := hq
        have hF189 := Fr_tr hFx hF181 (Fr_sub (by decide)) (Fr_sub (by decide))
        have hP190 := Pf_tr hPx hQ182 (by omega)
        have sf191 : wE A177 Vs sb (20) (ix) (nd) (nd1) := wE_ag (by omega) (Sg_fr hF181 (by decide)) (Ag_pf hQ182 (by omega)) iv_10
        have bnd2_178 : (0 : Int) ≤ nd2_178 ∧ nd2_178 ≤ 6999 := e183 ▸ hW180.1 31
        refine .inr ⟨_, rfl, ?_⟩
        refine jx_ar (pc' := 300) (st' := [.int (i32 (0)), .int (i32 (nd1)), .int (i32 (24)), .ref 66]) rfl rfl rfl rfl ?_
        refine jx_ar (pc' := 301) (st' := [.int (i32 (0)), .int (i32 (0)), .int (i32 (nd1)), .int (i32 (24)), .ref 66]) rfl rfl rfl rfl ?_
        refine jx_ar (pc' := 302) (st' := [.int (i32 (0)), .int (i32 (0)), .int (i32 (0)), .int (i32 (nd1)), .int (i32 (24)), .ref 66]) rfl rfl rfl rfl ?_
        refine jx_vr (pc' := 305) (as := [.int (i32 (24)), .int (i32 (nd1)), .int (i32 (0)), .int (i32 (0)), .int (i32 (0))]) (st := []) rfl rfl rfl rfl ⟨rfl, rfl, Nat.le_of_ble_eq_true rfl⟩ rfl rfl (c_node_o (dd := d) (hd := by omega) (hW := hW180) (kind := 24) (a := nd1) (b := 0) (c := 0) (e := 0) (nd := nd2_178) (e_nd := show G176 31 = nd2_178 from (e183)) (ec := ec2_179) (e_ec := show ecn A177 (G176 31) = ec2_179 from e184)  (h_kind := ⟨(by decide), (by decide)⟩) (h_a := ⟨(Int.le_trans (by decide : (-2147483648 : Int) ≤ 0) b_nd1.1), (Int.le_trans b_nd1.2 (by decide : (6999 : Int) ≤ 2147483647))⟩) (h_b := ⟨(by decide), (by decide)⟩) (h_c := ⟨(by decide), (by decide)⟩) (h_e := ⟨(by decide), (by decide)⟩)  (p_0 := by omega) (p_1 := by omega) (p_2 := by omega)) (fun o V' hq => ?_)
        obtain ⟨G192, A193, nd2_194, ec2_195, rfl, rfl, hW196, hF197, hQ198, e199, e200, p201, p202, p203, -⟩ := hq
        have hF205 := Fr_tr hF189 hF197 (Fr_sub (by decide)) (Fr_sub (by decide))
        have hP206 := Pf_tr hP190 hQ198 (by omega)
        have sf207 : wE A193 Vs sb (20) (ix) (nd) (nd1) := wE_ag (by omega) (Sg_fr hF197 (by decide)) (Ag_pf hQ198 (by omega)) sf191
        have sf208 : ND A193 (nd1) (3) (s) (ix) (0) (0) (0) (0) := ND_ag (by omega) (Ag_pf hQ198 (by omega)) p187
        have bnd2_194 : (0 : Int) ≤ nd2_194 ∧ nd2_194 ≤ 6999 := e199 ▸ hW196.1 31
        refine .inr ⟨_, rfl, ?_⟩
        refine jx_ld (pc' := 307) (l' := jSto1 L173 7 (.int (i32 (nd2_178)))) (st' := []) rfl rfl ?_
        obtain ⟨L209, eL209⟩ : ∃ q, q = jSto1 L173 7 (.int (i32 (nd2_178))) := ⟨_, rfl⟩
        rw [← eL209]
        have gL209_0 : jGet L209 0 = some (.ref 66) := eL209 ▸ jg_ne (by decide) gL173_0 rfl
        have gL209_5 : jGet L209 5 = some (.int (i32 (1))) := eL209 ▸ jg_ne (by decide) gL173_5 rfl
        have gL209_2 : jGet L209 2 = some (.int (i32 (s))) := eL209 ▸ jg_ne (by decide) gL173_2 rfl
        have gL209_4 : jGet L209 4 = some (.int (i32 (ix))) := eL209 ▸ jg_ne (by decide) gL173_4 rfl
        have gL209_6 : jGet L209 6 = some (.int (i32 (0))) := eL209 ▸ jg_ne (by decide) gL173_6 rfl
        have gL209_7 : jGet L209 7 = some (.int (i32 (nd2_178))) := eL209 ▸ jg_eq
        refine jx_ld (pc' := 308) (l' := L209) (st' := [.ref 66]) rfl (jl_aloadn gL209_0) ?_
        refine jx_vr (pc' := 311) (as := []) (st := []) rfl rfl rfl rfl ⟨rfl, rfl, Nat.le_of_ble_eq_true rfl⟩ rfl rfl (c_next (dd := d) (hd := by omega) (hW := hW196)  (ln := ln) (e_ln := show G192 9 = ln from ((hF197.1 9 rfl).trans ((hF181.1 9 rfl).trans (fx_9)))) (le := le) (e_le := show A193 4 (ln).toNat = le from (congrFun ((hF197.2 4 rfl).trans ((hF181.2 4 rfl).trans (hFx.2 4 rfl))) _).trans (e_le)) (at0 := at1) (e_at0 := show G192 10 = at1 from ((hF197.1 10 rfl).trans ((hF181.1 10 rfl).trans (ex_at1))))    (p_0 := by omega)) (fun o V' hq => ?_)
        obtain ⟨G210, A211, at2_212, tk2_213, rfl, rfl, hW214, hF215, e216, e217, p218, p219, p220, -⟩ := hq
        have hF222 := Fr_tr hF205 hF215 (Fr_sub (by decide)) (Fr_sub (by decide))
        have hP223 := Pf_f hP206 hF215 (by decide)
        have sf224 : wE A211 Vs sb (20) (ix) (nd) (nd1) := wE_ag (by omega) (Sg_fr hF215 (by decide)) (Ag_fr hF215 (by decide)) sf207
        have sf225 : ND A211 (nd1) (3) (s) (ix) (0) (0) (0) (0) := ND_ag (by omega) (Ag_fr hF215 (by decide)) sf208
        have sf226 : ND A211 (nd2_178) (24) (nd1) (0) (0) (0) (0) (0) := ND_ag (by omega) (Ag_fr hF215 (by decide)) p203
        have ec227 : ecn A211 (G210 31) = ec2_195 := (ecn_f (hF215.2 15 rfl) (hF215.1 31 rfl)).trans e200
        have bat2_212 : (0 : Int) ≤ at2_212 ∧ at2_212 ≤ 3002 := e216 ▸ hW214.1 10
        have ztk2_213 := tz_b tk2_213
        have btk2_213 : (0 : Int) ≤ tk2_213 ∧ tk2_213 ≤ 5 := e217 ▸ hW214.1 11
        refine .inl ⟨rfl, ?_⟩
        refine jx_ld (pc' := 312) (l' := L209) (st' := [.ref 66]) rfl (jl_aloadn gL209_0) ?_
        refine jr_get (pc' := 315) (i := 35) (v := .ref 85) rfl rfl (by decide) rfl rfl ?_
        refine jx_ld (pc' := 317) (l' := L209) (st' := [.int (i32 (nd2_178)), .ref 85]) rfl (jl_iload gL209_7) ?_
        refine jx_ld (pc' := 319) (l' := L209) (st' := [.int (i32 (0)), .int (i32 (nd2_178)), .ref 85]) rfl (jl_iload gL209_6) ?_
        refine jx_if_eq (pc' := 322) (tg := 329) rfl rfl rfl (by decide) (by decide) (fun h228 => ?_) (fun h228 => ?_)
        · have _q := h228
          refine jx_ld (pc' := 330) (l' := L209) (st' := [.ref 66, .int (i32 (nd2_178)), .ref 85]) rfl (jl_aloadn gL209_0) ?_
          refine jx_ar (pc' := 331) (st' := [.int (i32 (0)), .ref 66, .int (i32 (nd2_178)), .ref 85]) rfl rfl rfl rfl ?_
          refine jx_vr (pc' := 334) (as := [.int (i32 (0))]) (st := [.int (i32 (nd2_178)), .ref 85]) rfl rfl rfl rfl ⟨rfl, rfl, Nat.le_of_ble_eq_true rfl⟩ rfl rfl (c_readReference_w (dd := d) (hd := by omega) (hW := hW214) (ch := 0) (ln := ln) (e_ln := show G210 9 = ln from ((hF215.1 9 rfl).trans ((hF197.1 9 rfl).trans ((hF181.1 9 rfl).trans (fx_9))))) (le := le) (e_le := show A211 4 (ln).toNat = le from (congrFun ((hF215.2 4 rfl).trans ((hF197.2 4 rfl).trans ((hF181.2 4 rfl).trans (hFx.2 4 rfl)))) _).trans (e_le)) (at0 := at2_212) (e_at0 := show G210 10 = at2_212 from (e216)) (fk := fk1) (e_fk := show G210 16 = fk1 from ((hF215.1 16 rfl).trans ((hF197.1 16 rfl).trans ((hF181.1 16 rfl).trans (ex_fk1))))) (op0 := op1) (e_op0 := show G210 15 = op1 from ((hF215.1 15 rfl).trans ((hF197.1 15 rfl).trans ((hF181.1 15 rfl).trans (ex_op1))))) (nd := nd2_194) (e_nd := show G210 31 = nd2_194 from ((hF215.1 31 rfl).trans (e199))) (tk0 := tk2_213) (e_tk0 := show G210 11 = tk2_213 from (e217)) (ec := ec2_195) (e_ec := show ecn A211 (G210 31) = ec2_195 from ec227) (i_SV := (SV_ext (((hF215.1 29 rfl).trans ((hF197.1 29 rfl).trans ((hF181.1 29 rfl).trans (hFx.1 29 rfl))))) (((hF215.2 14 rfl).trans ((hF197.2 14 rfl).trans ((hF181.2 14 rfl).trans (hFx.2 14 rfl))))) i_SV)) (h_ch := ⟨(by decide), (by decide)⟩)  (p_0 := by omega) (p_1 := by omega) (p_2 := by omega) (p_3 := by omega) (p_4 := by omega)) (fun o V' hq => ?_)
          obtain ⟨G229, A230, r231, at2_232, fk2_233, op2_234, nd2_235, tk2_236, ec2_237, rfl, rfl, hW238, hF239, hQ240, b241, e242, e243, e244, e245, e246, e247, p248, p249, p250, p251, p252, p253, q254⟩ := hq
          have hF255 := Fr_tr hF222 hF239 (Fr_sub (by decide)) (Fr_sub (by decide))
          have hP256 := Pf_tr hP223 hQ240 (by omega)
          have sf257 : wE A230 Vs sb (20) (ix) (nd) (nd1) := wE_ag (by omega) (Sg_fr hF239 (by decide)) (Ag_pf hQ240 (by omega)) sf224
          have sf258 : ND A230 (nd1) (3) (s) (ix) (0) (0) (0) (0) := ND_ag (by omega) (Ag_pf hQ240 (by omega)) sf225
          have sf259 : ND A230 (nd2_178) (24) (nd1) (0) (0) (0) (0) (0) := ND_ag (by omega) (Ag_pf hQ240 (by omega)) sf226
          have bat2_232 : (0 : Int) ≤ at2_232 ∧ at2_232 ≤ 3002 := e242 ▸ hW238.1 10
          have bfk2_233 : (0 : Int) ≤ fk2_233 ∧ fk2_233 ≤ 6 := e243 ▸ hW238.1 16
          have bop2_234 : (-2147483648 : Int) ≤ op2_234 ∧ op2_234 ≤ 2147483647 := e244 ▸ hW238.1 15
          have bnd2_235 : (0 : Int) ≤ nd2_235 ∧ nd2_235 ≤ 6999 := e245 ▸ hW238.1 31
          have ztk2_236 := tz_b tk2_236
          have btk2_236 : (0 : Int) ≤ tk2_236 ∧ tk2_236 ≤ 5 := e246 ▸ hW238.1 11
          refine .inr ⟨_, rfl, ?_⟩
          rcases q254 with ⟨a260, a261, a262, a263, a264, a265⟩ | ⟨a266, a267, a268⟩ | ⟨a269, a270, a271, a272, a273⟩
          · have _q : True := trivial
            exfalso
            omega
          · have _q : True := trivial
            refine jr_st (pc' := 335) (i := 18) (m := 7000) (z := nd2_178) (y := r231) rfl (by decide) rfl (by decide) (by omega) (by omega) rfl ?_
            have hW275 : Wk G229 (uA A230 18 (nd2_178).toNat (r231)) := Wk_a hW238 (show (-2147483648 : Int) ≤ r231 by omega) (show r231 ≤ (2147483647 : Int) by omega)
            have hF276 := Fr_a (z := r231) (k := 18) (n := (nd2_178).toNat) hF255 (by decide)
            obtain ⟨A274, eA274⟩ : ∃ q, q = uA A230 18 (nd2_178).toNat (r231) := ⟨_, rfl⟩
            rw [← eA274]
            rw [← eA274] at hW275 hF276
            have q277 : A274 18 (nd2_178).toNat = r231 := by rw [eA274]; exact uA_eq
            have hP278 : Pf nd A A274 := eA274 ▸ Pf_a hP256 (z := nd2_178) (by omega) (by omega)
            have sf279 : wE A274 Vs sb (20) (ix) (nd) (nd1) := wE_ag (by omega) (Sg_ne eA274 rfl) (Ag_st eA274 (by omega) (by omega)) sf257
            have sf280 : ND A274 (nd1) (3) (s) (ix) (0) (0) (0) (0) := ND_ag (by omega) (Ag_st eA274 (by omega) (by omega)) sf258
            have sf281 : ND A274 (nd2_178) (24) (nd1) (r231) (0) (0) (0) (0) := ND_b eA274 sf259
            have ec282 : ecn A274 (G229 31) = ec2_237 := (ecn_e ((congrFun eA274 15).trans (uA_ne (by decide)))).trans e247
            refine jx_ld (pc' := 336) (l' := L209) (st' := [.ref 66]) rfl (jl_aloadn gL209_0) ?_
            refine jx_vr (pc' := 339) (as := []) (st := []) rfl rfl rfl rfl ⟨rfl, rfl, Nat.le_of_ble_eq_true rfl⟩ rfl rfl (c_endLine (dd := d) (hd := by omega) (hW := hW275)  (ln := ln) (e_ln := show G229 9 = ln from ((hF239.1 9 rfl).trans ((hF215.1 9 rfl).trans ((hF197.1 9 rfl).trans ((hF181.1 9 rfl).trans (fx_9)))))) (li := li) (e_li := show G229 3 = li from ((hF239.1 3 rfl).trans ((hF215.1 3 rfl).trans ((hF197.1 3 rfl).trans ((hF181.1 3 rfl).trans ((hFx.1 3 rfl).trans (e_li))))))) (fk := fk2_233) (e_fk := show G229 16 = fk2_233 from (e243)) (tk0 := tk2_236) (e_tk0 := show G229 11 = tk2_236 from (e246))    (p_0 := by omega)) (fun o V' hq => ?_)
            obtain ⟨G283, A284, ln2_285, fk2_286, rfl, rfl, hW287, hF288, e289, e290, q291⟩ := hq
            have hF292 := Fr_tr hF276 hF288 (Fr_sub (by decide)) (Fr_sub (by decide))
            have hP293 := Pf_f hP278 hF288 (by decide)
            have sf294 : wE A284 Vs sb (20) (ix) (nd) (nd1) := wE_ag (by omega) (Sg_fr hF288 (by decide)) (Ag_fr hF288 (by decide)) sf279
            have sf295 : ND A284 (nd1) (3) (s) (ix) (0) (0) (0) (0) := ND_ag (by omega) (Ag_fr hF288 (by decide)) sf280
            have sf296 : ND A284 (nd2_178) (24) (nd1) (r231) (0) (0) (0) (0) := ND_ag (by omega) (Ag_fr hF288 (by decide)) sf281
            have ec297 : ecn A284 (G283 31) = ec2_237 := (ecn_f (hF288.2 15 rfl) (hF288.1 31 rfl)).trans ec282
            have bln2_285 : (0 : Int) ≤ ln2_285 ∧ ln2_285 ≤ 3000 := e289 ▸ hW287.1 9
            have bfk2_286 : (0 : Int) ≤ fk2_286 ∧ fk2_286 ≤ 6 := e290 ▸ hW287.1 16
            refine .inl ⟨rfl, ?_⟩
            rcases q291 with ⟨a298, a299, a300, a301, a302⟩ | ⟨a303, a304⟩
            · have _q : True := trivial
              exfalso
              omega
            · have _q : True := trivial
              refine jx_ld (pc' := 341) (l' := L209) (st' := [.int (i32 (nd2_178))]) rfl (jl_iload gL209_7) ?_
              refine jx_rt (v := some (.int (i32 (nd2_178)))) rfl rfl rfl rfl rfl rfl ?_
              exact ⟨_, _, _, at2_232, fk2_286, nd2_235, ln2_285, ec2_237, rfl, rfl, hW287, hF292, hP293, by omega, ((hF288.1 10 rfl).trans (e242)), (e290), ((hF288.1 31 rfl).trans (e245)), (e289), ec297, by omega, by omega, by omega, by omega, by omega, by first | exact Or.inl (⟨by omega, by omega, by omega⟩)⟩
          · have _q : True := trivial
            refine jr_st (pc' := 335) (i := 18) (m := 7000) (z := nd2_178) (y := r231) rfl (by decide) rfl (by decide) (by omega) (by omega) rfl ?_
            have hW306 : Wk G229 (uA A230 18 (nd2_178).toNat (r231)) := Wk_a hW238 (show (-2147483648 : Int) ≤ r231 by omega) (show r231 ≤ (2147483647 : Int) by omega)
            have hF307 := Fr_a (z := r231) (k := 18) (n := (nd2_178).toNat) hF255 (by decide)
            obtain ⟨A305, eA305⟩ : ∃ q, q = uA A230 18 (nd2_178).toNat (r231) := ⟨_, rfl⟩
            rw [← eA305]
            rw [← eA305] at hW306 hF307
            have q308 : A305 18 (nd2_178).toNat = r231 := by rw [eA305]; exact uA_eq
            have hP309 : Pf nd A A305 := eA305 ▸ Pf_a hP256 (z := nd2_178) (by omega) (by omega)
            have sf310 : wE A305 Vs sb (20) (ix) (nd) (nd1) := wE_ag (by omega) (Sg_ne eA305 rfl) (Ag_st eA305 (by omega) (by omega)) sf257
            have sf311 : ND A305 (nd1) (3) (s) (ix) (0) (0) (0) (0) := ND_ag (by omega) (Ag_st eA305 (by omega) (by omega)) sf258
            have sf312 : ND A305 (nd2_178) (24) (nd1) (r231) (0) (0) (0) (0) := ND_b eA305 sf259
            have sf313 : wR A305 Vs sb (20) (0) (r231) (nd2_194) (nd2_235) := wR_ag (by omega) (Sg_ne eA305 rfl) (Ag_st eA305 (by omega) (by omega)) a272
            have ec314 : ecn A305 (G229 31) = ec2_237 := (ecn_e ((congrFun eA305 15).trans (uA_ne (by decide)))).trans e247
            refine jx_ld (pc' := 336) (l' := L209) (st' := [.ref 66]) rfl (jl_aloadn gL209_0) ?_
            refine jx_vr (pc' := 339) (as := []) (st := []) rfl rfl rfl rfl ⟨rfl, rfl, Nat.le_of_ble_eq_true rfl⟩ rfl rfl (c_endLine (dd := d) (hd := by omega) (hW := hW306)  (ln := ln) (e_ln := show G229 9 = ln from ((hF239.1 9 rfl).trans ((hF215.1 9 rfl).trans ((hF197.1 9 rfl).trans ((hF181.1 9 rfl).trans (fx_9)))))) (li := li) (e_li := show G229 3 = li from ((hF239.1 3 rfl).trans ((hF215.1 3 rfl).trans ((hF197.1 3 rfl).trans ((hF181.1 3 rfl).trans ((hFx.1 3 rfl).trans (e_li))))))) (fk := fk2_233) (e_fk := show G229 16 = fk2_233 from (e243)) (tk0 := tk2_236) (e_tk0 := show G229 11 = tk2_236 from (e246))    (p_0 := by omega)) (fun o V' hq => ?_)
            obtain ⟨G315, A316, ln2_317, fk2_318, rfl, rfl, hW319, hF320, e321, e322, q323⟩ := hq
            have hF324 := Fr_tr hF307 hF320 (Fr_sub (by decide)) (Fr_sub (by decide))
            have hP325 := Pf_f hP309 hF320 (by decide)
            have sf326 : wE A316 Vs sb (20) (ix) (nd) (nd1) := wE_ag (by omega) (Sg_fr hF320 (by decide)) (Ag_fr hF320 (by decide)) sf310
            have sf327 : ND A316 (nd1) (3) (s) (ix) (0) (0) (0) (0) := ND_ag (by omega) (Ag_fr hF320 (by decide)) sf311
            have sf328 : ND A316 (nd2_178) (24) (nd1) (r231) (0) (0) (0) (0) := ND_ag (by omega) (Ag_fr hF320 (by decide)) sf312
            have sf329 : wR A316 Vs sb (20) (0) (r231) (nd2_194) (nd2_235) := wR_ag (by omega) (Sg_fr hF320 (by decide)) (Ag_fr hF320 (by decide)) sf313
            have ec330 : ecn A316 (G315 31) = ec2_237 := (ecn_f (hF320.2 15 rfl) (hF320.1 31 rfl)).trans ec314
            have bln2_317 : (0 : Int) ≤ ln2_317 ∧ ln2_317 ≤ 3000 := e321 ▸ hW319.1 9
            have bfk2_318 : (0 : Int) ≤ fk2_318 ∧ fk2_318 ≤ 6 := e322 ▸ hW319.1 16
            refine .inl ⟨rfl, ?_⟩
            rcases q323 with ⟨a331, a332, a333, a334, a335⟩ | ⟨a336, a337⟩
            · have _q : True := trivial
              refine jx_ld (pc' := 341) (l' := L209) (st' := [.int (i32 (nd2_178))]) rfl (jl_iload gL209_7) ?_
              refine jx_rt (v := some (.int (i32 (nd2_178)))) rfl rfl rfl rfl rfl rfl ?_
              exact ⟨_, _, _, at2_232, fk2_318, nd2_235, ln2_317, ec2_237, rfl, rfl, hW319, hF324, hP325, by omega, ((hF320.1 10 rfl).trans (e242)), (e322), ((hF320.1 31 rfl).trans (e245)), (e321), ec330, by omega, by omega, by omega, by omega, by omega, by first | exact Or.inr ((⟨by omega, by omega, by omega, by omega, by omega, (wL_in sf328 (by omega) (by omega) (wR_elem sf327 (by omega) (by omega) iv_8 (kq (P := kRow (1)) (show A316 7 (s).toNat = ks from (congrFun ((hF320.2 7 rfl).trans (((congrFun eA305 7).trans (uA_ne (by decide))).trans ((hF239.2 7 rfl).trans ((hF215.2 7 rfl).trans ((hF197.2 7 rfl).trans (hF181.2 7 rfl)))))) _).trans (ex_ks)) (by first | exact .inr ⟨by omega, by omega⟩)) (wE_mono (by omega) (by omega) (by omega) sf326)) (wR_mono (by omega) (by omega) (by omega) sf329)), (NX_nd sf328), by omega, by omega⟩))⟩
            · have _q : True := trivial
              refine jx_ld (pc' := 341) (l' := L209) (st' := [.int (i32 (nd2_178))]) rfl (jl_iload gL209_7) ?_
              refine jx_rt (v := some (.int (i32 (nd2_178)))) rfl rfl rfl rfl rfl rfl ?_
              exact ⟨_, _, _, at2_232, fk2_318, nd2_235, ln2_317, ec2_237, rfl, rfl, hW319, hF324, hP325, by omega, ((hF320.1 10 rfl).trans (e242)), (e322), ((hF320.1 31 rfl).trans (e245)), (e321), ec330, by omega, by omega, by omega, by omega, by omega, by first | exact Or.inl (⟨by omega, by omega, by omega⟩)⟩
        · have _q := h228
          exact absurd h228 (by omega)
    · have _q := h174
      exact absurd h174 (by omega)
set_option maxRecDepth 20000 in
set_option maxHeartbeats 4000000 in
theorem c_readNamed_w_at_259_0 {X : jX} {d : Nat} {Vs : Nat → Prop} {sb pb : Int} {c0 c1 : jC} {G : Nat → Int} {A : Nat → Nat → Int} {T : jH} {ln le at0 fk op0 nd tk0 li ec : Int} (hd : 72 ≤ d + 1) (hW : Wk G A) (e_ln : G 9 = ln) (e_le : A 4 (ln).toNat = le) (e_at0 : G 10 = at0) (e_fk : G 16 = fk) (e_op0 : G 15 = op0) (e_nd : G 31 = nd) (e_tk0 : G 11 = tk0) (e_li : G 3 = li) (e_ec : ecn A (G 31) = ec) (i_SV : SV Vs sb G A) (i_PQ : PQ Vs sb pb G A) (p_0 : 0 ≤ op0 ∧ op0 ≤ 8) (p_1 : fk = 0) (p_2 : nd ≤ 2 * at0 - tz tk0 + 42) (p_3 : at0 ≤ le) (p_4 : ln < li) (p_5 : tk0 = 1) : ∀ (L : jL) (Gx : Nat → Int) (Ax : Nat → Nat → Int) (s at1 tk1 fk1 nd1 op1 ks ec1 : Int), jGet L 0 = some (.ref 66) → jGet L 5 = some (.int (i32 (0))) → jGet L 4 = some (.int (i32 (0))) → jGet L 2 = some (.int (i32 s)) → Wk Gx Ax → Fr [9, 10, 11, 12, 13, 14, 15, 16, 17, 18, 31] [15, 16, 17, 18, 19, 20, 21, 22, 24, 28] G A Gx Ax → Pf nd A Ax → Gx 10 = at1 → Gx 11 = tk1 → Gx 16 = fk1 → Gx 31 = nd1 → Gx 15 = op1 → Ax 7 (s).toNat = ks → ecn Ax (Gx 31) = ec1 → Gx 9 = ln → ((-2147483648 : Int) ≤ s ∧ s ≤ 2147483647) → (at0 ≤ at1) → (at1 ≤ le) → (nd ≤ nd1) → (op1 = op0) → (fk1 = 0) → (nd1 - nd ≤ (2 * at1 - tz tk1) - (2 * at0 - tz tk0) - 1) → (tz tk1 = 1) → (0 ≤ s ∧ s ≤ 201) → (SY Vs sb (s)) → (kCh (ks)) → (nd + 5 * ec ≤ nd1 - tz tk1) → (nd1 - nd + 5 * (ec1 - ec) ≤ (2 * at1 - tz tk1) - (2 * at0 - tz tk0) - 1 - tz tk1) → wj X d jm304 (259, L, [], rV c0 c1 Gx Ax T) (fun o V' => ∃ (G' : Nat → Int) (A' : Nat → Nat → Int) (r : Int) (at2 : Int) (fk2 : Int) (nd2 : Int) (ln2 : Int) (ec2 : Int), V' = rV c0 c1 G' A' T ∧ o = .inl (some (.int (i32 r))) ∧ Wk G' A' ∧ Fr [9, 10, 11, 12, 13, 14, 15, 16, 17, 18, 31] [15, 16, 17, 18, 19, 20, 21, 22, 24, 28] G A G' A' ∧ Pf nd A A' ∧ ((-2147483648 : Int) ≤ r ∧ r ≤ 2147483647) ∧ G' 10 = at2 ∧ G' 16 = fk2 ∧ G' 31 = nd2 ∧ G' 9 = ln2 ∧ ecn A' (G' 31) = ec2 ∧ (at0 ≤ at2) ∧ (at2 ≤ le) ∧ (nd ≤ nd2) ∧ (0 ≤ r) ∧ (r ≤ nd2) ∧ (((1 ≤ fk2) ∧ (ln2 = ln) ∧ (nd2 - nd ≤ 2 * at2 - 2 * at0 + 8)) ∨ ((fk2 = 0) ∧ (ln2 = ln + 1) ∧ (nd2 - nd ≤ 2 * at2 - (2 * at0 - tz tk0) + 0) ∧ (nd ≤ r) ∧ (r < nd2) ∧ (wL A' sb pb Vs (r) (nd) (nd2)) ∧ (NX A' (r)) ∧ (nd2 - nd + 5 * (ec2 - ec) ≤ 2 * at2 - (2 * at0 - tz tk0) + 0) ∧ (nd + 5 * ec ≤ r)))) := by
  have hF0 : Fr [9, 10, 11, 12, 13, 14, 15, 16, 17, 18, 31] [15, 16, 17, 18, 19, 20, 21, 22, 24, 28] G A G A := Fr_rf
  have hP0 : Pf nd A A := Pf_rf
  have b_ln : (0 : Int) ≤ ln ∧ ln ≤ 3000 := e_ln ▸ hW.1 9
  have b_le : (0 : Int) ≤ le ∧ le ≤ 3000 := e_le ▸ hW.2 4 _
  have b_at0 : (0 : Int) ≤ at0 ∧ at0 ≤ 3002 := e_at0 ▸ hW.1 10
  have b_fk : (0 : Int) ≤ fk ∧ fk ≤ 6 := e_fk ▸ hW.1 16
  have b_op0 : (-2147483648 : Int) ≤ op0 ∧ op0 ≤ 2147483647 := e_op0 ▸ hW.1 15
  have b_nd : (0 : Int) ≤ nd ∧ nd ≤ 6999 := e_nd ▸ hW.1 31
  have z_tk0 := tz_f tk0
  have b_tk0 : (0 : Int) ≤ tk0 ∧ tk0 ≤ 5 := e_tk0 ▸ hW.1 11
  have b_li : (0 : Int) ≤ li ∧ li ≤ 3000 := e_li ▸ hW.1 3
  intro L Gx Ax s at1 tk1 fk1 nd1 op1 ks ec1 gL_0 gL_5 gL_4 gL_2 hWx hFx hPx ex_at1 ex_tk1 ex_fk1 ex_nd1 ex_op1 ex_ks ex_ec1 fx_9 rx_s iv_0 iv_1 iv_2 iv_3 iv_4 iv_5 iv_6 iv_7 iv_8 iv_9 iv_10 iv_11
  have b_at1 : (0 : Int) ≤ at1 ∧ at1 ≤ 3002 := ex_at1 ▸ hWx.1 10
  have z_tk1 := tz_f tk1
  have b_tk1 : (0 : Int) ≤ tk1 ∧ tk1 ≤ 5 := ex_tk1 ▸ hWx.1 11
  have b_fk1 : (0 : Int) ≤ fk1 ∧ fk1 ≤ 6 := ex_fk1 ▸ hWx.1 16
  have b_nd1 : (0 : Int) ≤ nd1 ∧ nd1 ≤ 6999 := ex_nd1 ▸ hWx.1 31
  have b_op1 : (-2147483648 : Int) ≤ op1 ∧ op1 ≤ 2147483647 := ex_op1 ▸ hWx.1 15
  have b_ks : (0 : Int) ≤ ks ∧ ks ≤ 14 := ex_ks ▸ hWx.2 7 _
  refine jx_ld (pc' := 260) (l' := L) (st' := [.ref 66]) rfl (jl_aloadn gL_0) ?_
  refine jx_ar (pc' := 262) (st' := [.int (i32 (33)), .ref 66]) rfl rfl rfl rfl ?_
  have b338 : (-2147483648 : Int) ≤ Gx 13 ∧ Gx 13 ≤ 2147483647 := hWx.1 13
  refine jx_vr (pc' := 265) (as := [.int (i32 (33))]) (st := []) rfl rfl rfl rfl ⟨rfl, rfl, Nat.le_of_ble_eq_true rfl⟩ rfl rfl (c_is (dd := d) (hd := by omega) (hW := hWx) (k := 33) (tk := tk1) (e_tk := show Gx 11 = tk1 from (ex_tk1)) (tn := Gx 13) (e_tn := show Gx 13 = Gx 13 from rfl)  (h_k := ⟨(by decide), (by decide)⟩)  ) (fun o V' hq => ?_)
  obtain ⟨r339, rfl, rfl, b340, q341⟩ := hq
  refine .inr ⟨_, rfl, ?_⟩
  rcases q341 with ⟨rfl, a342, a343, a344⟩ | rfl
  · have _q : True := trivial
    refine jx_ld (pc' := 267) (l' := jSto1 L 6 (.int (i32 (1)))) (st' := []) rfl rfl ?_
    obtain ⟨L345, eL345⟩ : ∃ q, q = jSto1 L 6 (.int (i32 (1))) := ⟨_, rfl⟩
    rw [← eL345]
    have gL345_0 : jGet L345 0 = some (.ref 66) := eL345 ▸ jg_ne (by decide) gL_0 rfl
    have gL345_5 : jGet L345 5 = some (.int (i32 (0))) := eL345 ▸ jg_ne (by decide) gL_5 rfl
    have gL345_4 : jGet L345 4 = some (.int (i32 (0))) := eL345 ▸ jg_ne (by decide) gL_4 rfl
    have gL345_2 : jGet L345 2 = some (.int (i32 (s))) := eL345 ▸ jg_ne (by decide) gL_2 rfl
    have gL345_6 : jGet L345 6 = some (.int (i32 (1))) := eL345 ▸ jg_eq
    refine jx_ld (pc' := 268) (l' := L345) (st' := [.ref 66]) rfl (jl_aloadn gL345_0) ?_
    refine jx_ld (pc' := 270) (l' := L345) (st' := [.int (i32 (1)), .ref 66]) rfl (jl_iload gL345_6) ?_
    refine jx_if_eq (pc' := 273) (tg := 278) rfl rfl rfl (by decide) (by decide) (fun h346 => ?_) (fun h346 => ?_)
    · have _q := h346
      exact absurd h346 (by omega)
    · have _q := h346
      refine jx_ar (pc' := 275) (st' := [.int (i32 (23)), .ref 66]) rfl rfl rfl rfl ?_
      refine jx_go (tg := 280) rfl rfl ?_
      refine jx_ld (pc' := 281) (l' := L345) (st' := [.ref 66, .int (i32 (23)), .ref 66]) rfl (jl_aloadn gL345_0) ?_
      refine jx_ld (pc' := 283) (l' := L345) (st' := [.int (i32 (0)), .ref 66, .int (i32 (23)), .ref 66]) rfl (jl_iload gL345_5) ?_
      refine jx_if_eq (pc' := 286) (tg := 290) rfl rfl rfl (by decide) (by decide) (fun h347 => ?_) (fun h347 => ?_)
      · have _q := h347
        refine jx_ar (pc' := 291) (st' := [.int (i32 (2)), .ref 66, .int (i32 (23)), .ref 66]) rfl rfl rfl rfl ?_
        refine jx_ld (pc' := 292) (l' := L345) (st' := [.int (i32 (s)), .int (i32 (2)), .ref 66, .int (i32 (23)), .ref 66]) rfl (jl_iloadn gL345_2) ?_
        refine jx_ld (pc' := 294) (l' := L345) (st' := [.int (i32 (0)), .int (i32 (s)), .int (i32 (2)), .ref 66, .int (i32 (23)), .ref 66]) rfl (jl_iload gL345_4) ?_
        refine jx_ar (pc' := 295) (st' := [.int (i32 (0)), .int (i32 (0)), .int (i32 (s)), .int (i32 (2)), .ref 66, .int (i32 (23)), .ref 66]) rfl rfl rfl rfl ?_
        refine jx_ar (pc' := 296) (st' := [.int (i32 (0)), .int (i32 (0)), .int (i32 (0)), .int (i32 (s)), .int (i32 (2)), .ref 66, .int (i32 (23)), .ref 66]) rfl rfl rfl rfl ?_
        refine jx_vr (pc' := 299) (as := [.int (i32 (2)), .int (i32 (s)), .int (i32 (0)), .int (i32 (0)), .int (i32 (0))]) (st := [.int (i32 (23)), .ref 66]) rfl rfl rfl rfl ⟨rfl, rfl, Nat.le_of_ble_eq_true rfl⟩ rfl rfl (c_node_o (dd := d) (hd := by omega) (hW := hWx) (kind := 2) (a := s) (b := 0) (c := 0) (e := 0) (nd := nd1) (e_nd := show Gx 31 = nd1 from (ex_nd1)) (ec := ec1) (e_ec := show ecn Ax (Gx 31) = ec1 from ex_ec1)  (h_kind := ⟨(by decide), (by decide)⟩) (h_a := ⟨(Int.le_trans (by decide : (-2147483648 : Int) ≤ -2147483648) rx_s.1), (Int.le_trans rx_s.2 (by decide : (2147483647 : Int) ≤ 2147483647))⟩) (h_b := ⟨(by decide), (by decide)⟩) (h_c := ⟨(by decide), (by decide)⟩) (h_e := ⟨(by decide), (by decide)⟩)  (p_0 := by omega) (p_1 := by omega) (p_2 := by omega)) (fun o V' hq => ?_)
        obtain ⟨G348, A349, nd2_350, ec2_351, rfl, rfl, hW352, hF353, hQ354, e355, e356, p357, p358, p359, -⟩ := hq
        have hF361 := Fr_tr hFx hF353 (Fr_sub (by decide)) (Fr_sub (by decide))
        have hP362 := Pf_tr hPx hQ354 (by omega)
        have bnd2_350 : (0 : Int) ≤ nd2_350 ∧ nd2_350 ≤ 6999 := e355 ▸ hW352.1 31
        refine .inr ⟨_, rfl, ?_⟩
        refine jx_ar (pc' := 300) (st' := [.int (i32 (0)), .int (i32 (nd1)), .int (i32 (23)), .ref 66]) rfl rfl rfl rfl ?_
        refine jx_ar (pc' := 301) (st' := [.int (i32 (0)), .int (i32 (0)), .int (i32 (nd1)), .int (i32 (23)), .ref 66]) rfl rfl rfl rfl ?_
        refine jx_ar (pc' := 302) (st' := [.int (i32 (0)), .int (i32 (0)), .int (i32 (0)), .int (i32 (nd1)), .int (i32 (23)), .ref 66]) rfl rfl rfl rfl ?_
        refine jx_vr (pc' := 305) (as := [.int (i32 (23)), .int (i32 (nd1)), .int (i32 (0)), .int (i32 (0)), .int (i32 (0))]) (st := []) rfl rfl rfl rfl ⟨rfl, rfl, Nat.le_of_ble_eq_true rfl⟩ rfl rfl (c_node_o (dd := d) (hd := by omega) (hW := hW352) (kind := 23) (a := nd1) (b := 0) (c := 0) (e := 0) (nd := nd2_350) (e_nd := show G348 31 = nd2_350 from (e355)) (ec := ec2_351) (e_ec := show ecn A349 (G348 31) = ec2_351 from e356)  (h_kind := ⟨(by decide), (by decide)⟩) (h_a := ⟨(Int.le_trans (by decide : (-2147483648 : Int) ≤ 0) b_nd1.1), (Int.le_trans b_nd1.2 (by decide : (6999 : Int) ≤ 2147483647))⟩) (h_b := ⟨(by decide), (by decide)⟩) (h_c := ⟨(by decide), (by decide)⟩) (h_e := ⟨(by decide), (by decide)⟩)  (p_0 := by omega) (p_1 := by omega) (p_2 := by omega)) (fun o V' hq => ?_)
        obtain ⟨G363, A364, nd2_365, ec2_366, rfl, rfl, hW367, hF368, hQ369, e370, e371, p372, p373, p374, -⟩ := hq
        have hF376 := Fr_tr hF361 hF368 (Fr_sub (by decide)) (Fr_sub (by decide))
        have hP377 := Pf_tr hP362 hQ369 (by omega)
        have sf378 : ND A364 (nd1) (2) (s) (0) (0) (0) (0) (0) := ND_ag (by omega) (Ag_pf hQ369 (by omega)) p359
        have bnd2_365 : (0 : Int) ≤ nd2_365 ∧ nd2_365 ≤ 6999 := e370 ▸ hW367.1 31
        refine .inr ⟨_, rfl, ?_⟩
        refine jx_ld (pc' := 307) (l' := jSto1 L345 7 (.int (i32 (nd2_350)))) (st' := []) rfl rfl ?_
        obtain ⟨L379, eL379⟩ : ∃ q, q = jSto1 L345 7 (.int (i32 (nd2_350))) := ⟨_, rfl⟩
        rw [← eL379]
        have gL379_0 : jGet L379 0 = some (.ref 66) := eL379 ▸ jg_ne (by decide) gL345_0 rfl
        have gL379_5 : jGet L379 5 = some (.int (i32 (0))) := eL379 ▸ jg_ne (by decide) gL345_5 rfl
        have gL379_4 : jGet L379 4 = some (.int (i32 (0))) := eL379 ▸ jg_ne (by decide) gL345_4 rfl
        have gL379_2 : jGet L379 2 = some (.int (i32 (s))) := eL379 ▸ jg_ne (by decide) gL345_2 rfl
        have gL379_6 : jGet L379 6 = some (.int (i32 (1))) := eL379 ▸ jg_ne (by decide) gL345_6 rfl
        have gL379_7 : jGet L379 7 = some (.int (i32 (nd2_350))) := eL379 ▸ jg_eq
        refine jx_ld (pc' := 308) (l' := L379) (st' := [.ref 66]) rfl (jl_aloadn gL379_0) ?_
        refine jx_vr (pc' := 311) (as := []) (st := []) rfl rfl rfl rfl ⟨rfl, rfl, Nat.le_of_ble_eq_true rfl⟩ rfl rfl (c_next (dd := d) (hd := by omega) (hW := hW367)  (ln := ln) (e_ln := show G363 9 = ln from ((hF368.1 9 rfl).trans ((hF353.1 9 rfl).trans (fx_9)))) (le := le) (e_le := show A364 4 (ln).toNat = le from (congrFun ((hF368.2 4 rfl).trans ((hF353.2 4 rfl).trans (hFx.2 4 rfl))) _).trans (e_le)) (at0 := at1) (e_at0 := show G363 10 = at1 from ((hF368.1 10 rfl).trans ((hF353.1 10 rfl).trans (ex_at1))))    (p_0 := by omega)) (fun o V' hq => ?_)
        obtain ⟨G380, A381, at2_382, tk2_383, rfl, rfl, hW384, hF385, e386, e387, p388, p389, p390, -⟩ := hq
        have hF392 := Fr_tr hF376 hF385 (Fr_sub (by decide)) (Fr_sub (by decide))
        have hP393 := Pf_f hP377 hF385 (by decide)
        have sf394 : ND A381 (nd1) (2) (s) (0) (0) (0) (0) (0) := ND_ag (by omega) (Ag_fr hF385 (by decide)) sf378
        have sf395 : ND A381 (nd2_350) (23) (nd1) (0) (0) (0) (0) (0) := ND_ag (by omega) (Ag_fr hF385 (by decide)) p374
        have ec396 : ecn A381 (G380 31) = ec2_366 := (ecn_f (hF385.2 15 rfl) (hF385.1 31 rfl)).trans e371
        have bat2_382 : (0 : Int) ≤ at2_382 ∧ at2_382 ≤ 3002 := e386 ▸ hW384.1 10
        have ztk2_383 := tz_b tk2_383
        have btk2_383 : (0 : Int) ≤ tk2_383 ∧ tk2_383 ≤ 5 := e387 ▸ hW384.1 11
        refine .inl ⟨rfl, ?_⟩
        refine jx_ld (pc' := 312) (l' := L379) (st' := [.ref 66]) rfl (jl_aloadn gL379_0) ?_
        refine jr_get (pc' := 315) (i := 35) (v := .ref 85) rfl rfl (by decide) rfl rfl ?_
        refine jx_ld (pc' := 317) (l' := L379) (st' := [.int (i32 (nd2_350)), .ref 85]) rfl (jl_iload gL379_7) ?_
        refine jx_ld (pc' := 319) (l' := L379) (st' := [.int (i32 (1)), .int (i32 (nd2_350)), .ref 85]) rfl (jl_iload gL379_6) ?_
        refine jx_if_eq (pc' := 322) (tg := 329) rfl rfl rfl (by decide) (by decide) (fun h397 => ?_) (fun h397 => ?_)
        · have _q := h397
          exact absurd h397 (by omega)
        · have _q := h397
          refine jx_ld (pc' := 323) (l' := L379) (st' := [.ref 66, .int (i32 (nd2_350)), .ref 85]) rfl (jl_aloadn gL379_0) ?_
          refine jx_vr (pc' := 326) (as := []) (st := [.int (i32 (nd2_350)), .ref 85]) rfl rfl rfl rfl ⟨rfl, rfl, Nat.le_of_ble_eq_true rfl⟩ rfl rfl (RE_all X 9 (dd := d) (hd := by omega) (hW := hW384)  (ln := ln) (e_ln := show G380 9 = ln from ((hF385.1 9 rfl).trans ((hF368.1 9 rfl).trans ((hF353.1 9 rfl).trans (fx_9))))) (le := le) (e_le := show A381 4 (ln).toNat = le from (congrFun ((hF385.2 4 rfl).trans ((hF368.2 4 rfl).trans ((hF353.2 4 rfl).trans (hFx.2 4 rfl)))) _).trans (e_le)) (at0 := at2_382) (e_at0 := show G380 10 = at2_382 from (e386)) (fk := fk1) (e_fk := show G380 16 = fk1 from ((hF385.1 16 rfl).trans ((hF368.1 16 rfl).trans ((hF353.1 16 rfl).trans (ex_fk1))))) (op0 := op1) (e_op0 := show G380 15 = op1 from ((hF385.1 15 rfl).trans ((hF368.1 15 rfl).trans ((hF353.1 15 rfl).trans (ex_op1))))) (nd := nd2_365) (e_nd := show G380 31 = nd2_365 from ((hF385.1 31 rfl).trans (e370))) (tk0 := tk2_383) (e_tk0 := show G380 11 = tk2_383 from (e387)) (ec := ec2_366) (e_ec := show ecn A381 (G380 31) = ec2_366 from ec396) (i_SV := (SV_ext (((hF385.1 29 rfl).trans ((hF368.1 29 rfl).trans ((hF353.1 29 rfl).trans (hFx.1 29 rfl))))) (((hF385.2 14 rfl).trans ((hF368.2 14 rfl).trans ((hF353.2 14 rfl).trans (hFx.2 14 rfl))))) i_SV))   (p_0 := by omega) (p_1 := by omega) (p_2 := by omega) (p_3 := by omega) (p_4 := by omega) (p_5 := by omega)) (fun o V' hq => ?_)
          obtain ⟨G398, A399, r400, at2_401, fk2_402, op2_403, nd2_404, tk2_405, ec2_406, rfl, rfl, hW407, hF408, hQ409, b410, e411, e412, e413, e414, e415, e416, p417, p418, p419, p420, p421, p422, q423⟩ := hq
          have hF424 := Fr_tr hF392 hF408 (Fr_sub (by decide)) (Fr_sub (by decide))
          have hP425 := Pf_tr hP393 hQ409 (by omega)
          have sf426 : ND A399 (nd1) (2) (s) (0) (0) (0) (0) (0) := ND_ag (by omega) (Ag_pf hQ409 (by omega)) sf394
          have sf427 : ND A399 (nd2_350) (23) (nd1) (0) (0) (0) (0) (0) := ND_ag (by omega) (Ag_pf hQ409 (by omega)) sf395
          have bat2_401 : (0 : Int) ≤ at2_401 ∧ at2_401 ≤ 3002 := e411 ▸ hW407.1 10
          have bfk2_402 : (0 : Int) ≤ fk2_402 ∧ fk2_402 ≤ 6 := e412 ▸ hW407.1 16
          have bop2_403 : (-2147483648 : Int) ≤ op2_403 ∧ op2_403 ≤ 2147483647 := e413 ▸ hW407.1 15
          have bnd2_404 : (0 : Int) ≤ nd2_404 ∧ nd2_404 ≤ 6999 := e414 ▸ hW407.1 31
          have ztk2_405 := tz_b tk2_405
          have btk2_405 : (0 : Int) ≤ tk2_405 ∧ tk2_405 ≤ 5 := e415 ▸ hW407.1 11
          refine .inr ⟨_, rfl, ?_⟩
          rcases q423 with ⟨a428, a429, a430, a431, a432, a433⟩ | ⟨a434, a435, a436⟩ | ⟨a437, a438, a439, a440, a441⟩
          · have _q : True := trivial
            exfalso
            omega
          · have _q : True := trivial
            refine jx_go (tg := 334) rfl rfl ?_
            refine jr_st (pc' := 335) (i := 18) (m := 7000) (z := nd2_350) (y := r400) rfl (by decide) rfl (by decide) (by omega) (by omega) rfl ?_
            have hW443 : Wk G398 (uA A399 18 (nd2_350).toNat (r400)) := Wk_a hW407 (show (-2147483648 : Int) ≤ r400 by omega) (show r400 ≤ (2147483647 : Int) by omega)
            have hF444 := Fr_a (z := r400) (k := 18) (n := (nd2_350).toNat) hF424 (by decide)
            obtain ⟨A442, eA442⟩ : ∃ q, q = uA A399 18 (nd2_350).toNat (r400) := ⟨_, rfl⟩
            rw [← eA442]
            rw [← eA442] at hW443 hF444
            have q445 : A442 18 (nd2_350).toNat = r400 := by rw [eA442]; exact uA_eq
            have hP446 : Pf nd A A442 := eA442 ▸ Pf_a hP425 (z := nd2_350) (by omega) (by omega)
            have sf447 : ND A442 (nd1) (2) (s) (0) (0) (0) (0) (0) := ND_ag (by omega) (Ag_st eA442 (by omega) (by omega)) sf426
            have sf448 : ND A442 (nd2_350) (23) (nd1) (r400) (0) (0) (0) (0) := ND_b eA442 sf427
            have ec449 : ecn A442 (G398 31) = ec2_406 := (ecn_e ((congrFun eA442 15).trans (uA_ne (by decide)))).trans e416
            refine jx_ld (pc' := 336) (l' := L379) (st' := [.ref 66]) rfl (jl_aloadn gL379_0) ?_
            refine jx_vr (pc' := 339) (as := []) (st := []) rfl rfl rfl rfl ⟨rfl, rfl, Nat.le_of_ble_eq_true rfl⟩ rfl rfl (c_endLine (dd := d) (hd := by omega) (hW := hW443)  (ln := ln) (e_ln := show G398 9 = ln from ((hF408.1 9 rfl).trans ((hF385.1 9 rfl).trans ((hF368.1 9 rfl).trans ((hF353.1 9 rfl).trans (fx_9)))))) (li := li) (e_li := show G398 3 = li from ((hF408.1 3 rfl).trans ((hF385.1 3 rfl).trans ((hF368.1 3 rfl).trans ((hF353.1 3 rfl).trans ((hFx.1 3 rfl).trans (e_li))))))) (fk := fk2_402) (e_fk := show G398 16 = fk2_402 from (e412)) (tk0 := tk2_405) (e_tk0 := show G398 11 = tk2_405 from (e415))    (p_0 := by omega)) (fun o V' hq => ?_)
            obtain ⟨G450, A451, ln2_452, fk2_453, rfl, rfl, hW454, hF455, e456, e457, q458⟩ := hq
            have hF459 := Fr_tr hF444 hF455 (Fr_sub (by decide)) (Fr_sub (by decide))
            have hP460 := Pf_f hP446 hF455 (by decide)
            have sf461 : ND A451 (nd1) (2) (s) (0) (0) (0) (0) (0) := ND_ag (by omega) (Ag_fr hF455 (by decide)) sf447
            have sf462 : ND A451 (nd2_350) (23) (nd1) (r400) (0) (0) (0) (0) := ND_ag (by omega) (Ag_fr hF455 (by decide)) sf448
            have ec463 : ecn A451 (G450 31) = ec2_406 := (ecn_f (hF455.2 15 rfl) (hF455.1 31 rfl)).trans ec449
            have bln2_452 : (0 : Int) ≤ ln2_452 ∧ ln2_452 ≤ 3000 := e456 ▸ hW454.1 9
            have bfk2_453 : (0 : Int) ≤ fk2_453 ∧ fk2_453 ≤ 6 := e457 ▸ hW454.1 16
            refine .inl ⟨rfl, ?_⟩
            rcases q458 with ⟨a464, a465, a466, a467, a468⟩ | ⟨a469, a470⟩
            · have _q : True := trivial
              exfalso
              omega
            · have _q : True := trivial
              refine jx_ld (pc' := 341) (l' := L379) (st' := [.int (i32 (nd2_350))]) rfl (jl_iload gL379_7) ?_
              refine jx_rt (v := some (.int (i32 (nd2_350)))) rfl rfl rfl rfl rfl rfl ?_
              exact ⟨_, _, _, at2_401, fk2_453, nd2_404, ln2_452, ec2_406, rfl, rfl, hW454, hF459, hP460, by omega, ((hF455.1 10 rfl).trans (e411)), (e457), ((hF455.1 31 rfl).trans (e414)), (e456), ec463, by omega, by omega, by omega, by omega, by omega, by first | exact Or.inl (⟨by omega, by omega, by omega⟩)⟩
          · have _q : True := trivial
            refine jx_go (tg := 334) rfl rfl ?_
            refine jr_st (pc' := 335) (i := 18) (m := 7000) (z := nd2_350) (y := r400) rfl (by decide) rfl (by decide) (by omega) (by omega) rfl ?_
            have hW472 : Wk G398 (uA A399 18 (nd2_350).toNat (r400)) := Wk_a hW407 (show (-2147483648 : Int) ≤ r400 by omega) (show r400 ≤ (2147483647 : Int) by omega)
            have hF473 := Fr_a (z := r400) (k := 18) (n := (nd2_350).toNat) hF424 (by decide)
            obtain ⟨A471, eA471⟩ : ∃ q, q = uA A399 18 (nd2_350).toNat (r400) := ⟨_, rfl⟩
            rw [← eA471]
            rw [← eA471] at hW472 hF473
            have q474 : A471 18 (nd2_350).toNat = r400 := by rw [eA471]; exact uA_eq
            have hP475 : Pf nd A A471 := eA471 ▸ Pf_a hP425 (z := nd2_350) (by omega) (by omega)
            have sf476 : ND A471 (nd1) (2) (s) (0) (0) (0) (0) (0) := ND_ag (by omega) (Ag_st eA471 (by omega) (by omega)) sf426
            have sf477 : ND A471 (nd2_350) (23) (nd1) (r400) (0) (0) (0) (0) := ND_b eA471 sf427
            have sf478 : wE A471 Vs sb (2 * 9 + 2) (r400) (nd2_365) (nd2_404) := wE_ag (by omega) (Sg_ne eA471 rfl) (Ag_st eA471 (by omega) (by omega)) a440
            have ec479 : ecn A471 (G398 31) = ec2_406 := (ecn_e ((congrFun eA471 15).trans (uA_ne (by decide)))).trans e416
            refine jx_ld (pc' := 336) (l' := L379) (st' := [.ref 66]) rfl (jl_aloadn gL379_0) ?_
            refine jx_vr (pc' := 339) (as := []) (st := []) rfl rfl rfl rfl ⟨rfl, rfl, Nat.le_of_ble_eq_true rfl⟩ rfl rfl (c_endLine (dd := d) (hd := by omega) (hW := hW472)  (ln := ln) (e_ln := show G398 9 = ln from ((hF408.1 9 rfl).trans ((hF385.1 9 rfl).trans ((hF368.1 9 rfl).trans ((hF353.1 9 rfl).trans (fx_9)))))) (li := li) (e_li := show G398 3 = li from ((hF408.1 3 rfl).trans ((hF385.1 3 rfl).trans ((hF368.1 3 rfl).trans ((hF353.1 3 rfl).trans ((hFx.1 3 rfl).trans (e_li))))))) (fk := fk2_402) (e_fk := show G398 16 = fk2_402 from (e412)) (tk0 := tk2_405) (e_tk0 := show G398 11 = tk2_405 from (e415))    (p_0 := by omega)) (fun o V' hq => ?_)
            obtain ⟨G480, A481, ln2_482, fk2_483, rfl, rfl, hW484, hF485, e486, e487, q488⟩ := hq
            have hF489 := Fr_tr hF473 hF485 (Fr_sub (by decide)) (Fr_sub (by decide))
            have hP490 := Pf_f hP475 hF485 (by decide)
            have sf491 : ND A481 (nd1) (2) (s) (0) (0) (0) (0) (0) := ND_ag (by omega) (Ag_fr hF485 (by decide)) sf476
            have sf492 : ND A481 (nd2_350) (23) (nd1) (r400) (0) (0) (0) (0) := ND_ag (by omega) (Ag_fr hF485 (by decide)) sf477
            have sf493 : wE A481 Vs sb (2 * 9 + 2) (r400) (nd2_365) (nd2_404) := wE_ag (by omega) (Sg_fr hF485 (by decide)) (Ag_fr hF485 (by decide)) sf478
            have ec494 : ecn A481 (G480 31) = ec2_406 := (ecn_f (hF485.2 15 rfl) (hF485.1 31 rfl)).trans ec479
            have bln2_482 : (0 : Int) ≤ ln2_482 ∧ ln2_482 ≤ 3000 := e486 ▸ hW484.1 9
            have bfk2_483 : (0 : Int) ≤ fk2_483 ∧ fk2_483 ≤ 6 := e487 ▸ hW484.1 16
            refine .inl ⟨rfl, ?_⟩
            rcases q488 with ⟨a495, a496, a497, a498, a499⟩ | ⟨a500, a501⟩
            · have _q : True := trivial
              refine jx_ld (pc' := 341) (l' := L379) (st' := [.int (i32 (nd2_350))]) rfl (jl_iload gL379_7) ?_
              refine jx_rt (v := some (.int (i32 (nd2_350)))) rfl rfl rfl rfl rfl rfl ?_
              exact ⟨_, _, _, at2_401, fk2_483, nd2_404, ln2_482, ec2_406, rfl, rfl, hW484, hF489, hP490, by omega, ((hF485.1 10 rfl).trans (e411)), (e487), ((hF485.1 31 rfl).trans (e414)), (e486), ec494, by omega, by omega, by omega, by omega, by omega, by first | exact Or.inr ((⟨by omega, by omega, by omega, by omega, by omega, (wL_out sf492 (by omega) (by omega) (wR_var sf491 (by omega) (by omega) iv_8 (kq (P := kRef (1)) (show A481 7 (s).toNat = ks from (congrFun ((hF485.2 7 rfl).trans (((congrFun eA471 7).trans (uA_ne (by decide))).trans ((hF408.2 7 rfl).trans ((hF385.2 7 rfl).trans ((hF368.2 7 rfl).trans (hF353.2 7 rfl)))))) _).trans (ex_ks)) (by first | exact .inr ⟨by omega, iv_9⟩))) (wE_mono (by omega) (by omega) (by omega) sf493)), (NX_nd sf492), by omega, by omega⟩))⟩
            · have _q : True := trivial
              refine jx_ld (pc' := 341) (l' := L379) (st' := [.int (i32 (nd2_350))]) rfl (jl_iload gL379_7) ?_
              refine jx_rt (v := some (.int (i32 (nd2_350)))) rfl rfl rfl rfl rfl rfl ?_
              exact ⟨_, _, _, at2_401, fk2_483, nd2_404, ln2_482, ec2_406, rfl, rfl, hW484, hF489, hP490, by omega, ((hF485.1 10 rfl).trans (e411)), (e487), ((hF485.1 31 rfl).trans (e414)), (e486), ec494, by omega, by omega, by omega, by omega, by omega, by first | exact Or.inl (⟨by omega, by omega, by omega⟩)⟩
      · have _q := h347
        exact absurd h347 (by omega)
  · have _q : True := trivial
    refine jx_ld (pc' := 267) (l' := jSto1 L 6 (.int (i32 (0)))) (st' := []) rfl rfl ?_
    obtain ⟨L502, eL502⟩ : ∃ q, q = jSto1 L 6 (.int (i32 (0))) := ⟨_, rfl⟩
    rw [← eL502]
    have gL502_0 : jGet L502 0 = some (.ref 66) := eL502 ▸ jg_ne (by decide) gL_0 rfl
    have gL502_5 : jGet L502 5 = some (.int (i32 (0))) := eL502 ▸ jg_ne (by decide) gL_5 rfl
    have gL502_4 : jGet L502 4 = some (.int (i32 (0))) := eL502 ▸ jg_ne (by decide) gL_4 rfl
    have gL502_2 : jGet L502 2 = some (.int (i32 (s))) := eL502 ▸ jg_ne (by decide) gL_2 rfl
    have gL502_6 : jGet L502 6 = some (.int (i32 (0))) := eL502 ▸ jg_eq
    refine jx_ld (pc' := 268) (l' := L502) (st' := [.ref 66]) rfl (jl_aloadn gL502_0) ?_
    refine jx_ld (pc' := 270) (l' := L502) (st' := [.int (i32 (0)), .ref 66]) rfl (jl_iload gL502_6) ?_
    refine jx_if_eq (pc' := 273) (tg := 278) rfl rfl rfl (by decide) (by decide) (fun h503 => ?_) (fun h503 => ?_)
    · have _q := h503
      refine jx_ar (pc' := 280) (st' := [.int (i32 (24)), .ref 66]) rfl rfl rfl rfl ?_
      refine jx_ld (pc' := 281) (l' := L502) (st' := [.ref 66, .int (i32 (24)), .ref 66]) rfl (jl_aloadn gL502_0) ?_
      refine jx_ld (pc' := 283) (l' := L502) (st' := [.int (i32 (0)), .ref 66, .int (i32 (24)), .ref 66]) rfl (jl_iload gL502_5) ?_
      refine jx_if_eq (pc' := 286) (tg := 290) rfl rfl rfl (by decide) (by decide) (fun h504 => ?_) (fun h504 => ?_)
      · have _q := h504
        refine jx_ar (pc' := 291) (st' := [.int (i32 (2)), .ref 66, .int (i32 (24)), .ref 66]) rfl rfl rfl rfl ?_
        refine jx_ld (pc' := 292) (l' := L502) (st' := [.int (i32 (s)), .int (i32 (2)), .ref 66, .int (i32 (24)), .ref 66]) rfl (jl_iloadn gL502_2) ?_
        refine jx_ld (pc' := 294) (l' := L502) (st' := [.int (i32 (0)), .int (i32 (s)), .int (i32 (2)), .ref 66, .int (i32 (24)), .ref 66]) rfl (jl_iload gL502_4) ?_
        refine jx_ar (pc' := 295) (st' := [.int (i32 (0)), .int (i32 (0)), .int (i32 (s)), .int (i32 (2)), .ref 66, .int (i32 (24)), .ref 66]) rfl rfl rfl rfl ?_
        refine jx_ar (pc' := 296) (st' := [.int (i32 (0)), .int (i32 (0)), .int (i32 (0)), .int (i32 (s)), .int (i32 (2)), .ref 66, .int (i32 (24)), .ref 66]) rfl rfl rfl rfl ?_
        refine jx_vr (pc' := 299) (as := [.int (i32 (2)), .int (i32 (s)), .int (i32 (0)), .int (i32 (0)), .int (i32 (0))]) (st := [.int (i32 (24)), .ref 66]) rfl rfl rfl rfl ⟨rfl, rfl, Nat.le_of_ble_eq_true rfl⟩ rfl rfl (c_node_o (dd := d) (hd := by omega) (hW := hWx) (kind := 2) (a := s) (b := 0) (c := 0) (e := 0) (nd := nd1) (e_nd := show Gx 31 = nd1 from (ex_nd1)) (ec := ec1) (e_ec := show ecn Ax (Gx 31) = ec1 from ex_ec1)  (h_kind := ⟨(by decide), (by decide)⟩) (h_a := ⟨(Int.le_trans (by decide : (-2147483648 : Int) ≤ -2147483648) rx_s.1), (Int.le_trans rx_s.2 (by decide : (2147483647 : Int) ≤ 2147483647))⟩) (h_b := ⟨(by decide), (by decide)⟩) (h_c := ⟨(by decide), (by decide)⟩) (h_e := ⟨(by decide), (by decide)⟩)  (p_0 := by omega) (p_1 := by omega) (p_2 := by omega)) (fun o V' hq => ?_)
        obtain ⟨G505, A506, nd2_507, ec2_508, rfl, rfl, hW509, hF510, hQ511, e512, e513, p514, p515, p516, -⟩ := hq
        have hF518 := Fr_tr hFx hF510 (Fr_sub (by decide)) (Fr_sub (by decide))
        have hP519 := Pf_tr hPx hQ511 (by omega)
        have bnd2_507 : (0 : Int) ≤ nd2_507 ∧ nd2_507 ≤ 6999 := e512 ▸ hW509.1 31
        refine .inr ⟨_, rfl, ?_⟩
        refine jx_ar (pc' := 300) (st' := [.int (i32 (0)), .int (i32 (nd1)), .int (i32 (24)), .ref 66]) rfl rfl rfl rfl ?_
        refine jx_ar (pc' := 301) (st' := [.int (i32 (0)), .int (i32 (0)), .int (i32 (nd1)), .int (i32 (24)), .ref 66]) rfl rfl rfl rfl ?_
        refine jx_ar (pc' := 302) (st' := [.int (i32 (0)), .int (i32 (0)), .int (i32 (0)), .int (i32 (nd1)), .int (i32 (24)), .ref 66]) rfl rfl rfl rfl ?_
        refine jx_vr (pc' := 305) (as := [.int (i32 (24)), .int (i32 (nd1)), .int (i32 (0)), .int (i32 (0)), .int (i32 (0))]) (st := []) rfl rfl rfl rfl ⟨rfl, rfl, Nat.le_of_ble_eq_true rfl⟩ rfl rfl (c_node_o (dd := d) (hd := by omega) (hW := hW509) (kind := 24) (a := nd1) (b := 0) (c := 0) (e := 0) (nd := nd2_507) (e_nd := show G505 31 = nd2_507 from (e512)) (ec := ec2_508) (e_ec := show ecn A506 (G505 31) = ec2_508 from e513)  (h_kind := ⟨(by decide), (by decide)⟩) (h_a := ⟨(Int.le_trans (by decide : (-2147483648 : Int) ≤ 0) b_nd1.1), (Int.le_trans b_nd1.2 (by decide : (6999 : Int) ≤ 2147483647))⟩) (h_b := ⟨(by decide), (by decide)⟩) (h_c := ⟨(by decide), (by decide)⟩) (h_e := ⟨(by decide), (by decide)⟩)  (p_0 := by omega) (p_1 := by omega) (p_2 := by omega)) (fun o V' hq => ?_)
        obtain ⟨G520, A521, nd2_522, ec2_523, rfl, rfl, hW524, hF525, hQ526, e527, e528, p529, p530, p531, -⟩ := hq
        have hF533 := Fr_tr hF518 hF525 (Fr_sub (by decide)) (Fr_sub (by decide))
        have hP534 := Pf_tr hP519 hQ526 (by omega)
        have sf535 : ND A521 (nd1) (2) (s) (0) (0) (0) (0) (0) := ND_ag (by omega) (Ag_pf hQ526 (by omega)) p516
        have bnd2_522 : (0 : Int) ≤ nd2_522 ∧ nd2_522 ≤ 6999 := e527 ▸ hW524.1 31
        refine .inr ⟨_, rfl, ?_⟩
        refine jx_ld (pc' := 307) (l' := jSto1 L502 7 (.int (i32 (nd2_507)))) (st' := []) rfl rfl ?_
        obtain ⟨L536, eL536⟩ : ∃ q, q = jSto1 L502 7 (.int (i32 (nd2_507))) := ⟨_, rfl⟩
        rw [← eL536]
        have gL536_0 : jGet L536 0 = some (.ref 66) := eL536 ▸ jg_ne (by decide) gL502_0 rfl
        have gL536_5 : jGet L536 5 = some (.int (i32 (0))) := eL536 ▸ jg_ne (by decide) gL502_5 rfl
        have gL536_4 : jGet L536 4 = some (.int (i32 (0))) := eL536 ▸ jg_ne (by decide) gL502_4 rfl
        have gL536_2 : jGet L536 2 = some (.int (i32 (s))) := eL536 ▸ jg_ne (by decide) gL502_2 rfl
        have gL536_6 : jGet L536 6 = some (.int (i32 (0))) := eL536 ▸ jg_ne (by decide) gL502_6 rfl
        have gL536_7 : jGet L536 7 = some (.int (i32 (nd2_507))) := eL536 ▸ jg_eq
        refine jx_ld (pc' := 308) (l' := L536) (st' := [.ref 66]) rfl (jl_aloadn gL536_0) ?_
        refine jx_vr (pc' := 311) (as := []) (st := []) rfl rfl rfl rfl ⟨rfl, rfl, Nat.le_of_ble_eq_true rfl⟩ rfl rfl (c_next (dd := d) (hd := by omega) (hW := hW524)  (ln := ln) (e_ln := show G520 9 = ln from ((hF525.1 9 rfl).trans ((hF510.1 9 rfl).trans (fx_9)))) (le := le) (e_le := show A521 4 (ln).toNat = le from (congrFun ((hF525.2 4 rfl).trans ((hF510.2 4 rfl).trans (hFx.2 4 rfl))) _).trans (e_le)) (at0 := at1) (e_at0 := show G520 10 = at1 from ((hF525.1 10 rfl).trans ((hF510.1 10 rfl).trans (ex_at1))))    (p_0 := by omega)) (fun o V' hq => ?_)
        obtain ⟨G537, A538, at2_539, tk2_540, rfl, rfl, hW541, hF542, e543, e544, p545, p546, p547, -⟩ := hq
        have hF549 := Fr_tr hF533 hF542 (Fr_sub (by decide)) (Fr_sub (by decide))
        have hP550 := Pf_f hP534 hF542 (by decide)
        have sf551 : ND A538 (nd1) (2) (s) (0) (0) (0) (0) (0) := ND_ag (by omega) (Ag_fr hF542 (by decide)) sf535
        have sf552 : ND A538 (nd2_507) (24) (nd1) (0) (0) (0) (0) (0) := ND_ag (by omega) (Ag_fr hF542 (by decide)) p531
        have ec553 : ecn A538 (G537 31) = ec2_523 := (ecn_f (hF542.2 15 rfl) (hF542.1 31 rfl)).trans e528
        have bat2_539 : (0 : Int) ≤ at2_539 ∧ at2_539 ≤ 3002 := e543 ▸ hW541.1 10
        have ztk2_540 := tz_b tk2_540
        have btk2_540 : (0 : Int) ≤ tk2_540 ∧ tk2_540 ≤ 5 := e544 ▸ hW541.1 11
        refine .inl ⟨rfl, ?_⟩
        refine jx_ld (pc' := 312) (l' := L536) (st' := [.ref 66]) rfl (jl_aloadn gL536_0) ?_
        refine jr_get (pc' := 315) (i := 35) (v := .ref 85) rfl rfl (by decide) rfl rfl ?_
        refine jx_ld (pc' := 317) (l' := L536) (st' := [.int (i32 (nd2_507)), .ref 85]) rfl (jl_iload gL536_7) ?_
        refine jx_ld (pc' := 319) (l' := L536) (st' := [.int (i32 (0)), .int (i32 (nd2_507)), .ref 85]) rfl (jl_iload gL536_6) ?_
        refine jx_if_eq (pc' := 322) (tg := 329) rfl rfl rfl (by decide) (by decide) (fun h554 => ?_) (fun h554 => ?_)
        · have _q := h554
          refine jx_ld (pc' := 330) (l' := L536) (st' := [.ref 66, .int (i32 (nd2_507)), .ref 85]) rfl (jl_aloadn gL536_0) ?_
          refine jx_ar (pc' := 331) (st' := [.int (i32 (0)), .ref 66, .int (i32 (nd2_507)), .ref 85]) rfl rfl rfl rfl ?_
          refine jx_vr (pc' := 334) (as := [.int (i32 (0))]) (st := [.int (i32 (nd2_507)), .ref 85]) rfl rfl rfl rfl ⟨rfl, rfl, Nat.le_of_ble_eq_true rfl⟩ rfl rfl (c_readReference_w (dd := d) (hd := by omega) (hW := hW541) (ch := 0) (ln := ln) (e_ln := show G537 9 = ln from ((hF542.1 9 rfl).trans ((hF525.1 9 rfl).trans ((hF510.1 9 rfl).trans (fx_9))))) (le := le) (e_le := show A538 4 (ln).toNat = le from (congrFun ((hF542.2 4 rfl).trans ((hF525.2 4 rfl).trans ((hF510.2 4 rfl).trans (hFx.2 4 rfl)))) _).trans (e_le)) (at0 := at2_539) (e_at0 := show G537 10 = at2_539 from (e543)) (fk := fk1) (e_fk := show G537 16 = fk1 from ((hF542.1 16 rfl).trans ((hF525.1 16 rfl).trans ((hF510.1 16 rfl).trans (ex_fk1))))) (op0 := op1) (e_op0 := show G537 15 = op1 from ((hF542.1 15 rfl).trans ((hF525.1 15 rfl).trans ((hF510.1 15 rfl).trans (ex_op1))))) (nd := nd2_522) (e_nd := show G537 31 = nd2_522 from ((hF542.1 31 rfl).trans (e527))) (tk0 := tk2_540) (e_tk0 := show G537 11 = tk2_540 from (e544)) (ec := ec2_523) (e_ec := show ecn A538 (G537 31) = ec2_523 from ec553) (i_SV := (SV_ext (((hF542.1 29 rfl).trans ((hF525.1 29 rfl).trans ((hF510.1 29 rfl).trans (hFx.1 29 rfl))))) (((hF542.2 14 rfl).trans ((hF525.2 14 rfl).trans ((hF510.2 14 rfl).trans (hFx.2 14 rfl))))) i_SV)) (h_ch := ⟨(by decide), (by decide)⟩)  (p_0 := by omega) (p_1 := by omega) (p_2 := by omega) (p_3 := by omega) (p_4 := by omega)) (fun o V' hq => ?_)
          obtain ⟨G555, A556, r557, at2_558, fk2_559, op2_560, nd2_561, tk2_562, ec2_563, rfl, rfl, hW564, hF565, hQ566, b567, e568, e569, e570, e571, e572, e573, p574, p575, p576, p577, p578, p579, q580⟩ := hq
          have hF581 := Fr_tr hF549 hF565 (Fr_sub (by decide)) (Fr_sub (by decide))
          have hP582 := Pf_tr hP550 hQ566 (by omega)
          have sf583 : ND A556 (nd1) (2) (s) (0) (0) (0) (0) (0) := ND_ag (by omega) (Ag_pf hQ566 (by omega)) sf551
          have sf584 : ND A556 (nd2_507) (24) (nd1) (0) (0) (0) (0) (0) := ND_ag (by omega) (Ag_pf hQ566 (by omega)) sf552
          have bat2_558 : (0 : Int) ≤ at2_558 ∧ at2_558 ≤ 3002 := e568 ▸ hW564.1 10
          have bfk2_559 : (0 : Int) ≤ fk2_559 ∧ fk2_559 ≤ 6 := e569 ▸ hW564.1 16
          have bop2_560 : (-2147483648 : Int) ≤ op2_560 ∧ op2_560 ≤ 2147483647 := e570 ▸ hW564.1 15
          have bnd2_561 : (0 : Int) ≤ nd2_561 ∧ nd2_561 ≤ 6999 := e571 ▸ hW564.1 31
          have ztk2_562 := tz_b tk2_562
          have btk2_562 : (0 : Int) ≤ tk2_562 ∧ tk2_562 ≤ 5 := e572 ▸ hW564.1 11
          refine .inr ⟨_, rfl, ?_⟩
          rcases q580 with ⟨a585, a586, a587, a588, a589, a590⟩ | ⟨a591, a592, a593⟩ | ⟨a594, a595, a596, a597, a598⟩
          · have _q : True := trivial
            exfalso
            omega
          · have _q : True := trivial
            refine jr_st (pc' := 335) (i := 18) (m := 7000) (z := nd2_507) (y := r557) rfl (by decide) rfl (by decide) (by omega) (by omega) rfl ?_
            have hW600 : Wk G555 (uA A556 18 (nd2_507).toNat (r557)) := Wk_a hW564 (show (-2147483648 : Int) ≤ r557 by omega) (show r557 ≤ (2147483647 : Int) by omega)
            have hF601 := Fr_a (z := r557) (k := 18) (n := (nd2_507).toNat) hF581 (by decide)
            obtain ⟨A599, eA599⟩ : ∃ q, q = uA A556 18 (nd2_507).toNat (r557) := ⟨_, rfl⟩
            rw [← eA599]
            rw [← eA599] at hW600 hF601
            have q602 : A599 18 (nd2_507).toNat = r557 := by rw [eA599]; exact uA_eq
            have hP603 : Pf nd A A599 := eA599 ▸ Pf_a hP582 (z := nd2_507) (by omega) (by omega)
            have sf604 : ND A599 (nd1) (2) (s) (0) (0) (0) (0) (0) := ND_ag (by omega) (Ag_st eA599 (by omega) (by omega)) sf583
            have sf605 : ND A599 (nd2_507) (24) (nd1) (r557) (0) (0) (0) (0) := ND_b eA599 sf584
            have ec606 : ecn A599 (G555 31) = ec2_563 := (ecn_e ((congrFun eA599 15).trans (uA_ne (by decide)))).trans e573
            refine jx_ld (pc' := 336) (l' := L536) (st' := [.ref 66]) rfl (jl_aloadn gL536_0) ?_
            refine jx_vr (pc' := 339) (as := []) (st := []) rfl rfl rfl rfl ⟨rfl, rfl, Nat.le_of_ble_eq_true rfl⟩ rfl rfl (c_endLine (dd := d) (hd := by omega) (hW := hW600)  (ln := ln) (e_ln := show G555 9 = ln from ((hF565.1 9 rfl).trans ((hF542.1 9 rfl).trans ((hF525.1 9 rfl).trans ((hF510.1 9 rfl).trans (fx_9)))))) (li := li) (e_li := show G555 3 = li from ((hF565.1 3 rfl).trans ((hF542.1 3 rfl).trans ((hF525.1 3 rfl).trans ((hF510.1 3 rfl).trans ((hFx.1 3 rfl).trans (e_li))))))) (fk := fk2_559) (e_fk := show G555 16 = fk2_559 from (e569)) (tk0 := tk2_562) (e_tk0 := show G555 11 = tk2_562 from (e572))    (p_0 := by omega)) (fun o V' hq => ?_)
            obtain ⟨G607, A608, ln2_609, fk2_610, rfl, rfl, hW611, hF612, e613, e614, q615⟩ := hq
            have hF616 := Fr_tr hF601 hF612 (Fr_sub (by decide)) (Fr_sub (by decide))
            have hP617 := Pf_f hP603 hF612 (by decide)
            have sf618 : ND A608 (nd1) (2) (s) (0) (0) (0) (0) (0) := ND_ag (by omega) (Ag_fr hF612 (by decide)) sf604
            have sf619 : ND A608 (nd2_507) (24) (nd1) (r557) (0) (0) (0) (0) := ND_ag (by omega) (Ag_fr hF612 (by decide)) sf605
            have ec620 : ecn A608 (G607 31) = ec2_563 := (ecn_f (hF612.2 15 rfl) (hF612.1 31 rfl)).trans ec606
            have bln2_609 : (0 : Int) ≤ ln2_609 ∧ ln2_609 ≤ 3000 := e613 ▸ hW611.1 9
            have bfk2_610 : (0 : Int) ≤ fk2_610 ∧ fk2_610 ≤ 6 := e614 ▸ hW611.1 16
            refine .inl ⟨rfl, ?_⟩
            rcases q615 with ⟨a621, a622, a623, a624, a625⟩ | ⟨a626, a627⟩
            · have _q : True := trivial
              exfalso
              omega
            · have _q : True := trivial
              refine jx_ld (pc' := 341) (l' := L536) (st' := [.int (i32 (nd2_507))]) rfl (jl_iload gL536_7) ?_
              refine jx_rt (v := some (.int (i32 (nd2_507)))) rfl rfl rfl rfl rfl rfl ?_
              exact ⟨_, _, _, at2_558, fk2_610, nd2_561, ln2_609, ec2_563, rfl, rfl, hW611, hF616, hP617, by omega, ((hF612.1 10 rfl).trans (e568)), (e614), ((hF612.1 31 rfl).trans (e571)), (e613), ec620, by omega, by omega, by omega, by omega, by omega, by first | exact Or.inl (⟨by omega, by omega, by omega⟩)⟩
          · have _q : True := trivial
            refine jr_st (pc' := 335) (i := 18) (m := 7000) (z := nd2_507) (y := r557) rfl (by decide) rfl (by decide) (by omega) (by omega) rfl ?_
            have hW629 : Wk G555 (uA A556 18 (nd2_507).toNat (r557)) := Wk_a hW564 (show (-2147483648 : Int) ≤ r557 by omega) (show r557 ≤ (2147483647 : Int) by omega)
            have hF630 := Fr_a (z := r557) (k := 18) (n := (nd2_507).toNat) hF581 (by decide)
            obtain ⟨A628, eA628⟩ : ∃ q, q = uA A556 18 (nd2_507).toNat (r557) := ⟨_, rfl⟩
            rw [← eA628]
            rw [← eA628] at hW629 hF630
            have q631 : A628 18 (nd2_507).toNat = r557 := by rw [eA628]; exact uA_eq
            have hP632 : Pf nd A A628 := eA628 ▸ Pf_a hP582 (z := nd2_507) (by omega) (by omega)
            have sf633 : ND A628 (nd1) (2) (s) (0) (0) (0) (0) (0) := ND_ag (by omega) (Ag_st eA628 (by omega) (by omega)) sf583
            have sf634 : ND A628 (nd2_507) (24) (nd1) (r557) (0) (0) (0) (0) := ND_b eA628 sf584
            have sf635 : wR A628 Vs sb (20) (0) (r557) (nd2_522) (nd2_561) := wR_ag (by omega) (Sg_ne eA628 rfl) (Ag_st eA628 (by omega) (by omega)) a597
            have ec636 : ecn A628 (G555 31) = ec2_563 := (ecn_e ((congrFun eA628 15).trans (uA_ne (by decide)))).trans e573
            refine jx_ld (pc' := 336) (l' := L536) (st' := [.ref 66]) rfl (jl_aloadn gL536_0) ?_
            refine jx_vr (pc' := 339) (as := []) (st := []) rfl rfl rfl rfl ⟨rfl, rfl, Nat.le_of_ble_eq_true rfl⟩ rfl rfl (c_endLine (dd := d) (hd := by omega) (hW := hW629)  (ln := ln) (e_ln := show G555 9 = ln from ((hF565.1 9 rfl).trans ((hF542.1 9 rfl).trans ((hF525.1 9 rfl).trans ((hF510.1 9 rfl).trans (fx_9)))))) (li := li) (e_li := show G555 3 = li from ((hF565.1 3 rfl).trans ((hF542.1 3 rfl).trans ((hF525.1 3 rfl).trans ((hF510.1 3 rfl).trans ((hFx.1 3 rfl).trans (e_li))))))) (fk := fk2_559) (e_fk := show G555 16 = fk2_559 from (e569)) (tk0 := tk2_562) (e_tk0 := show G555 11 = tk2_562 from (e572))    (p_0 := by omega)) (fun o V' hq => ?_)
            obtain ⟨G637, A638, ln2_639, fk2_640, rfl, rfl, hW641, hF642, e643, e644, q645⟩ := hq
            have hF646 := Fr_tr hF630 hF642 (Fr_sub (by decide)) (Fr_sub (by decide))
            have hP647 := Pf_f hP632 hF642 (by decide)
            have sf648 : ND A638 (nd1) (2) (s) (0) (0) (0) (0) (0) := ND_ag (by omega) (Ag_fr hF642 (by decide)) sf633
            have sf649 : ND A638 (nd2_507) (24) (nd1) (r557) (0) (0) (0) (0) := ND_ag (by omega) (Ag_fr hF642 (by decide)) sf634
            have sf650 : wR A638 Vs sb (20) (0) (r557) (nd2_522) (nd2_561) := wR_ag (by omega) (Sg_fr hF642 (by decide)) (Ag_fr hF642 (by decide)) sf635
            have ec651 : ecn A638 (G637 31) = ec2_563 := (ecn_f (hF642.2 15 rfl) (hF642.1 31 rfl)).trans ec636
            have bln2_639 : (0 : Int) ≤ ln2_639 ∧ ln2_639 ≤ 3000 := e643 ▸ hW641.1 9
            have bfk2_640 : (0 : Int) ≤ fk2_640 ∧ fk2_640 ≤ 6 := e644 ▸ hW641.1 16
            refine .inl ⟨rfl, ?_⟩
            rcases q645 with ⟨a652, a653, a654, a655, a656⟩ | ⟨a657, a658⟩
            · have _q : True := trivial
              refine jx_ld (pc' := 341) (l' := L536) (st' := [.int (i32 (nd2_507))]) rfl (jl_iload gL536_7) ?_
              refine jx_rt (v := some (.int (i32 (nd2_507)))) rfl rfl rfl rfl rfl rfl ?_
              exact ⟨_, _, _, at2_558, fk2_640, nd2_561, ln2_639, ec2_563, rfl, rfl, hW641, hF646, hP647, by omega, ((hF642.1 10 rfl).trans (e568)), (e644), ((hF642.1 31 rfl).trans (e571)), (e643), ec651, by omega, by omega, by omega, by omega, by omega, by first | exact Or.inr ((⟨by omega, by omega, by omega, by omega, by omega, (wL_in sf649 (by omega) (by omega) (wR_var sf648 (by omega) (by omega) iv_8 (kq (P := kRef (1)) (show A638 7 (s).toNat = ks from (congrFun ((hF642.2 7 rfl).trans (((congrFun eA628 7).trans (uA_ne (by decide))).trans ((hF565.2 7 rfl).trans ((hF542.2 7 rfl).trans ((hF525.2 7 rfl).trans (hF510.2 7 rfl)))))) _).trans (ex_ks)) (by first | exact .inr ⟨by omega, iv_9⟩))) (wR_mono (by omega) (by omega) (by omega) sf650)), (NX_nd sf649), by omega, by omega⟩))⟩
            · have _q : True := trivial
              refine jx_ld (pc' := 341) (l' := L536) (st' := [.int (i32 (nd2_507))]) rfl (jl_iload gL536_7) ?_
              refine jx_rt (v := some (.int (i32 (nd2_507)))) rfl rfl rfl rfl rfl rfl ?_
              exact ⟨_, _, _, at2_558, fk2_640, nd2_561, ln2_639, ec2_563, rfl, rfl, hW641, hF646, hP647, by omega, ((hF642.1 10 rfl).trans (e568)), (e644), ((hF642.1 31 rfl).trans (e571)), (e643), ec651, by omega, by omega, by omega, by omega, by omega, by first | exact Or.inl (⟨by omega, by omega, by omega⟩)⟩
        · have _q := h554
          exact absurd h554 (by omega)
      · have _q := h504
        exact absurd h504 (by omega)
    · have _q := h503
      exact absurd h503 (by omega)
set_option maxRecDepth 20000 in
set_option maxHeartbeats 4000000 in
theorem c_readNamed_w_at_231_1 {X : jX} {d : Nat} {Vs : Nat → Prop} {sb pb : Int} {c0 c1 : jC} {G : Nat → Int} {A : Nat → Nat → Int} {T : jH} {ln le at0 fk op0 nd tk0 li ec : Int} (hd : 72 ≤ d + 1) (hW : Wk G A) (e_ln : G 9 = ln) (e_le : A 4 (ln).toNat = le) (e_at0 : G 10 = at0) (e_fk : G 16 = fk) (e_op0 : G 15 = op0) (e_nd : G 31 = nd) (e_tk0 : G 11 = tk0) (e_li : G 3 = li) (e_ec : ecn A (G 31) = ec) (i_SV : SV Vs sb G A) (i_PQ : PQ Vs sb pb G A) (p_0 : 0 ≤ op0 ∧ op0 ≤ 8) (p_1 : fk = 0) (p_2 : nd ≤ 2 * at0 - tz tk0 + 42) (p_3 : at0 ≤ le) (p_4 : ln < li) (p_5 : tk0 = 1) : ∀ (L : jL) (Gx : Nat → Int) (Ax : Nat → Nat → Int) (pl s ix at1 tk1 fk1 nd1 op1 ks ec1 : Int), jGet L 0 = some (.ref 66) → jGet L 5 = some (.int (i32 (1))) → jGet L 3 = some (.int (i32 (ks))) → jGet L 1 = some (.int (i32 pl)) → jGet L 2 = some (.int (i32 s)) → jGet L 4 = some (.int (i32 ix)) → Wk Gx Ax → Fr [9, 10, 11, 12, 13, 14, 15, 16, 17, 18, 31] [15, 16, 17, 18, 19, 20, 21, 22, 24, 28] G A Gx Ax → Pf nd A Ax → Gx 10 = at1 → Gx 11 = tk1 → Gx 16 = fk1 → Gx 31 = nd1 → Gx 15 = op1 → Ax 7 (s).toNat = ks → ecn Ax (Gx 31) = ec1 → Gx 9 = ln → ((-2147483648 : Int) ≤ pl ∧ pl ≤ 2147483647) → ((-2147483648 : Int) ≤ s ∧ s ≤ 2147483647) → ((-2147483648 : Int) ≤ ix ∧ ix ≤ 2147483647) → (at0 ≤ at1) → (at1 ≤ le) → (nd ≤ nd1) → (op1 = op0) → (fk1 = 0) → (nd1 - nd ≤ (2 * at1 - tz tk1) - (2 * at0 - tz tk0) - 1) → (tz tk1 = 1) → (0 ≤ s ∧ s ≤ 201) → (-3000 ≤ pl ∧ pl ≤ 3002) → (SY Vs sb (s)) → (wE Ax Vs sb (20) (ix) (nd) (nd1)) → (nd + 5 * ec ≤  - 6 - tz tk1) → (nd1 - nd + 5 * (ec1 - ec) ≤ (2 * at1 - tz tk1) - (2 * at0 - tz tk0) - 6 - tz tk1) → wj X d jm304 (231, L, [], rV c0 c1 Gx Ax T) (fun o V' => ∃ (G' : Nat → Int) (A' : Nat → Nat → Int) (r : Int) (at2 : Int) (fk2 : Int) (nd2 : Int) (ln2 : Int) (ec2 : Int), V' = rV c0 c1 G' A' T ∧ o = .inl (some (.int (i32 r))) ∧ Wk G' A' ∧ Fr [9, 10, 11, 12, 13, 14, 15, 16, 17, 18, 31] [15, 16, 17, 18, 19, 20, 21, 22, 24, 28] G A G' A' ∧ Pf nd A A' ∧ ((-2147483648 : Int) ≤ r ∧ r ≤ 2147483647) ∧ G' 10 = at2 ∧ G' 16 = fk2 ∧ G' 31 = nd2 ∧ G' 9 = ln2 ∧ ecn A' (G' 31) = ec2 ∧ (at0 ≤ at2) ∧ (at2 ≤ le) ∧ (nd ≤ nd2) ∧ (0 ≤ r) ∧ (r ≤ nd2) ∧ (((1 ≤ fk2) ∧ (ln2 = ln) ∧ (nd2 - nd ≤ 2 * at2 - 2 * at0 + 8)) ∨ ((fk2 = 0) ∧ (ln2 = ln + 1) ∧ (nd2 - nd ≤ 2 * at2 - (2 * at0 - tz tk0) + 0) ∧ (nd ≤ r) ∧ (r < nd2) ∧ (wL A' sb pb Vs (r) (nd) (nd2)) ∧ (NX A' (r)) ∧ (nd2 - nd + 5 * (ec2 - ec) ≤ 2 * at2 - (2 * at0 - tz tk0) + 0) ∧ (nd + 5 * ec ≤ r)))) := by
  have hF0 : Fr [9, 10, 11, 12, 13, 14, 15, 16, 17, 18, 31] [15, 16, 17, 18, 19, 20, 21, 22, 24, 28] G A G A := Fr_rf
  have hP0 : Pf nd A A := Pf_rf
  have b_ln : (0 : Int) ≤ ln ∧ ln ≤ 3000 := e_ln ▸ hW.1 9
  have b_le : (0 : Int) ≤ le ∧ le ≤ 3000 := e_le ▸ hW.2 4 _
  have b_at0 : (0 : Int) ≤ at0 ∧ at0 ≤ 3002 := e_at0 ▸ hW.1 10
  have b_fk : (0 : Int) ≤ fk ∧ fk ≤ 6 := e_fk ▸ hW.1 16
  have b_op0 : (-2147483648 : Int) ≤ op0 ∧ op0 ≤ 2147483647 := e_op0 ▸ hW.1 15
  have b_nd : (0 : Int) ≤ nd ∧ nd ≤ 6999 := e_nd ▸ hW.1 31
  have z_tk0 := tz_f tk0
  have b_tk0 : (0 : Int) ≤ tk0 ∧ tk0 ≤ 5 := e_tk0 ▸ hW.1 11
  have b_li : (0 : Int) ≤ li ∧ li ≤ 3000 := e_li ▸ hW.1 3
  intro L Gx Ax pl s ix at1 tk1 fk1 nd1 op1 ks ec1 gL_0 gL_5 gL_3 gL_1 gL_2 gL_4 hWx hFx hPx ex_at1 ex_tk1 ex_fk1 ex_nd1 ex_op1 ex_ks ex_ec1 fx_9 rx_pl rx_s rx_ix iv_0 iv_1 iv_2 iv_3 iv_4 iv_5 iv_6 iv_7 iv_8 iv_9 iv_10 iv_11 iv_12
  have b_at1 : (0 : Int) ≤ at1 ∧ at1 ≤ 3002 := ex_at1 ▸ hWx.1 10
  have z_tk1 := tz_f tk1
  have b_tk1 : (0 : Int) ≤ tk1 ∧ tk1 ≤ 5 := ex_tk1 ▸ hWx.1 11
  have b_fk1 : (0 : Int) ≤ fk1 ∧ fk1 ≤ 6 := ex_fk1 ▸ hWx.1 16
  have b_nd1 : (0 : Int) ≤ nd1 ∧ nd1 ≤ 6999 := ex_nd1 ▸ hWx.1 31
  have b_op1 : (-2147483648 : Int) ≤ op1 ∧ op1 ≤ 2147483647 := ex_op1 ▸ hWx.1 15
  have b_ks : (0 : Int) ≤ ks ∧ ks ≤ 14 := ex_ks ▸ hWx.2 7 _
  refine jx_ld (pc' := 233) (l' := L) (st' := [.int (i32 (1))]) rfl (jl_iload gL_5) ?_
  refine jx_if_eq (pc' := 236) (tg := 244) rfl rfl rfl (by decide) (by decide) (fun h659 => ?_) (fun h659 => ?_)
  · have _q := h659
    exact absurd h659 (by omega)
  · have _q := h659
    refine jx_ld (pc' := 237) (l' := L) (st' := [.int (i32 (ks))]) rfl (jl_iloadn gL_3) ?_
    refine jx_ar (pc' := 238) (st' := [.int (i32 (4)), .int (i32 (ks))]) rfl rfl rfl rfl ?_
    refine jx_icmp_eq (pc' := 241) (tg := 259) rfl rfl rfl (Int.le_trans (by decide : (-2147483648 : Int) ≤ 0) b_ks.1) (Int.le_trans b_ks.2 (by decide : (14 : Int) ≤ 2147483647)) (by decide) (by decide) (fun h660 => ?_) (fun h660 => ?_)
    · have _q := h660
      have z661 := tz_f (tk1)
      exact c_readNamed_w_at_259_1 (X := X) (d := d) (Vs := Vs) (sb := sb) (pb := pb) (c0 := c0) (c1 := c1) (G := G) (A := A) (T := T) (ln := ln) (le := le) (at0 := at0) (fk := fk) (op0 := op0) (nd := nd) (tk0 := tk0) (li := li) (ec := ec) (hd := hd) (hW := hW) (e_ln := e_ln) (e_le := e_le) (e_at0 := e_at0) (e_fk := e_fk) (e_op0 := e_op0) (e_nd := e_nd) (e_tk0 := e_tk0) (e_li := e_li) (e_ec := e_ec) (i_SV := i_SV) (i_PQ := i_PQ) (p_0 := p_0) (p_1 := p_1) (p_2 := p_2) (p_3 := p_3) (p_4 := p_4) (p_5 := p_5) L Gx Ax (s) (ix) (at1) (tk1) (fk1) (nd1) (op1) (ks) (ec1) gL_0 gL_5 gL_2 gL_4 hWx hFx hPx ((ex_at1)) ((ex_tk1)) ((ex_fk1)) ((ex_nd1)) ((ex_op1)) ((ex_ks)) (ex_ec1) ((fx_9)) (by omega) (by omega) (by omega) (by omega) (by omega) (by omega) (by omega) (by omega) (by omega) (by omega) (iv_9) (by omega) (iv_10) (by omega) (by omega)
    · have _q := h660
      refine jx_go (tg := 251) rfl rfl ?_
      refine jx_ld (pc' := 252) (l' := L) (st' := [.ref 66]) rfl (jl_aloadn gL_0) ?_
      refine jx_ar (pc' := 253) (st' := [.int (i32 (4)), .ref 66]) rfl rfl rfl rfl ?_
      refine jx_ld (pc' := 254) (l' := L) (st' := [.int (i32 (pl)), .int (i32 (4)), .ref 66]) rfl (jl_iloadn gL_1) ?_
      refine jx_vr (pc' := 257) (as := [.int (i32 (4)), .int (i32 (pl))]) (st := []) rfl rfl rfl rfl ⟨rfl, rfl, Nat.le_of_ble_eq_true rfl⟩ rfl rfl (c_fail (dd := d) (hd := by omega) (hW := hWx) (kind := 4) (place := pl) (fk := fk1) (e_fk := show Gx 16 = fk1 from (ex_fk1))  (h_kind := ⟨(by decide), (by decide)⟩) (h_place := ⟨(Int.le_trans (by decide : (-2147483648 : Int) ≤ -2147483648) rx_pl.1), (Int.le_trans rx_pl.2 (by decide : (2147483647 : Int) ≤ 2147483647))⟩)  (p_0 := by omega) (p_1 := by omega)) (fun o V' hq => ?_)
      obtain ⟨G662, A663, fk2_664, rfl, rfl, hW665, hF666, e667, p668, -⟩ := hq
      have hF670 := Fr_tr hFx hF666 (Fr_sub (by decide)) (Fr_sub (by decide))
      have hP671 := Pf_f hPx hF666 (by decide)
      have sf672 : wE A663 Vs sb (20) (ix) (nd) (nd1) := wE_ag (by omega) (Sg_fr hF666 (by decide)) (Ag_fr hF666 (by decide)) iv_10
      have ec673 : ecn A663 (G662 31) = ec1 := (ecn_f (hF666.2 15 rfl) (hF666.1 31 rfl)).trans ex_ec1
      have bfk2_664 : (0 : Int) ≤ fk2_664 ∧ fk2_664 ≤ 6 := e667 ▸ hW665.1 16
      refine .inl ⟨rfl, ?_⟩
      refine jx_ar (pc' := 258) (st' := [.int (i32 (0))]) rfl rfl rfl rfl ?_
      refine jx_rt (v := some (.int (i32 (0)))) rfl rfl rfl rfl rfl rfl ?_
      exact ⟨_, _, _, at1, fk2_664, nd1, ln, ec1, rfl, rfl, hW665, hF670, hP671, by omega, ((hF666.1 10 rfl).trans (ex_at1)), (e667), ((hF666.1 31 rfl).trans (ex_nd1)), ((hF666.1 9 rfl).trans (fx_9)), ec673, by omega, by omega, by omega, by omega, by omega, by first | exact Or.inl (⟨by omega, by omega, by omega⟩)⟩
set_option maxRecDepth 20000 in
set_option maxHeartbeats 4000000 in
theorem c_readNamed_w_at_231_0 {X : jX} {d : Nat} {Vs : Nat → Prop} {sb pb : Int} {c0 c1 : jC} {G : Nat → Int} {A : Nat → Nat → Int} {T : jH} {ln le at0 fk op0 nd tk0 li ec : Int} (hd : 72 ≤ d + 1) (hW : Wk G A) (e_ln : G 9 = ln) (e_le : A 4 (ln).toNat = le) (e_at0 : G 10 = at0) (e_fk : G 16 = fk) (e_op0 : G 15 = op0) (e_nd : G 31 = nd) (e_tk0 : G 11 = tk0) (e_li : G 3 = li) (e_ec : ecn A (G 31) = ec) (i_SV : SV Vs sb G A) (i_PQ : PQ Vs sb pb G A) (p_0 : 0 ≤ op0 ∧ op0 ≤ 8) (p_1 : fk = 0) (p_2 : nd ≤ 2 * at0 - tz tk0 + 42) (p_3 : at0 ≤ le) (p_4 : ln < li) (p_5 : tk0 = 1) : ∀ (L : jL) (Gx : Nat → Int) (Ax : Nat → Nat → Int) (pl s at1 tk1 fk1 nd1 op1 ks ec1 : Int), jGet L 0 = some (.ref 66) → jGet L 5 = some (.int (i32 (0))) → jGet L 3 = some (.int (i32 (ks))) → jGet L 4 = some (.int (i32 (0))) → jGet L 1 = some (.int (i32 pl)) → jGet L 2 = some (.int (i32 s)) → Wk Gx Ax → Fr [9, 10, 11, 12, 13, 14, 15, 16, 17, 18, 31] [15, 16, 17, 18, 19, 20, 21, 22, 24, 28] G A Gx Ax → Pf nd A Ax → Gx 10 = at1 → Gx 11 = tk1 → Gx 16 = fk1 → Gx 31 = nd1 → Gx 15 = op1 → Ax 7 (s).toNat = ks → ecn Ax (Gx 31) = ec1 → Gx 9 = ln → ((-2147483648 : Int) ≤ pl ∧ pl ≤ 2147483647) → ((-2147483648 : Int) ≤ s ∧ s ≤ 2147483647) → (at0 ≤ at1) → (at1 ≤ le) → (nd ≤ nd1) → (op1 = op0) → (fk1 = 0) → (nd1 - nd ≤ (2 * at1 - tz tk1) - (2 * at0 - tz tk0) - 1) → (tz tk1 = 1) → (0 ≤ s ∧ s ≤ 201) → (-3000 ≤ pl ∧ pl ≤ 3002) → (SY Vs sb (s)) → (nd + 5 * ec ≤ nd1 - tz tk1) → (nd1 - nd + 5 * (ec1 - ec) ≤ (2 * at1 - tz tk1) - (2 * at0 - tz tk0) - 1 - tz tk1) → wj X d jm304 (231, L, [], rV c0 c1 Gx Ax T) (fun o V' => ∃ (G' : Nat → Int) (A' : Nat → Nat → Int) (r : Int) (at2 : Int) (fk2 : Int) (nd2 : Int) (ln2 : Int) (ec2 : Int), V' = rV c0 c1 G' A' T ∧ o = .inl (some (.int (i32 r))) ∧ Wk G' A' ∧ Fr [9, 10, 11, 12, 13, 14, 15, 16, 17, 18, 31] [15, 16, 17, 18, 19, 20, 21, 22, 24, 28] G A G' A' ∧ Pf nd A A' ∧ ((-2147483648 : Int) ≤ r ∧ r ≤ 2147483647) ∧ G' 10 = at2 ∧ G' 16 = fk2 ∧ G' 31 = nd2 ∧ G' 9 = ln2 ∧ ecn A' (G' 31) = ec2 ∧ (at0 ≤ at2) ∧ (at2 ≤ le) ∧ (nd ≤ nd2) ∧ (0 ≤ r) ∧ (r ≤ nd2) ∧ (((1 ≤ fk2) ∧ (ln2 = ln) ∧ (nd2 - nd ≤ 2 * at2 - 2 * at0 + 8)) ∨ ((fk2 = 0) ∧ (ln2 = ln + 1) ∧ (nd2 - nd ≤ 2 * at2 - (2 * at0 - tz tk0) + 0) ∧ (nd ≤ r) ∧ (r < nd2) ∧ (wL A' sb pb Vs (r) (nd) (nd2)) ∧ (NX A' (r)) ∧ (nd2 - nd + 5 * (ec2 - ec) ≤ 2 * at2 - (2 * at0 - tz tk0) + 0) ∧ (nd + 5 * ec ≤ r)))) := by
  have hF0 : Fr [9, 10, 11, 12, 13, 14, 15, 16, 17, 18, 31] [15, 16, 17, 18, 19, 20, 21, 22, 24, 28] G A G A := Fr_rf
  have hP0 : Pf nd A A := Pf_rf
  have b_ln : (0 : Int) ≤ ln ∧ ln ≤ 3000 := e_ln ▸ hW.1 9
  have b_le : (0 : Int) ≤ le ∧ le ≤ 3000 := e_le ▸ hW.2 4 _
  have b_at0 : (0 : Int) ≤ at0 ∧ at0 ≤ 3002 := e_at0 ▸ hW.1 10
  have b_fk : (0 : Int) ≤ fk ∧ fk ≤ 6 := e_fk ▸ hW.1 16
  have b_op0 : (-2147483648 : Int) ≤ op0 ∧ op0 ≤ 2147483647 := e_op0 ▸ hW.1 15
  have b_nd : (0 : Int) ≤ nd ∧ nd ≤ 6999 := e_nd ▸ hW.1 31
  have z_tk0 := tz_f tk0
  have b_tk0 : (0 : Int) ≤ tk0 ∧ tk0 ≤ 5 := e_tk0 ▸ hW.1 11
  have b_li : (0 : Int) ≤ li ∧ li ≤ 3000 := e_li ▸ hW.1 3
  intro L Gx Ax pl s at1 tk1 fk1 nd1 op1 ks ec1 gL_0 gL_5 gL_3 gL_4 gL_1 gL_2 hWx hFx hPx ex_at1 ex_tk1 ex_fk1 ex_nd1 ex_op1 ex_ks ex_ec1 fx_9 rx_pl rx_s iv_0 iv_1 iv_2 iv_3 iv_4 iv_5 iv_6 iv_7 iv_8 iv_9 iv_10 iv_11
  have b_at1 : (0 : Int) ≤ at1 ∧ at1 ≤ 3002 := ex_at1 ▸ hWx.1 10
  have z_tk1 := tz_f tk1
  have b_tk1 : (0 : Int) ≤ tk1 ∧ tk1 ≤ 5 := ex_tk1 ▸ hWx.1 11
  have b_fk1 : (0 : Int) ≤ fk1 ∧ fk1 ≤ 6 := ex_fk1 ▸ hWx.1 16
  have b_nd1 : (0 : Int) ≤ nd1 ∧ nd1 ≤ 6999 := ex_nd1 ▸ hWx.1 31
  have b_op1 : (-2147483648 : Int) ≤ op1 ∧ op1 ≤ 2147483647 := ex_op1 ▸ hWx.1 15
  have b_ks : (0 : Int) ≤ ks ∧ ks ≤ 14 := ex_ks ▸ hWx.2 7 _
  refine jx_ld (pc' := 233) (l' := L) (st' := [.int (i32 (0))]) rfl (jl_iload gL_5) ?_
  refine jx_if_eq (pc' := 236) (tg := 244) rfl rfl rfl (by decide) (by decide) (fun h674 => ?_) (fun h674 => ?_)
  · have _q := h674
    refine jx_ld (pc' := 245) (l' := L) (st' := [.int (i32 (ks))]) rfl (jl_iloadn gL_3) ?_
    refine jx_st (pc' := 248) (as := [.int (i32 (ks))]) (st := []) rfl rfl ⟨rfl, Nat.le_of_ble_eq_true rfl⟩ rfl rfl rfl (c_isChannel (dd := d) (hd := by omega) (k := ks)   (h_k := ⟨(Int.le_trans (by decide : (-2147483648 : Int) ≤ 0) b_ks.1), (Int.le_trans b_ks.2 (by decide : (14 : Int) ≤ 2147483647))⟩)  ) (fun o V' hq => ?_)
    obtain ⟨r675, rfl, rfl, b676, q677⟩ := hq
    refine .inr ⟨_, rfl, ?_⟩
    rcases q677 with ⟨rfl, a678⟩ | rfl
    · have _q : True := trivial
      refine jx_if_ne (pc' := 251) (tg := 259) rfl rfl rfl (by decide) (by decide) (fun h679 => ?_) (fun h679 => ?_)
      · have _q := h679
        have z680 := tz_f (tk1)
        exact c_readNamed_w_at_259_0 (X := X) (d := d) (Vs := Vs) (sb := sb) (pb := pb) (c0 := c0) (c1 := c1) (G := G) (A := A) (T := T) (ln := ln) (le := le) (at0 := at0) (fk := fk) (op0 := op0) (nd := nd) (tk0 := tk0) (li := li) (ec := ec) (hd := hd) (hW := hW) (e_ln := e_ln) (e_le := e_le) (e_at0 := e_at0) (e_fk := e_fk) (e_op0 := e_op0) (e_nd := e_nd) (e_tk0 := e_tk0) (e_li := e_li) (e_ec := e_ec) (i_SV := i_SV) (i_PQ := i_PQ) (p_0 := p_0) (p_1 := p_1) (p_2 := p_2) (p_3 := p_3) (p_4 := p_4) (p_5 := p_5) L Gx Ax (s) (at1) (tk1) (fk1) (nd1) (op1) (ks) (ec1) gL_0 gL_5 gL_4 gL_2 hWx hFx hPx ((ex_at1)) ((ex_tk1)) ((ex_fk1)) ((ex_nd1)) ((ex_op1)) ((ex_ks)) (ex_ec1) ((fx_9)) (by omega) (by omega) (by omega) (by omega) (by omega) (by omega) (by omega) (by omega) (by omega) (iv_9) (a678) (by omega) (by omega)
      · have _q := h679
        exact absurd h679 (by omega)
    · have _q : True := trivial
      refine jx_if_ne (pc' := 251) (tg := 259) rfl rfl rfl (by decide) (by decide) (fun h681 => ?_) (fun h681 => ?_)
      · have _q := h681
        exact absurd h681 (by omega)
      · have _q := h681
        refine jx_ld (pc' := 252) (l' := L) (st' := [.ref 66]) rfl (jl_aloadn gL_0) ?_
        refine jx_ar (pc' := 253) (st' := [.int (i32 (4)), .ref 66]) rfl rfl rfl rfl ?_
        refine jx_ld (pc' := 254) (l' := L) (st' := [.int (i32 (pl)), .int (i32 (4)), .ref 66]) rfl (jl_iloadn gL_1) ?_
        refine jx_vr (pc' := 257) (as := [.int (i32 (4)), .int (i32 (pl))]) (st := []) rfl rfl rfl rfl ⟨rfl, rfl, Nat.le_of_ble_eq_true rfl⟩ rfl rfl (c_fail (dd := d) (hd := by omega) (hW := hWx) (kind := 4) (place := pl) (fk := fk1) (e_fk := show Gx 16 = fk1 from (ex_fk1))  (h_kind := ⟨(by decide), (by decide)⟩) (h_place := ⟨(Int.le_trans (by decide : (-2147483648 : Int) ≤ -2147483648) rx_pl.1), (Int.le_trans rx_pl.2 (by decide : (2147483647 : Int) ≤ 2147483647))⟩)  (p_0 := by omega) (p_1 := by omega)) (fun o V' hq => ?_)
        obtain ⟨G682, A683, fk2_684, rfl, rfl, hW685, hF686, e687, p688, -⟩ := hq
        have hF690 := Fr_tr hFx hF686 (Fr_sub (by decide)) (Fr_sub (by decide))
        have hP691 := Pf_f hPx hF686 (by decide)
        have ec692 : ecn A683 (G682 31) = ec1 := (ecn_f (hF686.2 15 rfl) (hF686.1 31 rfl)).trans ex_ec1
        have bfk2_684 : (0 : Int) ≤ fk2_684 ∧ fk2_684 ≤ 6 := e687 ▸ hW685.1 16
        refine .inl ⟨rfl, ?_⟩
        refine jx_ar (pc' := 258) (st' := [.int (i32 (0))]) rfl rfl rfl rfl ?_
        refine jx_rt (v := some (.int (i32 (0)))) rfl rfl rfl rfl rfl rfl ?_
        exact ⟨_, _, _, at1, fk2_684, nd1, ln, ec1, rfl, rfl, hW685, hF690, hP691, by omega, ((hF686.1 10 rfl).trans (ex_at1)), (e687), ((hF686.1 31 rfl).trans (ex_nd1)), ((hF686.1 9 rfl).trans (fx_9)), ec692, by omega, by omega, by omega, by omega, by omega, by first | exact Or.inl (⟨by omega, by omega, by omega⟩)⟩
  · have _q := h674
    exact absurd h674 (by omega)
set_option maxRecDepth 20000 in
set_option maxHeartbeats 4000000 in
theorem c_readNamed_w_at_150_1 {X : jX} {d : Nat} {Vs : Nat → Prop} {sb pb : Int} {c0 c1 : jC} {G : Nat → Int} {A : Nat → Nat → Int} {T : jH} {ln le at0 fk op0 nd tk0 li ec : Int} (hd : 72 ≤ d + 1) (hW : Wk G A) (e_ln : G 9 = ln) (e_le : A 4 (ln).toNat = le) (e_at0 : G 10 = at0) (e_fk : G 16 = fk) (e_op0 : G 15 = op0) (e_nd : G 31 = nd) (e_tk0 : G 11 = tk0) (e_li : G 3 = li) (e_ec : ecn A (G 31) = ec) (i_SV : SV Vs sb G A) (i_PQ : PQ Vs sb pb G A) (p_0 : 0 ≤ op0 ∧ op0 ≤ 8) (p_1 : fk = 0) (p_2 : nd ≤ 2 * at0 - tz tk0 + 42) (p_3 : at0 ≤ le) (p_4 : ln < li) (p_5 : tk0 = 1) : ∀ (L : jL) (Gx : Nat → Int) (Ax : Nat → Nat → Int) (s ix at1 tk1 fk1 nd1 op1 ks ec1 : Int), jGet L 0 = some (.ref 66) → jGet L 5 = some (.int (i32 (1))) → jGet L 2 = some (.int (i32 s)) → jGet L 4 = some (.int (i32 ix)) → Wk Gx Ax → Fr [9, 10, 11, 12, 13, 14, 15, 16, 17, 18, 31] [15, 16, 17, 18, 19, 20, 21, 22, 24, 28] G A Gx Ax → Pf nd A Ax → Gx 10 = at1 → Gx 11 = tk1 → Gx 16 = fk1 → Gx 31 = nd1 → Gx 15 = op1 → Ax 7 (s).toNat = ks → ecn Ax (Gx 31) = ec1 → Gx 9 = ln → ((-2147483648 : Int) ≤ s ∧ s ≤ 2147483647) → ((-2147483648 : Int) ≤ ix ∧ ix ≤ 2147483647) → (at0 ≤ at1) → (at1 ≤ le) → (nd ≤ nd1) → (op1 = op0) → (fk1 = 0) → (nd1 - nd ≤ (2 * at1 - tz tk1) - (2 * at0 - tz tk0) - 1) → (tz tk1 = 1) → (0 ≤ s ∧ s ≤ 201) → (SY Vs sb (s)) → (kArr (ks)) → (wE Ax Vs sb (20) (ix) (nd) (nd1)) → (nd + 5 * ec ≤  - 6 - tz tk1) → (nd1 - nd + 5 * (ec1 - ec) ≤ (2 * at1 - tz tk1) - (2 * at0 - tz tk0) - 6 - tz tk1) → wj X d jm304 (150, L, [], rV c0 c1 Gx Ax T) (fun o V' => ∃ (G' : Nat → Int) (A' : Nat → Nat → Int) (r : Int) (at2 : Int) (fk2 : Int) (nd2 : Int) (ln2 : Int) (ec2 : Int), V' = rV c0 c1 G' A' T ∧ o = .inl (some (.int (i32 r))) ∧ Wk G' A' ∧ Fr [9, 10, 11, 12, 13, 14, 15, 16, 17, 18, 31] [15, 16, 17, 18, 19, 20, 21, 22, 24, 28] G A G' A' ∧ Pf nd A A' ∧ ((-2147483648 : Int) ≤ r ∧ r ≤ 2147483647) ∧ G' 10 = at2 ∧ G' 16 = fk2 ∧ G' 31 = nd2 ∧ G' 9 = ln2 ∧ ecn A' (G' 31) = ec2 ∧ (at0 ≤ at2) ∧ (at2 ≤ le) ∧ (nd ≤ nd2) ∧ (0 ≤ r) ∧ (r ≤ nd2) ∧ (((1 ≤ fk2) ∧ (ln2 = ln) ∧ (nd2 - nd ≤ 2 * at2 - 2 * at0 + 8)) ∨ ((fk2 = 0) ∧ (ln2 = ln + 1) ∧ (nd2 - nd ≤ 2 * at2 - (2 * at0 - tz tk0) + 0) ∧ (nd ≤ r) ∧ (r < nd2) ∧ (wL A' sb pb Vs (r) (nd) (nd2)) ∧ (NX A' (r)) ∧ (nd2 - nd + 5 * (ec2 - ec) ≤ 2 * at2 - (2 * at0 - tz tk0) + 0) ∧ (nd + 5 * ec ≤ r)))) := by
  have hF0 : Fr [9, 10, 11, 12, 13, 14, 15, 16, 17, 18, 31] [15, 16, 17, 18, 19, 20, 21, 22, 24, 28] G A G A := Fr_rf
  have hP0 : Pf nd A A := Pf_rf
  have b_ln : (0 : Int) ≤ ln ∧ ln ≤ 3000 := e_ln ▸ hW.1 9
  have b_le : (0 : Int) ≤ le ∧ le ≤ 3000 := e_le ▸ hW.2 4 _
  have b_at0 : (0 : Int) ≤ at0 ∧ at0 ≤ 3002 := e_at0 ▸ hW.1 10
  have b_fk : (0 : Int) ≤ fk ∧ fk ≤ 6 := e_fk ▸ hW.1 16
  have b_op0 : (-2147483648 : Int) ≤ op0 ∧ op0 ≤ 2147483647 := e_op0 ▸ hW.1 15
  have b_nd : (0 : Int) ≤ nd ∧ nd ≤ 6999 := e_nd ▸ hW.1 31
  have z_tk0 := tz_f tk0
  have b_tk0 : (0 : Int) ≤ tk0 ∧ tk0 ≤ 5 := e_tk0 ▸ hW.1 11
  have b_li : (0 : Int) ≤ li ∧ li ≤ 3000 := e_li ▸ hW.1 3
  intro L Gx Ax s ix at1 tk1 fk1 nd1 op1 ks ec1 gL_0 gL_5 gL_2 gL_4 hWx hFx hPx ex_at1 ex_tk1 ex_fk1 ex_nd1 ex_op1 ex_ks ex_ec1 fx_9 rx_s rx_ix iv_0 iv_1 iv_2 iv_3 iv_4 iv_5 iv_6 iv_7 iv_8 iv_9 iv_10 iv_11 iv_12
  have b_at1 : (0 : Int) ≤ at1 ∧ at1 ≤ 3002 := ex_at1 ▸ hWx.1 10
  have z_tk1 := tz_f tk1
  have b_tk1 : (0 : Int) ≤ tk1 ∧ tk1 ≤ 5 := ex_tk1 ▸ hWx.1 11
  have b_fk1 : (0 : Int) ≤ fk1 ∧ fk1 ≤ 6 := ex_fk1 ▸ hWx.1 16
  have b_nd1 : (0 : Int) ≤ nd1 ∧ nd1 ≤ 6999 := ex_nd1 ▸ hWx.1 31
  have b_op1 : (-2147483648 : Int) ≤ op1 ∧ op1 ≤ 2147483647 := ex_op1 ▸ hWx.1 15
  have b_ks : (0 : Int) ≤ ks ∧ ks ≤ 14 := ex_ks ▸ hWx.2 7 _
  refine jx_ld (pc' := 151) (l' := L) (st' := [.ref 66]) rfl (jl_aloadn gL_0) ?_
  refine jx_ar (pc' := 153) (st' := [.int (i32 (22)), .ref 66]) rfl rfl rfl rfl ?_
  refine jx_ld (pc' := 154) (l' := L) (st' := [.ref 66, .int (i32 (22)), .ref 66]) rfl (jl_aloadn gL_0) ?_
  refine jx_ld (pc' := 156) (l' := L) (st' := [.int (i32 (1)), .ref 66, .int (i32 (22)), .ref 66]) rfl (jl_iload gL_5) ?_
  refine jx_if_eq (pc' := 159) (tg := 163) rfl rfl rfl (by decide) (by decide) (fun h693 => ?_) (fun h693 => ?_)
  · have _q := h693
    exact absurd h693 (by omega)
  · have _q := h693
    refine jx_ar (pc' := 160) (st' := [.int (i32 (3)), .ref 66, .int (i32 (22)), .ref 66]) rfl rfl rfl rfl ?_
    refine jx_go (tg := 164) rfl rfl ?_
    refine jx_ld (pc' := 165) (l' := L) (st' := [.int (i32 (s)), .int (i32 (3)), .ref 66, .int (i32 (22)), .ref 66]) rfl (jl_iloadn gL_2) ?_
    refine jx_ld (pc' := 167) (l' := L) (st' := [.int (i32 (ix)), .int (i32 (s)), .int (i32 (3)), .ref 66, .int (i32 (22)), .ref 66]) rfl (jl_iload gL_4) ?_
    refine jx_ar (pc' := 168) (st' := [.int (i32 (0)), .int (i32 (ix)), .int (i32 (s)), .int (i32 (3)), .ref 66, .int (i32 (22)), .ref 66]) rfl rfl rfl rfl ?_
    refine jx_ar (pc' := 169) (st' := [.int (i32 (0)), .int (i32 (0)), .int (i32 (ix)), .int (i32 (s)), .int (i32 (3)), .ref 66, .int (i32 (22)), .ref 66]) rfl rfl rfl rfl ?_
    refine jx_vr (pc' := 172) (as := [.int (i32 (3)), .int (i32 (s)), .int (i32 (ix)), .int (i32 (0)), .int (i32 (0))]) (st := [.int (i32 (22)), .ref 66]) rfl rfl rfl rfl ⟨rfl, rfl, Nat.le_of_ble_eq_true rfl⟩ rfl rfl (c_node_e (dd := d) (hd := by omega) (hW := hWx) (kind := 3) (a := s) (b := ix) (c := 0) (e := 0) (nd := nd1) (e_nd := show Gx 31 = nd1 from (ex_nd1)) (ec := ec1) (e_ec := show ecn Ax (Gx 31) = ec1 from ex_ec1)  (h_kind := ⟨(by decide), (by decide)⟩) (h_a := ⟨(Int.le_trans (by decide : (-2147483648 : Int) ≤ -2147483648) rx_s.1), (Int.le_trans rx_s.2 (by decide : (2147483647 : Int) ≤ 2147483647))⟩) (h_b := ⟨(Int.le_trans (by decide : (-2147483648 : Int) ≤ -2147483648) rx_ix.1), (Int.le_trans rx_ix.2 (by decide : (2147483647 : Int) ≤ 2147483647))⟩) (h_c := ⟨(by decide), (by decide)⟩) (h_e := ⟨(by decide), (by decide)⟩)  (p_0 := by omega) (p_1 := by omega) (p_2 := by omega)) (fun o V' hq => ?_)
    obtain ⟨G694, A695, nd2_696, ec2_697, rfl, rfl, hW698, hF699, hQ700, e701, e702, p703, p704, p705, -⟩ := hq
    have hF707 := Fr_tr hFx hF699 (Fr_sub (by decide)) (Fr_sub (by decide))
    have hP708 := Pf_tr hPx hQ700 (by omega)
    have sf709 : wE A695 Vs sb (20) (ix) (nd) (nd1) := wE_ag (by omega) (Sg_fr hF699 (by decide)) (Ag_pf hQ700 (by omega)) iv_10
    have bnd2_696 : (0 : Int) ≤ nd2_696 ∧ nd2_696 ≤ 6999 := e701 ▸ hW698.1 31
    refine .inr ⟨_, rfl, ?_⟩
    refine jx_ar (pc' := 173) (st' := [.int (i32 (0)), .int (i32 (nd1)), .int (i32 (22)), .ref 66]) rfl rfl rfl rfl ?_
    refine jx_ar (pc' := 174) (st' := [.int (i32 (0)), .int (i32 (0)), .int (i32 (nd1)), .int (i32 (22)), .ref 66]) rfl rfl rfl rfl ?_
    refine jx_ar (pc' := 175) (st' := [.int (i32 (0)), .int (i32 (0)), .int (i32 (0)), .int (i32 (nd1)), .int (i32 (22)), .ref 66]) rfl rfl rfl rfl ?_
    refine jx_vr (pc' := 178) (as := [.int (i32 (22)), .int (i32 (nd1)), .int (i32 (0)), .int (i32 (0)), .int (i32 (0))]) (st := []) rfl rfl rfl rfl ⟨rfl, rfl, Nat.le_of_ble_eq_true rfl⟩ rfl rfl (c_node_o (dd := d) (hd := by omega) (hW := hW698) (kind := 22) (a := nd1) (b := 0) (c := 0) (e := 0) (nd := nd2_696) (e_nd := show G694 31 = nd2_696 from (e701)) (ec := ec2_697) (e_ec := show ecn A695 (G694 31) = ec2_697 from e702)  (h_kind := ⟨(by decide), (by decide)⟩) (h_a := ⟨(Int.le_trans (by decide : (-2147483648 : Int) ≤ 0) b_nd1.1), (Int.le_trans b_nd1.2 (by decide : (6999 : Int) ≤ 2147483647))⟩) (h_b := ⟨(by decide), (by decide)⟩) (h_c := ⟨(by decide), (by decide)⟩) (h_e := ⟨(by decide), (by decide)⟩)  (p_0 := by omega) (p_1 := by omega) (p_2 := by omega)) (fun o V' hq => ?_)
    obtain ⟨G710, A711, nd2_712, ec2_713, rfl, rfl, hW714, hF715, hQ716, e717, e718, p719, p720, p721, -⟩ := hq
    have hF723 := Fr_tr hF707 hF715 (Fr_sub (by decide)) (Fr_sub (by decide))
    have hP724 := Pf_tr hP708 hQ716 (by omega)
    have sf725 : wE A711 Vs sb (20) (ix) (nd) (nd1) := wE_ag (by omega) (Sg_fr hF715 (by decide)) (Ag_pf hQ716 (by omega)) sf709
    have sf726 : ND A711 (nd1) (3) (s) (ix) (0) (0) (0) (0) := ND_ag (by omega) (Ag_pf hQ716 (by omega)) p705
    have bnd2_712 : (0 : Int) ≤ nd2_712 ∧ nd2_712 ≤ 6999 := e717 ▸ hW714.1 31
    refine .inr ⟨_, rfl, ?_⟩
    refine jx_ld (pc' := 180) (l' := jSto1 L 6 (.int (i32 (nd2_696)))) (st' := []) rfl rfl ?_
    obtain ⟨L727, eL727⟩ : ∃ q, q = jSto1 L 6 (.int (i32 (nd2_696))) := ⟨_, rfl⟩
    rw [← eL727]
    have gL727_0 : jGet L727 0 = some (.ref 66) := eL727 ▸ jg_ne (by decide) gL_0 rfl
    have gL727_5 : jGet L727 5 = some (.int (i32 (1))) := eL727 ▸ jg_ne (by decide) gL_5 rfl
    have gL727_2 : jGet L727 2 = some (.int (i32 (s))) := eL727 ▸ jg_ne (by decide) gL_2 rfl
    have gL727_4 : jGet L727 4 = some (.int (i32 (ix))) := eL727 ▸ jg_ne (by decide) gL_4 rfl
    have gL727_6 : jGet L727 6 = some (.int (i32 (nd2_696))) := eL727 ▸ jg_eq
    refine jx_ld (pc' := 181) (l' := L727) (st' := [.ref 66]) rfl (jl_aloadn gL727_0) ?_
    refine jx_vr (pc' := 184) (as := []) (st := []) rfl rfl rfl rfl ⟨rfl, rfl, Nat.le_of_ble_eq_true rfl⟩ rfl rfl (c_next (dd := d) (hd := by omega) (hW := hW714)  (ln := ln) (e_ln := show G710 9 = ln from ((hF715.1 9 rfl).trans ((hF699.1 9 rfl).trans (fx_9)))) (le := le) (e_le := show A711 4 (ln).toNat = le from (congrFun ((hF715.2 4 rfl).trans ((hF699.2 4 rfl).trans (hFx.2 4 rfl))) _).trans (e_le)) (at0 := at1) (e_at0 := show G710 10 = at1 from ((hF715.1 10 rfl).trans ((hF699.1 10 rfl).trans (ex_at1))))    (p_0 := by omega)) (fun o V' hq => ?_)
    obtain ⟨G728, A729, at2_730, tk2_731, rfl, rfl, hW732, hF733, e734, e735, p736, p737, p738, -⟩ := hq
    have hF740 := Fr_tr hF723 hF733 (Fr_sub (by decide)) (Fr_sub (by decide))
    have hP741 := Pf_f hP724 hF733 (by decide)
    have sf742 : wE A729 Vs sb (20) (ix) (nd) (nd1) := wE_ag (by omega) (Sg_fr hF733 (by decide)) (Ag_fr hF733 (by decide)) sf725
    have sf743 : ND A729 (nd1) (3) (s) (ix) (0) (0) (0) (0) := ND_ag (by omega) (Ag_fr hF733 (by decide)) sf726
    have sf744 : ND A729 (nd2_696) (22) (nd1) (0) (0) (0) (0) (0) := ND_ag (by omega) (Ag_fr hF733 (by decide)) p721
    have ec745 : ecn A729 (G728 31) = ec2_713 := (ecn_f (hF733.2 15 rfl) (hF733.1 31 rfl)).trans e718
    have bat2_730 : (0 : Int) ≤ at2_730 ∧ at2_730 ≤ 3002 := e734 ▸ hW732.1 10
    have ztk2_731 := tz_b tk2_731
    have btk2_731 : (0 : Int) ≤ tk2_731 ∧ tk2_731 ≤ 5 := e735 ▸ hW732.1 11
    refine .inl ⟨rfl, ?_⟩
    refine jx_ld (pc' := 185) (l' := L727) (st' := [.ref 66]) rfl (jl_aloadn gL727_0) ?_
    refine jr_get (pc' := 188) (i := 35) (v := .ref 85) rfl rfl (by decide) rfl rfl ?_
    refine jx_ld (pc' := 190) (l' := L727) (st' := [.int (i32 (nd2_696)), .ref 85]) rfl (jl_iload gL727_6) ?_
    refine jx_ld (pc' := 191) (l' := L727) (st' := [.ref 66, .int (i32 (nd2_696)), .ref 85]) rfl (jl_aloadn gL727_0) ?_
    refine jx_vr (pc' := 194) (as := []) (st := [.int (i32 (nd2_696)), .ref 85]) rfl rfl rfl rfl ⟨rfl, rfl, Nat.le_of_ble_eq_true rfl⟩ rfl rfl (RE_all X 9 (dd := d) (hd := by omega) (hW := hW732)  (ln := ln) (e_ln := show G728 9 = ln from ((hF733.1 9 rfl).trans ((hF715.1 9 rfl).trans ((hF699.1 9 rfl).trans (fx_9))))) (le := le) (e_le := show A729 4 (ln).toNat = le from (congrFun ((hF733.2 4 rfl).trans ((hF715.2 4 rfl).trans ((hF699.2 4 rfl).trans (hFx.2 4 rfl)))) _).trans (e_le)) (at0 := at2_730) (e_at0 := show G728 10 = at2_730 from (e734)) (fk := fk1) (e_fk := show G728 16 = fk1 from ((hF733.1 16 rfl).trans ((hF715.1 16 rfl).trans ((hF699.1 16 rfl).trans (ex_fk1))))) (op0 := op1) (e_op0 := show G728 15 = op1 from ((hF733.1 15 rfl).trans ((hF715.1 15 rfl).trans ((hF699.1 15 rfl).trans (ex_op1))))) (nd := nd2_712) (e_nd := show G728 31 = nd2_712 from ((hF733.1 31 rfl).trans (e717))) (tk0 := tk2_731) (e_tk0 := show G728 11 = tk2_731 from (e735)) (ec := ec2_713) (e_ec := show ecn A729 (G728 31) = ec2_713 from ec745) (i_SV := (SV_ext (((hF733.1 29 rfl).trans ((hF715.1 29 rfl).trans ((hF699.1 29 rfl).trans (hFx.1 29 rfl))))) (((hF733.2 14 rfl).trans ((hF715.2 14 rfl).trans ((hF699.2 14 rfl).trans (hFx.2 14 rfl))))) i_SV))   (p_0 := by omega) (p_1 := by omega) (p_2 := by omega) (p_3 := by omega) (p_4 := by omega) (p_5 := by omega)) (fun o V' hq => ?_)
    obtain ⟨G746, A747, r748, at2_749, fk2_750, op2_751, nd2_752, tk2_753, ec2_754, rfl, rfl, hW755, hF756, hQ757, b758, e759, e760, e761, e762, e763, e764, p765, p766, p767, p768, p769, p770, q771⟩ := hq
    have hF772 := Fr_tr hF740 hF756 (Fr_sub (by decide)) (Fr_sub (by decide))
    have hP773 := Pf_tr hP741 hQ757 (by omega)
    have sf774 : wE A747 Vs sb (20) (ix) (nd) (nd1) := wE_ag (by omega) (Sg_fr hF756 (by decide)) (Ag_pf hQ757 (by omega)) sf742
    have sf775 : ND A747 (nd1) (3) (s) (ix) (0) (0) (0) (0) := ND_ag (by omega) (Ag_pf hQ757 (by omega)) sf743
    have sf776 : ND A747 (nd2_696) (22) (nd1) (0) (0) (0) (0) (0) := ND_ag (by omega) (Ag_pf hQ757 (by omega)) sf744
    have bat2_749 : (0 : Int) ≤ at2_749 ∧ at2_749 ≤ 3002 := e759 ▸ hW755.1 10
    have bfk2_750 : (0 : Int) ≤ fk2_750 ∧ fk2_750 ≤ 6 := e760 ▸ hW755.1 16
    have bop2_751 : (-2147483648 : Int) ≤ op2_751 ∧ op2_751 ≤ 2147483647 := e761 ▸ hW755.1 15
    have bnd2_752 : (0 : Int) ≤ nd2_752 ∧ nd2_752 ≤ 6999 := e762 ▸ hW755.1 31
    have ztk2_753 := tz_b tk2_753
    have btk2_753 : (0 : Int) ≤ tk2_753 ∧ tk2_753 ≤ 5 := e763 ▸ hW755.1 11
    refine .inr ⟨_, rfl, ?_⟩
    rcases q771 with ⟨a777, a778, a779, a780, a781, a782⟩ | ⟨a783, a784, a785⟩ | ⟨a786, a787, a788, a789, a790⟩
    · have _q : True := trivial
      exfalso
      omega
    · have _q : True := trivial
      refine jr_st (pc' := 195) (i := 18) (m := 7000) (z := nd2_696) (y := r748) rfl (by decide) rfl (by decide) (by omega) (by omega) rfl ?_
      have hW792 : Wk G746 (uA A747 18 (nd2_696).toNat (r748)) := Wk_a hW755 (show (-2147483648 : Int) ≤ r748 by omega) (show r748 ≤ (2147483647 : Int) by omega)
      have hF793 := Fr_a (z := r748) (k := 18) (n := (nd2_696).toNat) hF772 (by decide)
      obtain ⟨A791, eA791⟩ : ∃ q, q = uA A747 18 (nd2_696).toNat (r748) := ⟨_, rfl⟩
      rw [← eA791]
      rw [← eA791] at hW792 hF793
      have q794 : A791 18 (nd2_696).toNat = r748 := by rw [eA791]; exact uA_eq
      have hP795 : Pf nd A A791 := eA791 ▸ Pf_a hP773 (z := nd2_696) (by omega) (by omega)
      have sf796 : wE A791 Vs sb (20) (ix) (nd) (nd1) := wE_ag (by omega) (Sg_ne eA791 rfl) (Ag_st eA791 (by omega) (by omega)) sf774
      have sf797 : ND A791 (nd1) (3) (s) (ix) (0) (0) (0) (0) := ND_ag (by omega) (Ag_st eA791 (by omega) (by omega)) sf775
      have sf798 : ND A791 (nd2_696) (22) (nd1) (r748) (0) (0) (0) (0) := ND_b eA791 sf776
      have ec799 : ecn A791 (G746 31) = ec2_754 := (ecn_e ((congrFun eA791 15).trans (uA_ne (by decide)))).trans e764
      refine jx_ld (pc' := 196) (l' := L727) (st' := [.ref 66]) rfl (jl_aloadn gL727_0) ?_
      refine jx_vr (pc' := 199) (as := []) (st := []) rfl rfl rfl rfl ⟨rfl, rfl, Nat.le_of_ble_eq_true rfl⟩ rfl rfl (c_endLine (dd := d) (hd := by omega) (hW := hW792)  (ln := ln) (e_ln := show G746 9 = ln from ((hF756.1 9 rfl).trans ((hF733.1 9 rfl).trans ((hF715.1 9 rfl).trans ((hF699.1 9 rfl).trans (fx_9)))))) (li := li) (e_li := show G746 3 = li from ((hF756.1 3 rfl).trans ((hF733.1 3 rfl).trans ((hF715.1 3 rfl).trans ((hF699.1 3 rfl).trans ((hFx.1 3 rfl).trans (e_li))))))) (fk := fk2_750) (e_fk := show G746 16 = fk2_750 from (e760)) (tk0 := tk2_753) (e_tk0 := show G746 11 = tk2_753 from (e763))    (p_0 := by omega)) (fun o V' hq => ?_)
      obtain ⟨G800, A801, ln2_802, fk2_803, rfl, rfl, hW804, hF805, e806, e807, q808⟩ := hq
      have hF809 := Fr_tr hF793 hF805 (Fr_sub (by decide)) (Fr_sub (by decide))
      have hP810 := Pf_f hP795 hF805 (by decide)
      have sf811 : wE A801 Vs sb (20) (ix) (nd) (nd1) := wE_ag (by omega) (Sg_fr hF805 (by decide)) (Ag_fr hF805 (by decide)) sf796
      have sf812 : ND A801 (nd1) (3) (s) (ix) (0) (0) (0) (0) := ND_ag (by omega) (Ag_fr hF805 (by decide)) sf797
      have sf813 : ND A801 (nd2_696) (22) (nd1) (r748) (0) (0) (0) (0) := ND_ag (by omega) (Ag_fr hF805 (by decide)) sf798
      have ec814 : ecn A801 (G800 31) = ec2_754 := (ecn_f (hF805.2 15 rfl) (hF805.1 31 rfl)).trans ec799
      have bln2_802 : (0 : Int) ≤ ln2_802 ∧ ln2_802 ≤ 3000 := e806 ▸ hW804.1 9
      have bfk2_803 : (0 : Int) ≤ fk2_803 ∧ fk2_803 ≤ 6 := e807 ▸ hW804.1 16
      refine .inl ⟨rfl, ?_⟩
      rcases q808 with ⟨a815, a816, a817, a818, a819⟩ | ⟨a820, a821⟩
      · have _q : True := trivial
        exfalso
        omega
      · have _q : True := trivial
        refine jx_ld (pc' := 201) (l' := L727) (st' := [.int (i32 (nd2_696))]) rfl (jl_iload gL727_6) ?_
        refine jx_rt (v := some (.int (i32 (nd2_696)))) rfl rfl rfl rfl rfl rfl ?_
        exact ⟨_, _, _, at2_749, fk2_803, nd2_752, ln2_802, ec2_754, rfl, rfl, hW804, hF809, hP810, by omega, ((hF805.1 10 rfl).trans (e759)), (e807), ((hF805.1 31 rfl).trans (e762)), (e806), ec814, by omega, by omega, by omega, by omega, by omega, by first | exact Or.inl (⟨by omega, by omega, by omega⟩)⟩
    · have _q : True := trivial
      refine jr_st (pc' := 195) (i := 18) (m := 7000) (z := nd2_696) (y := r748) rfl (by decide) rfl (by decide) (by omega) (by omega) rfl ?_
      have hW823 : Wk G746 (uA A747 18 (nd2_696).toNat (r748)) := Wk_a hW755 (show (-2147483648 : Int) ≤ r748 by omega) (show r748 ≤ (2147483647 : Int) by omega)
      have hF824 := Fr_a (z := r748) (k := 18) (n := (nd2_696).toNat) hF772 (by decide)
      obtain ⟨A822, eA822⟩ : ∃ q, q = uA A747 18 (nd2_696).toNat (r748) := ⟨_, rfl⟩
      rw [← eA822]
      rw [← eA822] at hW823 hF824
      have q825 : A822 18 (nd2_696).toNat = r748 := by rw [eA822]; exact uA_eq
      have hP826 : Pf nd A A822 := eA822 ▸ Pf_a hP773 (z := nd2_696) (by omega) (by omega)
      have sf827 : wE A822 Vs sb (20) (ix) (nd) (nd1) := wE_ag (by omega) (Sg_ne eA822 rfl) (Ag_st eA822 (by omega) (by omega)) sf774
      have sf828 : ND A822 (nd1) (3) (s) (ix) (0) (0) (0) (0) := ND_ag (by omega) (Ag_st eA822 (by omega) (by omega)) sf775
      have sf829 : ND A822 (nd2_696) (22) (nd1) (r748) (0) (0) (0) (0) := ND_b eA822 sf776
      have sf830 : wE A822 Vs sb (2 * 9 + 2) (r748) (nd2_712) (nd2_752) := wE_ag (by omega) (Sg_ne eA822 rfl) (Ag_st eA822 (by omega) (by omega)) a789
      have ec831 : ecn A822 (G746 31) = ec2_754 := (ecn_e ((congrFun eA822 15).trans (uA_ne (by decide)))).trans e764
      refine jx_ld (pc' := 196) (l' := L727) (st' := [.ref 66]) rfl (jl_aloadn gL727_0) ?_
      refine jx_vr (pc' := 199) (as := []) (st := []) rfl rfl rfl rfl ⟨rfl, rfl, Nat.le_of_ble_eq_true rfl⟩ rfl rfl (c_endLine (dd := d) (hd := by omega) (hW := hW823)  (ln := ln) (e_ln := show G746 9 = ln from ((hF756.1 9 rfl).trans ((hF733.1 9 rfl).trans ((hF715.1 9 rfl).trans ((hF699.1 9 rfl).trans (fx_9)))))) (li := li) (e_li := show G746 3 = li from ((hF756.1 3 rfl).trans ((hF733.1 3 rfl).trans ((hF715.1 3 rfl).trans ((hF699.1 3 rfl).trans ((hFx.1 3 rfl).trans (e_li))))))) (fk := fk2_750) (e_fk := show G746 16 = fk2_750 from (e760)) (tk0 := tk2_753) (e_tk0 := show G746 11 = tk2_753 from (e763))    (p_0 := by omega)) (fun o V' hq => ?_)
      obtain ⟨G832, A833, ln2_834, fk2_835, rfl, rfl, hW836, hF837, e838, e839, q840⟩ := hq
      have hF841 := Fr_tr hF824 hF837 (Fr_sub (by decide)) (Fr_sub (by decide))
      have hP842 := Pf_f hP826 hF837 (by decide)
      have sf843 : wE A833 Vs sb (20) (ix) (nd) (nd1) := wE_ag (by omega) (Sg_fr hF837 (by decide)) (Ag_fr hF837 (by decide)) sf827
      have sf844 : ND A833 (nd1) (3) (s) (ix) (0) (0) (0) (0) := ND_ag (by omega) (Ag_fr hF837 (by decide)) sf828
      have sf845 : ND A833 (nd2_696) (22) (nd1) (r748) (0) (0) (0) (0) := ND_ag (by omega) (Ag_fr hF837 (by decide)) sf829
      have sf846 : wE A833 Vs sb (2 * 9 + 2) (r748) (nd2_712) (nd2_752) := wE_ag (by omega) (Sg_fr hF837 (by decide)) (Ag_fr hF837 (by decide)) sf830
      have ec847 : ecn A833 (G832 31) = ec2_754 := (ecn_f (hF837.2 15 rfl) (hF837.1 31 rfl)).trans ec831
      have bln2_834 : (0 : Int) ≤ ln2_834 ∧ ln2_834 ≤ 3000 := e838 ▸ hW836.1 9
      have bfk2_835 : (0 : Int) ≤ fk2_835 ∧ fk2_835 ≤ 6 := e839 ▸ hW836.1 16
      refine .inl ⟨rfl, ?_⟩
      rcases q840 with ⟨a848, a849, a850, a851, a852⟩ | ⟨a853, a854⟩
      · have _q : True := trivial
        refine jx_ld (pc' := 201) (l' := L727) (st' := [.int (i32 (nd2_696))]) rfl (jl_iload gL727_6) ?_
        refine jx_rt (v := some (.int (i32 (nd2_696)))) rfl rfl rfl rfl rfl rfl ?_
        exact ⟨_, _, _, at2_749, fk2_835, nd2_752, ln2_834, ec2_754, rfl, rfl, hW836, hF841, hP842, by omega, ((hF837.1 10 rfl).trans (e759)), (e839), ((hF837.1 31 rfl).trans (e762)), (e838), ec847, by omega, by omega, by omega, by omega, by omega, by first | exact Or.inr ((⟨by omega, by omega, by omega, by omega, by omega, (wL_set sf845 (by omega) (by omega) (wR_elem sf844 (by omega) (by omega) iv_8 (kq (P := kRow (0)) (show A833 7 (s).toNat = ks from (congrFun ((hF837.2 7 rfl).trans (((congrFun eA822 7).trans (uA_ne (by decide))).trans ((hF756.2 7 rfl).trans ((hF733.2 7 rfl).trans ((hF715.2 7 rfl).trans (hF699.2 7 rfl)))))) _).trans (ex_ks)) (by first | exact .inl ⟨by omega, iv_9⟩ | exact .inr ⟨by omega, by omega⟩)) (wE_mono (by omega) (by omega) (by omega) sf843)) (wE_mono (by omega) (by omega) (by omega) sf846)), (NX_nd sf845), by omega, by omega⟩))⟩
      · have _q : True := trivial
        refine jx_ld (pc' := 201) (l' := L727) (st' := [.int (i32 (nd2_696))]) rfl (jl_iload gL727_6) ?_
        refine jx_rt (v := some (.int (i32 (nd2_696)))) rfl rfl rfl rfl rfl rfl ?_
        exact ⟨_, _, _, at2_749, fk2_835, nd2_752, ln2_834, ec2_754, rfl, rfl, hW836, hF841, hP842, by omega, ((hF837.1 10 rfl).trans (e759)), (e839), ((hF837.1 31 rfl).trans (e762)), (e838), ec847, by omega, by omega, by omega, by omega, by omega, by first | exact Or.inl (⟨by omega, by omega, by omega⟩)⟩
set_option maxRecDepth 20000 in
set_option maxHeartbeats 4000000 in
theorem c_readNamed_w_at_150_0 {X : jX} {d : Nat} {Vs : Nat → Prop} {sb pb : Int} {c0 c1 : jC} {G : Nat → Int} {A : Nat → Nat → Int} {T : jH} {ln le at0 fk op0 nd tk0 li ec : Int} (hd : 72 ≤ d + 1) (hW : Wk G A) (e_ln : G 9 = ln) (e_le : A 4 (ln).toNat = le) (e_at0 : G 10 = at0) (e_fk : G 16 = fk) (e_op0 : G 15 = op0) (e_nd : G 31 = nd) (e_tk0 : G 11 = tk0) (e_li : G 3 = li) (e_ec : ecn A (G 31) = ec) (i_SV : SV Vs sb G A) (i_PQ : PQ Vs sb pb G A) (p_0 : 0 ≤ op0 ∧ op0 ≤ 8) (p_1 : fk = 0) (p_2 : nd ≤ 2 * at0 - tz tk0 + 42) (p_3 : at0 ≤ le) (p_4 : ln < li) (p_5 : tk0 = 1) : ∀ (L : jL) (Gx : Nat → Int) (Ax : Nat → Nat → Int) (s at1 tk1 fk1 nd1 op1 ks ec1 : Int), jGet L 0 = some (.ref 66) → jGet L 5 = some (.int (i32 (0))) → jGet L 4 = some (.int (i32 (0))) → jGet L 2 = some (.int (i32 s)) → Wk Gx Ax → Fr [9, 10, 11, 12, 13, 14, 15, 16, 17, 18, 31] [15, 16, 17, 18, 19, 20, 21, 22, 24, 28] G A Gx Ax → Pf nd A Ax → Gx 10 = at1 → Gx 11 = tk1 → Gx 16 = fk1 → Gx 31 = nd1 → Gx 15 = op1 → Ax 7 (s).toNat = ks → ecn Ax (Gx 31) = ec1 → Gx 9 = ln → ((-2147483648 : Int) ≤ s ∧ s ≤ 2147483647) → (at0 ≤ at1) → (at1 ≤ le) → (nd ≤ nd1) → (op1 = op0) → (fk1 = 0) → (nd1 - nd ≤ (2 * at1 - tz tk1) - (2 * at0 - tz tk0) - 1) → (tz tk1 = 1) → (0 ≤ s ∧ s ≤ 201) → (SY Vs sb (s)) → (kVar (ks)) → (nd + 5 * ec ≤ nd1 - tz tk1) → (nd1 - nd + 5 * (ec1 - ec) ≤ (2 * at1 - tz tk1) - (2 * at0 - tz tk0) - 1 - tz tk1) → wj X d jm304 (150, L, [], rV c0 c1 Gx Ax T) (fun o V' => ∃ (G' : Nat → Int) (A' : Nat → Nat → Int) (r : Int) (at2 : Int) (fk2 : Int) (nd2 : Int) (ln2 : Int) (ec2 : Int), V' = rV c0 c1 G' A' T ∧ o = .inl (some (.int (i32 r))) ∧ Wk G' A' ∧ Fr [9, 10, 11, 12, 13, 14, 15, 16, 17, 18, 31] [15, 16, 17, 18, 19, 20, 21, 22, 24, 28] G A G' A' ∧ Pf nd A A' ∧ ((-2147483648 : Int) ≤ r ∧ r ≤ 2147483647) ∧ G' 10 = at2 ∧ G' 16 = fk2 ∧ G' 31 = nd2 ∧ G' 9 = ln2 ∧ ecn A' (G' 31) = ec2 ∧ (at0 ≤ at2) ∧ (at2 ≤ le) ∧ (nd ≤ nd2) ∧ (0 ≤ r) ∧ (r ≤ nd2) ∧ (((1 ≤ fk2) ∧ (ln2 = ln) ∧ (nd2 - nd ≤ 2 * at2 - 2 * at0 + 8)) ∨ ((fk2 = 0) ∧ (ln2 = ln + 1) ∧ (nd2 - nd ≤ 2 * at2 - (2 * at0 - tz tk0) + 0) ∧ (nd ≤ r) ∧ (r < nd2) ∧ (wL A' sb pb Vs (r) (nd) (nd2)) ∧ (NX A' (r)) ∧ (nd2 - nd + 5 * (ec2 - ec) ≤ 2 * at2 - (2 * at0 - tz tk0) + 0) ∧ (nd + 5 * ec ≤ r)))) := by
  have hF0 : Fr [9, 10, 11, 12, 13, 14, 15, 16, 17, 18, 31] [15, 16, 17, 18, 19, 20, 21, 22, 24, 28] G A G A := Fr_rf
  have hP0 : Pf nd A A := Pf_rf
  have b_ln : (0 : Int) ≤ ln ∧ ln ≤ 3000 := e_ln ▸ hW.1 9
  have b_le : (0 : Int) ≤ le ∧ le ≤ 3000 := e_le ▸ hW.2 4 _
  have b_at0 : (0 : Int) ≤ at0 ∧ at0 ≤ 3002 := e_at0 ▸ hW.1 10
  have b_fk : (0 : Int) ≤ fk ∧ fk ≤ 6 := e_fk ▸ hW.1 16
  have b_op0 : (-2147483648 : Int) ≤ op0 ∧ op0 ≤ 2147483647 := e_op0 ▸ hW.1 15
  have b_nd : (0 : Int) ≤ nd ∧ nd ≤ 6999 := e_nd ▸ hW.1 31
  have z_tk0 := tz_f tk0
  have b_tk0 : (0 : Int) ≤ tk0 ∧ tk0 ≤ 5 := e_tk0 ▸ hW.1 11
  have b_li : (0 : Int) ≤ li ∧ li ≤ 3000 := e_li ▸ hW.1 3
  intro L Gx Ax s at1 tk1 fk1 nd1 op1 ks ec1 gL_0 gL_5 gL_4 gL_2 hWx hFx hPx ex_at1 ex_tk1 ex_fk1 ex_nd1 ex_op1 ex_ks ex_ec1 fx_9 rx_s iv_0 iv_1 iv_2 iv_3 iv_4 iv_5 iv_6 iv_7 iv_8 iv_9 iv_10 iv_11
  have b_at1 : (0 : Int) ≤ at1 ∧ at1 ≤ 3002 := ex_at1 ▸ hWx.1 10
  have z_tk1 := tz_f tk1
  have b_tk1 : (0 : Int) ≤ tk1 ∧ tk1 ≤ 5 := ex_tk1 ▸ hWx.1 11
  have b_fk1 : (0 : Int) ≤ fk1 ∧ fk1 ≤ 6 := ex_fk1 ▸ hWx.1 16
  have b_nd1 : (0 : Int) ≤ nd1 ∧ nd1 ≤ 6999 := ex_nd1 ▸ hWx.1 31
  have b_op1 : (-2147483648 : Int) ≤ op1 ∧ op1 ≤ 2147483647 := ex_op1 ▸ hWx.1 15
  have b_ks : (0 : Int) ≤ ks ∧ ks ≤ 14 := ex_ks ▸ hWx.2 7 _
  refine jx_ld (pc' := 151) (l' := L) (st' := [.ref 66]) rfl (jl_aloadn gL_0) ?_
  refine jx_ar (pc' := 153) (st' := [.int (i32 (22)), .ref 66]) rfl rfl rfl rfl ?_
  refine jx_ld (pc' := 154) (l' := L) (st' := [.ref 66, .int (i32 (22)), .ref 66]) rfl (jl_aloadn gL_0) ?_
  refine jx_ld (pc' := 156) (l' := L) (st' := [.int (i32 (0)), .ref 66, .int (i32 (22)), .ref 66]) rfl (jl_iload gL_5) ?_
  refine jx_if_eq (pc' := 159) (tg := 163) rfl rfl rfl (by decide) (by decide) (fun h855 => ?_) (fun h855 => ?_)
  · have _q := h855
    refine jx_ar (pc' := 164) (st' := [.int (i32 (2)), .ref 66, .int (i32 (22)), .ref 66]) rfl rfl rfl rfl ?_
    refine jx_ld (pc' := 165) (l' := L) (st' := [.int (i32 (s)), .int (i32 (2)), .ref 66, .int (i32 (22)), .ref 66]) rfl (jl_iloadn gL_2) ?_
    refine jx_ld (pc' := 167) (l' := L) (st' := [.int (i32 (0)), .int (i32 (s)), .int (i32 (2)), .ref 66, .int (i32 (22)), .ref 66]) rfl (jl_iload gL_4) ?_
    refine jx_ar (pc' := 168) (st' := [.int (i32 (0)), .int (i32 (0)), .int (i32 (s)), .int (i32 (2)), .ref 66, .int (i32 (22)), .ref 66]) rfl rfl rfl rfl ?_
    refine jx_ar (pc' := 169) (st' := [.int (i32 (0)), .int (i32 (0)), .int (i32 (0)), .int (i32 (s)), .int (i32 (2)), .ref 66, .int (i32 (22)), .ref 66]) rfl rfl rfl rfl ?_
    refine jx_vr (pc' := 172) (as := [.int (i32 (2)), .int (i32 (s)), .int (i32 (0)), .int (i32 (0)), .int (i32 (0))]) (st := [.int (i32 (22)), .ref 66]) rfl rfl rfl rfl ⟨rfl, rfl, Nat.le_of_ble_eq_true rfl⟩ rfl rfl (c_node_o (dd := d) (hd := by omega) (hW := hWx) (kind := 2) (a := s) (b := 0) (c := 0) (e := 0) (nd := nd1) (e_nd := show Gx 31 = nd1 from (ex_nd1)) (ec := ec1) (e_ec := show ecn Ax (Gx 31) = ec1 from ex_ec1)  (h_kind := ⟨(by decide), (by decide)⟩) (h_a := ⟨(Int.le_trans (by decide : (-2147483648 : Int) ≤ -2147483648) rx_s.1), (Int.le_trans rx_s.2 (by decide : (2147483647 : Int) ≤ 2147483647))⟩) (h_b := ⟨(by decide), (by decide)⟩) (h_c := ⟨(by decide), (by decide)⟩) (h_e := ⟨(by decide), (by decide)⟩)  (p_0 := by omega) (p_1 := by omega) (p_2 := by omega)) (fun o V' hq => ?_)
    obtain ⟨G856, A857, nd2_858, ec2_859, rfl, rfl, hW860, hF861, hQ862, e863, e864, p865, p866, p867, -⟩ := hq
    have hF869 := Fr_tr hFx hF861 (Fr_sub (by decide)) (Fr_sub (by decide))
    have hP870 := Pf_tr hPx hQ862 (by omega)
    have bnd2_858 : (0 : Int) ≤ nd2_858 ∧ nd2_858 ≤ 6999 := e863 ▸ hW860.1 31
    refine .inr ⟨_, rfl, ?_⟩
    refine jx_ar (pc' := 173) (st' := [.int (i32 (0)), .int (i32 (nd1)), .int (i32 (22)), .ref 66]) rfl rfl rfl rfl ?_
    refine jx_ar (pc' := 174) (st' := [.int (i32 (0)), .int (i32 (0)), .int (i32 (nd1)), .int (i32 (22)), .ref 66]) rfl rfl rfl rfl ?_
    refine jx_ar (pc' := 175) (st' := [.int (i32 (0)), .int (i32 (0)), .int (i32 (0)), .int (i32 (nd1)), .int (i32 (22)), .ref 66]) rfl rfl rfl rfl ?_
    refine jx_vr (pc' := 178) (as := [.int (i32 (22)), .int (i32 (nd1)), .int (i32 (0)), .int (i32 (0)), .int (i32 (0))]) (st := []) rfl rfl rfl rfl ⟨rfl, rfl, Nat.le_of_ble_eq_true rfl⟩ rfl rfl (c_node_o (dd := d) (hd := by omega) (hW := hW860) (kind := 22) (a := nd1) (b := 0) (c := 0) (e := 0) (nd := nd2_858) (e_nd := show G856 31 = nd2_858 from (e863)) (ec := ec2_859) (e_ec := show ecn A857 (G856 31) = ec2_859 from e864)  (h_kind := ⟨(by decide), (by decide)⟩) (h_a := ⟨(Int.le_trans (by decide : (-2147483648 : Int) ≤ 0) b_nd1.1), (Int.le_trans b_nd1.2 (by decide : (6999 : Int) ≤ 2147483647))⟩) (h_b := ⟨(by decide), (by decide)⟩) (h_c := ⟨(by decide), (by decide)⟩) (h_e := ⟨(by decide), (by decide)⟩)  (p_0 := by omega) (p_1 := by omega) (p_2 := by omega)) (fun o V' hq => ?_)
    obtain ⟨G871, A872, nd2_873, ec2_874, rfl, rfl, hW875, hF876, hQ877, e878, e879, p880, p881, p882, -⟩ := hq
    have hF884 := Fr_tr hF869 hF876 (Fr_sub (by decide)) (Fr_sub (by decide))
    have hP885 := Pf_tr hP870 hQ877 (by omega)
    have sf886 : ND A872 (nd1) (2) (s) (0) (0) (0) (0) (0) := ND_ag (by omega) (Ag_pf hQ877 (by omega)) p867
    have bnd2_873 : (0 : Int) ≤ nd2_873 ∧ nd2_873 ≤ 6999 := e878 ▸ hW875.1 31
    refine .inr ⟨_, rfl, ?_⟩
    refine jx_ld (pc' := 180) (l' := jSto1 L 6 (.int (i32 (nd2_858)))) (st' := []) rfl rfl ?_
    obtain ⟨L887, eL887⟩ : ∃ q, q = jSto1 L 6 (.int (i32 (nd2_858))) := ⟨_, rfl⟩
    rw [← eL887]
    have gL887_0 : jGet L887 0 = some (.ref 66) := eL887 ▸ jg_ne (by decide) gL_0 rfl
    have gL887_5 : jGet L887 5 = some (.int (i32 (0))) := eL887 ▸ jg_ne (by decide) gL_5 rfl
    have gL887_4 : jGet L887 4 = some (.int (i32 (0))) := eL887 ▸ jg_ne (by decide) gL_4 rfl
    have gL887_2 : jGet L887 2 = some (.int (i32 (s))) := eL887 ▸ jg_ne (by decide) gL_2 rfl
    have gL887_6 : jGet L887 6 = some (.int (i32 (nd2_858))) := eL887 ▸ jg_eq
    refine jx_ld (pc' := 181) (l' := L887) (st' := [.ref 66]) rfl (jl_aloadn gL887_0) ?_
    refine jx_vr (pc' := 184) (as := []) (st := []) rfl rfl rfl rfl ⟨rfl, rfl, Nat.le_of_ble_eq_true rfl⟩ rfl rfl (c_next (dd := d) (hd := by omega) (hW := hW875)  (ln := ln) (e_ln := show G871 9 = ln from ((hF876.1 9 rfl).trans ((hF861.1 9 rfl).trans (fx_9)))) (le := le) (e_le := show A872 4 (ln).toNat = le from (congrFun ((hF876.2 4 rfl).trans ((hF861.2 4 rfl).trans (hFx.2 4 rfl))) _).trans (e_le)) (at0 := at1) (e_at0 := show G871 10 = at1 from ((hF876.1 10 rfl).trans ((hF861.1 10 rfl).trans (ex_at1))))    (p_0 := by omega)) (fun o V' hq => ?_)
    obtain ⟨G888, A889, at2_890, tk2_891, rfl, rfl, hW892, hF893, e894, e895, p896, p897, p898, -⟩ := hq
    have hF900 := Fr_tr hF884 hF893 (Fr_sub (by decide)) (Fr_sub (by decide))
    have hP901 := Pf_f hP885 hF893 (by decide)
    have sf902 : ND A889 (nd1) (2) (s) (0) (0) (0) (0) (0) := ND_ag (by omega) (Ag_fr hF893 (by decide)) sf886
    have sf903 : ND A889 (nd2_858) (22) (nd1) (0) (0) (0) (0) (0) := ND_ag (by omega) (Ag_fr hF893 (by decide)) p882
    have ec904 : ecn A889 (G888 31) = ec2_874 := (ecn_f (hF893.2 15 rfl) (hF893.1 31 rfl)).trans e879
    have bat2_890 : (0 : Int) ≤ at2_890 ∧ at2_890 ≤ 3002 := e894 ▸ hW892.1 10
    have ztk2_891 := tz_b tk2_891
    have btk2_891 : (0 : Int) ≤ tk2_891 ∧ tk2_891 ≤ 5 := e895 ▸ hW892.1 11
    refine .inl ⟨rfl, ?_⟩
    refine jx_ld (pc' := 185) (l' := L887) (st' := [.ref 66]) rfl (jl_aloadn gL887_0) ?_
    refine jr_get (pc' := 188) (i := 35) (v := .ref 85) rfl rfl (by decide) rfl rfl ?_
    refine jx_ld (pc' := 190) (l' := L887) (st' := [.int (i32 (nd2_858)), .ref 85]) rfl (jl_iload gL887_6) ?_
    refine jx_ld (pc' := 191) (l' := L887) (st' := [.ref 66, .int (i32 (nd2_858)), .ref 85]) rfl (jl_aloadn gL887_0) ?_
    refine jx_vr (pc' := 194) (as := []) (st := [.int (i32 (nd2_858)), .ref 85]) rfl rfl rfl rfl ⟨rfl, rfl, Nat.le_of_ble_eq_true rfl⟩ rfl rfl (RE_all X 9 (dd := d) (hd := by omega) (hW := hW892)  (ln := ln) (e_ln := show G888 9 = ln from ((hF893.1 9 rfl).trans ((hF876.1 9 rfl).trans ((hF861.1 9 rfl).trans (fx_9))))) (le := le) (e_le := show A889 4 (ln).toNat = le from (congrFun ((hF893.2 4 rfl).trans ((hF876.2 4 rfl).trans ((hF861.2 4 rfl).trans (hFx.2 4 rfl)))) _).trans (e_le)) (at0 := at2_890) (e_at0 := show G888 10 = at2_890 from (e894)) (fk := fk1) (e_fk := show G888 16 = fk1 from ((hF893.1 16 rfl).trans ((hF876.1 16 rfl).trans ((hF861.1 16 rfl).trans (ex_fk1))))) (op0 := op1) (e_op0 := show G888 15 = op1 from ((hF893.1 15 rfl).trans ((hF876.1 15 rfl).trans ((hF861.1 15 rfl).trans (ex_op1))))) (nd := nd2_873) (e_nd := show G888 31 = nd2_873 from ((hF893.1 31 rfl).trans (e878))) (tk0 := tk2_891) (e_tk0 := show G888 11 = tk2_891 from (e895)) (ec := ec2_874) (e_ec := show ecn A889 (G888 31) = ec2_874 from ec904) (i_SV := (SV_ext (((hF893.1 29 rfl).trans ((hF876.1 29 rfl).trans ((hF861.1 29 rfl).trans (hFx.1 29 rfl))))) (((hF893.2 14 rfl).trans ((hF876.2 14 rfl).trans ((hF861.2 14 rfl).trans (hFx.2 14 rfl))))) i_SV))   (p_0 := by omega) (p_1 := by omega) (p_2 := by omega) (p_3 := by omega) (p_4 := by omega) (p_5 := by omega)) (fun o V' hq => ?_)
    obtain ⟨G905, A906, r907, at2_908, fk2_909, op2_910, nd2_911, tk2_912, ec2_913, rfl, rfl, hW914, hF915, hQ916, b917, e918, e919, e920, e921, e922, e923, p924, p925, p926, p927, p928, p929, q930⟩ := hq
    have hF931 := Fr_tr hF900 hF915 (Fr_sub (by decide)) (Fr_sub (by decide))
    have hP932 := Pf_tr hP901 hQ916 (by omega)
    have sf933 : ND A906 (nd1) (2) (s) (0) (0) (0) (0) (0) := ND_ag (by omega) (Ag_pf hQ916 (by omega)) sf902
    have sf934 : ND A906 (nd2_858) (22) (nd1) (0) (0) (0) (0) (0) := ND_ag (by omega) (Ag_pf hQ916 (by omega)) sf903
    have bat2_908 : (0 : Int) ≤ at2_908 ∧ at2_908 ≤ 3002 := e918 ▸ hW914.1 10
    have bfk2_909 : (0 : Int) ≤ fk2_909 ∧ fk2_909 ≤ 6 := e919 ▸ hW914.1 16
    have bop2_910 : (-2147483648 : Int) ≤ op2_910 ∧ op2_910 ≤ 2147483647 := e920 ▸ hW914.1 15
    have bnd2_911 : (0 : Int) ≤ nd2_911 ∧ nd2_911 ≤ 6999 := e921 ▸ hW914.1 31
    have ztk2_912 := tz_b tk2_912
    have btk2_912 : (0 : Int) ≤ tk2_912 ∧ tk2_912 ≤ 5 := e922 ▸ hW914.1 11
    refine .inr ⟨_, rfl, ?_⟩
    rcases q930 with ⟨a935, a936, a937, a938, a939, a940⟩ | ⟨a941, a942, a943⟩ | ⟨a944, a945, a946, a947, a948⟩
    · have _q : True := trivial
      exfalso
      omega
    · have _q : True := trivial
      refine jr_st (pc' := 195) (i := 18) (m := 7000) (z := nd2_858) (y := r907) rfl (by decide) rfl (by decide) (by omega) (by omega) rfl ?_
      have hW950 : Wk G905 (uA A906 18 (nd2_858).toNat (r907)) := Wk_a hW914 (show (-2147483648 : Int) ≤ r907 by omega) (show r907 ≤ (2147483647 : Int) by omega)
      have hF951 := Fr_a (z := r907) (k := 18) (n := (nd2_858).toNat) hF931 (by decide)
      obtain ⟨A949, eA949⟩ : ∃ q, q = uA A906 18 (nd2_858).toNat (r907) := ⟨_, rfl⟩
      rw [← eA949]
      rw [← eA949] at hW950 hF951
      have q952 : A949 18 (nd2_858).toNat = r907 := by rw [eA949]; exact uA_eq
      have hP953 : Pf nd A A949 := eA949 ▸ Pf_a hP932 (z := nd2_858) (by omega) (by omega)
      have sf954 : ND A949 (nd1) (2) (s) (0) (0) (0) (0) (0) := ND_ag (by omega) (Ag_st eA949 (by omega) (by omega)) sf933
      have sf955 : ND A949 (nd2_858) (22) (nd1) (r907) (0) (0) (0) (0) := ND_b eA949 sf934
      have ec956 : ecn A949 (G905 31) = ec2_913 := (ecn_e ((congrFun eA949 15).trans (uA_ne (by decide)))).trans e923
      refine jx_ld (pc' := 196) (l' := L887) (st' := [.ref 66]) rfl (jl_aloadn gL887_0) ?_
      refine jx_vr (pc' := 199) (as := []) (st := []) rfl rfl rfl rfl ⟨rfl, rfl, Nat.le_of_ble_eq_true rfl⟩ rfl rfl (c_endLine (dd := d) (hd := by omega) (hW := hW950)  (ln := ln) (e_ln := show G905 9 = ln from ((hF915.1 9 rfl).trans ((hF893.1 9 rfl).trans ((hF876.1 9 rfl).trans ((hF861.1 9 rfl).trans (fx_9)))))) (li := li) (e_li := show G905 3 = li from ((hF915.1 3 rfl).trans ((hF893.1 3 rfl).trans ((hF876.1 3 rfl).trans ((hF861.1 3 rfl).trans ((hFx.1 3 rfl).trans (e_li))))))) (fk := fk2_909) (e_fk := show G905 16 = fk2_909 from (e919)) (tk0 := tk2_912) (e_tk0 := show G905 11 = tk2_912 from (e922))    (p_0 := by omega)) (fun o V' hq => ?_)
      obtain ⟨G957, A958, ln2_959, fk2_960, rfl, rfl, hW961, hF962, e963, e964, q965⟩ := hq
      have hF966 := Fr_tr hF951 hF962 (Fr_sub (by decide)) (Fr_sub (by decide))
      have hP967 := Pf_f hP953 hF962 (by decide)
      have sf968 : ND A958 (nd1) (2) (s) (0) (0) (0) (0) (0) := ND_ag (by omega) (Ag_fr hF962 (by decide)) sf954
      have sf969 : ND A958 (nd2_858) (22) (nd1) (r907) (0) (0) (0) (0) := ND_ag (by omega) (Ag_fr hF962 (by decide)) sf955
      have ec970 : ecn A958 (G957 31) = ec2_913 := (ecn_f (hF962.2 15 rfl) (hF962.1 31 rfl)).trans ec956
      have bln2_959 : (0 : Int) ≤ ln2_959 ∧ ln2_959 ≤ 3000 := e963 ▸ hW961.1 9
      have bfk2_960 : (0 : Int) ≤ fk2_960 ∧ fk2_960 ≤ 6 := e964 ▸ hW961.1 16
      refine .inl ⟨rfl, ?_⟩
      rcases q965 with ⟨a971, a972, a973, a974, a975⟩ | ⟨a976, a977⟩
      · have _q : True := trivial
        exfalso
        omega
      · have _q : True := trivial
        refine jx_ld (pc' := 201) (l' := L887) (st' := [.int (i32 (nd2_858))]) rfl (jl_iload gL887_6) ?_
        refine jx_rt (v := some (.int (i32 (nd2_858)))) rfl rfl rfl rfl rfl rfl ?_
        exact ⟨_, _, _, at2_908, fk2_960, nd2_911, ln2_959, ec2_913, rfl, rfl, hW961, hF966, hP967, by omega, ((hF962.1 10 rfl).trans (e918)), (e964), ((hF962.1 31 rfl).trans (e921)), (e963), ec970, by omega, by omega, by omega, by omega, by omega, by first | exact Or.inl (⟨by omega, by omega, by omega⟩)⟩
    · have _q : True := trivial
      refine jr_st (pc' := 195) (i := 18) (m := 7000) (z := nd2_858) (y := r907) rfl (by decide) rfl (by decide) (by omega) (by omega) rfl ?_
      have hW979 : Wk G905 (uA A906 18 (nd2_858).toNat (r907)) := Wk_a hW914 (show (-2147483648 : Int) ≤ r907 by omega) (show r907 ≤ (2147483647 : Int) by omega)
      have hF980 := Fr_a (z := r907) (k := 18) (n := (nd2_858).toNat) hF931 (by decide)
      obtain ⟨A978, eA978⟩ : ∃ q, q = uA A906 18 (nd2_858).toNat (r907) := ⟨_, rfl⟩
      rw [← eA978]
      rw [← eA978] at hW979 hF980
      have q981 : A978 18 (nd2_858).toNat = r907 := by rw [eA978]; exact uA_eq
      have hP982 : Pf nd A A978 := eA978 ▸ Pf_a hP932 (z := nd2_858) (by omega) (by omega)
      have sf983 : ND A978 (nd1) (2) (s) (0) (0) (0) (0) (0) := ND_ag (by omega) (Ag_st eA978 (by omega) (by omega)) sf933
      have sf984 : ND A978 (nd2_858) (22) (nd1) (r907) (0) (0) (0) (0) := ND_b eA978 sf934
      have sf985 : wE A978 Vs sb (2 * 9 + 2) (r907) (nd2_873) (nd2_911) := wE_ag (by omega) (Sg_ne eA978 rfl) (Ag_st eA978 (by omega) (by omega)) a947
      have ec986 : ecn A978 (G905 31) = ec2_913 := (ecn_e ((congrFun eA978 15).trans (uA_ne (by decide)))).trans e923
      refine jx_ld (pc' := 196) (l' := L887) (st' := [.ref 66]) rfl (jl_aloadn gL887_0) ?_
      refine jx_vr (pc' := 199) (as := []) (st := []) rfl rfl rfl rfl ⟨rfl, rfl, Nat.le_of_ble_eq_true rfl⟩ rfl rfl (c_endLine (dd := d) (hd := by omega) (hW := hW979)  (ln := ln) (e_ln := show G905 9 = ln from ((hF915.1 9 rfl).trans ((hF893.1 9 rfl).trans ((hF876.1 9 rfl).trans ((hF861.1 9 rfl).trans (fx_9)))))) (li := li) (e_li := show G905 3 = li from ((hF915.1 3 rfl).trans ((hF893.1 3 rfl).trans ((hF876.1 3 rfl).trans ((hF861.1 3 rfl).trans ((hFx.1 3 rfl).trans (e_li))))))) (fk := fk2_909) (e_fk := show G905 16 = fk2_909 from (e919)) (tk0 := tk2_912) (e_tk0 := show G905 11 = tk2_912 from (e922))    (p_0 := by omega)) (fun o V' hq => ?_)
      obtain ⟨G987, A988, ln2_989, fk2_990, rfl, rfl, hW991, hF992, e993, e994, q995⟩ := hq
      have hF996 := Fr_tr hF980 hF992 (Fr_sub (by decide)) (Fr_sub (by decide))
      have hP997 := Pf_f hP982 hF992 (by decide)
      have sf998 : ND A988 (nd1) (2) (s) (0) (0) (0) (0) (0) := ND_ag (by omega) (Ag_fr hF992 (by decide)) sf983
      have sf999 : ND A988 (nd2_858) (22) (nd1) (r907) (0) (0) (0) (0) := ND_ag (by omega) (Ag_fr hF992 (by decide)) sf984
      have sf1000 : wE A988 Vs sb (2 * 9 + 2) (r907) (nd2_873) (nd2_911) := wE_ag (by omega) (Sg_fr hF992 (by decide)) (Ag_fr hF992 (by decide)) sf985
      have ec1001 : ecn A988 (G987 31) = ec2_913 := (ecn_f (hF992.2 15 rfl) (hF992.1 31 rfl)).trans ec986
      have bln2_989 : (0 : Int) ≤ ln2_989 ∧ ln2_989 ≤ 3000 := e993 ▸ hW991.1 9
      have bfk2_990 : (0 : Int) ≤ fk2_990 ∧ fk2_990 ≤ 6 := e994 ▸ hW991.1 16
      refine .inl ⟨rfl, ?_⟩
      rcases q995 with ⟨a1002, a1003, a1004, a1005, a1006⟩ | ⟨a1007, a1008⟩
      · have _q : True := trivial
        refine jx_ld (pc' := 201) (l' := L887) (st' := [.int (i32 (nd2_858))]) rfl (jl_iload gL887_6) ?_
        refine jx_rt (v := some (.int (i32 (nd2_858)))) rfl rfl rfl rfl rfl rfl ?_
        exact ⟨_, _, _, at2_908, fk2_990, nd2_911, ln2_989, ec2_913, rfl, rfl, hW991, hF996, hP997, by omega, ((hF992.1 10 rfl).trans (e918)), (e994), ((hF992.1 31 rfl).trans (e921)), (e993), ec1001, by omega, by omega, by omega, by omega, by omega, by first | exact Or.inr ((⟨by omega, by omega, by omega, by omega, by omega, (wL_set sf999 (by omega) (by omega) (wR_var sf998 (by omega) (by omega) iv_8 (kq (P := kRef (0)) (show A988 7 (s).toNat = ks from (congrFun ((hF992.2 7 rfl).trans (((congrFun eA978 7).trans (uA_ne (by decide))).trans ((hF915.2 7 rfl).trans ((hF893.2 7 rfl).trans ((hF876.2 7 rfl).trans (hF861.2 7 rfl)))))) _).trans (ex_ks)) (by first | exact .inl ⟨by omega, iv_9⟩))) (wE_mono (by omega) (by omega) (by omega) sf1000)), (NX_nd sf999), by omega, by omega⟩))⟩
      · have _q : True := trivial
        refine jx_ld (pc' := 201) (l' := L887) (st' := [.int (i32 (nd2_858))]) rfl (jl_iload gL887_6) ?_
        refine jx_rt (v := some (.int (i32 (nd2_858)))) rfl rfl rfl rfl rfl rfl ?_
        exact ⟨_, _, _, at2_908, fk2_990, nd2_911, ln2_989, ec2_913, rfl, rfl, hW991, hF996, hP997, by omega, ((hF992.1 10 rfl).trans (e918)), (e994), ((hF992.1 31 rfl).trans (e921)), (e993), ec1001, by omega, by omega, by omega, by omega, by omega, by first | exact Or.inl (⟨by omega, by omega, by omega⟩)⟩
  · have _q := h855
    exact absurd h855 (by omega)
set_option maxRecDepth 20000 in
set_option maxHeartbeats 4000000 in
theorem c_readNamed_w_at_110_1 {X : jX} {d : Nat} {Vs : Nat → Prop} {sb pb : Int} {c0 c1 : jC} {G : Nat → Int} {A : Nat → Nat → Int} {T : jH} {ln le at0 fk op0 nd tk0 li ec : Int} (hd : 72 ≤ d + 1) (hW : Wk G A) (e_ln : G 9 = ln) (e_le : A 4 (ln).toNat = le) (e_at0 : G 10 = at0) (e_fk : G 16 = fk) (e_op0 : G 15 = op0) (e_nd : G 31 = nd) (e_tk0 : G 11 = tk0) (e_li : G 3 = li) (e_ec : ecn A (G 31) = ec) (i_SV : SV Vs sb G A) (i_PQ : PQ Vs sb pb G A) (p_0 : 0 ≤ op0 ∧ op0 ≤ 8) (p_1 : fk = 0) (p_2 : nd ≤ 2 * at0 - tz tk0 + 42) (p_3 : at0 ≤ le) (p_4 : ln < li) (p_5 : tk0 = 1) : ∀ (L : jL) (Gx : Nat → Int) (Ax : Nat → Nat → Int) (pl s ix at1 tk1 fk1 nd1 op1 ks ec1 : Int), jGet L 0 = some (.ref 66) → jGet L 5 = some (.int (i32 (1))) → jGet L 3 = some (.int (i32 (ks))) → jGet L 1 = some (.int (i32 pl)) → jGet L 2 = some (.int (i32 s)) → jGet L 4 = some (.int (i32 ix)) → Wk Gx Ax → Fr [9, 10, 11, 12, 13, 14, 15, 16, 17, 18, 31] [15, 16, 17, 18, 19, 20, 21, 22, 24, 28] G A Gx Ax → Pf nd A Ax → Gx 10 = at1 → Gx 11 = tk1 → Gx 16 = fk1 → Gx 31 = nd1 → Gx 15 = op1 → Ax 7 (s).toNat = ks → ecn Ax (Gx 31) = ec1 → Gx 9 = ln → ((-2147483648 : Int) ≤ pl ∧ pl ≤ 2147483647) → ((-2147483648 : Int) ≤ s ∧ s ≤ 2147483647) → ((-2147483648 : Int) ≤ ix ∧ ix ≤ 2147483647) → (at0 ≤ at1) → (at1 ≤ le) → (nd ≤ nd1) → (op1 = op0) → (fk1 = 0) → (nd1 - nd ≤ (2 * at1 - tz tk1) - (2 * at0 - tz tk0) - 1) → (0 ≤ s ∧ s ≤ 201) → (-3000 ≤ pl ∧ pl ≤ 3002) → (SY Vs sb (s)) → (wE Ax Vs sb (20) (ix) (nd) (nd1)) → (nd + 5 * ec ≤  - 6 - tz tk1) → (nd1 - nd + 5 * (ec1 - ec) ≤ (2 * at1 - tz tk1) - (2 * at0 - tz tk0) - 6 - tz tk1) → wj X d jm304 (110, L, [], rV c0 c1 Gx Ax T) (fun o V' => ∃ (G' : Nat → Int) (A' : Nat → Nat → Int) (r : Int) (at2 : Int) (fk2 : Int) (nd2 : Int) (ln2 : Int) (ec2 : Int), V' = rV c0 c1 G' A' T ∧ o = .inl (some (.int (i32 r))) ∧ Wk G' A' ∧ Fr [9, 10, 11, 12, 13, 14, 15, 16, 17, 18, 31] [15, 16, 17, 18, 19, 20, 21, 22, 24, 28] G A G' A' ∧ Pf nd A A' ∧ ((-2147483648 : Int) ≤ r ∧ r ≤ 2147483647) ∧ G' 10 = at2 ∧ G' 16 = fk2 ∧ G' 31 = nd2 ∧ G' 9 = ln2 ∧ ecn A' (G' 31) = ec2 ∧ (at0 ≤ at2) ∧ (at2 ≤ le) ∧ (nd ≤ nd2) ∧ (0 ≤ r) ∧ (r ≤ nd2) ∧ (((1 ≤ fk2) ∧ (ln2 = ln) ∧ (nd2 - nd ≤ 2 * at2 - 2 * at0 + 8)) ∨ ((fk2 = 0) ∧ (ln2 = ln + 1) ∧ (nd2 - nd ≤ 2 * at2 - (2 * at0 - tz tk0) + 0) ∧ (nd ≤ r) ∧ (r < nd2) ∧ (wL A' sb pb Vs (r) (nd) (nd2)) ∧ (NX A' (r)) ∧ (nd2 - nd + 5 * (ec2 - ec) ≤ 2 * at2 - (2 * at0 - tz tk0) + 0) ∧ (nd + 5 * ec ≤ r)))) := by
  have hF0 : Fr [9, 10, 11, 12, 13, 14, 15, 16, 17, 18, 31] [15, 16, 17, 18, 19, 20, 21, 22, 24, 28] G A G A := Fr_rf
  have hP0 : Pf nd A A := Pf_rf
  have b_ln : (0 : Int) ≤ ln ∧ ln ≤ 3000 := e_ln ▸ hW.1 9
  have b_le : (0 : Int) ≤ le ∧ le ≤ 3000 := e_le ▸ hW.2 4 _
  have b_at0 : (0 : Int) ≤ at0 ∧ at0 ≤ 3002 := e_at0 ▸ hW.1 10
  have b_fk : (0 : Int) ≤ fk ∧ fk ≤ 6 := e_fk ▸ hW.1 16
  have b_op0 : (-2147483648 : Int) ≤ op0 ∧ op0 ≤ 2147483647 := e_op0 ▸ hW.1 15
  have b_nd : (0 : Int) ≤ nd ∧ nd ≤ 6999 := e_nd ▸ hW.1 31
  have z_tk0 := tz_f tk0
  have b_tk0 : (0 : Int) ≤ tk0 ∧ tk0 ≤ 5 := e_tk0 ▸ hW.1 11
  have b_li : (0 : Int) ≤ li ∧ li ≤ 3000 := e_li ▸ hW.1 3
  intro L Gx Ax pl s ix at1 tk1 fk1 nd1 op1 ks ec1 gL_0 gL_5 gL_3 gL_1 gL_2 gL_4 hWx hFx hPx ex_at1 ex_tk1 ex_fk1 ex_nd1 ex_op1 ex_ks ex_ec1 fx_9 rx_pl rx_s rx_ix iv_0 iv_1 iv_2 iv_3 iv_4 iv_5 iv_6 iv_7 iv_8 iv_9 iv_10 iv_11
  have b_at1 : (0 : Int) ≤ at1 ∧ at1 ≤ 3002 := ex_at1 ▸ hWx.1 10
  have z_tk1 := tz_f tk1
  have b_tk1 : (0 : Int) ≤ tk1 ∧ tk1 ≤ 5 := ex_tk1 ▸ hWx.1 11
  have b_fk1 : (0 : Int) ≤ fk1 ∧ fk1 ≤ 6 := ex_fk1 ▸ hWx.1 16
  have b_nd1 : (0 : Int) ≤ nd1 ∧ nd1 ≤ 6999 := ex_nd1 ▸ hWx.1 31
  have b_op1 : (-2147483648 : Int) ≤ op1 ∧ op1 ≤ 2147483647 := ex_op1 ▸ hWx.1 15
  have b_ks : (0 : Int) ≤ ks ∧ ks ≤ 14 := ex_ks ▸ hWx.2 7 _
  refine jx_ld (pc' := 111) (l' := L) (st' := [.ref 66]) rfl (jl_aloadn gL_0) ?_
  refine jx_ar (pc' := 114) (st' := [.int (i32 (300)), .ref 66]) rfl rfl rfl rfl ?_
  have b1009 : (-2147483648 : Int) ≤ Gx 13 ∧ Gx 13 ≤ 2147483647 := hWx.1 13
  refine jx_vr (pc' := 117) (as := [.int (i32 (300))]) (st := []) rfl rfl rfl rfl ⟨rfl, rfl, Nat.le_of_ble_eq_true rfl⟩ rfl rfl (c_is (dd := d) (hd := by omega) (hW := hWx) (k := 300) (tk := tk1) (e_tk := show Gx 11 = tk1 from (ex_tk1)) (tn := Gx 13) (e_tn := show Gx 13 = Gx 13 from rfl)  (h_k := ⟨(by decide), (by decide)⟩)  ) (fun o V' hq => ?_)
  obtain ⟨r1010, rfl, rfl, b1011, q1012⟩ := hq
  refine .inr ⟨_, rfl, ?_⟩
  rcases q1012 with ⟨rfl, a1013, a1014, a1015⟩ | rfl
  · have _q : True := trivial
    refine jx_if_eq (pc' := 120) (tg := 202) rfl rfl rfl (by decide) (by decide) (fun h1016 => ?_) (fun h1016 => ?_)
    · have _q := h1016
      exact absurd h1016 (by omega)
    · have _q := h1016
      refine jx_ld (pc' := 122) (l' := L) (st' := [.int (i32 (1))]) rfl (jl_iload gL_5) ?_
      refine jx_if_eq (pc' := 125) (tg := 135) rfl rfl rfl (by decide) (by decide) (fun h1017 => ?_) (fun h1017 => ?_)
      · have _q := h1017
        exact absurd h1017 (by omega)
      · have _q := h1017
        refine jx_ld (pc' := 126) (l' := L) (st' := [.int (i32 (ks))]) rfl (jl_iloadn gL_3) ?_
        refine jx_st (pc' := 129) (as := [.int (i32 (ks))]) (st := []) rfl rfl ⟨rfl, Nat.le_of_ble_eq_true rfl⟩ rfl rfl rfl (c_isArray (dd := d) (hd := by omega) (k := ks)   (h_k := ⟨(Int.le_trans (by decide : (-2147483648 : Int) ≤ 0) b_ks.1), (Int.le_trans b_ks.2 (by decide : (14 : Int) ≤ 2147483647))⟩)  ) (fun o V' hq => ?_)
        obtain ⟨r1018, rfl, rfl, b1019, q1020⟩ := hq
        refine .inr ⟨_, rfl, ?_⟩
        rcases q1020 with ⟨rfl, a1021⟩ | rfl
        · have _q : True := trivial
          refine jx_if_ne (pc' := 132) (tg := 150) rfl rfl rfl (by decide) (by decide) (fun h1022 => ?_) (fun h1022 => ?_)
          · have _q := h1022
            have z1023 := tz_f (tk1)
            exact c_readNamed_w_at_150_1 (X := X) (d := d) (Vs := Vs) (sb := sb) (pb := pb) (c0 := c0) (c1 := c1) (G := G) (A := A) (T := T) (ln := ln) (le := le) (at0 := at0) (fk := fk) (op0 := op0) (nd := nd) (tk0 := tk0) (li := li) (ec := ec) (hd := hd) (hW := hW) (e_ln := e_ln) (e_le := e_le) (e_at0 := e_at0) (e_fk := e_fk) (e_op0 := e_op0) (e_nd := e_nd) (e_tk0 := e_tk0) (e_li := e_li) (e_ec := e_ec) (i_SV := i_SV) (i_PQ := i_PQ) (p_0 := p_0) (p_1 := p_1) (p_2 := p_2) (p_3 := p_3) (p_4 := p_4) (p_5 := p_5) L Gx Ax (s) (ix) (at1) (tk1) (fk1) (nd1) (op1) (ks) (ec1) gL_0 gL_5 gL_2 gL_4 hWx hFx hPx ((ex_at1)) ((ex_tk1)) ((ex_fk1)) ((ex_nd1)) ((ex_op1)) ((ex_ks)) (ex_ec1) ((fx_9)) (by omega) (by omega) (by omega) (by omega) (by omega) (by omega) (by omega) (by omega) (by omega) (by omega) (iv_8) (a1021) (iv_9) (by omega) (by omega)
          · have _q := h1022
            exact absurd h1022 (by omega)
        · have _q : True := trivial
          refine jx_if_ne (pc' := 132) (tg := 150) rfl rfl rfl (by decide) (by decide) (fun h1024 => ?_) (fun h1024 => ?_)
          · have _q := h1024
            exact absurd h1024 (by omega)
          · have _q := h1024
            refine jx_go (tg := 142) rfl rfl ?_
            refine jx_ld (pc' := 143) (l' := L) (st' := [.ref 66]) rfl (jl_aloadn gL_0) ?_
            refine jx_ar (pc' := 144) (st' := [.int (i32 (4)), .ref 66]) rfl rfl rfl rfl ?_
            refine jx_ld (pc' := 145) (l' := L) (st' := [.int (i32 (pl)), .int (i32 (4)), .ref 66]) rfl (jl_iloadn gL_1) ?_
            refine jx_vr (pc' := 148) (as := [.int (i32 (4)), .int (i32 (pl))]) (st := []) rfl rfl rfl rfl ⟨rfl, rfl, Nat.le_of_ble_eq_true rfl⟩ rfl rfl (c_fail (dd := d) (hd := by omega) (hW := hWx) (kind := 4) (place := pl) (fk := fk1) (e_fk := show Gx 16 = fk1 from (ex_fk1))  (h_kind := ⟨(by decide), (by decide)⟩) (h_place := ⟨(Int.le_trans (by decide : (-2147483648 : Int) ≤ -2147483648) rx_pl.1), (Int.le_trans rx_pl.2 (by decide : (2147483647 : Int) ≤ 2147483647))⟩)  (p_0 := by omega) (p_1 := by omega)) (fun o V' hq => ?_)
            obtain ⟨G1025, A1026, fk2_1027, rfl, rfl, hW1028, hF1029, e1030, p1031, -⟩ := hq
            have hF1033 := Fr_tr hFx hF1029 (Fr_sub (by decide)) (Fr_sub (by decide))
            have hP1034 := Pf_f hPx hF1029 (by decide)
            have sf1035 : wE A1026 Vs sb (20) (ix) (nd) (nd1) := wE_ag (by omega) (Sg_fr hF1029 (by decide)) (Ag_fr hF1029 (by decide)) iv_9
            have ec1036 : ecn A1026 (G1025 31) = ec1 := (ecn_f (hF1029.2 15 rfl) (hF1029.1 31 rfl)).trans ex_ec1
            have bfk2_1027 : (0 : Int) ≤ fk2_1027 ∧ fk2_1027 ≤ 6 := e1030 ▸ hW1028.1 16
            refine .inl ⟨rfl, ?_⟩
            refine jx_ar (pc' := 149) (st' := [.int (i32 (0))]) rfl rfl rfl rfl ?_
            refine jx_rt (v := some (.int (i32 (0)))) rfl rfl rfl rfl rfl rfl ?_
            exact ⟨_, _, _, at1, fk2_1027, nd1, ln, ec1, rfl, rfl, hW1028, hF1033, hP1034, by omega, ((hF1029.1 10 rfl).trans (ex_at1)), (e1030), ((hF1029.1 31 rfl).trans (ex_nd1)), ((hF1029.1 9 rfl).trans (fx_9)), ec1036, by omega, by omega, by omega, by omega, by omega, by first | exact Or.inl (⟨by omega, by omega, by omega⟩)⟩
  · have _q : True := trivial
    refine jx_if_eq (pc' := 120) (tg := 202) rfl rfl rfl (by decide) (by decide) (fun h1037 => ?_) (fun h1037 => ?_)
    · have _q := h1037
      refine jx_ld (pc' := 203) (l' := L) (st' := [.ref 66]) rfl (jl_aloadn gL_0) ?_
      refine jx_ar (pc' := 205) (st' := [.int (i32 (33)), .ref 66]) rfl rfl rfl rfl ?_
      refine jx_vr (pc' := 208) (as := [.int (i32 (33))]) (st := []) rfl rfl rfl rfl ⟨rfl, rfl, Nat.le_of_ble_eq_true rfl⟩ rfl rfl (c_is (dd := d) (hd := by omega) (hW := hWx) (k := 33) (tk := tk1) (e_tk := show Gx 11 = tk1 from (ex_tk1)) (tn := Gx 13) (e_tn := show Gx 13 = Gx 13 from rfl)  (h_k := ⟨(by decide), (by decide)⟩)  ) (fun o V' hq => ?_)
      obtain ⟨r1038, rfl, rfl, b1039, q1040⟩ := hq
      refine .inr ⟨_, rfl, ?_⟩
      rcases q1040 with ⟨rfl, a1041, a1042, a1043⟩ | rfl
      · have _q : True := trivial
        refine jx_if_ne (pc' := 211) (tg := 231) rfl rfl rfl (by decide) (by decide) (fun h1044 => ?_) (fun h1044 => ?_)
        · have _q := h1044
          have z1045 := tz_f (tk1)
          exact c_readNamed_w_at_231_1 (X := X) (d := d) (Vs := Vs) (sb := sb) (pb := pb) (c0 := c0) (c1 := c1) (G := G) (A := A) (T := T) (ln := ln) (le := le) (at0 := at0) (fk := fk) (op0 := op0) (nd := nd) (tk0 := tk0) (li := li) (ec := ec) (hd := hd) (hW := hW) (e_ln := e_ln) (e_le := e_le) (e_at0 := e_at0) (e_fk := e_fk) (e_op0 := e_op0) (e_nd := e_nd) (e_tk0 := e_tk0) (e_li := e_li) (e_ec := e_ec) (i_SV := i_SV) (i_PQ := i_PQ) (p_0 := p_0) (p_1 := p_1) (p_2 := p_2) (p_3 := p_3) (p_4 := p_4) (p_5 := p_5) L Gx Ax (pl) (s) (ix) (at1) (tk1) (fk1) (nd1) (op1) (ks) (ec1) gL_0 gL_5 gL_3 gL_1 gL_2 gL_4 hWx hFx hPx ((ex_at1)) ((ex_tk1)) ((ex_fk1)) ((ex_nd1)) ((ex_op1)) ((ex_ks)) (ex_ec1) ((fx_9)) (by omega) (by omega) (by omega) (by omega) (by omega) (by omega) (by omega) (by omega) (by omega) (by omega) (by omega) (by omega) (iv_8) (iv_9) (by omega) (by omega)
        · have _q := h1044
          exact absurd h1044 (by omega)
      · have _q : True := trivial
        refine jx_if_ne (pc' := 211) (tg := 231) rfl rfl rfl (by decide) (by decide) (fun h1046 => ?_) (fun h1046 => ?_)
        · have _q := h1046
          exact absurd h1046 (by omega)
        · have _q := h1046
          refine jx_ld (pc' := 212) (l' := L) (st' := [.ref 66]) rfl (jl_aloadn gL_0) ?_
          refine jx_ar (pc' := 214) (st' := [.int (i32 (63)), .ref 66]) rfl rfl rfl rfl ?_
          refine jx_vr (pc' := 217) (as := [.int (i32 (63))]) (st := []) rfl rfl rfl rfl ⟨rfl, rfl, Nat.le_of_ble_eq_true rfl⟩ rfl rfl (c_is (dd := d) (hd := by omega) (hW := hWx) (k := 63) (tk := tk1) (e_tk := show Gx 11 = tk1 from (ex_tk1)) (tn := Gx 13) (e_tn := show Gx 13 = Gx 13 from rfl)  (h_k := ⟨(by decide), (by decide)⟩)  ) (fun o V' hq => ?_)
          obtain ⟨r1047, rfl, rfl, b1048, q1049⟩ := hq
          refine .inr ⟨_, rfl, ?_⟩
          rcases q1049 with ⟨rfl, a1050, a1051, a1052⟩ | rfl
          · have _q : True := trivial
            refine jx_if_ne (pc' := 220) (tg := 231) rfl rfl rfl (by decide) (by decide) (fun h1053 => ?_) (fun h1053 => ?_)
            · have _q := h1053
              have z1054 := tz_f (tk1)
              exact c_readNamed_w_at_231_1 (X := X) (d := d) (Vs := Vs) (sb := sb) (pb := pb) (c0 := c0) (c1 := c1) (G := G) (A := A) (T := T) (ln := ln) (le := le) (at0 := at0) (fk := fk) (op0 := op0) (nd := nd) (tk0 := tk0) (li := li) (ec := ec) (hd := hd) (hW := hW) (e_ln := e_ln) (e_le := e_le) (e_at0 := e_at0) (e_fk := e_fk) (e_op0 := e_op0) (e_nd := e_nd) (e_tk0 := e_tk0) (e_li := e_li) (e_ec := e_ec) (i_SV := i_SV) (i_PQ := i_PQ) (p_0 := p_0) (p_1 := p_1) (p_2 := p_2) (p_3 := p_3) (p_4 := p_4) (p_5 := p_5) L Gx Ax (pl) (s) (ix) (at1) (tk1) (fk1) (nd1) (op1) (ks) (ec1) gL_0 gL_5 gL_3 gL_1 gL_2 gL_4 hWx hFx hPx ((ex_at1)) ((ex_tk1)) ((ex_fk1)) ((ex_nd1)) ((ex_op1)) ((ex_ks)) (ex_ec1) ((fx_9)) (by omega) (by omega) (by omega) (by omega) (by omega) (by omega) (by omega) (by omega) (by omega) (by omega) (by omega) (by omega) (iv_8) (iv_9) (by omega) (by omega)
            · have _q := h1053
              exact absurd h1053 (by omega)
          · have _q : True := trivial
            refine jx_if_ne (pc' := 220) (tg := 231) rfl rfl rfl (by decide) (by decide) (fun h1055 => ?_) (fun h1055 => ?_)
            · have _q := h1055
              exact absurd h1055 (by omega)
            · have _q := h1055
              refine jx_ld (pc' := 221) (l' := L) (st' := [.ref 66]) rfl (jl_aloadn gL_0) ?_
              refine jx_ar (pc' := 222) (st' := [.int (i32 (1)), .ref 66]) rfl rfl rfl rfl ?_
              refine jx_ld (pc' := 223) (l' := L) (st' := [.ref 66, .int (i32 (1)), .ref 66]) rfl (jl_aloadn gL_0) ?_
              have b1056 : (-3000 : Int) ≤ Gx 12 ∧ Gx 12 ≤ 3002 := hWx.1 12
              refine jr_get (pc' := 226) (i := 12) (v := .int (i32 (Gx 12))) rfl rfl (by decide) rfl rfl ?_
              refine jx_vr (pc' := 229) (as := [.int (i32 (1)), .int (i32 (Gx 12))]) (st := []) rfl rfl rfl rfl ⟨rfl, rfl, Nat.le_of_ble_eq_true rfl⟩ rfl rfl (c_fail (dd := d) (hd := by omega) (hW := hWx) (kind := 1) (place := Gx 12) (fk := fk1) (e_fk := show Gx 16 = fk1 from (ex_fk1))  (h_kind := ⟨(by decide), (by decide)⟩) (h_place := ⟨(Int.le_trans (by decide : (-2147483648 : Int) ≤ -3000) b1056.1), (Int.le_trans b1056.2 (by decide : (3002 : Int) ≤ 2147483647))⟩)  (p_0 := by omega) (p_1 := by omega)) (fun o V' hq => ?_)
              obtain ⟨G1057, A1058, fk2_1059, rfl, rfl, hW1060, hF1061, e1062, p1063, -⟩ := hq
              have hF1065 := Fr_tr hFx hF1061 (Fr_sub (by decide)) (Fr_sub (by decide))
              have hP1066 := Pf_f hPx hF1061 (by decide)
              have sf1067 : wE A1058 Vs sb (20) (ix) (nd) (nd1) := wE_ag (by omega) (Sg_fr hF1061 (by decide)) (Ag_fr hF1061 (by decide)) iv_9
              have ec1068 : ecn A1058 (G1057 31) = ec1 := (ecn_f (hF1061.2 15 rfl) (hF1061.1 31 rfl)).trans ex_ec1
              have bfk2_1059 : (0 : Int) ≤ fk2_1059 ∧ fk2_1059 ≤ 6 := e1062 ▸ hW1060.1 16
              refine .inl ⟨rfl, ?_⟩
              refine jx_ar (pc' := 230) (st' := [.int (i32 (0))]) rfl rfl rfl rfl ?_
              refine jx_rt (v := some (.int (i32 (0)))) rfl rfl rfl rfl rfl rfl ?_
              exact ⟨_, _, _, at1, fk2_1059, nd1, ln, ec1, rfl, rfl, hW1060, hF1065, hP1066, by omega, ((hF1061.1 10 rfl).trans (ex_at1)), (e1062), ((hF1061.1 31 rfl).trans (ex_nd1)), ((hF1061.1 9 rfl).trans (fx_9)), ec1068, by omega, by omega, by omega, by omega, by omega, by first | exact Or.inl (⟨by omega, by omega, by omega⟩)⟩
    · have _q := h1037
      exact absurd h1037 (by omega)
set_option maxRecDepth 20000 in
set_option maxHeartbeats 4000000 in
theorem c_readNamed_w_at_110_0 {X : jX} {d : Nat} {Vs : Nat → Prop} {sb pb : Int} {c0 c1 : jC} {G : Nat → Int} {A : Nat → Nat → Int} {T : jH} {ln le at0 fk op0 nd tk0 li ec : Int} (hd : 72 ≤ d + 1) (hW : Wk G A) (e_ln : G 9 = ln) (e_le : A 4 (ln).toNat = le) (e_at0 : G 10 = at0) (e_fk : G 16 = fk) (e_op0 : G 15 = op0) (e_nd : G 31 = nd) (e_tk0 : G 11 = tk0) (e_li : G 3 = li) (e_ec : ecn A (G 31) = ec) (i_SV : SV Vs sb G A) (i_PQ : PQ Vs sb pb G A) (p_0 : 0 ≤ op0 ∧ op0 ≤ 8) (p_1 : fk = 0) (p_2 : nd ≤ 2 * at0 - tz tk0 + 42) (p_3 : at0 ≤ le) (p_4 : ln < li) (p_5 : tk0 = 1) : ∀ (L : jL) (Gx : Nat → Int) (Ax : Nat → Nat → Int) (pl s at1 tk1 fk1 nd1 op1 ks ec1 : Int), jGet L 0 = some (.ref 66) → jGet L 5 = some (.int (i32 (0))) → jGet L 3 = some (.int (i32 (ks))) → jGet L 4 = some (.int (i32 (0))) → jGet L 1 = some (.int (i32 pl)) → jGet L 2 = some (.int (i32 s)) → Wk Gx Ax → Fr [9, 10, 11, 12, 13, 14, 15, 16, 17, 18, 31] [15, 16, 17, 18, 19, 20, 21, 22, 24, 28] G A Gx Ax → Pf nd A Ax → Gx 10 = at1 → Gx 11 = tk1 → Gx 16 = fk1 → Gx 31 = nd1 → Gx 15 = op1 → Ax 7 (s).toNat = ks → ecn Ax (Gx 31) = ec1 → Gx 9 = ln → ((-2147483648 : Int) ≤ pl ∧ pl ≤ 2147483647) → ((-2147483648 : Int) ≤ s ∧ s ≤ 2147483647) → (at0 ≤ at1) → (at1 ≤ le) → (nd ≤ nd1) → (op1 = op0) → (fk1 = 0) → (nd1 - nd ≤ (2 * at1 - tz tk1) - (2 * at0 - tz tk0) - 1) → (0 ≤ s ∧ s ≤ 201) → (-3000 ≤ pl ∧ pl ≤ 3002) → (SY Vs sb (s)) → (nd + 5 * ec ≤ nd1 - tz tk1) → (nd1 - nd + 5 * (ec1 - ec) ≤ (2 * at1 - tz tk1) - (2 * at0 - tz tk0) - 1 - tz tk1) → wj X d jm304 (110, L, [], rV c0 c1 Gx Ax T) (fun o V' => ∃ (G' : Nat → Int) (A' : Nat → Nat → Int) (r : Int) (at2 : Int) (fk2 : Int) (nd2 : Int) (ln2 : Int) (ec2 : Int), V' = rV c0 c1 G' A' T ∧ o = .inl (some (.int (i32 r))) ∧ Wk G' A' ∧ Fr [9, 10, 11, 12, 13, 14, 15, 16, 17, 18, 31] [15, 16, 17, 18, 19, 20, 21, 22, 24, 28] G A G' A' ∧ Pf nd A A' ∧ ((-2147483648 : Int) ≤ r ∧ r ≤ 2147483647) ∧ G' 10 = at2 ∧ G' 16 = fk2 ∧ G' 31 = nd2 ∧ G' 9 = ln2 ∧ ecn A' (G' 31) = ec2 ∧ (at0 ≤ at2) ∧ (at2 ≤ le) ∧ (nd ≤ nd2) ∧ (0 ≤ r) ∧ (r ≤ nd2) ∧ (((1 ≤ fk2) ∧ (ln2 = ln) ∧ (nd2 - nd ≤ 2 * at2 - 2 * at0 + 8)) ∨ ((fk2 = 0) ∧ (ln2 = ln + 1) ∧ (nd2 - nd ≤ 2 * at2 - (2 * at0 - tz tk0) + 0) ∧ (nd ≤ r) ∧ (r < nd2) ∧ (wL A' sb pb Vs (r) (nd) (nd2)) ∧ (NX A' (r)) ∧ (nd2 - nd + 5 * (ec2 - ec) ≤ 2 * at2 - (2 * at0 - tz tk0) + 0) ∧ (nd + 5 * ec ≤ r)))) := by
  have hF0 : Fr [9, 10, 11, 12, 13, 14, 15, 16, 17, 18, 31] [15, 16, 17, 18, 19, 20, 21, 22, 24, 28] G A G A := Fr_rf
  have hP0 : Pf nd A A := Pf_rf
  have b_ln : (0 : Int) ≤ ln ∧ ln ≤ 3000 := e_ln ▸ hW.1 9
  have b_le : (0 : Int) ≤ le ∧ le ≤ 3000 := e_le ▸ hW.2 4 _
  have b_at0 : (0 : Int) ≤ at0 ∧ at0 ≤ 3002 := e_at0 ▸ hW.1 10
  have b_fk : (0 : Int) ≤ fk ∧ fk ≤ 6 := e_fk ▸ hW.1 16
  have b_op0 : (-2147483648 : Int) ≤ op0 ∧ op0 ≤ 2147483647 := e_op0 ▸ hW.1 15
  have b_nd : (0 : Int) ≤ nd ∧ nd ≤ 6999 := e_nd ▸ hW.1 31
  have z_tk0 := tz_f tk0
  have b_tk0 : (0 : Int) ≤ tk0 ∧ tk0 ≤ 5 := e_tk0 ▸ hW.1 11
  have b_li : (0 : Int) ≤ li ∧ li ≤ 3000 := e_li ▸ hW.1 3
  intro L Gx Ax pl s at1 tk1 fk1 nd1 op1 ks ec1 gL_0 gL_5 gL_3 gL_4 gL_1 gL_2 hWx hFx hPx ex_at1 ex_tk1 ex_fk1 ex_nd1 ex_op1 ex_ks ex_ec1 fx_9 rx_pl rx_s iv_0 iv_1 iv_2 iv_3 iv_4 iv_5 iv_6 iv_7 iv_8 iv_9 iv_10
  have b_at1 : (0 : Int) ≤ at1 ∧ at1 ≤ 3002 := ex_at1 ▸ hWx.1 10
  have z_tk1 := tz_f tk1
  have b_tk1 : (0 : Int) ≤ tk1 ∧ tk1 ≤ 5 := ex_tk1 ▸ hWx.1 11
  have b_fk1 : (0 : Int) ≤ fk1 ∧ fk1 ≤ 6 := ex_fk1 ▸ hWx.1 16
  have b_nd1 : (0 : Int) ≤ nd1 ∧ nd1 ≤ 6999 := ex_nd1 ▸ hWx.1 31
  have b_op1 : (-2147483648 : Int) ≤ op1 ∧ op1 ≤ 2147483647 := ex_op1 ▸ hWx.1 15
  have b_ks : (0 : Int) ≤ ks ∧ ks ≤ 14 := ex_ks ▸ hWx.2 7 _
  refine jx_ld (pc' := 111) (l' := L) (st' := [.ref 66]) rfl (jl_aloadn gL_0) ?_
  refine jx_ar (pc' := 114) (st' := [.int (i32 (300)), .ref 66]) rfl rfl rfl rfl ?_
  have b1069 : (-2147483648 : Int) ≤ Gx 13 ∧ Gx 13 ≤ 2147483647 := hWx.1 13
  refine jx_vr (pc' := 117) (as := [.int (i32 (300))]) (st := []) rfl rfl rfl rfl ⟨rfl, rfl, Nat.le_of_ble_eq_true rfl⟩ rfl rfl (c_is (dd := d) (hd := by omega) (hW := hWx) (k := 300) (tk := tk1) (e_tk := show Gx 11 = tk1 from (ex_tk1)) (tn := Gx 13) (e_tn := show Gx 13 = Gx 13 from rfl)  (h_k := ⟨(by decide), (by decide)⟩)  ) (fun o V' hq => ?_)
  obtain ⟨r1070, rfl, rfl, b1071, q1072⟩ := hq
  refine .inr ⟨_, rfl, ?_⟩
  rcases q1072 with ⟨rfl, a1073, a1074, a1075⟩ | rfl
  · have _q : True := trivial
    refine jx_if_eq (pc' := 120) (tg := 202) rfl rfl rfl (by decide) (by decide) (fun h1076 => ?_) (fun h1076 => ?_)
    · have _q := h1076
      exact absurd h1076 (by omega)
    · have _q := h1076
      refine jx_ld (pc' := 122) (l' := L) (st' := [.int (i32 (0))]) rfl (jl_iload gL_5) ?_
      refine jx_if_eq (pc' := 125) (tg := 135) rfl rfl rfl (by decide) (by decide) (fun h1077 => ?_) (fun h1077 => ?_)
      · have _q := h1077
        refine jx_ld (pc' := 136) (l' := L) (st' := [.int (i32 (ks))]) rfl (jl_iloadn gL_3) ?_
        refine jx_st (pc' := 139) (as := [.int (i32 (ks))]) (st := []) rfl rfl ⟨rfl, Nat.le_of_ble_eq_true rfl⟩ rfl rfl rfl (c_isVariable (dd := d) (hd := by omega) (k := ks)   (h_k := ⟨(Int.le_trans (by decide : (-2147483648 : Int) ≤ 0) b_ks.1), (Int.le_trans b_ks.2 (by decide : (14 : Int) ≤ 2147483647))⟩)  ) (fun o V' hq => ?_)
        obtain ⟨r1078, rfl, rfl, b1079, q1080⟩ := hq
        refine .inr ⟨_, rfl, ?_⟩
        rcases q1080 with ⟨rfl, a1081⟩ | rfl
        · have _q : True := trivial
          refine jx_if_ne (pc' := 142) (tg := 150) rfl rfl rfl (by decide) (by decide) (fun h1082 => ?_) (fun h1082 => ?_)
          · have _q := h1082
            have z1083 := tz_f (tk1)
            exact c_readNamed_w_at_150_0 (X := X) (d := d) (Vs := Vs) (sb := sb) (pb := pb) (c0 := c0) (c1 := c1) (G := G) (A := A) (T := T) (ln := ln) (le := le) (at0 := at0) (fk := fk) (op0 := op0) (nd := nd) (tk0 := tk0) (li := li) (ec := ec) (hd := hd) (hW := hW) (e_ln := e_ln) (e_le := e_le) (e_at0 := e_at0) (e_fk := e_fk) (e_op0 := e_op0) (e_nd := e_nd) (e_tk0 := e_tk0) (e_li := e_li) (e_ec := e_ec) (i_SV := i_SV) (i_PQ := i_PQ) (p_0 := p_0) (p_1 := p_1) (p_2 := p_2) (p_3 := p_3) (p_4 := p_4) (p_5 := p_5) L Gx Ax (s) (at1) (tk1) (fk1) (nd1) (op1) (ks) (ec1) gL_0 gL_5 gL_4 gL_2 hWx hFx hPx ((ex_at1)) ((ex_tk1)) ((ex_fk1)) ((ex_nd1)) ((ex_op1)) ((ex_ks)) (ex_ec1) ((fx_9)) (by omega) (by omega) (by omega) (by omega) (by omega) (by omega) (by omega) (by omega) (by omega) (iv_8) (a1081) (by omega) (by omega)
          · have _q := h1082
            exact absurd h1082 (by omega)
        · have _q : True := trivial
          refine jx_if_ne (pc' := 142) (tg := 150) rfl rfl rfl (by decide) (by decide) (fun h1084 => ?_) (fun h1084 => ?_)
          · have _q := h1084
            exact absurd h1084 (by omega)
          · have _q := h1084
            refine jx_ld (pc' := 143) (l' := L) (st' := [.ref 66]) rfl (jl_aloadn gL_0) ?_
            refine jx_ar (pc' := 144) (st' := [.int (i32 (4)), .ref 66]) rfl rfl rfl rfl ?_
            refine jx_ld (pc' := 145) (l' := L) (st' := [.int (i32 (pl)), .int (i32 (4)), .ref 66]) rfl (jl_iloadn gL_1) ?_
            refine jx_vr (pc' := 148) (as := [.int (i32 (4)), .int (i32 (pl))]) (st := []) rfl rfl rfl rfl ⟨rfl, rfl, Nat.le_of_ble_eq_true rfl⟩ rfl rfl (c_fail (dd := d) (hd := by omega) (hW := hWx) (kind := 4) (place := pl) (fk := fk1) (e_fk := show Gx 16 = fk1 from (ex_fk1))  (h_kind := ⟨(by decide), (by decide)⟩) (h_place := ⟨(Int.le_trans (by decide : (-2147483648 : Int) ≤ -2147483648) rx_pl.1), (Int.le_trans rx_pl.2 (by decide : (2147483647 : Int) ≤ 2147483647))⟩)  (p_0 := by omega) (p_1 := by omega)) (fun o V' hq => ?_)
            obtain ⟨G1085, A1086, fk2_1087, rfl, rfl, hW1088, hF1089, e1090, p1091, -⟩ := hq
            have hF1093 := Fr_tr hFx hF1089 (Fr_sub (by decide)) (Fr_sub (by decide))
            have hP1094 := Pf_f hPx hF1089 (by decide)
            have ec1095 : ecn A1086 (G1085 31) = ec1 := (ecn_f (hF1089.2 15 rfl) (hF1089.1 31 rfl)).trans ex_ec1
            have bfk2_1087 : (0 : Int) ≤ fk2_1087 ∧ fk2_1087 ≤ 6 := e1090 ▸ hW1088.1 16
            refine .inl ⟨rfl, ?_⟩
            refine jx_ar (pc' := 149) (st' := [.int (i32 (0))]) rfl rfl rfl rfl ?_
            refine jx_rt (v := some (.int (i32 (0)))) rfl rfl rfl rfl rfl rfl ?_
            exact ⟨_, _, _, at1, fk2_1087, nd1, ln, ec1, rfl, rfl, hW1088, hF1093, hP1094, by omega, ((hF1089.1 10 rfl).trans (ex_at1)), (e1090), ((hF1089.1 31 rfl).trans (ex_nd1)), ((hF1089.1 9 rfl).trans (fx_9)), ec1095, by omega, by omega, by omega, by omega, by omega, by first | exact Or.inl (⟨by omega, by omega, by omega⟩)⟩
      · have _q := h1077
        exact absurd h1077 (by omega)
  · have _q : True := trivial
    refine jx_if_eq (pc' := 120) (tg := 202) rfl rfl rfl (by decide) (by decide) (fun h1096 => ?_) (fun h1096 => ?_)
    · have _q := h1096
      refine jx_ld (pc' := 203) (l' := L) (st' := [.ref 66]) rfl (jl_aloadn gL_0) ?_
      refine jx_ar (pc' := 205) (st' := [.int (i32 (33)), .ref 66]) rfl rfl rfl rfl ?_
      refine jx_vr (pc' := 208) (as := [.int (i32 (33))]) (st := []) rfl rfl rfl rfl ⟨rfl, rfl, Nat.le_of_ble_eq_true rfl⟩ rfl rfl (c_is (dd := d) (hd := by omega) (hW := hWx) (k := 33) (tk := tk1) (e_tk := show Gx 11 = tk1 from (ex_tk1)) (tn := Gx 13) (e_tn := show Gx 13 = Gx 13 from rfl)  (h_k := ⟨(by decide), (by decide)⟩)  ) (fun o V' hq => ?_)
      obtain ⟨r1097, rfl, rfl, b1098, q1099⟩ := hq
      refine .inr ⟨_, rfl, ?_⟩
      rcases q1099 with ⟨rfl, a1100, a1101, a1102⟩ | rfl
      · have _q : True := trivial
        refine jx_if_ne (pc' := 211) (tg := 231) rfl rfl rfl (by decide) (by decide) (fun h1103 => ?_) (fun h1103 => ?_)
        · have _q := h1103
          have z1104 := tz_f (tk1)
          exact c_readNamed_w_at_231_0 (X := X) (d := d) (Vs := Vs) (sb := sb) (pb := pb) (c0 := c0) (c1 := c1) (G := G) (A := A) (T := T) (ln := ln) (le := le) (at0 := at0) (fk := fk) (op0 := op0) (nd := nd) (tk0 := tk0) (li := li) (ec := ec) (hd := hd) (hW := hW) (e_ln := e_ln) (e_le := e_le) (e_at0 := e_at0) (e_fk := e_fk) (e_op0 := e_op0) (e_nd := e_nd) (e_tk0 := e_tk0) (e_li := e_li) (e_ec := e_ec) (i_SV := i_SV) (i_PQ := i_PQ) (p_0 := p_0) (p_1 := p_1) (p_2 := p_2) (p_3 := p_3) (p_4 := p_4) (p_5 := p_5) L Gx Ax (pl) (s) (at1) (tk1) (fk1) (nd1) (op1) (ks) (ec1) gL_0 gL_5 gL_3 gL_4 gL_1 gL_2 hWx hFx hPx ((ex_at1)) ((ex_tk1)) ((ex_fk1)) ((ex_nd1)) ((ex_op1)) ((ex_ks)) (ex_ec1) ((fx_9)) (by omega) (by omega) (by omega) (by omega) (by omega) (by omega) (by omega) (by omega) (by omega) (by omega) (by omega) (iv_8) (by omega) (by omega)
        · have _q := h1103
          exact absurd h1103 (by omega)
      · have _q : True := trivial
        refine jx_if_ne (pc' := 211) (tg := 231) rfl rfl rfl (by decide) (by decide) (fun h1105 => ?_) (fun h1105 => ?_)
        · have _q := h1105
          exact absurd h1105 (by omega)
        · have _q := h1105
          refine jx_ld (pc' := 212) (l' := L) (st' := [.ref 66]) rfl (jl_aloadn gL_0) ?_
          refine jx_ar (pc' := 214) (st' := [.int (i32 (63)), .ref 66]) rfl rfl rfl rfl ?_
          refine jx_vr (pc' := 217) (as := [.int (i32 (63))]) (st := []) rfl rfl rfl rfl ⟨rfl, rfl, Nat.le_of_ble_eq_true rfl⟩ rfl rfl (c_is (dd := d) (hd := by omega) (hW := hWx) (k := 63) (tk := tk1) (e_tk := show Gx 11 = tk1 from (ex_tk1)) (tn := Gx 13) (e_tn := show Gx 13 = Gx 13 from rfl)  (h_k := ⟨(by decide), (by decide)⟩)  ) (fun o V' hq => ?_)
          obtain ⟨r1106, rfl, rfl, b1107, q1108⟩ := hq
          refine .inr ⟨_, rfl, ?_⟩
          rcases q1108 with ⟨rfl, a1109, a1110, a1111⟩ | rfl
          · have _q : True := trivial
            refine jx_if_ne (pc' := 220) (tg := 231) rfl rfl rfl (by decide) (by decide) (fun h1112 => ?_) (fun h1112 => ?_)
            · have _q := h1112
              have z1113 := tz_f (tk1)
              exact c_readNamed_w_at_231_0 (X := X) (d := d) (Vs := Vs) (sb := sb) (pb := pb) (c0 := c0) (c1 := c1) (G := G) (A := A) (T := T) (ln := ln) (le := le) (at0 := at0) (fk := fk) (op0 := op0) (nd := nd) (tk0 := tk0) (li := li) (ec := ec) (hd := hd) (hW := hW) (e_ln := e_ln) (e_le := e_le) (e_at0 := e_at0) (e_fk := e_fk) (e_op0 := e_op0) (e_nd := e_nd) (e_tk0 := e_tk0) (e_li := e_li) (e_ec := e_ec) (i_SV := i_SV) (i_PQ := i_PQ) (p_0 := p_0) (p_1 := p_1) (p_2 := p_2) (p_3 := p_3) (p_4 := p_4) (p_5 := p_5) L Gx Ax (pl) (s) (at1) (tk1) (fk1) (nd1) (op1) (ks) (ec1) gL_0 gL_5 gL_3 gL_4 gL_1 gL_2 hWx hFx hPx ((ex_at1)) ((ex_tk1)) ((ex_fk1)) ((ex_nd1)) ((ex_op1)) ((ex_ks)) (ex_ec1) ((fx_9)) (by omega) (by omega) (by omega) (by omega) (by omega) (by omega) (by omega) (by omega) (by omega) (by omega) (by omega) (iv_8) (by omega) (by omega)
            · have _q := h1112
              exact absurd h1112 (by omega)
          · have _q : True := trivial
            refine jx_if_ne (pc' := 220) (tg := 231) rfl rfl rfl (by decide) (by decide) (fun h1114 => ?_) (fun h1114 => ?_)
            · have _q := h1114
              exact absurd h1114 (by omega)
            · have _q := h1114
              refine jx_ld (pc' := 221) (l' := L) (st' := [.ref 66]) rfl (jl_aloadn gL_0) ?_
              refine jx_ar (pc' := 222) (st' := [.int (i32 (1)), .ref 66]) rfl rfl rfl rfl ?_
              refine jx_ld (pc' := 223) (l' := L) (st' := [.ref 66, .int (i32 (1)), .ref 66]) rfl (jl_aloadn gL_0) ?_
              have b1115 : (-3000 : Int) ≤ Gx 12 ∧ Gx 12 ≤ 3002 := hWx.1 12
              refine jr_get (pc' := 226) (i := 12) (v := .int (i32 (Gx 12))) rfl rfl (by decide) rfl rfl ?_
              refine jx_vr (pc' := 229) (as := [.int (i32 (1)), .int (i32 (Gx 12))]) (st := []) rfl rfl rfl rfl ⟨rfl, rfl, Nat.le_of_ble_eq_true rfl⟩ rfl rfl (c_fail (dd := d) (hd := by omega) (hW := hWx) (kind := 1) (place := Gx 12) (fk := fk1) (e_fk := show Gx 16 = fk1 from (ex_fk1))  (h_kind := ⟨(by decide), (by decide)⟩) (h_place := ⟨(Int.le_trans (by decide : (-2147483648 : Int) ≤ -3000) b1115.1), (Int.le_trans b1115.2 (by decide : (3002 : Int) ≤ 2147483647))⟩)  (p_0 := by omega) (p_1 := by omega)) (fun o V' hq => ?_)
              obtain ⟨G1116, A1117, fk2_1118, rfl, rfl, hW1119, hF1120, e1121, p1122, -⟩ := hq
              have hF1124 := Fr_tr hFx hF1120 (Fr_sub (by decide)) (Fr_sub (by decide))
              have hP1125 := Pf_f hPx hF1120 (by decide)
              have ec1126 : ecn A1117 (G1116 31) = ec1 := (ecn_f (hF1120.2 15 rfl) (hF1120.1 31 rfl)).trans ex_ec1
              have bfk2_1118 : (0 : Int) ≤ fk2_1118 ∧ fk2_1118 ≤ 6 := e1121 ▸ hW1119.1 16
              refine .inl ⟨rfl, ?_⟩
              refine jx_ar (pc' := 230) (st' := [.int (i32 (0))]) rfl rfl rfl rfl ?_
              refine jx_rt (v := some (.int (i32 (0)))) rfl rfl rfl rfl rfl rfl ?_
              exact ⟨_, _, _, at1, fk2_1118, nd1, ln, ec1, rfl, rfl, hW1119, hF1124, hP1125, by omega, ((hF1120.1 10 rfl).trans (ex_at1)), (e1121), ((hF1120.1 31 rfl).trans (ex_nd1)), ((hF1120.1 9 rfl).trans (fx_9)), ec1126, by omega, by omega, by omega, by omega, by omega, by first | exact Or.inl (⟨by omega, by omega, by omega⟩)⟩
    · have _q := h1096
      exact absurd h1096 (by omega)
set_option maxRecDepth 20000 in
set_option maxHeartbeats 4000000 in
theorem c_readNamed_w {X : jX} {dd : Nat} {Vs : Nat → Prop} {sb pb : Int} {c0 c1 : jC} {G : Nat → Int} {A : Nat → Nat → Int} {T : jH} {ln le at0 fk op0 nd tk0 li ec : Int} (hd : 72 ≤ dd) (hW : Wk G A) (e_ln : G 9 = ln) (e_le : A 4 (ln).toNat = le) (e_at0 : G 10 = at0) (e_fk : G 16 = fk) (e_op0 : G 15 = op0) (e_nd : G 31 = nd) (e_tk0 : G 11 = tk0) (e_li : G 3 = li) (e_ec : ecn A (G 31) = ec) (i_SV : SV Vs sb G A) (i_PQ : PQ Vs sb pb G A) (p_0 : 0 ≤ op0 ∧ op0 ≤ 8) (p_1 : fk = 0) (p_2 : nd ≤ 2 * at0 - tz tk0 + 42) (p_3 : at0 ≤ le) (p_4 : ln < li) (p_5 : tk0 = 1) : wk X dd 304 [.ref 66] (rV c0 c1 G A T) (fun o V' => ∃ (G' : Nat → Int) (A' : Nat → Nat → Int) (r : Int) (at2 : Int) (fk2 : Int) (nd2 : Int) (ln2 : Int) (ec2 : Int), V' = rV c0 c1 G' A' T ∧ o = .inl (some (.int (i32 r))) ∧ Wk G' A' ∧ Fr [9, 10, 11, 12, 13, 14, 15, 16, 17, 18, 31] [15, 16, 17, 18, 19, 20, 21, 22, 24, 28] G A G' A' ∧ Pf nd A A' ∧ ((-2147483648 : Int) ≤ r ∧ r ≤ 2147483647) ∧ G' 10 = at2 ∧ G' 16 = fk2 ∧ G' 31 = nd2 ∧ G' 9 = ln2 ∧ ecn A' (G' 31) = ec2 ∧ (at0 ≤ at2) ∧ (at2 ≤ le) ∧ (nd ≤ nd2) ∧ (0 ≤ r) ∧ (r ≤ nd2) ∧ (((1 ≤ fk2) ∧ (ln2 = ln) ∧ (nd2 - nd ≤ 2 * at2 - 2 * at0 + 8)) ∨ ((fk2 = 0) ∧ (ln2 = ln + 1) ∧ (nd2 - nd ≤ 2 * at2 - (2 * at0 - tz tk0) + 0) ∧ (nd ≤ r) ∧ (r < nd2) ∧ (wL A' sb pb Vs (r) (nd) (nd2)) ∧ (NX A' (r)) ∧ (nd2 - nd + 5 * (ec2 - ec) ≤ 2 * at2 - (2 * at0 - tz tk0) + 0) ∧ (nd + 5 * ec ≤ r)))) := by
  obtain ⟨d, rfl⟩ : ∃ d, dd = d + 1 := ⟨dd - 1, by omega⟩
  refine wk_of (e := jm304) rfl (Nat.le_of_ble_eq_true rfl) ?_
  show wj X d jm304 (0, [(0, .ref 66)], [], rV c0 c1 G A T) _
  have hF0 : Fr [9, 10, 11, 12, 13, 14, 15, 16, 17, 18, 31] [15, 16, 17, 18, 19, 20, 21, 22, 24, 28] G A G A := Fr_rf
  have hP0 : Pf nd A A := Pf_rf
  have b_ln : (0 : Int) ≤ ln ∧ ln ≤ 3000 := e_ln ▸ hW.1 9
  have b_le : (0 : Int) ≤ le ∧ le ≤ 3000 := e_le ▸ hW.2 4 _
  have b_at0 : (0 : Int) ≤ at0 ∧ at0 ≤ 3002 := e_at0 ▸ hW.1 10
  have b_fk : (0 : Int) ≤ fk ∧ fk ≤ 6 := e_fk ▸ hW.1 16
  have b_op0 : (-2147483648 : Int) ≤ op0 ∧ op0 ≤ 2147483647 := e_op0 ▸ hW.1 15
  have b_nd : (0 : Int) ≤ nd ∧ nd ≤ 6999 := e_nd ▸ hW.1 31
  have z_tk0 := tz_f tk0
  have b_tk0 : (0 : Int) ≤ tk0 ∧ tk0 ≤ 5 := e_tk0 ▸ hW.1 11
  have b_li : (0 : Int) ≤ li ∧ li ≤ 3000 := e_li ▸ hW.1 3
  refine jx_ld (pc' := 1) (l' := [(0, .ref 66)]) (st' := [.ref 66]) rfl (jl_aloadn rfl) ?_
  have b1127 : (-3000 : Int) ≤ G 12 ∧ G 12 ≤ 3002 := hW.1 12
  refine jr_get (pc' := 4) (i := 12) (v := .int (i32 (G 12))) rfl rfl (by decide) rfl rfl ?_
  refine jx_ld (pc' := 5) (l' := jSto1 [(0, .ref 66)] 1 (.int (i32 (G 12)))) (st' := []) rfl rfl ?_
  obtain ⟨L1128, eL1128⟩ : ∃ q, q = jSto1 [(0, .ref 66)] 1 (.int (i32 (G 12))) := ⟨_, rfl⟩
  rw [← eL1128]
  have gL1128_0 : jGet L1128 0 = some (.ref 66) := eL1128 ▸ jg_ne (by decide) (rfl : jGet [(0, .ref 66)] 0 = some (.ref 66)) rfl
  have gL1128_1 : jGet L1128 1 = some (.int (i32 (G 12))) := eL1128 ▸ jg_eq
  refine jx_ld (pc' := 6) (l' := L1128) (st' := [.ref 66]) rfl (jl_aloadn gL1128_0) ?_
  refine jx_vr (pc' := 9) (as := []) (st := []) rfl rfl rfl rfl ⟨rfl, rfl, Nat.le_of_ble_eq_true rfl⟩ rfl rfl (c_lookUp (dd := d) (hd := by omega) (hW := hW)  (fk := fk) (e_fk := show G 16 = fk from (e_fk)) (i_SV := (SV_ext (rfl) (rfl) i_SV))   ) (fun o V' hq => ?_)
  obtain ⟨G1129, A1130, r1131, fk2_1132, rfl, rfl, hW1133, hF1134, b1135, e1136, q1137⟩ := hq
  have hF1138 := Fr_tr hF0 hF1134 (Fr_sub (by decide)) (Fr_sub (by decide))
  have hP1139 := Pf_f hP0 hF1134 (by decide)
  have ec1140 : ecn A1130 (G1129 31) = ec := (ecn_f (hF1134.2 15 rfl) (hF1134.1 31 rfl)).trans e_ec
  have bfk2_1132 : (0 : Int) ≤ fk2_1132 ∧ fk2_1132 ≤ 6 := e1136 ▸ hW1133.1 16
  refine .inr ⟨_, rfl, ?_⟩
  rcases q1137 with ⟨a1141, a1142⟩ | ⟨a1143, a1144, a1145, a1146⟩
  · have _q : True := trivial
    refine jx_ld (pc' := 10) (l' := jSto1 L1128 2 (.int (i32 (r1131)))) (st' := []) rfl rfl ?_
    obtain ⟨L1147, eL1147⟩ : ∃ q, q = jSto1 L1128 2 (.int (i32 (r1131))) := ⟨_, rfl⟩
    rw [← eL1147]
    have gL1147_0 : jGet L1147 0 = some (.ref 66) := eL1147 ▸ jg_ne (by decide) gL1128_0 rfl
    have gL1147_1 : jGet L1147 1 = some (.int (i32 (G 12))) := eL1147 ▸ jg_ne (by decide) gL1128_1 rfl
    have gL1147_2 : jGet L1147 2 = some (.int (i32 (r1131))) := eL1147 ▸ jg_eq
    refine jx_ld (pc' := 11) (l' := L1147) (st' := [.ref 66]) rfl (jl_aloadn gL1147_0) ?_
    refine jx_vr (pc' := 14) (as := []) (st := []) rfl rfl rfl rfl ⟨rfl, rfl, Nat.le_of_ble_eq_true rfl⟩ rfl rfl (c_bad (dd := d) (hd := by omega) (hW := hW1133)  (fk := fk2_1132) (e_fk := show G1129 16 = fk2_1132 from (e1136))    ) (fun o V' hq => ?_)
    obtain ⟨r1148, rfl, rfl, b1149, q1150⟩ := hq
    refine .inr ⟨_, rfl, ?_⟩
    rcases q1150 with ⟨rfl, a1151⟩ | ⟨rfl, a1152⟩
    · have _q : True := trivial
      refine jx_if_eq (pc' := 17) (tg := 19) rfl rfl rfl (by decide) (by decide) (fun h1153 => ?_) (fun h1153 => ?_)
      · have _q := h1153
        exact absurd h1153 (by omega)
      · have _q := h1153
        refine jx_ar (pc' := 18) (st' := [.int (i32 (0))]) rfl rfl rfl rfl ?_
        refine jx_rt (v := some (.int (i32 (0)))) rfl rfl rfl rfl rfl rfl ?_
        exact ⟨_, _, _, at0, fk2_1132, nd, ln, ec, rfl, rfl, hW1133, hF1138, hP1139, by omega, ((hF1134.1 10 rfl).trans (e_at0)), (e1136), ((hF1134.1 31 rfl).trans (e_nd)), ((hF1134.1 9 rfl).trans (e_ln)), ec1140, by omega, by omega, by omega, by omega, by omega, by first | exact Or.inl (⟨by omega, by omega, by omega⟩)⟩
    · have _q : True := trivial
      exfalso
      omega
  · have _q : True := trivial
    refine jx_ld (pc' := 10) (l' := jSto1 L1128 2 (.int (i32 (r1131)))) (st' := []) rfl rfl ?_
    obtain ⟨L1154, eL1154⟩ : ∃ q, q = jSto1 L1128 2 (.int (i32 (r1131))) := ⟨_, rfl⟩
    rw [← eL1154]
    have gL1154_0 : jGet L1154 0 = some (.ref 66) := eL1154 ▸ jg_ne (by decide) gL1128_0 rfl
    have gL1154_1 : jGet L1154 1 = some (.int (i32 (G 12))) := eL1154 ▸ jg_ne (by decide) gL1128_1 rfl
    have gL1154_2 : jGet L1154 2 = some (.int (i32 (r1131))) := eL1154 ▸ jg_eq
    refine jx_ld (pc' := 11) (l' := L1154) (st' := [.ref 66]) rfl (jl_aloadn gL1154_0) ?_
    refine jx_vr (pc' := 14) (as := []) (st := []) rfl rfl rfl rfl ⟨rfl, rfl, Nat.le_of_ble_eq_true rfl⟩ rfl rfl (c_bad (dd := d) (hd := by omega) (hW := hW1133)  (fk := fk2_1132) (e_fk := show G1129 16 = fk2_1132 from (e1136))    ) (fun o V' hq => ?_)
    obtain ⟨r1155, rfl, rfl, b1156, q1157⟩ := hq
    refine .inr ⟨_, rfl, ?_⟩
    rcases q1157 with ⟨rfl, a1158⟩ | ⟨rfl, a1159⟩
    · have _q : True := trivial
      exfalso
      omega
    · have _q : True := trivial
      refine jx_if_eq (pc' := 17) (tg := 19) rfl rfl rfl (by decide) (by decide) (fun h1160 => ?_) (fun h1160 => ?_)
      · have _q := h1160
        refine jx_ld (pc' := 20) (l' := L1154) (st' := [.ref 66]) rfl (jl_aloadn gL1154_0) ?_
        refine jr_get (pc' := 23) (i := 21) (v := .ref 74) rfl rfl (by decide) rfl rfl ?_
        refine jx_ld (pc' := 24) (l' := L1154) (st' := [.int (i32 (r1131)), .ref 74]) rfl (jl_iloadn gL1154_2) ?_
        have b1161 : (0 : Int) ≤ A 7 (r1131).toNat ∧ A 7 (r1131).toNat ≤ 14 := hW.2 7 _
        refine jr_ldv (pc' := 25) (i := 7) (m := 260) (z := r1131) (y := A 7 (r1131).toNat) rfl (by decide) rfl (by decide) (by omega) (by omega) rfl (show A1130 7 (r1131).toNat = A 7 (r1131).toNat from (congrFun (hF1134.2 7 rfl) _)) ?_
        refine jx_ld (pc' := 26) (l' := jSto1 L1154 3 (.int (i32 (A 7 (r1131).toNat)))) (st' := []) rfl rfl ?_
        obtain ⟨L1162, eL1162⟩ : ∃ q, q = jSto1 L1154 3 (.int (i32 (A 7 (r1131).toNat))) := ⟨_, rfl⟩
        rw [← eL1162]
        have gL1162_0 : jGet L1162 0 = some (.ref 66) := eL1162 ▸ jg_ne (by decide) gL1154_0 rfl
        have gL1162_1 : jGet L1162 1 = some (.int (i32 (G 12))) := eL1162 ▸ jg_ne (by decide) gL1154_1 rfl
        have gL1162_2 : jGet L1162 2 = some (.int (i32 (r1131))) := eL1162 ▸ jg_ne (by decide) gL1154_2 rfl
        have gL1162_3 : jGet L1162 3 = some (.int (i32 (A 7 (r1131).toNat))) := eL1162 ▸ jg_eq
        refine jx_ld (pc' := 27) (l' := L1162) (st' := [.ref 66]) rfl (jl_aloadn gL1162_0) ?_
        refine jx_vr (pc' := 30) (as := []) (st := []) rfl rfl rfl rfl ⟨rfl, rfl, Nat.le_of_ble_eq_true rfl⟩ rfl rfl (c_next (dd := d) (hd := by omega) (hW := hW1133)  (ln := ln) (e_ln := show G1129 9 = ln from ((hF1134.1 9 rfl).trans (e_ln))) (le := le) (e_le := show A1130 4 (ln).toNat = le from (congrFun (hF1134.2 4 rfl) _).trans (e_le)) (at0 := at0) (e_at0 := show G1129 10 = at0 from ((hF1134.1 10 rfl).trans (e_at0)))    (p_0 := by omega)) (fun o V' hq => ?_)
        obtain ⟨G1163, A1164, at2_1165, tk2_1166, rfl, rfl, hW1167, hF1168, e1169, e1170, p1171, p1172, p1173, -⟩ := hq
        have hF1175 := Fr_tr hF1138 hF1168 (Fr_sub (by decide)) (Fr_sub (by decide))
        have hP1176 := Pf_f hP1139 hF1168 (by decide)
        have ec1177 : ecn A1164 (G1163 31) = ec := (ecn_f (hF1168.2 15 rfl) (hF1168.1 31 rfl)).trans ec1140
        have bat2_1165 : (0 : Int) ≤ at2_1165 ∧ at2_1165 ≤ 3002 := e1169 ▸ hW1167.1 10
        have ztk2_1166 := tz_b tk2_1166
        have btk2_1166 : (0 : Int) ≤ tk2_1166 ∧ tk2_1166 ≤ 5 := e1170 ▸ hW1167.1 11
        refine .inl ⟨rfl, ?_⟩
        refine jx_ld (pc' := 31) (l' := L1162) (st' := [.ref 66]) rfl (jl_aloadn gL1162_0) ?_
        refine jx_ar (pc' := 33) (st' := [.int (i32 (40)), .ref 66]) rfl rfl rfl rfl ?_
        have b1178 : (-2147483648 : Int) ≤ G1163 13 ∧ G1163 13 ≤ 2147483647 := hW1167.1 13
        refine jx_vr (pc' := 36) (as := [.int (i32 (40))]) (st := []) rfl rfl rfl rfl ⟨rfl, rfl, Nat.le_of_ble_eq_true rfl⟩ rfl rfl (c_is (dd := d) (hd := by omega) (hW := hW1167) (k := 40) (tk := tk2_1166) (e_tk := show G1163 11 = tk2_1166 from (e1170)) (tn := G1163 13) (e_tn := show G1163 13 = G1163 13 from rfl)  (h_k := ⟨(by decide), (by decide)⟩)  ) (fun o V' hq => ?_)
        obtain ⟨r1179, rfl, rfl, b1180, q1181⟩ := hq
        refine .inr ⟨_, rfl, ?_⟩
        rcases q1181 with ⟨rfl, a1182, a1183, a1184⟩ | rfl
        · have _q : True := trivial
          refine jx_if_eq (pc' := 39) (tg := 59) rfl rfl rfl (by decide) (by decide) (fun h1185 => ?_) (fun h1185 => ?_)
          · have _q := h1185
            exact absurd h1185 (by omega)
          · have _q := h1185
            refine jx_ld (pc' := 40) (l' := L1162) (st' := [.int (i32 (A 7 (r1131).toNat))]) rfl (jl_iloadn gL1162_3) ?_
            refine jx_ar (pc' := 42) (st' := [.int (i32 (14)), .int (i32 (A 7 (r1131).toNat))]) rfl rfl rfl rfl ?_
            refine jx_icmp_eq (pc' := 45) (tg := 53) rfl rfl rfl (Int.le_trans (by decide : (-2147483648 : Int) ≤ 0) b1161.1) (Int.le_trans b1161.2 (by decide : (14 : Int) ≤ 2147483647)) (by decide) (by decide) (fun h1186 => ?_) (fun h1186 => ?_)
            · have _q := h1186
              refine jx_ld (pc' := 54) (l' := L1162) (st' := [.ref 66]) rfl (jl_aloadn gL1162_0) ?_
              refine jx_ld (pc' := 55) (l' := L1162) (st' := [.int (i32 (r1131)), .ref 66]) rfl (jl_iloadn gL1162_2) ?_
              have b1187 : (0 : Int) ≤ A 12 (r1131).toNat ∧ A 12 (r1131).toNat ≤ 24 := hW.2 12 _
              have b1188 : (0 : Int) ≤ A 30 (A 12 (r1131).toNat).toNat ∧ A 30 (A 12 (r1131).toNat).toNat ≤ 6 := hW.2 30 _
              have b1189 : (0 : Int) ≤ A 29 (A 12 (r1131).toNat).toNat ∧ A 29 (A 12 (r1131).toNat).toNat ≤ 202 := hW.2 29 _
              refine jx_vr (pc' := 58) (as := [.int (i32 (r1131))]) (st := []) rfl rfl rfl rfl ⟨rfl, rfl, Nat.le_of_ble_eq_true rfl⟩ rfl rfl (c_readCall_w (dd := d) (hd := by omega) (hW := hW1167) (s := r1131) (ln := ln) (e_ln := show G1163 9 = ln from ((hF1168.1 9 rfl).trans ((hF1134.1 9 rfl).trans (e_ln)))) (le := le) (e_le := show A1164 4 (ln).toNat = le from (congrFun ((hF1168.2 4 rfl).trans (hF1134.2 4 rfl)) _).trans (e_le)) (at0 := at2_1165) (e_at0 := show G1163 10 = at2_1165 from (e1169)) (fk := fk2_1132) (e_fk := show G1163 16 = fk2_1132 from ((hF1168.1 16 rfl).trans (e1136))) (op0 := op0) (e_op0 := show G1163 15 = op0 from ((hF1168.1 15 rfl).trans ((hF1134.1 15 rfl).trans (e_op0)))) (nd := nd) (e_nd := show G1163 31 = nd from ((hF1168.1 31 rfl).trans ((hF1134.1 31 rfl).trans (e_nd)))) (tk0 := tk2_1166) (e_tk0 := show G1163 11 = tk2_1166 from (e1170)) (li := li) (e_li := show G1163 3 = li from ((hF1168.1 3 rfl).trans ((hF1134.1 3 rfl).trans (e_li)))) (kd := A 7 (r1131).toNat) (e_kd := show A1164 7 (r1131).toNat = A 7 (r1131).toNat from (congrFun ((hF1168.2 7 rfl).trans (hF1134.2 7 rfl)) _)) (nu := A 12 (r1131).toNat) (e_nu := show A1164 12 (r1131).toNat = A 12 (r1131).toNat from (congrFun ((hF1168.2 12 rfl).trans (hF1134.2 12 rfl)) _)) (mp := A 30 (A 12 (r1131).toNat).toNat) (e_mp := show A1164 30 (A 12 (r1131).toNat).toNat = A 30 (A 12 (r1131).toNat).toNat from (congrFun ((hF1168.2 30 rfl).trans (hF1134.2 30 rfl)) _)) (pp := A 29 (A 12 (r1131).toNat).toNat) (e_pp := show A1164 29 (A 12 (r1131).toNat).toNat = A 29 (A 12 (r1131).toNat).toNat from (congrFun ((hF1168.2 29 rfl).trans (hF1134.2 29 rfl)) _)) (ec := ec) (e_ec := show ecn A1164 (G1163 31) = ec from ec1177) (i_SV := (SV_ext (((hF1168.1 29 rfl).trans (hF1134.1 29 rfl))) (((hF1168.2 14 rfl).trans (hF1134.2 14 rfl))) i_SV)) (i_PQ := (PQ_ext (((hF1168.2 7 rfl).trans (hF1134.2 7 rfl))) (((hF1168.2 12 rfl).trans (hF1134.2 12 rfl))) (((hF1168.2 29 rfl).trans (hF1134.2 29 rfl))) (((hF1168.2 30 rfl).trans (hF1134.2 30 rfl))) i_PQ)) (h_s := ⟨(Int.le_trans (by decide : (-2147483648 : Int) ≤ -2147483648) b1135.1), (Int.le_trans b1135.2 (by decide : (2147483647 : Int) ≤ 2147483647))⟩)  (p_0 := by omega) (p_1 := by omega) (p_2 := by omega) (p_3 := by omega) (p_4 := by omega) (p_5 := by omega) (p_6 := by omega) (p_7 := by omega) (p_8 := a1146)) (fun o V' hq => ?_)
              obtain ⟨G1190, A1191, r1192, at2_1193, fk2_1194, nd2_1195, ln2_1196, ec2_1197, rfl, rfl, hW1198, hF1199, hQ1200, b1201, e1202, e1203, e1204, e1205, e1206, p1207, p1208, p1209, p1210, p1211, q1212⟩ := hq
              have hF1213 := Fr_tr hF1175 hF1199 (Fr_sub (by decide)) (Fr_sub (by decide))
              have hP1214 := Pf_tr hP1176 hQ1200 (by omega)
              have bat2_1193 : (0 : Int) ≤ at2_1193 ∧ at2_1193 ≤ 3002 := e1202 ▸ hW1198.1 10
              have bfk2_1194 : (0 : Int) ≤ fk2_1194 ∧ fk2_1194 ≤ 6 := e1203 ▸ hW1198.1 16
              have bnd2_1195 : (0 : Int) ≤ nd2_1195 ∧ nd2_1195 ≤ 6999 := e1204 ▸ hW1198.1 31
              have bln2_1196 : (0 : Int) ≤ ln2_1196 ∧ ln2_1196 ≤ 3000 := e1205 ▸ hW1198.1 9
              refine .inr ⟨_, rfl, ?_⟩
              rcases q1212 with ⟨a1215, a1216, a1217⟩ | ⟨a1218, a1219, a1220, a1221, a1222, a1223, a1224, a1225, a1226⟩
              · have _q : True := trivial
                refine jx_rt (v := some (.int (i32 (r1192)))) rfl rfl rfl rfl rfl rfl ?_
                exact ⟨_, _, _, at2_1193, fk2_1194, nd2_1195, ln2_1196, ec2_1197, rfl, rfl, hW1198, hF1213, hP1214, by omega, (e1202), (e1203), (e1204), (e1205), e1206, by omega, by omega, by omega, by omega, by omega, by first | exact Or.inl (⟨by omega, by omega, by omega⟩)⟩
              · have _q : True := trivial
                refine jx_rt (v := some (.int (i32 (r1192)))) rfl rfl rfl rfl rfl rfl ?_
                exact ⟨_, _, _, at2_1193, fk2_1194, nd2_1195, ln2_1196, ec2_1197, rfl, rfl, hW1198, hF1213, hP1214, by omega, (e1202), (e1203), (e1204), (e1205), e1206, by omega, by omega, by omega, by omega, by omega, by first | exact Or.inr ((⟨by omega, by omega, by omega, by omega, by omega, a1223, a1224, by omega, by omega⟩))⟩
            · have _q := h1186
              refine jx_ld (pc' := 46) (l' := L1162) (st' := [.ref 66]) rfl (jl_aloadn gL1162_0) ?_
              refine jx_ar (pc' := 47) (st' := [.int (i32 (4)), .ref 66]) rfl rfl rfl rfl ?_
              refine jx_ld (pc' := 48) (l' := L1162) (st' := [.int (i32 (G 12)), .int (i32 (4)), .ref 66]) rfl (jl_iloadn gL1162_1) ?_
              refine jx_vr (pc' := 51) (as := [.int (i32 (4)), .int (i32 (G 12))]) (st := []) rfl rfl rfl rfl ⟨rfl, rfl, Nat.le_of_ble_eq_true rfl⟩ rfl rfl (c_fail (dd := d) (hd := by omega) (hW := hW1167) (kind := 4) (place := G 12) (fk := fk2_1132) (e_fk := show G1163 16 = fk2_1132 from ((hF1168.1 16 rfl).trans (e1136)))  (h_kind := ⟨(by decide), (by decide)⟩) (h_place := ⟨(Int.le_trans (by decide : (-2147483648 : Int) ≤ -3000) b1127.1), (Int.le_trans b1127.2 (by decide : (3002 : Int) ≤ 2147483647))⟩)  (p_0 := by omega) (p_1 := by omega)) (fun o V' hq => ?_)
              obtain ⟨G1227, A1228, fk2_1229, rfl, rfl, hW1230, hF1231, e1232, p1233, -⟩ := hq
              have hF1235 := Fr_tr hF1175 hF1231 (Fr_sub (by decide)) (Fr_sub (by decide))
              have hP1236 := Pf_f hP1176 hF1231 (by decide)
              have ec1237 : ecn A1228 (G1227 31) = ec := (ecn_f (hF1231.2 15 rfl) (hF1231.1 31 rfl)).trans ec1177
              have bfk2_1229 : (0 : Int) ≤ fk2_1229 ∧ fk2_1229 ≤ 6 := e1232 ▸ hW1230.1 16
              refine .inl ⟨rfl, ?_⟩
              refine jx_ar (pc' := 52) (st' := [.int (i32 (0))]) rfl rfl rfl rfl ?_
              refine jx_rt (v := some (.int (i32 (0)))) rfl rfl rfl rfl rfl rfl ?_
              exact ⟨_, _, _, at2_1165, fk2_1229, nd, ln, ec, rfl, rfl, hW1230, hF1235, hP1236, by omega, ((hF1231.1 10 rfl).trans (e1169)), (e1232), ((hF1231.1 31 rfl).trans ((hF1168.1 31 rfl).trans ((hF1134.1 31 rfl).trans (e_nd)))), ((hF1231.1 9 rfl).trans ((hF1168.1 9 rfl).trans ((hF1134.1 9 rfl).trans (e_ln)))), ec1237, by omega, by omega, by omega, by omega, by omega, by first | exact Or.inl (⟨by omega, by omega, by omega⟩)⟩
        · have _q : True := trivial
          refine jx_if_eq (pc' := 39) (tg := 59) rfl rfl rfl (by decide) (by decide) (fun h1238 => ?_) (fun h1238 => ?_)
          · have _q := h1238
            refine jx_ar (pc' := 60) (st' := [.int (i32 (0))]) rfl rfl rfl rfl ?_
            refine jx_ld (pc' := 62) (l' := jSto1 L1162 4 (.int (i32 (0)))) (st' := []) rfl rfl ?_
            obtain ⟨L1239, eL1239⟩ : ∃ q, q = jSto1 L1162 4 (.int (i32 (0))) := ⟨_, rfl⟩
            rw [← eL1239]
            have gL1239_0 : jGet L1239 0 = some (.ref 66) := eL1239 ▸ jg_ne (by decide) gL1162_0 rfl
            have gL1239_1 : jGet L1239 1 = some (.int (i32 (G 12))) := eL1239 ▸ jg_ne (by decide) gL1162_1 rfl
            have gL1239_2 : jGet L1239 2 = some (.int (i32 (r1131))) := eL1239 ▸ jg_ne (by decide) gL1162_2 rfl
            have gL1239_3 : jGet L1239 3 = some (.int (i32 (A 7 (r1131).toNat))) := eL1239 ▸ jg_ne (by decide) gL1162_3 rfl
            have gL1239_4 : jGet L1239 4 = some (.int (i32 (0))) := eL1239 ▸ jg_eq
            refine jx_ld (pc' := 63) (l' := L1239) (st' := [.ref 66]) rfl (jl_aloadn gL1239_0) ?_
            refine jx_ar (pc' := 65) (st' := [.int (i32 (91)), .ref 66]) rfl rfl rfl rfl ?_
            refine jx_vr (pc' := 68) (as := [.int (i32 (91))]) (st := []) rfl rfl rfl rfl ⟨rfl, rfl, Nat.le_of_ble_eq_true rfl⟩ rfl rfl (c_is (dd := d) (hd := by omega) (hW := hW1167) (k := 91) (tk := tk2_1166) (e_tk := show G1163 11 = tk2_1166 from (e1170)) (tn := G1163 13) (e_tn := show G1163 13 = G1163 13 from rfl)  (h_k := ⟨(by decide), (by decide)⟩)  ) (fun o V' hq => ?_)
            obtain ⟨r1240, rfl, rfl, b1241, q1242⟩ := hq
            refine .inr ⟨_, rfl, ?_⟩
            rcases q1242 with ⟨rfl, a1243, a1244, a1245⟩ | rfl
            · have _q : True := trivial
              refine jx_ld (pc' := 70) (l' := jSto1 L1239 5 (.int (i32 (1)))) (st' := []) rfl rfl ?_
              obtain ⟨L1246, eL1246⟩ : ∃ q, q = jSto1 L1239 5 (.int (i32 (1))) := ⟨_, rfl⟩
              rw [← eL1246]
              have gL1246_0 : jGet L1246 0 = some (.ref 66) := eL1246 ▸ jg_ne (by decide) gL1239_0 rfl
              have gL1246_1 : jGet L1246 1 = some (.int (i32 (G 12))) := eL1246 ▸ jg_ne (by decide) gL1239_1 rfl
              have gL1246_2 : jGet L1246 2 = some (.int (i32 (r1131))) := eL1246 ▸ jg_ne (by decide) gL1239_2 rfl
              have gL1246_3 : jGet L1246 3 = some (.int (i32 (A 7 (r1131).toNat))) := eL1246 ▸ jg_ne (by decide) gL1239_3 rfl
              have gL1246_4 : jGet L1246 4 = some (.int (i32 (0))) := eL1246 ▸ jg_ne (by decide) gL1239_4 rfl
              have gL1246_5 : jGet L1246 5 = some (.int (i32 (1))) := eL1246 ▸ jg_eq
              refine jx_ld (pc' := 72) (l' := L1246) (st' := [.int (i32 (1))]) rfl (jl_iload gL1246_5) ?_
              refine jx_if_eq (pc' := 75) (tg := 110) rfl rfl rfl (by decide) (by decide) (fun h1247 => ?_) (fun h1247 => ?_)
              · have _q := h1247
                exact absurd h1247 (by omega)
              · have _q := h1247
                refine jx_ld (pc' := 76) (l' := L1246) (st' := [.int (i32 (A 7 (r1131).toNat))]) rfl (jl_iloadn gL1246_3) ?_
                refine jx_st (pc' := 79) (as := [.int (i32 (A 7 (r1131).toNat))]) (st := []) rfl rfl ⟨rfl, Nat.le_of_ble_eq_true rfl⟩ rfl rfl rfl (c_isArray (dd := d) (hd := by omega) (k := A 7 (r1131).toNat)   (h_k := ⟨(Int.le_trans (by decide : (-2147483648 : Int) ≤ 0) b1161.1), (Int.le_trans b1161.2 (by decide : (14 : Int) ≤ 2147483647))⟩)  ) (fun o V' hq => ?_)
                obtain ⟨r1248, rfl, rfl, b1249, q1250⟩ := hq
                refine .inr ⟨_, rfl, ?_⟩
                rcases q1250 with ⟨rfl, a1251⟩ | rfl
                · have _q : True := trivial
                  refine jx_if_ne (pc' := 82) (tg := 95) rfl rfl rfl (by decide) (by decide) (fun h1252 => ?_) (fun h1252 => ?_)
                  · have _q := h1252
                    refine jx_ld (pc' := 96) (l' := L1246) (st' := [.ref 66]) rfl (jl_aloadn gL1246_0) ?_
                    refine jx_vr (pc' := 99) (as := []) (st := []) rfl rfl rfl rfl ⟨rfl, rfl, Nat.le_of_ble_eq_true rfl⟩ rfl rfl (c_readIndex_w (dd := d) (k := 9) (hE := RE_all X 9) (hd := by omega) (hW := hW1167)  (ln := ln) (e_ln := show G1163 9 = ln from ((hF1168.1 9 rfl).trans ((hF1134.1 9 rfl).trans (e_ln)))) (le := le) (e_le := show A1164 4 (ln).toNat = le from (congrFun ((hF1168.2 4 rfl).trans (hF1134.2 4 rfl)) _).trans (e_le)) (at0 := at2_1165) (e_at0 := show G1163 10 = at2_1165 from (e1169)) (fk := fk2_1132) (e_fk := show G1163 16 = fk2_1132 from ((hF1168.1 16 rfl).trans (e1136))) (op0 := op0) (e_op0 := show G1163 15 = op0 from ((hF1168.1 15 rfl).trans ((hF1134.1 15 rfl).trans (e_op0)))) (nd := nd) (e_nd := show G1163 31 = nd from ((hF1168.1 31 rfl).trans ((hF1134.1 31 rfl).trans (e_nd)))) (tk0 := tk2_1166) (e_tk0 := show G1163 11 = tk2_1166 from (e1170)) (ec := ec) (e_ec := show ecn A1164 (G1163 31) = ec from ec1177) (i_SV := (SV_ext (((hF1168.1 29 rfl).trans (hF1134.1 29 rfl))) (((hF1168.2 14 rfl).trans (hF1134.2 14 rfl))) i_SV))   (p_0 := by omega) (p_1 := by omega) (p_2 := by omega) (p_3 := by omega) (p_4 := by omega) (p_5 := by omega) (p_6 := by omega) (p_7 := by omega) (p_8 := by omega)) (fun o V' hq => ?_)
                    obtain ⟨G1253, A1254, r1255, at2_1256, fk2_1257, op2_1258, nd2_1259, tk2_1260, ec2_1261, rfl, rfl, hW1262, hF1263, hQ1264, b1265, e1266, e1267, e1268, e1269, e1270, e1271, p1272, p1273, p1274, p1275, p1276, p1277, q1278⟩ := hq
                    have hF1279 := Fr_tr hF1175 hF1263 (Fr_sub (by decide)) (Fr_sub (by decide))
                    have hP1280 := Pf_tr hP1176 hQ1264 (by omega)
                    have bat2_1256 : (0 : Int) ≤ at2_1256 ∧ at2_1256 ≤ 3002 := e1266 ▸ hW1262.1 10
                    have bfk2_1257 : (0 : Int) ≤ fk2_1257 ∧ fk2_1257 ≤ 6 := e1267 ▸ hW1262.1 16
                    have bop2_1258 : (-2147483648 : Int) ≤ op2_1258 ∧ op2_1258 ≤ 2147483647 := e1268 ▸ hW1262.1 15
                    have bnd2_1259 : (0 : Int) ≤ nd2_1259 ∧ nd2_1259 ≤ 6999 := e1269 ▸ hW1262.1 31
                    have ztk2_1260 := tz_b tk2_1260
                    have btk2_1260 : (0 : Int) ≤ tk2_1260 ∧ tk2_1260 ≤ 5 := e1270 ▸ hW1262.1 11
                    refine .inr ⟨_, rfl, ?_⟩
                    rcases q1278 with ⟨a1281, a1282, a1283⟩ | ⟨a1284, a1285, a1286, a1287, a1288⟩
                    · have _q : True := trivial
                      refine jx_ld (pc' := 101) (l' := jSto1 L1246 4 (.int (i32 (r1255)))) (st' := []) rfl rfl ?_
                      obtain ⟨L1289, eL1289⟩ : ∃ q, q = jSto1 L1246 4 (.int (i32 (r1255))) := ⟨_, rfl⟩
                      rw [← eL1289]
                      have gL1289_0 : jGet L1289 0 = some (.ref 66) := eL1289 ▸ jg_ne (by decide) gL1246_0 rfl
                      have gL1289_1 : jGet L1289 1 = some (.int (i32 (G 12))) := eL1289 ▸ jg_ne (by decide) gL1246_1 rfl
                      have gL1289_2 : jGet L1289 2 = some (.int (i32 (r1131))) := eL1289 ▸ jg_ne (by decide) gL1246_2 rfl
                      have gL1289_3 : jGet L1289 3 = some (.int (i32 (A 7 (r1131).toNat))) := eL1289 ▸ jg_ne (by decide) gL1246_3 rfl
                      have gL1289_5 : jGet L1289 5 = some (.int (i32 (1))) := eL1289 ▸ jg_ne (by decide) gL1246_5 rfl
                      have gL1289_4 : jGet L1289 4 = some (.int (i32 (r1255))) := eL1289 ▸ jg_eq
                      refine jx_ld (pc' := 102) (l' := L1289) (st' := [.ref 66]) rfl (jl_aloadn gL1289_0) ?_
                      refine jx_vr (pc' := 105) (as := []) (st := []) rfl rfl rfl rfl ⟨rfl, rfl, Nat.le_of_ble_eq_true rfl⟩ rfl rfl (c_bad (dd := d) (hd := by omega) (hW := hW1262)  (fk := fk2_1257) (e_fk := show G1253 16 = fk2_1257 from (e1267))    ) (fun o V' hq => ?_)
                      obtain ⟨r1290, rfl, rfl, b1291, q1292⟩ := hq
                      refine .inr ⟨_, rfl, ?_⟩
                      rcases q1292 with ⟨rfl, a1293⟩ | ⟨rfl, a1294⟩
                      · have _q : True := trivial
                        refine jx_if_eq (pc' := 108) (tg := 110) rfl rfl rfl (by decide) (by decide) (fun h1295 => ?_) (fun h1295 => ?_)
                        · have _q := h1295
                          exact absurd h1295 (by omega)
                        · have _q := h1295
                          refine jx_ar (pc' := 109) (st' := [.int (i32 (0))]) rfl rfl rfl rfl ?_
                          refine jx_rt (v := some (.int (i32 (0)))) rfl rfl rfl rfl rfl rfl ?_
                          exact ⟨_, _, _, at2_1256, fk2_1257, nd2_1259, ln, ec2_1261, rfl, rfl, hW1262, hF1279, hP1280, by omega, (e1266), (e1267), (e1269), ((hF1263.1 9 rfl).trans ((hF1168.1 9 rfl).trans ((hF1134.1 9 rfl).trans (e_ln)))), e1271, by omega, by omega, by omega, by omega, by omega, by first | exact Or.inl (⟨by omega, by omega, by omega⟩)⟩
                      · have _q : True := trivial
                        exfalso
                        omega
                    · have _q : True := trivial
                      refine jx_ld (pc' := 101) (l' := jSto1 L1246 4 (.int (i32 (r1255)))) (st' := []) rfl rfl ?_
                      obtain ⟨L1296, eL1296⟩ : ∃ q, q = jSto1 L1246 4 (.int (i32 (r1255))) := ⟨_, rfl⟩
                      rw [← eL1296]
                      have gL1296_0 : jGet L1296 0 = some (.ref 66) := eL1296 ▸ jg_ne (by decide) gL1246_0 rfl
                      have gL1296_1 : jGet L1296 1 = some (.int (i32 (G 12))) := eL1296 ▸ jg_ne (by decide) gL1246_1 rfl
                      have gL1296_2 : jGet L1296 2 = some (.int (i32 (r1131))) := eL1296 ▸ jg_ne (by decide) gL1246_2 rfl
                      have gL1296_3 : jGet L1296 3 = some (.int (i32 (A 7 (r1131).toNat))) := eL1296 ▸ jg_ne (by decide) gL1246_3 rfl
                      have gL1296_5 : jGet L1296 5 = some (.int (i32 (1))) := eL1296 ▸ jg_ne (by decide) gL1246_5 rfl
                      have gL1296_4 : jGet L1296 4 = some (.int (i32 (r1255))) := eL1296 ▸ jg_eq
                      refine jx_ld (pc' := 102) (l' := L1296) (st' := [.ref 66]) rfl (jl_aloadn gL1296_0) ?_
                      refine jx_vr (pc' := 105) (as := []) (st := []) rfl rfl rfl rfl ⟨rfl, rfl, Nat.le_of_ble_eq_true rfl⟩ rfl rfl (c_bad (dd := d) (hd := by omega) (hW := hW1262)  (fk := fk2_1257) (e_fk := show G1253 16 = fk2_1257 from (e1267))    ) (fun o V' hq => ?_)
                      obtain ⟨r1297, rfl, rfl, b1298, q1299⟩ := hq
                      refine .inr ⟨_, rfl, ?_⟩
                      rcases q1299 with ⟨rfl, a1300⟩ | ⟨rfl, a1301⟩
                      · have _q : True := trivial
                        exfalso
                        omega
                      · have _q : True := trivial
                        refine jx_if_eq (pc' := 108) (tg := 110) rfl rfl rfl (by decide) (by decide) (fun h1302 => ?_) (fun h1302 => ?_)
                        · have _q := h1302
                          have z1303 := tz_f (tk2_1260)
                          exact c_readNamed_w_at_110_1 (X := X) (d := d) (Vs := Vs) (sb := sb) (pb := pb) (c0 := c0) (c1 := c1) (G := G) (A := A) (T := T) (ln := ln) (le := le) (at0 := at0) (fk := fk) (op0 := op0) (nd := nd) (tk0 := tk0) (li := li) (ec := ec) (hd := hd) (hW := hW) (e_ln := e_ln) (e_le := e_le) (e_at0 := e_at0) (e_fk := e_fk) (e_op0 := e_op0) (e_nd := e_nd) (e_tk0 := e_tk0) (e_li := e_li) (e_ec := e_ec) (i_SV := i_SV) (i_PQ := i_PQ) (p_0 := p_0) (p_1 := p_1) (p_2 := p_2) (p_3 := p_3) (p_4 := p_4) (p_5 := p_5) L1296 G1253 A1254 (G 12) (r1131) (r1255) (at2_1256) (tk2_1260) (fk2_1257) (nd2_1259) (op2_1258) (A 7 (r1131).toNat) (ec2_1261) gL1296_0 gL1296_5 gL1296_3 gL1296_1 gL1296_2 gL1296_4 hW1262 hF1279 hP1280 ((e1266)) ((e1270)) ((e1267)) ((e1269)) ((e1268)) ((congrFun ((hF1263.2 7 rfl).trans ((hF1168.2 7 rfl).trans (hF1134.2 7 rfl))) _)) (e1271) (((hF1263.1 9 rfl).trans ((hF1168.1 9 rfl).trans ((hF1134.1 9 rfl).trans (e_ln))))) (by omega) (by omega) (by omega) (by omega) (by omega) (by omega) (by omega) (by omega) (by omega) (by omega) (by omega) (a1146) ((wE_mono (by omega) (by omega) (by omega) a1287)) (by omega) (by omega)
                        · have _q := h1302
                          exact absurd h1302 (by omega)
                  · have _q := h1252
                    exact absurd h1252 (by omega)
                · have _q : True := trivial
                  refine jx_if_ne (pc' := 82) (tg := 95) rfl rfl rfl (by decide) (by decide) (fun h1304 => ?_) (fun h1304 => ?_)
                  · have _q := h1304
                    exact absurd h1304 (by omega)
                  · have _q := h1304
                    refine jx_ld (pc' := 83) (l' := L1246) (st' := [.int (i32 (A 7 (r1131).toNat))]) rfl (jl_iloadn gL1246_3) ?_
                    refine jx_ar (pc' := 84) (st' := [.int (i32 (4)), .int (i32 (A 7 (r1131).toNat))]) rfl rfl rfl rfl ?_
                    refine jx_icmp_eq (pc' := 87) (tg := 95) rfl rfl rfl (Int.le_trans (by decide : (-2147483648 : Int) ≤ 0) b1161.1) (Int.le_trans b1161.2 (by decide : (14 : Int) ≤ 2147483647)) (by decide) (by decide) (fun h1305 => ?_) (fun h1305 => ?_)
                    · have _q := h1305
                      refine jx_ld (pc' := 96) (l' := L1246) (st' := [.ref 66]) rfl (jl_aloadn gL1246_0) ?_
                      refine jx_vr (pc' := 99) (as := []) (st := []) rfl rfl rfl rfl ⟨rfl, rfl, Nat.le_of_ble_eq_true rfl⟩ rfl rfl (c_readIndex_w (dd := d) (k := 9) (hE := RE_all X 9) (hd := by omega) (hW := hW1167)  (ln := ln) (e_ln := show G1163 9 = ln from ((hF1168.1 9 rfl).trans ((hF1134.1 9 rfl).trans (e_ln)))) (le := le) (e_le := show A1164 4 (ln).toNat = le from (congrFun ((hF1168.2 4 rfl).trans (hF1134.2 4 rfl)) _).trans (e_le)) (at0 := at2_1165) (e_at0 := show G1163 10 = at2_1165 from (e1169)) (fk := fk2_1132) (e_fk := show G1163 16 = fk2_1132 from ((hF1168.1 16 rfl).trans (e1136))) (op0 := op0) (e_op0 := show G1163 15 = op0 from ((hF1168.1 15 rfl).trans ((hF1134.1 15 rfl).trans (e_op0)))) (nd := nd) (e_nd := show G1163 31 = nd from ((hF1168.1 31 rfl).trans ((hF1134.1 31 rfl).trans (e_nd)))) (tk0 := tk2_1166) (e_tk0 := show G1163 11 = tk2_1166 from (e1170)) (ec := ec) (e_ec := show ecn A1164 (G1163 31) = ec from ec1177) (i_SV := (SV_ext (((hF1168.1 29 rfl).trans (hF1134.1 29 rfl))) (((hF1168.2 14 rfl).trans (hF1134.2 14 rfl))) i_SV))   (p_0 := by omega) (p_1 := by omega) (p_2 := by omega) (p_3 := by omega) (p_4 := by omega) (p_5 := by omega) (p_6 := by omega) (p_7 := by omega) (p_8 := by omega)) (fun o V' hq => ?_)
                      obtain ⟨G1306, A1307, r1308, at2_1309, fk2_1310, op2_1311, nd2_1312, tk2_1313, ec2_1314, rfl, rfl, hW1315, hF1316, hQ1317, b1318, e1319, e1320, e1321, e1322, e1323, e1324, p1325, p1326, p1327, p1328, p1329, p1330, q1331⟩ := hq
                      have hF1332 := Fr_tr hF1175 hF1316 (Fr_sub (by decide)) (Fr_sub (by decide))
                      have hP1333 := Pf_tr hP1176 hQ1317 (by omega)
                      have bat2_1309 : (0 : Int) ≤ at2_1309 ∧ at2_1309 ≤ 3002 := e1319 ▸ hW1315.1 10
                      have bfk2_1310 : (0 : Int) ≤ fk2_1310 ∧ fk2_1310 ≤ 6 := e1320 ▸ hW1315.1 16
                      have bop2_1311 : (-2147483648 : Int) ≤ op2_1311 ∧ op2_1311 ≤ 2147483647 := e1321 ▸ hW1315.1 15
                      have bnd2_1312 : (0 : Int) ≤ nd2_1312 ∧ nd2_1312 ≤ 6999 := e1322 ▸ hW1315.1 31
                      have ztk2_1313 := tz_b tk2_1313
                      have btk2_1313 : (0 : Int) ≤ tk2_1313 ∧ tk2_1313 ≤ 5 := e1323 ▸ hW1315.1 11
                      refine .inr ⟨_, rfl, ?_⟩
                      rcases q1331 with ⟨a1334, a1335, a1336⟩ | ⟨a1337, a1338, a1339, a1340, a1341⟩
                      · have _q : True := trivial
                        refine jx_ld (pc' := 101) (l' := jSto1 L1246 4 (.int (i32 (r1308)))) (st' := []) rfl rfl ?_
                        obtain ⟨L1342, eL1342⟩ : ∃ q, q = jSto1 L1246 4 (.int (i32 (r1308))) := ⟨_, rfl⟩
                        rw [← eL1342]
                        have gL1342_0 : jGet L1342 0 = some (.ref 66) := eL1342 ▸ jg_ne (by decide) gL1246_0 rfl
                        have gL1342_1 : jGet L1342 1 = some (.int (i32 (G 12))) := eL1342 ▸ jg_ne (by decide) gL1246_1 rfl
                        have gL1342_2 : jGet L1342 2 = some (.int (i32 (r1131))) := eL1342 ▸ jg_ne (by decide) gL1246_2 rfl
                        have gL1342_3 : jGet L1342 3 = some (.int (i32 (A 7 (r1131).toNat))) := eL1342 ▸ jg_ne (by decide) gL1246_3 rfl
                        have gL1342_5 : jGet L1342 5 = some (.int (i32 (1))) := eL1342 ▸ jg_ne (by decide) gL1246_5 rfl
                        have gL1342_4 : jGet L1342 4 = some (.int (i32 (r1308))) := eL1342 ▸ jg_eq
                        refine jx_ld (pc' := 102) (l' := L1342) (st' := [.ref 66]) rfl (jl_aloadn gL1342_0) ?_
                        refine jx_vr (pc' := 105) (as := []) (st := []) rfl rfl rfl rfl ⟨rfl, rfl, Nat.le_of_ble_eq_true rfl⟩ rfl rfl (c_bad (dd := d) (hd := by omega) (hW := hW1315)  (fk := fk2_1310) (e_fk := show G1306 16 = fk2_1310 from (e1320))    ) (fun o V' hq => ?_)
                        obtain ⟨r1343, rfl, rfl, b1344, q1345⟩ := hq
                        refine .inr ⟨_, rfl, ?_⟩
                        rcases q1345 with ⟨rfl, a1346⟩ | ⟨rfl, a1347⟩
                        · have _q : True := trivial
                          refine jx_if_eq (pc' := 108) (tg := 110) rfl rfl rfl (by decide) (by decide) (fun h1348 => ?_) (fun h1348 => ?_)
                          · have _q := h1348
                            exact absurd h1348 (by omega)
                          · have _q := h1348
                            refine jx_ar (pc' := 109) (st' := [.int (i32 (0))]) rfl rfl rfl rfl ?_
                            refine jx_rt (v := some (.int (i32 (0)))) rfl rfl rfl rfl rfl rfl ?_
                            exact ⟨_, _, _, at2_1309, fk2_1310, nd2_1312, ln, ec2_1314, rfl, rfl, hW1315, hF1332, hP1333, by omega, (e1319), (e1320), (e1322), ((hF1316.1 9 rfl).trans ((hF1168.1 9 rfl).trans ((hF1134.1 9 rfl).trans (e_ln)))), e1324, by omega, by omega, by omega, by omega, by omega, by first | exact Or.inl (⟨by omega, by omega, by omega⟩)⟩
                        · have _q : True := trivial
                          exfalso
                          omega
                      · have _q : True := trivial
                        refine jx_ld (pc' := 101) (l' := jSto1 L1246 4 (.int (i32 (r1308)))) (st' := []) rfl rfl ?_
                        obtain ⟨L1349, eL1349⟩ : ∃ q, q = jSto1 L1246 4 (.int (i32 (r1308))) := ⟨_, rfl⟩
                        rw [← eL1349]
                        have gL1349_0 : jGet L1349 0 = some (.ref 66) := eL1349 ▸ jg_ne (by decide) gL1246_0 rfl
                        have gL1349_1 : jGet L1349 1 = some (.int (i32 (G 12))) := eL1349 ▸ jg_ne (by decide) gL1246_1 rfl
                        have gL1349_2 : jGet L1349 2 = some (.int (i32 (r1131))) := eL1349 ▸ jg_ne (by decide) gL1246_2 rfl
                        have gL1349_3 : jGet L1349 3 = some (.int (i32 (A 7 (r1131).toNat))) := eL1349 ▸ jg_ne (by decide) gL1246_3 rfl
                        have gL1349_5 : jGet L1349 5 = some (.int (i32 (1))) := eL1349 ▸ jg_ne (by decide) gL1246_5 rfl
                        have gL1349_4 : jGet L1349 4 = some (.int (i32 (r1308))) := eL1349 ▸ jg_eq
                        refine jx_ld (pc' := 102) (l' := L1349) (st' := [.ref 66]) rfl (jl_aloadn gL1349_0) ?_
                        refine jx_vr (pc' := 105) (as := []) (st := []) rfl rfl rfl rfl ⟨rfl, rfl, Nat.le_of_ble_eq_true rfl⟩ rfl rfl (c_bad (dd := d) (hd := by omega) (hW := hW1315)  (fk := fk2_1310) (e_fk := show G1306 16 = fk2_1310 from (e1320))    ) (fun o V' hq => ?_)
                        obtain ⟨r1350, rfl, rfl, b1351, q1352⟩ := hq
                        refine .inr ⟨_, rfl, ?_⟩
                        rcases q1352 with ⟨rfl, a1353⟩ | ⟨rfl, a1354⟩
                        · have _q : True := trivial
                          exfalso
                          omega
                        · have _q : True := trivial
                          refine jx_if_eq (pc' := 108) (tg := 110) rfl rfl rfl (by decide) (by decide) (fun h1355 => ?_) (fun h1355 => ?_)
                          · have _q := h1355
                            have z1356 := tz_f (tk2_1313)
                            exact c_readNamed_w_at_110_1 (X := X) (d := d) (Vs := Vs) (sb := sb) (pb := pb) (c0 := c0) (c1 := c1) (G := G) (A := A) (T := T) (ln := ln) (le := le) (at0 := at0) (fk := fk) (op0 := op0) (nd := nd) (tk0 := tk0) (li := li) (ec := ec) (hd := hd) (hW := hW) (e_ln := e_ln) (e_le := e_le) (e_at0 := e_at0) (e_fk := e_fk) (e_op0 := e_op0) (e_nd := e_nd) (e_tk0 := e_tk0) (e_li := e_li) (e_ec := e_ec) (i_SV := i_SV) (i_PQ := i_PQ) (p_0 := p_0) (p_1 := p_1) (p_2 := p_2) (p_3 := p_3) (p_4 := p_4) (p_5 := p_5) L1349 G1306 A1307 (G 12) (r1131) (r1308) (at2_1309) (tk2_1313) (fk2_1310) (nd2_1312) (op2_1311) (A 7 (r1131).toNat) (ec2_1314) gL1349_0 gL1349_5 gL1349_3 gL1349_1 gL1349_2 gL1349_4 hW1315 hF1332 hP1333 ((e1319)) ((e1323)) ((e1320)) ((e1322)) ((e1321)) ((congrFun ((hF1316.2 7 rfl).trans ((hF1168.2 7 rfl).trans (hF1134.2 7 rfl))) _)) (e1324) (((hF1316.1 9 rfl).trans ((hF1168.1 9 rfl).trans ((hF1134.1 9 rfl).trans (e_ln))))) (by omega) (by omega) (by omega) (by omega) (by omega) (by omega) (by omega) (by omega) (by omega) (by omega) (by omega) (a1146) ((wE_mono (by omega) (by omega) (by omega) a1340)) (by omega) (by omega)
                          · have _q := h1355
                            exact absurd h1355 (by omega)
                    · have _q := h1305
                      refine jx_ld (pc' := 88) (l' := L1246) (st' := [.ref 66]) rfl (jl_aloadn gL1246_0) ?_
                      refine jx_ar (pc' := 89) (st' := [.int (i32 (4)), .ref 66]) rfl rfl rfl rfl ?_
                      refine jx_ld (pc' := 90) (l' := L1246) (st' := [.int (i32 (G 12)), .int (i32 (4)), .ref 66]) rfl (jl_iloadn gL1246_1) ?_
                      refine jx_vr (pc' := 93) (as := [.int (i32 (4)), .int (i32 (G 12))]) (st := []) rfl rfl rfl rfl ⟨rfl, rfl, Nat.le_of_ble_eq_true rfl⟩ rfl rfl (c_fail (dd := d) (hd := by omega) (hW := hW1167) (kind := 4) (place := G 12) (fk := fk2_1132) (e_fk := show G1163 16 = fk2_1132 from ((hF1168.1 16 rfl).trans (e1136)))  (h_kind := ⟨(by decide), (by decide)⟩) (h_place := ⟨(Int.le_trans (by decide : (-2147483648 : Int) ≤ -3000) b1127.1), (Int.le_trans b1127.2 (by decide : (3002 : Int) ≤ 2147483647))⟩)  (p_0 := by omega) (p_1 := by omega)) (fun o V' hq => ?_)
                      obtain ⟨G1357, A1358, fk2_1359, rfl, rfl, hW1360, hF1361, e1362, p1363, -⟩ := hq
                      have hF1365 := Fr_tr hF1175 hF1361 (Fr_sub (by decide)) (Fr_sub (by decide))
                      have hP1366 := Pf_f hP1176 hF1361 (by decide)
                      have ec1367 : ecn A1358 (G1357 31) = ec := (ecn_f (hF1361.2 15 rfl) (hF1361.1 31 rfl)).trans ec1177
                      have bfk2_1359 : (0 : Int) ≤ fk2_1359 ∧ fk2_1359 ≤ 6 := e1362 ▸ hW1360.1 16
                      refine .inl ⟨rfl, ?_⟩
                      refine jx_ar (pc' := 94) (st' := [.int (i32 (0))]) rfl rfl rfl rfl ?_
                      refine jx_rt (v := some (.int (i32 (0)))) rfl rfl rfl rfl rfl rfl ?_
                      exact ⟨_, _, _, at2_1165, fk2_1359, nd, ln, ec, rfl, rfl, hW1360, hF1365, hP1366, by omega, ((hF1361.1 10 rfl).trans (e1169)), (e1362), ((hF1361.1 31 rfl).trans ((hF1168.1 31 rfl).trans ((hF1134.1 31 rfl).trans (e_nd)))), ((hF1361.1 9 rfl).trans ((hF1168.1 9 rfl).trans ((hF1134.1 9 rfl).trans (e_ln)))), ec1367, by omega, by omega, by omega, by omega, by omega, by first | exact Or.inl (⟨by omega, by omega, by omega⟩)⟩
            · have _q : True := trivial
              refine jx_ld (pc' := 70) (l' := jSto1 L1239 5 (.int (i32 (0)))) (st' := []) rfl rfl ?_
              obtain ⟨L1368, eL1368⟩ : ∃ q, q = jSto1 L1239 5 (.int (i32 (0))) := ⟨_, rfl⟩
              rw [← eL1368]
              have gL1368_0 : jGet L1368 0 = some (.ref 66) := eL1368 ▸ jg_ne (by decide) gL1239_0 rfl
              have gL1368_1 : jGet L1368 1 = some (.int (i32 (G 12))) := eL1368 ▸ jg_ne (by decide) gL1239_1 rfl
              have gL1368_2 : jGet L1368 2 = some (.int (i32 (r1131))) := eL1368 ▸ jg_ne (by decide) gL1239_2 rfl
              have gL1368_3 : jGet L1368 3 = some (.int (i32 (A 7 (r1131).toNat))) := eL1368 ▸ jg_ne (by decide) gL1239_3 rfl
              have gL1368_4 : jGet L1368 4 = some (.int (i32 (0))) := eL1368 ▸ jg_ne (by decide) gL1239_4 rfl
              have gL1368_5 : jGet L1368 5 = some (.int (i32 (0))) := eL1368 ▸ jg_eq
              refine jx_ld (pc' := 72) (l' := L1368) (st' := [.int (i32 (0))]) rfl (jl_iload gL1368_5) ?_
              refine jx_if_eq (pc' := 75) (tg := 110) rfl rfl rfl (by decide) (by decide) (fun h1369 => ?_) (fun h1369 => ?_)
              · have _q := h1369
                have z1370 := tz_f (tk2_1166)
                exact c_readNamed_w_at_110_0 (X := X) (d := d) (Vs := Vs) (sb := sb) (pb := pb) (c0 := c0) (c1 := c1) (G := G) (A := A) (T := T) (ln := ln) (le := le) (at0 := at0) (fk := fk) (op0 := op0) (nd := nd) (tk0 := tk0) (li := li) (ec := ec) (hd := hd) (hW := hW) (e_ln := e_ln) (e_le := e_le) (e_at0 := e_at0) (e_fk := e_fk) (e_op0 := e_op0) (e_nd := e_nd) (e_tk0 := e_tk0) (e_li := e_li) (e_ec := e_ec) (i_SV := i_SV) (i_PQ := i_PQ) (p_0 := p_0) (p_1 := p_1) (p_2 := p_2) (p_3 := p_3) (p_4 := p_4) (p_5 := p_5) L1368 G1163 A1164 (G 12) (r1131) (at2_1165) (tk2_1166) (fk2_1132) (nd) (op0) (A 7 (r1131).toNat) (ec) gL1368_0 gL1368_5 gL1368_3 gL1368_4 gL1368_1 gL1368_2 hW1167 hF1175 hP1176 ((e1169)) ((e1170)) (((hF1168.1 16 rfl).trans (e1136))) (((hF1168.1 31 rfl).trans ((hF1134.1 31 rfl).trans (e_nd)))) (((hF1168.1 15 rfl).trans ((hF1134.1 15 rfl).trans (e_op0)))) ((congrFun ((hF1168.2 7 rfl).trans (hF1134.2 7 rfl)) _)) (ec1177) (((hF1168.1 9 rfl).trans ((hF1134.1 9 rfl).trans (e_ln)))) (by omega) (by omega) (by omega) (by omega) (by omega) (by omega) (by omega) (by omega) (by omega) (by omega) (a1146) (by omega) (by omega)
              · have _q := h1369
                exact absurd h1369 (by omega)
          · have _q := h1238
            exact absurd h1238 (by omega)
      · have _q := h1160
        exact absurd h1160 (by omega)
