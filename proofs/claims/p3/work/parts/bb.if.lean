set_option maxRecDepth 20000 in
set_option maxHeartbeats 4000000 in
theorem c_readIf_w_at_21 {X : jX} {k : Nat} (hP : RPw X k) {d : Nat} {Vs : Nat → Prop} {sb pb : Int} (hvb : VB Vs sb) {c0 c1 : jC} {G : Nat → Int} {A : Nat → Nat → Int} {T : jH} {lv : Int} {ln li at0 fk nd sy na vi le op0 tk0 ec : Int} (hd : 8 * k + 82 ≤ d + 1) (hW : Wk G A) (e_ln : G 9 = ln) (e_li : G 3 = li) (e_at0 : G 10 = at0) (e_fk : G 16 = fk) (e_nd : G 31 = nd) (e_sy : G 19 = sy) (e_na : G 28 = na) (e_vi : G 29 = vi) (e_le : A 4 (ln).toNat = le) (e_op0 : G 15 = op0) (e_tk0 : G 11 = tk0) (e_ec : ecn A (G 31) = ec) (i_LT : LT G A) (i_SV : SV Vs sb G A) (i_PQ : PQ Vs sb pb G A) (h_lv : (-2147483648 : Int) ≤ lv ∧ lv ≤ 2147483647) (p_0 : 0 ≤ lv ∧ lv ≤ 15) (p_1 : 18 - lv ≤ ((k + 1 : Nat) : Int)) (p_2 : fk = 0) (p_3 : ln < li) (p_4 : at0 ≤ le) (p_5 : op0 = 0) (p_6 : nd ≤ 2 * at0 - tz tk0 + 30) (p_7 : sy ≤ na + 2) (p_8 : vi ≤ sy) (p_9 : sb = sy) (p_10 : 1 ≤ tk0) : ∀ (m : Nat) (L : jL) (Gx : Nat → Int) (Ax : Nat → Nat → Int) (n last ln1 at1 fk1 nd1 sy1 na1 vi1 lf1 ec1 : Int), (li - ln1).toNat = m → jGet L 0 = some (.ref 66) → jGet L 1 = some (.int (i32 (lv))) → jGet L 2 = some (.int (i32 n)) → jGet L 3 = some (.int (i32 last)) → Wk Gx Ax → Fr [9, 10, 11, 12, 13, 14, 15, 16, 17, 18, 19, 28, 29, 31] [6, 7, 8, 9, 10, 11, 12, 14, 15, 16, 17, 18, 19, 20, 21, 22, 23, 24, 28] G A Gx Ax → Pf nd A Ax → Fx sr (sy) A Ax → Fx [14] (vi) A Ax → Gx 9 = ln1 → Gx 10 = at1 → Gx 16 = fk1 → Gx 31 = nd1 → Gx 19 = sy1 → Gx 28 = na1 → Gx 29 = vi1 → Ax 3 (ln1).toNat = lf1 → ecn Ax (Gx 31) = ec1 → ((-2147483648 : Int) ≤ n ∧ n ≤ 2147483647) → ((-2147483648 : Int) ≤ last ∧ last ≤ 2147483647) → (fk1 = 0) → (at0 ≤ at1) → (nd ≤ n ∧ n ≤ 6998 ∧ n < nd1) → (sy ≤ sy1) → (sy1 ≤ na1 + 2) → (vi1 = vi) → (ln < ln1) → (ln1 ≤ li) → (nd1 - nd ≤ 2 * at1 - (2 * at0 - tz tk0)) → (at1 < lf1 ∨ li ≤ ln1) → (n = nd) → (0 ≤ last ∧ last ≤ 6998) → (last = 0 ∨ n < last) → (last < nd1) → (ND Ax (n) (30) (0) (0) (0) (0) (Ax 21 (n).toNat) (0)) → (CI 1 Ax (sy1) pb (k) (Vs) (n) (last) (n + 1) (nd1) (sy) (sy1)) → (nd1 - nd + 5 * (ec1 - ec) ≤ 2 * at1 - (2 * at0 - tz tk0)) → (NdM Ax (nd) (nd1) (sy)) → wj X d jm301 (21, L, [], rV c0 c1 Gx Ax T) (fun o V_q => ∃ (G_q : Nat → Int) (A_q : Nat → Nat → Int) (r : Int) (ln2 : Int) (at2 : Int) (fk2 : Int) (nd2 : Int) (sy2 : Int) (na2 : Int) (vi2 : Int) (lf2 : Int) (ec2 : Int), V_q = rV c0 c1 G_q A_q T ∧ o = .inl (some (.int (i32 r))) ∧ Wk G_q A_q ∧ Fr [9, 10, 11, 12, 13, 14, 15, 16, 17, 18, 19, 28, 29, 31] [6, 7, 8, 9, 10, 11, 12, 14, 15, 16, 17, 18, 19, 20, 21, 22, 23, 24, 28] G A G_q A_q ∧ Pf nd A A_q ∧ Fx sr (sy) A A_q ∧ Fx [14] (vi) A A_q ∧ ((-2147483648 : Int) ≤ r ∧ r ≤ 2147483647) ∧ G_q 9 = ln2 ∧ G_q 10 = at2 ∧ G_q 16 = fk2 ∧ G_q 31 = nd2 ∧ G_q 19 = sy2 ∧ G_q 28 = na2 ∧ G_q 29 = vi2 ∧ A_q 3 (ln2).toNat = lf2 ∧ ecn A_q (G_q 31) = ec2 ∧ (at0 ≤ at2) ∧ (nd ≤ nd2) ∧ (sy ≤ sy2) ∧ (sy2 ≤ na2 + 2) ∧ (vi ≤ vi2) ∧ (vi2 ≤ vi + 1) ∧ (0 ≤ r) ∧ (r ≤ 6999) ∧ (ln ≤ ln2) ∧ (ln2 ≤ li) ∧ (((1 ≤ fk2) ∧ (nd2 - nd ≤ 2 * at2 - (2 * at0 - tz tk0) + 14)) ∨ ((fk2 = 0) ∧ (vi2 = vi) ∧ (ln < ln2) ∧ (nd2 - nd ≤ 2 * at2 - (2 * at0 - tz tk0)) ∧ (at2 < lf2 ∨ li ≤ ln2) ∧ (nd ≤ r) ∧ (r < nd2) ∧ (wSt A_q (sy2) pb (wP A_q (sy2) pb (k)) (Vs) (r) (nd) (nd2) (sy) (sy2)) ∧ (NX A_q (r)) ∧ (nd2 - nd + 5 * (ec2 - ec) ≤ 2 * at2 - (2 * at0 - tz tk0)) ∧ (NdM A_q (nd) (nd2) (sy))))) := by
  have hF0 : Fr [9, 10, 11, 12, 13, 14, 15, 16, 17, 18, 19, 28, 29, 31] [6, 7, 8, 9, 10, 11, 12, 14, 15, 16, 17, 18, 19, 20, 21, 22, 23, 24, 28] G A G A := Fr_rf
  have hP0 : Pf nd A A := Pf_rf
  have hS0 : Fx sr (sy) A A := Fx_rf
  have hV0 : Fx [14] (vi) A A := Fx_rf
  have b_ln : (0 : Int) ≤ ln ∧ ln ≤ 3000 := e_ln ▸ hW.1 9
  have b_li : (0 : Int) ≤ li ∧ li ≤ 3000 := e_li ▸ hW.1 3
  have b_at0 : (0 : Int) ≤ at0 ∧ at0 ≤ 3002 := e_at0 ▸ hW.1 10
  have b_fk : (0 : Int) ≤ fk ∧ fk ≤ 6 := e_fk ▸ hW.1 16
  have b_nd : (0 : Int) ≤ nd ∧ nd ≤ 6999 := e_nd ▸ hW.1 31
  have b_sy : (0 : Int) ≤ sy ∧ sy ≤ 202 := e_sy ▸ hW.1 19
  have b_na : (0 : Int) ≤ na ∧ na ≤ 200 := e_na ▸ hW.1 28
  have b_vi : (0 : Int) ≤ vi ∧ vi ≤ 202 := e_vi ▸ hW.1 29
  have b_le : (0 : Int) ≤ le ∧ le ≤ 3000 := e_le ▸ hW.2 4 _
  have b_op0 : (-2147483648 : Int) ≤ op0 ∧ op0 ≤ 2147483647 := e_op0 ▸ hW.1 15
  have z_tk0 := tz_f tk0
  have b_tk0 : (0 : Int) ≤ tk0 ∧ tk0 ≤ 5 := e_tk0 ▸ hW.1 11
  intro m
  induction m using Nat.strongRecOn with
  | ind m ih21 =>
    intro L Gx Ax n last ln1 at1 fk1 nd1 sy1 na1 vi1 lf1 ec1 hm gL_0 gL_1 gL_2 gL_3 hWx hFx hPx hSx hVx ex_ln1 ex_at1 ex_fk1 ex_nd1 ex_sy1 ex_na1 ex_vi1 ex_lf1 ex_ec1 rx_n rx_last iv_0 iv_1 iv_2 iv_3 iv_4 iv_5 iv_6 iv_7 iv_8 iv_9 iv_10 iv_11 iv_12 iv_13 iv_14 iv_15 iv_16 iv_17
    have b_ln1 : (0 : Int) ≤ ln1 ∧ ln1 ≤ 3000 := ex_ln1 ▸ hWx.1 9
    have b_at1 : (0 : Int) ≤ at1 ∧ at1 ≤ 3002 := ex_at1 ▸ hWx.1 10
    have b_fk1 : (0 : Int) ≤ fk1 ∧ fk1 ≤ 6 := ex_fk1 ▸ hWx.1 16
    have b_nd1 : (0 : Int) ≤ nd1 ∧ nd1 ≤ 6999 := ex_nd1 ▸ hWx.1 31
    have b_sy1 : (0 : Int) ≤ sy1 ∧ sy1 ≤ 202 := ex_sy1 ▸ hWx.1 19
    have b_na1 : (0 : Int) ≤ na1 ∧ na1 ≤ 200 := ex_na1 ▸ hWx.1 28
    have b_vi1 : (0 : Int) ≤ vi1 ∧ vi1 ≤ 202 := ex_vi1 ▸ hWx.1 29
    refine jx_ld (pc_q := 22) (l_q := L) (st_q := [.ref 66]) rfl (jl_aloadn gL_0) ?_
    refine jx_ld (pc_q := 23) (l_q := L) (st_q := [.int (i32 (lv)), .ref 66]) rfl (jl_iloadn gL_1) ?_
    have b1 : (-1 : Int) ≤ A 5 (ln1).toNat ∧ A 5 (ln1).toNat ≤ 15 := hW.2 5 _
    refine jx_vr (pc_q := 26) (as := [.int (i32 (lv))]) (st := []) rfl rfl rfl rfl ⟨rfl, rfl, Nat.le_of_ble_eq_true rfl⟩ rfl rfl (c_isBelow (dd := d) (hd := by omega) (hW := hWx) (lv := lv) (ln := ln1) (e_ln := show Gx 9 = ln1 from (ex_ln1)) (li := li) (e_li := show Gx 3 = li from ((hFx.1 3 rfl).trans (e_li))) (fk := fk1) (e_fk := show Gx 16 = fk1 from (ex_fk1)) (ll := A 5 (ln1).toNat) (e_ll := show Ax 5 (ln1).toNat = A 5 (ln1).toNat from (congrFun (hFx.2 5 rfl) _))  (h_lv := ⟨(Int.le_trans (by decide : (-2147483648 : Int) ≤ -2147483648) h_lv.1), (Int.le_trans h_lv.2 (by decide : (2147483647 : Int) ≤ 2147483647))⟩)  (p_0 := by omega)) (fun o V_q hq => ?_)
    obtain ⟨G2, A3, r4, fk2_5, rfl, rfl, hW6, hF7, b8, e9, q10⟩ := hq
    have hF11 := Fr_tr hFx hF7 (Fr_sub (by decide)) (Fr_sub (by decide))
    have hP12 := Pf_f hPx hF7 (by decide)
    have hS13 := Fx_f hSx hF7 (by decide)
    have hV14 := Fx_f hVx hF7 (by decide)
    have sf15 : ND A3 (n) (30) (0) (0) (0) (0) (Ax 21 (n).toNat) (0) := ND_ag (by omega) (Ag_fr hF7 (by decide)) iv_14
    have sf16 : CI 1 A3 (sy1) pb (k) (Vs) (n) (last) (n + 1) (nd1) (sy) (sy1) := CI_ag (by omega) (by omega) (Sg_fr hF7 (by decide)) (Qg_fr hF7 (by decide)) (Ag_fr hF7 (by decide)) (congrFun (hF7.2 21 rfl) _) iv_15
    have sf17 : NdM A3 (nd) (nd1) (sy) := NdM_f hF7 (by decide) iv_17
    have ec18 : ecn A3 (G2 31) = ec1 := (ecn_f (hF7.2 15 rfl) (hF7.1 31 rfl)).trans ex_ec1
    have bfk2_5 : (0 : Int) ≤ fk2_5 ∧ fk2_5 ≤ 6 := e9 ▸ hW6.1 16
    refine .inr ⟨_, rfl, ?_⟩
    rcases q10 with ⟨rfl, a19, a20, a21, a22⟩ | ⟨rfl, a23⟩ | ⟨rfl, a24, a25, a26⟩
    · have _q : True := trivial
      have b27 : (0 : Int) ≤ A 4 (ln1).toNat ∧ A 4 (ln1).toNat ≤ 3000 := hW.2 4 _
      have lt28 : lf1 < A 4 (ln1).toNat := LT_at (LT_ext (((hF7.1 3 rfl).trans (hFx.1 3 rfl))) (((hF7.2 3 rfl).trans (hFx.2 3 rfl))) (((hF7.2 4 rfl).trans (hFx.2 4 rfl))) i_LT) (show G2 3 = li from ((hF7.1 3 rfl).trans ((hFx.1 3 rfl).trans (e_li)))) (show A3 3 (ln1).toNat = lf1 from (congrFun (hF7.2 3 rfl) _).trans (ex_lf1)) (show A3 4 (ln1).toNat = A 4 (ln1).toNat from (congrFun ((hF7.2 4 rfl).trans (hFx.2 4 rfl)) _)) (by omega) (by omega)
      refine jx_if_eq (pc_q := 29) (tg := 112) rfl rfl rfl (by decide) (by decide) (fun h29 => ?_) (fun h29 => ?_)
      · have _q := h29
        exact absurd h29 (by omega)
      · have _q := h29
        refine jx_ld (pc_q := 30) (l_q := L) (st_q := [.ref 66]) rfl (jl_aloadn gL_0) ?_
        refine jx_vr (pc_q := 33) (as := []) (st := []) rfl rfl rfl rfl ⟨rfl, rfl, Nat.le_of_ble_eq_true rfl⟩ rfl rfl (c_openLine (dd := d) (hd := by omega) (hW := hW6)  (ln := ln1) (e_ln := show G2 9 = ln1 from ((hF7.1 9 rfl).trans (ex_ln1))) (le := A 4 (ln1).toNat) (e_le := show A3 4 (ln1).toNat = A 4 (ln1).toNat from (congrFun ((hF7.2 4 rfl).trans (hFx.2 4 rfl)) _)) (lf := lf1) (e_lf := show A3 3 (ln1).toNat = lf1 from (congrFun (hF7.2 3 rfl) _).trans (ex_lf1))    (p_0 := by omega)) (fun o V_q hq => ?_)
        obtain ⟨G30, A31, at2_32, tk2_33, op2_34, rfl, rfl, hW35, hF36, e37, e38, e39, p40, p41, p42, p43, -⟩ := hq
        have hF45 := Fr_tr hF11 hF36 (Fr_sub (by decide)) (Fr_sub (by decide))
        have hP46 := Pf_f hP12 hF36 (by decide)
        have hS47 := Fx_f hS13 hF36 (by decide)
        have hV48 := Fx_f hV14 hF36 (by decide)
        have sf49 : ND A31 (n) (30) (0) (0) (0) (0) (Ax 21 (n).toNat) (0) := ND_ag (by omega) (Ag_fr hF36 (by decide)) sf15
        have sf50 : CI 1 A31 (sy1) pb (k) (Vs) (n) (last) (n + 1) (nd1) (sy) (sy1) := CI_ag (by omega) (by omega) (Sg_fr hF36 (by decide)) (Qg_fr hF36 (by decide)) (Ag_fr hF36 (by decide)) (congrFun (hF36.2 21 rfl) _) sf16
        have sf51 : NdM A31 (nd) (nd1) (sy) := NdM_f hF36 (by decide) sf17
        have ec52 : ecn A31 (G30 31) = ec1 := (ecn_f (hF36.2 15 rfl) (hF36.1 31 rfl)).trans ec18
        have bat2_32 : (0 : Int) ≤ at2_32 ∧ at2_32 ≤ 3002 := e37 ▸ hW35.1 10
        have ztk2_33 := tz_b tk2_33
        have btk2_33 : (0 : Int) ≤ tk2_33 ∧ tk2_33 ≤ 5 := e38 ▸ hW35.1 11
        have bop2_34 : (-2147483648 : Int) ≤ op2_34 ∧ op2_34 ≤ 2147483647 := e39 ▸ hW35.1 15
        refine .inl ⟨rfl, ?_⟩
        have pz53 : lf1 + tz tk2_33 ≤ at2_32 := by omega
        refine jx_ld (pc_q := 34) (l_q := L) (st_q := [.ref 66]) rfl (jl_aloadn gL_0) ?_
        refine jx_ar (pc_q := 36) (st_q := [.int (i32 (34)), .ref 66]) rfl rfl rfl rfl ?_
        refine jx_ar (pc_q := 37) (st_q := [.int (i32 (0)), .int (i32 (34)), .ref 66]) rfl rfl rfl rfl ?_
        refine jx_ar (pc_q := 38) (st_q := [.int (i32 (0)), .int (i32 (0)), .int (i32 (34)), .ref 66]) rfl rfl rfl rfl ?_
        refine jx_ar (pc_q := 39) (st_q := [.int (i32 (0)), .int (i32 (0)), .int (i32 (0)), .int (i32 (34)), .ref 66]) rfl rfl rfl rfl ?_
        refine jx_ar (pc_q := 40) (st_q := [.int (i32 (0)), .int (i32 (0)), .int (i32 (0)), .int (i32 (0)), .int (i32 (34)), .ref 66]) rfl rfl rfl rfl ?_
        refine jx_vr (pc_q := 43) (as := [.int (i32 (34)), .int (i32 (0)), .int (i32 (0)), .int (i32 (0)), .int (i32 (0))]) (st := []) rfl rfl rfl rfl ⟨rfl, rfl, Nat.le_of_ble_eq_true rfl⟩ rfl rfl (c_node_o (dd := d) (hd := by omega) (hW := hW35) (kind := 34) (a := 0) (b := 0) (c := 0) (e := 0) (nd := nd1) (e_nd := show G30 31 = nd1 from ((hF36.1 31 rfl).trans ((hF7.1 31 rfl).trans (ex_nd1)))) (ec := ec1) (e_ec := show ecn A31 (G30 31) = ec1 from ec52) (sy := sy1) (e_sy := show G30 19 = sy1 from ((hF36.1 19 rfl).trans ((hF7.1 19 rfl).trans (ex_sy1))))  (h_kind := ⟨(by decide), (by decide)⟩) (h_a := ⟨(by decide), (by decide)⟩) (h_b := ⟨(by decide), (by decide)⟩) (h_c := ⟨(by decide), (by decide)⟩) (h_e := ⟨(by decide), (by decide)⟩)  (p_0 := by omega) (p_1 := by omega) (p_2 := by omega)) (fun o V_q hq => ?_)
        obtain ⟨G54, A55, nd2_56, ec2_57, rfl, rfl, hW58, hF59, hQ60, e61, e62, p63, p64, p65, p66, -⟩ := hq
        have hF68 := Fr_tr hF45 hF59 (Fr_sub (by decide)) (Fr_sub (by decide))
        have hP69 := Pf_tr hP46 hQ60 (by omega)
        have hS70 := Fx_f hS47 hF59 (by decide)
        have hV71 := Fx_f hV48 hF59 (by decide)
        have sf72 : ND A55 (n) (30) (0) (0) (0) (0) (Ax 21 (n).toNat) (0) := ND_ag (by omega) (Ag_pf hQ60 (by omega)) sf49
        have sf73 : CI 1 A55 (sy1) pb (k) (Vs) (n) (last) (n + 1) (nd1) (sy) (sy1) := CI_ag (by omega) (by omega) (Sg_fr hF59 (by decide)) (Qg_fr hF59 (by decide)) (Ag_pf hQ60 (by omega)) (hQ60 21 _ rfl (by omega)) sf50
        have sf74 : NdM A55 (nd) (nd1) (sy) := NdM_pf hQ60 (by omega) (by omega) sf51
        have bnd2_56 : (0 : Int) ≤ nd2_56 ∧ nd2_56 ≤ 6999 := e61 ▸ hW58.1 31
        refine .inr ⟨_, rfl, ?_⟩
        refine jx_ld (pc_q := 45) (l_q := jSto1 L 4 (.int (i32 (nd1)))) (st_q := []) rfl rfl ?_
        obtain ⟨L75, eL75⟩ : ∃ q, q = jSto1 L 4 (.int (i32 (nd1))) := ⟨_, rfl⟩
        rw [← eL75]
        have gL75_0 : jGet L75 0 = some (.ref 66) := eL75 ▸ jg_ne (by decide) gL_0 rfl
        have gL75_1 : jGet L75 1 = some (.int (i32 (lv))) := eL75 ▸ jg_ne (by decide) gL_1 rfl
        have gL75_2 : jGet L75 2 = some (.int (i32 (n))) := eL75 ▸ jg_ne (by decide) gL_2 rfl
        have gL75_3 : jGet L75 3 = some (.int (i32 (last))) := eL75 ▸ jg_ne (by decide) gL_3 rfl
        have gL75_4 : jGet L75 4 = some (.int (i32 (nd1))) := eL75 ▸ jg_eq
        refine jx_ld (pc_q := 46) (l_q := L75) (st_q := [.ref 66]) rfl (jl_aloadn gL75_0) ?_
        refine jr_get (pc_q := 49) (i := 34) (v := .ref 84) rfl rfl (by decide) rfl rfl ?_
        refine jx_ld (pc_q := 51) (l_q := L75) (st_q := [.int (i32 (nd1)), .ref 84]) rfl (jl_iload gL75_4) ?_
        refine jx_ld (pc_q := 52) (l_q := L75) (st_q := [.ref 66, .int (i32 (nd1)), .ref 84]) rfl (jl_aloadn gL75_0) ?_
        refine jx_vr (pc_q := 55) (as := []) (st := [.int (i32 (nd1)), .ref 84]) rfl rfl rfl rfl ⟨rfl, rfl, Nat.le_of_ble_eq_true rfl⟩ rfl rfl (REw_all X 9 (dd := d) (hd := by omega) (hW := hW58)  (ln := ln1) (e_ln := show G54 9 = ln1 from ((hF59.1 9 rfl).trans ((hF36.1 9 rfl).trans ((hF7.1 9 rfl).trans (ex_ln1))))) (le := A 4 (ln1).toNat) (e_le := show A55 4 (ln1).toNat = A 4 (ln1).toNat from (congrFun ((hF59.2 4 rfl).trans ((hF36.2 4 rfl).trans ((hF7.2 4 rfl).trans (hFx.2 4 rfl)))) _)) (at0 := at2_32) (e_at0 := show G54 10 = at2_32 from ((hF59.1 10 rfl).trans (e37))) (fk := fk2_5) (e_fk := show G54 16 = fk2_5 from ((hF59.1 16 rfl).trans ((hF36.1 16 rfl).trans (e9)))) (op0 := op2_34) (e_op0 := show G54 15 = op2_34 from ((hF59.1 15 rfl).trans (e39))) (nd := nd2_56) (e_nd := show G54 31 = nd2_56 from (e61)) (tk0 := tk2_33) (e_tk0 := show G54 11 = tk2_33 from ((hF59.1 11 rfl).trans (e38))) (ec := ec2_57) (e_ec := show ecn A55 (G54 31) = ec2_57 from e62) (sy := sy1) (e_sy := show G54 19 = sy1 from ((hF59.1 19 rfl).trans ((hF36.1 19 rfl).trans ((hF7.1 19 rfl).trans (ex_sy1))))) (i_SV := (SV_fx i_SV e_vi (show G54 29 = vi1 from ((hF59.1 29 rfl).trans ((hF36.1 29 rfl).trans ((hF7.1 29 rfl).trans (ex_vi1))))) (by omega) hV71))   (p_0 := by omega) (p_1 := by omega) (p_2 := by omega) (p_3 := by omega) (p_4 := by omega) (p_5 := by omega)) (fun o V_q hq => ?_)
        obtain ⟨G76, A77, r78, at2_79, fk2_80, op2_81, nd2_82, tk2_83, ec2_84, rfl, rfl, hW85, hF86, hQ87, b88, e89, e90, e91, e92, e93, e94, p95, p96, p97, p98, p99, p100, q101⟩ := hq
        have hF102 := Fr_tr hF68 hF86 (Fr_sub (by decide)) (Fr_sub (by decide))
        have hP103 := Pf_tr hP69 hQ87 (by omega)
        have hS104 := Fx_f hS70 hF86 (by decide)
        have hV105 := Fx_f hV71 hF86 (by decide)
        have sf106 : ND A77 (n) (30) (0) (0) (0) (0) (Ax 21 (n).toNat) (0) := ND_ag (by omega) (Ag_pf hQ87 (by omega)) sf72
        have sf107 : CI 1 A77 (sy1) pb (k) (Vs) (n) (last) (n + 1) (nd1) (sy) (sy1) := CI_ag (by omega) (by omega) (Sg_fr hF86 (by decide)) (Qg_fr hF86 (by decide)) (Ag_pf hQ87 (by omega)) (hQ87 21 _ rfl (by omega)) sf73
        have sf108 : NdM A77 (nd) (nd1) (sy) := NdM_pf hQ87 (by omega) (by omega) sf74
        have sf109 : ND A77 (nd1) (34) (0) (0) (0) (0) (0) (0) := ND_ag (by omega) (Ag_pf hQ87 (by omega)) p65
        have sf110 : NdM A77 (nd1) (nd1 + 1) (sy1) := NdM_pf hQ87 (by omega) (by omega) p66
        have bat2_79 : (0 : Int) ≤ at2_79 ∧ at2_79 ≤ 3002 := e89 ▸ hW85.1 10
        have bfk2_80 : (0 : Int) ≤ fk2_80 ∧ fk2_80 ≤ 6 := e90 ▸ hW85.1 16
        have bop2_81 : (-2147483648 : Int) ≤ op2_81 ∧ op2_81 ≤ 2147483647 := e91 ▸ hW85.1 15
        have bnd2_82 : (0 : Int) ≤ nd2_82 ∧ nd2_82 ≤ 6999 := e92 ▸ hW85.1 31
        have ztk2_83 := tz_b tk2_83
        have btk2_83 : (0 : Int) ≤ tk2_83 ∧ tk2_83 ≤ 5 := e93 ▸ hW85.1 11
        refine .inr ⟨_, rfl, ?_⟩
        rcases q101 with ⟨a111, a112, a113, a114, a115, a116⟩ | ⟨a117, a118, a119⟩ | ⟨a120, a121, a122, a123, a124, a125, a126, a127⟩
        · have _q : True := trivial
          exfalso
          omega
        · have _q : True := trivial
          refine jr_st (pc_q := 56) (i := 17) (m := 7000) (z := nd1) (y := r78) rfl (by decide) rfl (by decide) (by omega) (by omega) rfl ?_
          have hW129 : Wk G76 (uA A77 17 (nd1).toNat (r78)) := Wk_a hW85 (show (-2147483648 : Int) ≤ r78 by omega) (show r78 ≤ (2147483647 : Int) by omega)
          have hF130 := Fr_a (z := r78) (k := 17) (n := (nd1).toNat) hF102 (by decide)
          obtain ⟨A128, eA128⟩ : ∃ q, q = uA A77 17 (nd1).toNat (r78) := ⟨_, rfl⟩
          rw [← eA128]
          rw [← eA128] at hW129 hF130
          have q131 : A128 17 (nd1).toNat = r78 := by rw [eA128]; exact uA_eq
          have hP132 : Pf nd A A128 := eA128 ▸ Pf_a hP103 (z := nd1) (by omega) (by omega)
          have hS133 : Fx sr (sy) A A128 := eA128 ▸ Fx_n hS104 rfl
          have hV134 : Fx [14] (vi) A A128 := eA128 ▸ Fx_n hV105 rfl
          have sf135 : ND A128 (n) (30) (0) (0) (0) (0) (Ax 21 (n).toNat) (0) := ND_ag (by omega) (Ag_st eA128 (by omega) (by omega)) sf106
          have sf136 : CI 1 A128 (sy1) pb (k) (Vs) (n) (last) (n + 1) (nd1) (sy) (sy1) := CI_ag (by omega) (by omega) (Sg_ne eA128 rfl) (Qg_ne eA128 rfl) (Ag_st eA128 (by omega) (by omega)) ((congrFun ((congrFun eA128 21).trans (uA_ne (by decide))) _)) sf107
          have sf137 : NdM A128 (nd) (nd1) (sy) := NdM_st eA128 (by decide) sf108
          have sf138 : ND A128 (nd1) (34) (r78) (0) (0) (0) (0) (0) := ND_a eA128 sf109
          have sf139 : NdM A128 (nd1) (nd1 + 1) (sy1) := NdM_st eA128 (by decide) sf110
          have ec140 : ecn A128 (G76 31) = ec2_84 := (ecn_e ((congrFun eA128 15).trans (uA_ne (by decide)))).trans e94
          refine jx_ld (pc_q := 57) (l_q := L75) (st_q := [.ref 66]) rfl (jl_aloadn gL75_0) ?_
          refine jx_vr (pc_q := 60) (as := []) (st := []) rfl rfl rfl rfl ⟨rfl, rfl, Nat.le_of_ble_eq_true rfl⟩ rfl rfl (c_endLine (dd := d) (hd := by omega) (hW := hW129)  (ln := ln1) (e_ln := show G76 9 = ln1 from ((hF86.1 9 rfl).trans ((hF59.1 9 rfl).trans ((hF36.1 9 rfl).trans ((hF7.1 9 rfl).trans (ex_ln1)))))) (li := li) (e_li := show G76 3 = li from ((hF86.1 3 rfl).trans ((hF59.1 3 rfl).trans ((hF36.1 3 rfl).trans ((hF7.1 3 rfl).trans ((hFx.1 3 rfl).trans (e_li))))))) (fk := fk2_80) (e_fk := show G76 16 = fk2_80 from (e90)) (tk0 := tk2_83) (e_tk0 := show G76 11 = tk2_83 from (e93))    (p_0 := by omega)) (fun o V_q hq => ?_)
          obtain ⟨G141, A142, ln2_143, fk2_144, rfl, rfl, hW145, hF146, e147, e148, q149⟩ := hq
          have hF150 := Fr_tr hF130 hF146 (Fr_sub (by decide)) (Fr_sub (by decide))
          have hP151 := Pf_f hP132 hF146 (by decide)
          have hS152 := Fx_f hS133 hF146 (by decide)
          have hV153 := Fx_f hV134 hF146 (by decide)
          have sf154 : ND A142 (n) (30) (0) (0) (0) (0) (Ax 21 (n).toNat) (0) := ND_ag (by omega) (Ag_fr hF146 (by decide)) sf135
          have sf155 : CI 1 A142 (sy1) pb (k) (Vs) (n) (last) (n + 1) (nd1) (sy) (sy1) := CI_ag (by omega) (by omega) (Sg_fr hF146 (by decide)) (Qg_fr hF146 (by decide)) (Ag_fr hF146 (by decide)) (congrFun (hF146.2 21 rfl) _) sf136
          have sf156 : NdM A142 (nd) (nd1) (sy) := NdM_f hF146 (by decide) sf137
          have sf157 : ND A142 (nd1) (34) (r78) (0) (0) (0) (0) (0) := ND_ag (by omega) (Ag_fr hF146 (by decide)) sf138
          have sf158 : NdM A142 (nd1) (nd1 + 1) (sy1) := NdM_f hF146 (by decide) sf139
          have ec159 : ecn A142 (G141 31) = ec2_84 := (ecn_f (hF146.2 15 rfl) (hF146.1 31 rfl)).trans ec140
          have bln2_143 : (0 : Int) ≤ ln2_143 ∧ ln2_143 ≤ 3000 := e147 ▸ hW145.1 9
          have bfk2_144 : (0 : Int) ≤ fk2_144 ∧ fk2_144 ≤ 6 := e148 ▸ hW145.1 16
          refine .inl ⟨rfl, ?_⟩
          rcases q149 with ⟨a160, a161, a162, a163, a164⟩ | ⟨a165, a166⟩
          · have _q : True := trivial
            exfalso
            omega
          · have _q : True := trivial
            refine jx_ld (pc_q := 61) (l_q := L75) (st_q := [.ref 66]) rfl (jl_aloadn gL75_0) ?_
            refine jx_vr (pc_q := 64) (as := []) (st := []) rfl rfl rfl rfl ⟨rfl, rfl, Nat.le_of_ble_eq_true rfl⟩ rfl rfl (c_bad (dd := d) (hd := by omega) (hW := hW145)  (fk := fk2_144) (e_fk := show G141 16 = fk2_144 from (e148))    ) (fun o V_q hq => ?_)
            obtain ⟨r167, rfl, rfl, b168, q169⟩ := hq
            refine .inr ⟨_, rfl, ?_⟩
            rcases q169 with ⟨rfl, a170⟩ | ⟨rfl, a171⟩
            · have _q : True := trivial
              refine jx_if_eq (pc_q := 67) (tg := 71) rfl rfl rfl (by decide) (by decide) (fun h172 => ?_) (fun h172 => ?_)
              · have _q := h172
                exact absurd h172 (by omega)
              · have _q := h172
                refine jx_ar (pc_q := 68) (st_q := [.int (i32 (0))]) rfl rfl rfl rfl ?_
                refine jx_go (tg := 78) rfl rfl ?_
                refine jx_ld (pc_q := 80) (l_q := jSto1 L75 5 (.int (i32 (0)))) (st_q := []) rfl rfl ?_
                obtain ⟨L173, eL173⟩ : ∃ q, q = jSto1 L75 5 (.int (i32 (0))) := ⟨_, rfl⟩
                rw [← eL173]
                have gL173_0 : jGet L173 0 = some (.ref 66) := eL173 ▸ jg_ne (by decide) gL75_0 rfl
                have gL173_1 : jGet L173 1 = some (.int (i32 (lv))) := eL173 ▸ jg_ne (by decide) gL75_1 rfl
                have gL173_2 : jGet L173 2 = some (.int (i32 (n))) := eL173 ▸ jg_ne (by decide) gL75_2 rfl
                have gL173_3 : jGet L173 3 = some (.int (i32 (last))) := eL173 ▸ jg_ne (by decide) gL75_3 rfl
                have gL173_4 : jGet L173 4 = some (.int (i32 (nd1))) := eL173 ▸ jg_ne (by decide) gL75_4 rfl
                have gL173_5 : jGet L173 5 = some (.int (i32 (0))) := eL173 ▸ jg_eq
                refine jx_ld (pc_q := 81) (l_q := L173) (st_q := [.ref 66]) rfl (jl_aloadn gL173_0) ?_
                refine jx_vr (pc_q := 84) (as := []) (st := []) rfl rfl rfl rfl ⟨rfl, rfl, Nat.le_of_ble_eq_true rfl⟩ rfl rfl (c_bad (dd := d) (hd := by omega) (hW := hW145)  (fk := fk2_144) (e_fk := show G141 16 = fk2_144 from (e148))    ) (fun o V_q hq => ?_)
                obtain ⟨r174, rfl, rfl, b175, q176⟩ := hq
                refine .inr ⟨_, rfl, ?_⟩
                rcases q176 with ⟨rfl, a177⟩ | ⟨rfl, a178⟩
                · have _q : True := trivial
                  refine jx_if_eq (pc_q := 87) (tg := 89) rfl rfl rfl (by decide) (by decide) (fun h179 => ?_) (fun h179 => ?_)
                  · have _q := h179
                    exact absurd h179 (by omega)
                  · have _q := h179
                    refine jx_ar (pc_q := 88) (st_q := [.int (i32 (0))]) rfl rfl rfl rfl ?_
                    refine jx_rt (v := some (.int (i32 (0)))) rfl rfl rfl rfl rfl rfl ?_
                    exact ⟨_, _, _, ln2_143, at2_79, fk2_144, nd2_82, sy1, na1, vi1, A 3 (ln2_143).toNat, ec2_84, rfl, rfl, hW145, hF150, hP151, hS152, hV153, by omega, (e147), ((hF146.1 10 rfl).trans (e89)), (e148), ((hF146.1 31 rfl).trans (e92)), ((hF146.1 19 rfl).trans ((hF86.1 19 rfl).trans ((hF59.1 19 rfl).trans ((hF36.1 19 rfl).trans ((hF7.1 19 rfl).trans (ex_sy1)))))), ((hF146.1 28 rfl).trans ((hF86.1 28 rfl).trans ((hF59.1 28 rfl).trans ((hF36.1 28 rfl).trans ((hF7.1 28 rfl).trans (ex_na1)))))), ((hF146.1 29 rfl).trans ((hF86.1 29 rfl).trans ((hF59.1 29 rfl).trans ((hF36.1 29 rfl).trans ((hF7.1 29 rfl).trans (ex_vi1)))))), (congrFun ((hF146.2 3 rfl).trans (((congrFun eA128 3).trans (uA_ne (by decide))).trans ((hF86.2 3 rfl).trans ((hF59.2 3 rfl).trans ((hF36.2 3 rfl).trans ((hF7.2 3 rfl).trans (hFx.2 3 rfl))))))) _), ec159, by omega, by omega, by omega, by omega, by omega, by omega, by omega, by omega, by omega, by omega, by first | exact Or.inl (⟨by omega, by omega⟩)⟩
                · have _q : True := trivial
                  exfalso
                  omega
            · have _q : True := trivial
              exfalso
              omega
        · have _q : True := trivial
          refine jr_st (pc_q := 56) (i := 17) (m := 7000) (z := nd1) (y := r78) rfl (by decide) rfl (by decide) (by omega) (by omega) rfl ?_
          have hW181 : Wk G76 (uA A77 17 (nd1).toNat (r78)) := Wk_a hW85 (show (-2147483648 : Int) ≤ r78 by omega) (show r78 ≤ (2147483647 : Int) by omega)
          have hF182 := Fr_a (z := r78) (k := 17) (n := (nd1).toNat) hF102 (by decide)
          obtain ⟨A180, eA180⟩ : ∃ q, q = uA A77 17 (nd1).toNat (r78) := ⟨_, rfl⟩
          rw [← eA180]
          rw [← eA180] at hW181 hF182
          have q183 : A180 17 (nd1).toNat = r78 := by rw [eA180]; exact uA_eq
          have hP184 : Pf nd A A180 := eA180 ▸ Pf_a hP103 (z := nd1) (by omega) (by omega)
          have hS185 : Fx sr (sy) A A180 := eA180 ▸ Fx_n hS104 rfl
          have hV186 : Fx [14] (vi) A A180 := eA180 ▸ Fx_n hV105 rfl
          have sf187 : ND A180 (n) (30) (0) (0) (0) (0) (Ax 21 (n).toNat) (0) := ND_ag (by omega) (Ag_st eA180 (by omega) (by omega)) sf106
          have sf188 : CI 1 A180 (sy1) pb (k) (Vs) (n) (last) (n + 1) (nd1) (sy) (sy1) := CI_ag (by omega) (by omega) (Sg_ne eA180 rfl) (Qg_ne eA180 rfl) (Ag_st eA180 (by omega) (by omega)) ((congrFun ((congrFun eA180 21).trans (uA_ne (by decide))) _)) sf107
          have sf189 : NdM A180 (nd) (nd1) (sy) := NdM_st eA180 (by decide) sf108
          have sf190 : ND A180 (nd1) (34) (r78) (0) (0) (0) (0) (0) := ND_a eA180 sf109
          have sf191 : NdM A180 (nd1) (nd1 + 1) (sy1) := NdM_st eA180 (by decide) sf110
          have sf192 : wE A180 Vs sb (2 * 9 + 2) (r78) (nd2_56) (nd2_82) := wE_ag (by omega) (Sg_ne eA180 rfl) (Ag_st eA180 (by omega) (by omega)) a123
          have sf193 : NdM A180 (nd2_56) (nd2_82) (sy1) := NdM_st eA180 (by decide) a125
          have ec194 : ecn A180 (G76 31) = ec2_84 := (ecn_e ((congrFun eA180 15).trans (uA_ne (by decide)))).trans e94
          refine jx_ld (pc_q := 57) (l_q := L75) (st_q := [.ref 66]) rfl (jl_aloadn gL75_0) ?_
          refine jx_vr (pc_q := 60) (as := []) (st := []) rfl rfl rfl rfl ⟨rfl, rfl, Nat.le_of_ble_eq_true rfl⟩ rfl rfl (c_endLine (dd := d) (hd := by omega) (hW := hW181)  (ln := ln1) (e_ln := show G76 9 = ln1 from ((hF86.1 9 rfl).trans ((hF59.1 9 rfl).trans ((hF36.1 9 rfl).trans ((hF7.1 9 rfl).trans (ex_ln1)))))) (li := li) (e_li := show G76 3 = li from ((hF86.1 3 rfl).trans ((hF59.1 3 rfl).trans ((hF36.1 3 rfl).trans ((hF7.1 3 rfl).trans ((hFx.1 3 rfl).trans (e_li))))))) (fk := fk2_80) (e_fk := show G76 16 = fk2_80 from (e90)) (tk0 := tk2_83) (e_tk0 := show G76 11 = tk2_83 from (e93))    (p_0 := by omega)) (fun o V_q hq => ?_)
          obtain ⟨G195, A196, ln2_197, fk2_198, rfl, rfl, hW199, hF200, e201, e202, q203⟩ := hq
          have hF204 := Fr_tr hF182 hF200 (Fr_sub (by decide)) (Fr_sub (by decide))
          have hP205 := Pf_f hP184 hF200 (by decide)
          have hS206 := Fx_f hS185 hF200 (by decide)
          have hV207 := Fx_f hV186 hF200 (by decide)
          have sf208 : ND A196 (n) (30) (0) (0) (0) (0) (Ax 21 (n).toNat) (0) := ND_ag (by omega) (Ag_fr hF200 (by decide)) sf187
          have sf209 : CI 1 A196 (sy1) pb (k) (Vs) (n) (last) (n + 1) (nd1) (sy) (sy1) := CI_ag (by omega) (by omega) (Sg_fr hF200 (by decide)) (Qg_fr hF200 (by decide)) (Ag_fr hF200 (by decide)) (congrFun (hF200.2 21 rfl) _) sf188
          have sf210 : NdM A196 (nd) (nd1) (sy) := NdM_f hF200 (by decide) sf189
          have sf211 : ND A196 (nd1) (34) (r78) (0) (0) (0) (0) (0) := ND_ag (by omega) (Ag_fr hF200 (by decide)) sf190
          have sf212 : NdM A196 (nd1) (nd1 + 1) (sy1) := NdM_f hF200 (by decide) sf191
          have sf213 : wE A196 Vs sb (2 * 9 + 2) (r78) (nd2_56) (nd2_82) := wE_ag (by omega) (Sg_fr hF200 (by decide)) (Ag_fr hF200 (by decide)) sf192
          have sf214 : NdM A196 (nd2_56) (nd2_82) (sy1) := NdM_f hF200 (by decide) sf193
          have ec215 : ecn A196 (G195 31) = ec2_84 := (ecn_f (hF200.2 15 rfl) (hF200.1 31 rfl)).trans ec194
          have bln2_197 : (0 : Int) ≤ ln2_197 ∧ ln2_197 ≤ 3000 := e201 ▸ hW199.1 9
          have bfk2_198 : (0 : Int) ≤ fk2_198 ∧ fk2_198 ≤ 6 := e202 ▸ hW199.1 16
          refine .inl ⟨rfl, ?_⟩
          rcases q203 with ⟨a216, a217, a218, a219, a220⟩ | ⟨a221, a222⟩
          · have _q : True := trivial
            have b223 : (0 : Int) ≤ A 3 (ln2_197).toNat ∧ A 3 (ln2_197).toNat ≤ 3000 := hW.2 3 _
            have lt224 : ln2_197 < li → A 4 (ln1).toNat < A 3 (ln2_197).toNat := fun hh => LT_nx (LT_ext (((hF200.1 3 rfl).trans ((hF86.1 3 rfl).trans ((hF59.1 3 rfl).trans ((hF36.1 3 rfl).trans ((hF7.1 3 rfl).trans (hFx.1 3 rfl))))))) (((hF200.2 3 rfl).trans (((congrFun eA180 3).trans (uA_ne (by decide))).trans ((hF86.2 3 rfl).trans ((hF59.2 3 rfl).trans ((hF36.2 3 rfl).trans ((hF7.2 3 rfl).trans (hFx.2 3 rfl)))))))) (((hF200.2 4 rfl).trans (((congrFun eA180 4).trans (uA_ne (by decide))).trans ((hF86.2 4 rfl).trans ((hF59.2 4 rfl).trans ((hF36.2 4 rfl).trans ((hF7.2 4 rfl).trans (hFx.2 4 rfl)))))))) i_LT) (show G195 3 = li from ((hF200.1 3 rfl).trans ((hF86.1 3 rfl).trans ((hF59.1 3 rfl).trans ((hF36.1 3 rfl).trans ((hF7.1 3 rfl).trans ((hFx.1 3 rfl).trans (e_li)))))))) (show A196 4 (ln1).toNat = A 4 (ln1).toNat from (congrFun ((hF200.2 4 rfl).trans (((congrFun eA180 4).trans (uA_ne (by decide))).trans ((hF86.2 4 rfl).trans ((hF59.2 4 rfl).trans ((hF36.2 4 rfl).trans ((hF7.2 4 rfl).trans (hFx.2 4 rfl))))))) _)) (show A196 3 (ln2_197).toNat = A 3 (ln2_197).toNat from (congrFun ((hF200.2 3 rfl).trans (((congrFun eA180 3).trans (uA_ne (by decide))).trans ((hF86.2 3 rfl).trans ((hF59.2 3 rfl).trans ((hF36.2 3 rfl).trans ((hF7.2 3 rfl).trans (hFx.2 3 rfl))))))) _)) (show ln2_197 = ln1 + 1 by omega) (by omega) hh
            refine jx_ld (pc_q := 61) (l_q := L75) (st_q := [.ref 66]) rfl (jl_aloadn gL75_0) ?_
            refine jx_vr (pc_q := 64) (as := []) (st := []) rfl rfl rfl rfl ⟨rfl, rfl, Nat.le_of_ble_eq_true rfl⟩ rfl rfl (c_bad (dd := d) (hd := by omega) (hW := hW199)  (fk := fk2_198) (e_fk := show G195 16 = fk2_198 from (e202))    ) (fun o V_q hq => ?_)
            obtain ⟨r225, rfl, rfl, b226, q227⟩ := hq
            refine .inr ⟨_, rfl, ?_⟩
            rcases q227 with ⟨rfl, a228⟩ | ⟨rfl, a229⟩
            · have _q : True := trivial
              exfalso
              omega
            · have _q : True := trivial
              refine jx_if_eq (pc_q := 67) (tg := 71) rfl rfl rfl (by decide) (by decide) (fun h230 => ?_) (fun h230 => ?_)
              · have _q := h230
                refine jx_ld (pc_q := 72) (l_q := L75) (st_q := [.ref 66]) rfl (jl_aloadn gL75_0) ?_
                refine jx_ld (pc_q := 73) (l_q := L75) (st_q := [.int (i32 (lv)), .ref 66]) rfl (jl_iloadn gL75_1) ?_
                refine jx_ar (pc_q := 74) (st_q := [.int (i32 (2)), .int (i32 (lv)), .ref 66]) rfl rfl rfl rfl ?_
                refine jx_add (pc_q := 75) rfl rfl ?_
                refine jx_vr (pc_q := 78) (as := [.int (i32 ((lv + 2)))]) (st := []) rfl rfl rfl rfl ⟨rfl, rfl, Nat.le_of_ble_eq_true rfl⟩ rfl rfl (hP (dd := d) (hd := by omega) (hW := hW199) (lv := (lv + 2)) (at0 := at2_79) (ln := ln2_197) (e_ln := show G195 9 = ln2_197 from (e201)) (li := li) (e_li := show G195 3 = li from ((hF200.1 3 rfl).trans ((hF86.1 3 rfl).trans ((hF59.1 3 rfl).trans ((hF36.1 3 rfl).trans ((hF7.1 3 rfl).trans ((hFx.1 3 rfl).trans (e_li)))))))) (fk := fk2_198) (e_fk := show G195 16 = fk2_198 from (e202)) (nd := nd2_82) (e_nd := show G195 31 = nd2_82 from ((hF200.1 31 rfl).trans (e92))) (sy := sy1) (e_sy := show G195 19 = sy1 from ((hF200.1 19 rfl).trans ((hF86.1 19 rfl).trans ((hF59.1 19 rfl).trans ((hF36.1 19 rfl).trans ((hF7.1 19 rfl).trans (ex_sy1))))))) (na := na1) (e_na := show G195 28 = na1 from ((hF200.1 28 rfl).trans ((hF86.1 28 rfl).trans ((hF59.1 28 rfl).trans ((hF36.1 28 rfl).trans ((hF7.1 28 rfl).trans (ex_na1))))))) (vi := vi1) (e_vi := show G195 29 = vi1 from ((hF200.1 29 rfl).trans ((hF86.1 29 rfl).trans ((hF59.1 29 rfl).trans ((hF36.1 29 rfl).trans ((hF7.1 29 rfl).trans (ex_vi1))))))) (lf := A 3 (ln2_197).toNat) (e_lf := show A196 3 (ln2_197).toNat = A 3 (ln2_197).toNat from (congrFun ((hF200.2 3 rfl).trans (((congrFun eA180 3).trans (uA_ne (by decide))).trans ((hF86.2 3 rfl).trans ((hF59.2 3 rfl).trans ((hF36.2 3 rfl).trans ((hF7.2 3 rfl).trans (hFx.2 3 rfl))))))) _)) (ac := at2_79) (e_ac := show G195 10 = at2_79 from ((hF200.1 10 rfl).trans (e89))) (ec := ec2_84) (e_ec := show ecn A196 (G195 31) = ec2_84 from ec215) (i_LT := (LT_ext (((hF200.1 3 rfl).trans ((hF86.1 3 rfl).trans ((hF59.1 3 rfl).trans ((hF36.1 3 rfl).trans ((hF7.1 3 rfl).trans (hFx.1 3 rfl))))))) (((hF200.2 3 rfl).trans (((congrFun eA180 3).trans (uA_ne (by decide))).trans ((hF86.2 3 rfl).trans ((hF59.2 3 rfl).trans ((hF36.2 3 rfl).trans ((hF7.2 3 rfl).trans (hFx.2 3 rfl)))))))) (((hF200.2 4 rfl).trans (((congrFun eA180 4).trans (uA_ne (by decide))).trans ((hF86.2 4 rfl).trans ((hF59.2 4 rfl).trans ((hF36.2 4 rfl).trans ((hF7.2 4 rfl).trans (hFx.2 4 rfl)))))))) i_LT)) (i_SV := (SV_fx i_SV e_vi (show G195 29 = vi1 from ((hF200.1 29 rfl).trans ((hF86.1 29 rfl).trans ((hF59.1 29 rfl).trans ((hF36.1 29 rfl).trans ((hF7.1 29 rfl).trans (ex_vi1))))))) (by omega) hV207)) (i_PQ := (PQ_fx i_PQ hS206 (by omega) (hF204.2 29 rfl) (hF204.2 30 rfl))) (hvb := hvb) (h_lv := ⟨(by omega), (by omega)⟩)  (p_0 := by omega) (p_1 := by omega) (p_2 := by omega) (p_3 := by omega) (p_4 := by omega) (p_5 := by omega) (p_6 := by omega) (p_7 := by omega) (p_8 := by omega) (p_9 := by omega) (p_10 := by omega)) (fun o V_q hq => ?_)
                obtain ⟨G231, A232, r233, ln2_234, at2_235, fk2_236, nd2_237, sy2_238, na2_239, vi2_240, lf2_241, ec2_242, rfl, rfl, hW243, hF244, hQ245, hQ246, hQ247, b248, e249, e250, e251, e252, e253, e254, e255, e256, e257, p258, p259, p260, p261, p262, p263, p264, p265, p266, q267⟩ := hq
                have hF268 := Fr_tr hF204 hF244 (Fr_sub (by decide)) (Fr_sub (by decide))
                have k269 : A232 17 (nd1).toNat = r78 := (hQ245 17 _ rfl (by omega)).trans (show A196 17 (nd1).toNat = r78 from (congrFun (hF200.2 17 rfl) _).trans (q183))
                have hP270 := Pf_tr hP205 hQ245 (by omega)
                have hS271 := Fx_tr hS206 hQ246 (by omega)
                have hV272 := Fx_tr hV207 hQ247 (by omega)
                have sf273 : ND A232 (n) (30) (0) (0) (0) (0) (Ax 21 (n).toNat) (0) := ND_ag (by omega) (Ag_pf hQ245 (by omega)) sf208
                have sf274 : CI 1 A232 (sy1) pb (k) (Vs) (n) (last) (n + 1) (nd1) (sy) (sy1) := CI_ag (by omega) (by omega) (Fx_su hQ246 (by omega)) (Qg_fr hF244 (by decide)) (Ag_pf hQ245 (by omega)) (hQ245 21 _ rfl (by omega)) sf209
                have sf275 : NdM A232 (nd) (nd1) (sy) := NdM_pf hQ245 (by omega) (by omega) sf210
                have sf276 : ND A232 (nd1) (34) (r78) (0) (0) (0) (0) (0) := ND_ag (by omega) (Ag_pf hQ245 (by omega)) sf211
                have sf277 : NdM A232 (nd1) (nd1 + 1) (sy1) := NdM_pf hQ245 (by omega) (by omega) sf212
                have sf278 : wE A232 Vs sb (2 * 9 + 2) (r78) (nd2_56) (nd2_82) := wE_ag (by omega) (Fx_su hQ246 (by omega)) (Ag_pf hQ245 (by omega)) sf213
                have sf279 : NdM A232 (nd2_56) (nd2_82) (sy1) := NdM_pf hQ245 (by omega) (by omega) sf214
                have bln2_234 : (0 : Int) ≤ ln2_234 ∧ ln2_234 ≤ 3000 := e249 ▸ hW243.1 9
                have bat2_235 : (0 : Int) ≤ at2_235 ∧ at2_235 ≤ 3002 := e250 ▸ hW243.1 10
                have bfk2_236 : (0 : Int) ≤ fk2_236 ∧ fk2_236 ≤ 6 := e251 ▸ hW243.1 16
                have bnd2_237 : (0 : Int) ≤ nd2_237 ∧ nd2_237 ≤ 6999 := e252 ▸ hW243.1 31
                have bsy2_238 : (0 : Int) ≤ sy2_238 ∧ sy2_238 ≤ 202 := e253 ▸ hW243.1 19
                have bna2_239 : (0 : Int) ≤ na2_239 ∧ na2_239 ≤ 200 := e254 ▸ hW243.1 28
                have bvi2_240 : (0 : Int) ≤ vi2_240 ∧ vi2_240 ≤ 202 := e255 ▸ hW243.1 29
                have blf2_241 : (0 : Int) ≤ lf2_241 ∧ lf2_241 ≤ 3000 := e256 ▸ hW243.2 3 _
                refine .inr ⟨_, rfl, ?_⟩
                rcases q267 with ⟨a280, a281⟩ | ⟨a282, a283, a284, a285, a286, a287, a288, a289, a290, a291⟩
                · have _q : True := trivial
                  refine jx_ld (pc_q := 80) (l_q := jSto1 L75 5 (.int (i32 (r233)))) (st_q := []) rfl rfl ?_
                  obtain ⟨L292, eL292⟩ : ∃ q, q = jSto1 L75 5 (.int (i32 (r233))) := ⟨_, rfl⟩
                  rw [← eL292]
                  have gL292_0 : jGet L292 0 = some (.ref 66) := eL292 ▸ jg_ne (by decide) gL75_0 rfl
                  have gL292_1 : jGet L292 1 = some (.int (i32 (lv))) := eL292 ▸ jg_ne (by decide) gL75_1 rfl
                  have gL292_2 : jGet L292 2 = some (.int (i32 (n))) := eL292 ▸ jg_ne (by decide) gL75_2 rfl
                  have gL292_3 : jGet L292 3 = some (.int (i32 (last))) := eL292 ▸ jg_ne (by decide) gL75_3 rfl
                  have gL292_4 : jGet L292 4 = some (.int (i32 (nd1))) := eL292 ▸ jg_ne (by decide) gL75_4 rfl
                  have gL292_5 : jGet L292 5 = some (.int (i32 (r233))) := eL292 ▸ jg_eq
                  refine jx_ld (pc_q := 81) (l_q := L292) (st_q := [.ref 66]) rfl (jl_aloadn gL292_0) ?_
                  refine jx_vr (pc_q := 84) (as := []) (st := []) rfl rfl rfl rfl ⟨rfl, rfl, Nat.le_of_ble_eq_true rfl⟩ rfl rfl (c_bad (dd := d) (hd := by omega) (hW := hW243)  (fk := fk2_236) (e_fk := show G231 16 = fk2_236 from (e251))    ) (fun o V_q hq => ?_)
                  obtain ⟨r293, rfl, rfl, b294, q295⟩ := hq
                  refine .inr ⟨_, rfl, ?_⟩
                  rcases q295 with ⟨rfl, a296⟩ | ⟨rfl, a297⟩
                  · have _q : True := trivial
                    refine jx_if_eq (pc_q := 87) (tg := 89) rfl rfl rfl (by decide) (by decide) (fun h298 => ?_) (fun h298 => ?_)
                    · have _q := h298
                      exact absurd h298 (by omega)
                    · have _q := h298
                      refine jx_ar (pc_q := 88) (st_q := [.int (i32 (0))]) rfl rfl rfl rfl ?_
                      refine jx_rt (v := some (.int (i32 (0)))) rfl rfl rfl rfl rfl rfl ?_
                      exact ⟨_, _, _, ln2_234, at2_235, fk2_236, nd2_237, sy2_238, na2_239, vi2_240, lf2_241, ec2_242, rfl, rfl, hW243, hF268, hP270, hS271, hV272, by omega, (e249), (e250), (e251), (e252), (e253), (e254), (e255), (e256), e257, by omega, by omega, by omega, by omega, by omega, by omega, by omega, by omega, by omega, by omega, by first | exact Or.inl (⟨by omega, by omega⟩)⟩
                  · have _q : True := trivial
                    exfalso
                    omega
                · have _q : True := trivial
                  refine jx_ld (pc_q := 80) (l_q := jSto1 L75 5 (.int (i32 (r233)))) (st_q := []) rfl rfl ?_
                  obtain ⟨L299, eL299⟩ : ∃ q, q = jSto1 L75 5 (.int (i32 (r233))) := ⟨_, rfl⟩
                  rw [← eL299]
                  have gL299_0 : jGet L299 0 = some (.ref 66) := eL299 ▸ jg_ne (by decide) gL75_0 rfl
                  have gL299_1 : jGet L299 1 = some (.int (i32 (lv))) := eL299 ▸ jg_ne (by decide) gL75_1 rfl
                  have gL299_2 : jGet L299 2 = some (.int (i32 (n))) := eL299 ▸ jg_ne (by decide) gL75_2 rfl
                  have gL299_3 : jGet L299 3 = some (.int (i32 (last))) := eL299 ▸ jg_ne (by decide) gL75_3 rfl
                  have gL299_4 : jGet L299 4 = some (.int (i32 (nd1))) := eL299 ▸ jg_ne (by decide) gL75_4 rfl
                  have gL299_5 : jGet L299 5 = some (.int (i32 (r233))) := eL299 ▸ jg_eq
                  refine jx_ld (pc_q := 81) (l_q := L299) (st_q := [.ref 66]) rfl (jl_aloadn gL299_0) ?_
                  refine jx_vr (pc_q := 84) (as := []) (st := []) rfl rfl rfl rfl ⟨rfl, rfl, Nat.le_of_ble_eq_true rfl⟩ rfl rfl (c_bad (dd := d) (hd := by omega) (hW := hW243)  (fk := fk2_236) (e_fk := show G231 16 = fk2_236 from (e251))    ) (fun o V_q hq => ?_)
                  obtain ⟨r300, rfl, rfl, b301, q302⟩ := hq
                  refine .inr ⟨_, rfl, ?_⟩
                  rcases q302 with ⟨rfl, a303⟩ | ⟨rfl, a304⟩
                  · have _q : True := trivial
                    exfalso
                    omega
                  · have _q : True := trivial
                    refine jx_if_eq (pc_q := 87) (tg := 89) rfl rfl rfl (by decide) (by decide) (fun h305 => ?_) (fun h305 => ?_)
                    · have _q := h305
                      refine jx_ld (pc_q := 90) (l_q := L299) (st_q := [.ref 66]) rfl (jl_aloadn gL299_0) ?_
                      refine jr_get (pc_q := 93) (i := 38) (v := .ref 88) rfl rfl (by decide) rfl rfl ?_
                      refine jx_ld (pc_q := 95) (l_q := L299) (st_q := [.int (i32 (nd1)), .ref 88]) rfl (jl_iload gL299_4) ?_
                      refine jx_ld (pc_q := 97) (l_q := L299) (st_q := [.int (i32 (r233)), .int (i32 (nd1)), .ref 88]) rfl (jl_iload gL299_5) ?_
                      refine jr_st (pc_q := 98) (i := 21) (m := 7000) (z := nd1) (y := r233) rfl (by decide) rfl (by decide) (by omega) (by omega) rfl ?_
                      have hW307 : Wk G231 (uA A232 21 (nd1).toNat (r233)) := Wk_a hW243 (show (-2147483648 : Int) ≤ r233 by omega) (show r233 ≤ (2147483647 : Int) by omega)
                      have hF308 := Fr_a (z := r233) (k := 21) (n := (nd1).toNat) hF268 (by decide)
                      obtain ⟨A306, eA306⟩ : ∃ q, q = uA A232 21 (nd1).toNat (r233) := ⟨_, rfl⟩
                      rw [← eA306]
                      rw [← eA306] at hW307 hF308
                      have q309 : A306 21 (nd1).toNat = r233 := by rw [eA306]; exact uA_eq
                      have hP310 : Pf nd A A306 := eA306 ▸ Pf_a hP270 (z := nd1) (by omega) (by omega)
                      have hS311 : Fx sr (sy) A A306 := eA306 ▸ Fx_n hS271 rfl
                      have hV312 : Fx [14] (vi) A A306 := eA306 ▸ Fx_n hV272 rfl
                      have sf313 : ND A306 (n) (30) (0) (0) (0) (0) (Ax 21 (n).toNat) (0) := ND_ag (by omega) (Ag_st eA306 (by omega) (by omega)) sf273
                      have sf314 : CI 1 A306 (sy1) pb (k) (Vs) (n) (last) (n + 1) (nd1) (sy) (sy1) := CI_ag (by omega) (by omega) (Sg_ne eA306 rfl) (Qg_ne eA306 rfl) (Ag_st eA306 (by omega) (by omega)) ((by rw [eA306]; exact uA_ni (by omega))) sf274
                      have sf315 : NdM A306 (nd) (nd1) (sy) := NdM_st eA306 (by decide) sf275
                      have sf316 : ND A306 (nd1) (34) (r78) (0) (0) (0) (r233) (0) := ND_f eA306 sf276
                      have sf317 : NdM A306 (nd1) (nd1 + 1) (sy1) := NdM_st eA306 (by decide) sf277
                      have sf318 : wE A306 Vs sb (2 * 9 + 2) (r78) (nd2_56) (nd2_82) := wE_ag (by omega) (Sg_ne eA306 rfl) (Ag_st eA306 (by omega) (by omega)) sf278
                      have sf319 : NdM A306 (nd2_56) (nd2_82) (sy1) := NdM_st eA306 (by decide) sf279
                      have sf320 : wP A306 (sy2_238) pb (k) (Vs) (r233) (nd2_82) (nd2_237) (sy1) (sy2_238) := wP_ag (Sg_ne eA306 rfl) (Qg_ne eA306 rfl) (by omega) (by omega) (Ax_ag (Ag_st eA306 (by omega) (by omega))) a288
                      have sf321 : NX A306 (r233) := NX_r eA306 (by decide) a289
                      have sf322 : NdM A306 (nd2_82) (nd2_237) (sy1) := NdM_st eA306 (by decide) a291
                      have ec323 : ecn A306 (G231 31) = ec2_242 := (ecn_e ((congrFun eA306 15).trans (uA_ne (by decide)))).trans e257
                      refine jx_ld (pc_q := 99) (l_q := L299) (st_q := [.ref 66]) rfl (jl_aloadn gL299_0) ?_
                      refine jx_ld (pc_q := 100) (l_q := L299) (st_q := [.int (i32 (n)), .ref 66]) rfl (jl_iloadn gL299_2) ?_
                      refine jx_ld (pc_q := 101) (l_q := L299) (st_q := [.int (i32 (last)), .int (i32 (n)), .ref 66]) rfl (jl_iloadn gL299_3) ?_
                      refine jx_ld (pc_q := 103) (l_q := L299) (st_q := [.int (i32 (nd1)), .int (i32 (last)), .int (i32 (n)), .ref 66]) rfl (jl_iload gL299_4) ?_
                      refine jx_vr (pc_q := 106) (as := [.int (i32 (n)), .int (i32 (last)), .int (i32 (nd1))]) (st := []) rfl rfl rfl rfl ⟨rfl, rfl, Nat.le_of_ble_eq_true rfl⟩ rfl rfl (c_addTo (dd := d) (zz := nd) (hd := by omega) (hW := hW307) (n := n) (last := last) (one := nd1)   (h_n := ⟨(Int.le_trans (by decide : (-2147483648 : Int) ≤ -2147483648) rx_n.1), (Int.le_trans rx_n.2 (by decide : (2147483647 : Int) ≤ 2147483647))⟩) (h_last := ⟨(Int.le_trans (by decide : (-2147483648 : Int) ≤ -2147483648) rx_last.1), (Int.le_trans rx_last.2 (by decide : (2147483647 : Int) ≤ 2147483647))⟩) (h_one := ⟨(Int.le_trans (by decide : (-2147483648 : Int) ≤ 0) b_nd1.1), (Int.le_trans b_nd1.2 (by decide : (6999 : Int) ≤ 2147483647))⟩)  (p_0 := by omega) (p_1 := by omega) (p_2 := by omega) (p_3 := by omega)) (fun o V_q hq => ?_)
                      obtain ⟨G324, A325, rfl, rfl, hW326, hF327, hQ328, q329⟩ := hq
                      have hF330 := Fr_tr hF308 hF327 (Fr_sub (by decide)) (Fr_sub (by decide))
                      have hP331 := Pf_tr hP310 hQ328 (by omega)
                      have hS332 := Fx_f hS311 hF327 (by decide)
                      have hV333 := Fx_f hV312 hF327 (by decide)
                      have ec334 : ecn A325 (G324 31) = ec2_242 := (ecn_f (hF327.2 15 rfl) (hF327.1 31 rfl)).trans ec323
                      refine .inl ⟨rfl, ?_⟩
                      rcases q329 with ⟨a335, a336⟩ | ⟨a337, a338⟩
                      · have _q : True := trivial
                        have sf339 : ND A325 (n) (30) (0) (0) (0) (0) (nd1) (0) := ND_f a336 sf313
                        have sf340 : CI 1 A325 (sy2_238) pb (k) (Vs) (n) (nd1) (n + 1) (nd2_237) (sy) (sy2_238) := CI_one a336 (by omega) (by omega) (by omega) (by omega) (by omega) (by omega) (show RQ 1 A306 (sy2_238) pb (k) (Vs) (nd1) (nd1) (nd2_237) (sy1) (sy2_238) from wI_mk (m := nd2_82) sf316 (by omega) (by omega) (by omega) (wE_sb (by omega) (wE_mono (by omega) (by omega) (by omega) sf318)) (wP_eq sf320 (by omega) rfl rfl (by omega) rfl (by omega) rfl (by omega))) (NX_nd sf316) (CI_sb (by omega) sf314)
                        have sf341 : NdM A325 (nd) (nd1) (sy) := NdM_st a336 (by decide) sf315
                        have sf342 : ND A325 (nd1) (34) (r78) (0) (0) (0) (r233) (0) := ND_ag (by omega) (Ag_st a336 (by omega) (by omega)) sf316
                        have sf343 : NdM A325 (nd1) (nd1 + 1) (sy1) := NdM_st a336 (by decide) sf317
                        have sf344 : wE A325 Vs sb (2 * 9 + 2) (r78) (nd2_56) (nd2_82) := wE_ag (by omega) (Sg_ne a336 rfl) (Ag_st a336 (by omega) (by omega)) sf318
                        have sf345 : NdM A325 (nd2_56) (nd2_82) (sy1) := NdM_st a336 (by decide) sf319
                        have sf346 : wP A325 (sy2_238) pb (k) (Vs) (r233) (nd2_82) (nd2_237) (sy1) (sy2_238) := wP_ag (Sg_ne a336 rfl) (Qg_ne a336 rfl) (by omega) (by omega) (Ax_ag (Ag_st a336 (by omega) (by omega))) sf320
                        have sf347 : NX A325 (r233) := NX_r a336 (by decide) sf321
                        have sf348 : NdM A325 (nd2_82) (nd2_237) (sy1) := NdM_st a336 (by decide) sf322
                        refine jx_ld (pc_q := 108) (l_q := L299) (st_q := [.int (i32 (nd1))]) rfl (jl_iload gL299_4) ?_
                        refine jx_ld (pc_q := 109) (l_q := jSto1 L299 3 (.int (i32 (nd1)))) (st_q := []) rfl rfl ?_
                        obtain ⟨L349, eL349⟩ : ∃ q, q = jSto1 L299 3 (.int (i32 (nd1))) := ⟨_, rfl⟩
                        rw [← eL349]
                        have gL349_0 : jGet L349 0 = some (.ref 66) := eL349 ▸ jg_ne (by decide) gL299_0 rfl
                        have gL349_1 : jGet L349 1 = some (.int (i32 (lv))) := eL349 ▸ jg_ne (by decide) gL299_1 rfl
                        have gL349_2 : jGet L349 2 = some (.int (i32 (n))) := eL349 ▸ jg_ne (by decide) gL299_2 rfl
                        have gL349_4 : jGet L349 4 = some (.int (i32 (nd1))) := eL349 ▸ jg_ne (by decide) gL299_4 rfl
                        have gL349_5 : jGet L349 5 = some (.int (i32 (r233))) := eL349 ▸ jg_ne (by decide) gL299_5 rfl
                        have gL349_3 : jGet L349 3 = some (.int (i32 (nd1))) := eL349 ▸ jg_eq
                        refine jx_go (tg := 21) rfl rfl ?_
                        exact ih21 _ (by omega) L349 G324 A325 (n) (nd1) (ln2_234) (at2_235) (fk2_236) (nd2_237) (sy2_238) (na2_239) (vi2_240) (lf2_241) (ec2_242) rfl gL349_0 gL349_1 gL349_2 gL349_3 hW326 hF330 hP331 hS332 hV333 (((hF327.1 9 rfl).trans (e249))) (((hF327.1 10 rfl).trans (e250))) (((hF327.1 16 rfl).trans (e251))) (((hF327.1 31 rfl).trans (e252))) (((hF327.1 19 rfl).trans (e253))) (((hF327.1 28 rfl).trans (e254))) (((hF327.1 29 rfl).trans (e255))) ((congrFun ((hF327.2 3 rfl).trans ((congrFun eA306 3).trans (uA_ne (by decide)))) _).trans (e256)) (ec334) (by omega) (by omega) (by omega) (by omega) (by omega) (by omega) (by omega) (by omega) (by omega) (by omega) (by omega) (by omega) (by omega) (by omega) (by omega) (by omega) ((ND_sf sf339)) (sf340) (by omega) ((NdM_w (NdM_app (sy := sy) sf341 (NdM_app (sy := sy) sf343 (NdM_app (sy := sy) sf345 sf348 (by omega) (by omega) (by omega)) (by omega) (by omega) (by omega)) (by omega) (by omega) (by omega)) (by omega) (by omega) (by omega)))
                      · have _q : True := trivial
                        have sf350 : ND A325 (n) (30) (0) (0) (0) (0) (Ax 21 (n).toNat) (0) := ND_ag (by omega) (Ag_st a338 (by omega) (by omega)) sf313
                        have sf351 : CI 1 A325 (sy2_238) pb (k) (Vs) (n) (nd1) (n + 1) (nd2_237) (sy) (sy2_238) := CI_two a338 (by omega) (by omega) (by omega) (by omega) (by omega) (show RQ 1 A306 (sy2_238) pb (k) (Vs) (nd1) (nd1) (nd2_237) (sy1) (sy2_238) from wI_mk (m := nd2_82) sf316 (by omega) (by omega) (by omega) (wE_sb (by omega) (wE_mono (by omega) (by omega) (by omega) sf318)) (wP_eq sf320 (by omega) rfl rfl (by omega) rfl (by omega) rfl (by omega))) (NX_nd sf316) (CI_sb (by omega) sf314)
                        have sf352 : NdM A325 (nd) (nd1) (sy) := NdM_st a338 (by decide) sf315
                        have sf353 : ND A325 (nd1) (34) (r78) (0) (0) (0) (r233) (0) := ND_ag (by omega) (Ag_st a338 (by omega) (by omega)) sf316
                        have sf354 : NdM A325 (nd1) (nd1 + 1) (sy1) := NdM_st a338 (by decide) sf317
                        have sf355 : wE A325 Vs sb (2 * 9 + 2) (r78) (nd2_56) (nd2_82) := wE_ag (by omega) (Sg_ne a338 rfl) (Ag_st a338 (by omega) (by omega)) sf318
                        have sf356 : NdM A325 (nd2_56) (nd2_82) (sy1) := NdM_st a338 (by decide) sf319
                        have sf357 : wP A325 (sy2_238) pb (k) (Vs) (r233) (nd2_82) (nd2_237) (sy1) (sy2_238) := wP_ag (Sg_ne a338 rfl) (Qg_ne a338 rfl) (by omega) (by omega) (Ax_ag (Ag_st a338 (by omega) (by omega))) sf320
                        have sf358 : NX A325 (r233) := NX_ag (by omega) (Ag_st a338 (by omega) (by omega)) sf321
                        have sf359 : NdM A325 (nd2_82) (nd2_237) (sy1) := NdM_st a338 (by decide) sf322
                        refine jx_ld (pc_q := 108) (l_q := L299) (st_q := [.int (i32 (nd1))]) rfl (jl_iload gL299_4) ?_
                        refine jx_ld (pc_q := 109) (l_q := jSto1 L299 3 (.int (i32 (nd1)))) (st_q := []) rfl rfl ?_
                        obtain ⟨L360, eL360⟩ : ∃ q, q = jSto1 L299 3 (.int (i32 (nd1))) := ⟨_, rfl⟩
                        rw [← eL360]
                        have gL360_0 : jGet L360 0 = some (.ref 66) := eL360 ▸ jg_ne (by decide) gL299_0 rfl
                        have gL360_1 : jGet L360 1 = some (.int (i32 (lv))) := eL360 ▸ jg_ne (by decide) gL299_1 rfl
                        have gL360_2 : jGet L360 2 = some (.int (i32 (n))) := eL360 ▸ jg_ne (by decide) gL299_2 rfl
                        have gL360_4 : jGet L360 4 = some (.int (i32 (nd1))) := eL360 ▸ jg_ne (by decide) gL299_4 rfl
                        have gL360_5 : jGet L360 5 = some (.int (i32 (r233))) := eL360 ▸ jg_ne (by decide) gL299_5 rfl
                        have gL360_3 : jGet L360 3 = some (.int (i32 (nd1))) := eL360 ▸ jg_eq
                        refine jx_go (tg := 21) rfl rfl ?_
                        exact ih21 _ (by omega) L360 G324 A325 (n) (nd1) (ln2_234) (at2_235) (fk2_236) (nd2_237) (sy2_238) (na2_239) (vi2_240) (lf2_241) (ec2_242) rfl gL360_0 gL360_1 gL360_2 gL360_3 hW326 hF330 hP331 hS332 hV333 (((hF327.1 9 rfl).trans (e249))) (((hF327.1 10 rfl).trans (e250))) (((hF327.1 16 rfl).trans (e251))) (((hF327.1 31 rfl).trans (e252))) (((hF327.1 19 rfl).trans (e253))) (((hF327.1 28 rfl).trans (e254))) (((hF327.1 29 rfl).trans (e255))) ((congrFun ((hF327.2 3 rfl).trans ((congrFun eA306 3).trans (uA_ne (by decide)))) _).trans (e256)) (ec334) (by omega) (by omega) (by omega) (by omega) (by omega) (by omega) (by omega) (by omega) (by omega) (by omega) (by omega) (by omega) (by omega) (by omega) (by omega) (by omega) ((ND_sf sf350)) (sf351) (by omega) ((NdM_w (NdM_app (sy := sy) sf352 (NdM_app (sy := sy) sf354 (NdM_app (sy := sy) sf356 sf359 (by omega) (by omega) (by omega)) (by omega) (by omega) (by omega)) (by omega) (by omega) (by omega)) (by omega) (by omega) (by omega)))
                    · have _q := h305
                      exact absurd h305 (by omega)
              · have _q := h230
                exact absurd h230 (by omega)
          · have _q : True := trivial
            refine jx_ld (pc_q := 61) (l_q := L75) (st_q := [.ref 66]) rfl (jl_aloadn gL75_0) ?_
            refine jx_vr (pc_q := 64) (as := []) (st := []) rfl rfl rfl rfl ⟨rfl, rfl, Nat.le_of_ble_eq_true rfl⟩ rfl rfl (c_bad (dd := d) (hd := by omega) (hW := hW199)  (fk := fk2_198) (e_fk := show G195 16 = fk2_198 from (e202))    ) (fun o V_q hq => ?_)
            obtain ⟨r361, rfl, rfl, b362, q363⟩ := hq
            refine .inr ⟨_, rfl, ?_⟩
            rcases q363 with ⟨rfl, a364⟩ | ⟨rfl, a365⟩
            · have _q : True := trivial
              refine jx_if_eq (pc_q := 67) (tg := 71) rfl rfl rfl (by decide) (by decide) (fun h366 => ?_) (fun h366 => ?_)
              · have _q := h366
                exact absurd h366 (by omega)
              · have _q := h366
                refine jx_ar (pc_q := 68) (st_q := [.int (i32 (0))]) rfl rfl rfl rfl ?_
                refine jx_go (tg := 78) rfl rfl ?_
                refine jx_ld (pc_q := 80) (l_q := jSto1 L75 5 (.int (i32 (0)))) (st_q := []) rfl rfl ?_
                obtain ⟨L367, eL367⟩ : ∃ q, q = jSto1 L75 5 (.int (i32 (0))) := ⟨_, rfl⟩
                rw [← eL367]
                have gL367_0 : jGet L367 0 = some (.ref 66) := eL367 ▸ jg_ne (by decide) gL75_0 rfl
                have gL367_1 : jGet L367 1 = some (.int (i32 (lv))) := eL367 ▸ jg_ne (by decide) gL75_1 rfl
                have gL367_2 : jGet L367 2 = some (.int (i32 (n))) := eL367 ▸ jg_ne (by decide) gL75_2 rfl
                have gL367_3 : jGet L367 3 = some (.int (i32 (last))) := eL367 ▸ jg_ne (by decide) gL75_3 rfl
                have gL367_4 : jGet L367 4 = some (.int (i32 (nd1))) := eL367 ▸ jg_ne (by decide) gL75_4 rfl
                have gL367_5 : jGet L367 5 = some (.int (i32 (0))) := eL367 ▸ jg_eq
                refine jx_ld (pc_q := 81) (l_q := L367) (st_q := [.ref 66]) rfl (jl_aloadn gL367_0) ?_
                refine jx_vr (pc_q := 84) (as := []) (st := []) rfl rfl rfl rfl ⟨rfl, rfl, Nat.le_of_ble_eq_true rfl⟩ rfl rfl (c_bad (dd := d) (hd := by omega) (hW := hW199)  (fk := fk2_198) (e_fk := show G195 16 = fk2_198 from (e202))    ) (fun o V_q hq => ?_)
                obtain ⟨r368, rfl, rfl, b369, q370⟩ := hq
                refine .inr ⟨_, rfl, ?_⟩
                rcases q370 with ⟨rfl, a371⟩ | ⟨rfl, a372⟩
                · have _q : True := trivial
                  refine jx_if_eq (pc_q := 87) (tg := 89) rfl rfl rfl (by decide) (by decide) (fun h373 => ?_) (fun h373 => ?_)
                  · have _q := h373
                    exact absurd h373 (by omega)
                  · have _q := h373
                    refine jx_ar (pc_q := 88) (st_q := [.int (i32 (0))]) rfl rfl rfl rfl ?_
                    refine jx_rt (v := some (.int (i32 (0)))) rfl rfl rfl rfl rfl rfl ?_
                    exact ⟨_, _, _, ln2_197, at2_79, fk2_198, nd2_82, sy1, na1, vi1, A 3 (ln2_197).toNat, ec2_84, rfl, rfl, hW199, hF204, hP205, hS206, hV207, by omega, (e201), ((hF200.1 10 rfl).trans (e89)), (e202), ((hF200.1 31 rfl).trans (e92)), ((hF200.1 19 rfl).trans ((hF86.1 19 rfl).trans ((hF59.1 19 rfl).trans ((hF36.1 19 rfl).trans ((hF7.1 19 rfl).trans (ex_sy1)))))), ((hF200.1 28 rfl).trans ((hF86.1 28 rfl).trans ((hF59.1 28 rfl).trans ((hF36.1 28 rfl).trans ((hF7.1 28 rfl).trans (ex_na1)))))), ((hF200.1 29 rfl).trans ((hF86.1 29 rfl).trans ((hF59.1 29 rfl).trans ((hF36.1 29 rfl).trans ((hF7.1 29 rfl).trans (ex_vi1)))))), (congrFun ((hF200.2 3 rfl).trans (((congrFun eA180 3).trans (uA_ne (by decide))).trans ((hF86.2 3 rfl).trans ((hF59.2 3 rfl).trans ((hF36.2 3 rfl).trans ((hF7.2 3 rfl).trans (hFx.2 3 rfl))))))) _), ec215, by omega, by omega, by omega, by omega, by omega, by omega, by omega, by omega, by omega, by omega, by first | exact Or.inl (⟨by omega, by omega⟩)⟩
                · have _q : True := trivial
                  exfalso
                  omega
            · have _q : True := trivial
              exfalso
              omega
    · have _q : True := trivial
      refine jx_if_eq (pc_q := 29) (tg := 112) rfl rfl rfl (by decide) (by decide) (fun h374 => ?_) (fun h374 => ?_)
      · have _q := h374
        refine jx_ld (pc_q := 113) (l_q := L) (st_q := [.ref 66]) rfl (jl_aloadn gL_0) ?_
        refine jx_vr (pc_q := 116) (as := []) (st := []) rfl rfl rfl rfl ⟨rfl, rfl, Nat.le_of_ble_eq_true rfl⟩ rfl rfl (c_bad (dd := d) (hd := by omega) (hW := hW6)  (fk := fk2_5) (e_fk := show G2 16 = fk2_5 from (e9))    ) (fun o V_q hq => ?_)
        obtain ⟨r375, rfl, rfl, b376, q377⟩ := hq
        refine .inr ⟨_, rfl, ?_⟩
        rcases q377 with ⟨rfl, a378⟩ | ⟨rfl, a379⟩
        · have _q : True := trivial
          refine jx_if_ne (pc_q := 119) (tg := 131) rfl rfl rfl (by decide) (by decide) (fun h380 => ?_) (fun h380 => ?_)
          · have _q := h380
            refine jx_ld (pc_q := 132) (l_q := L) (st_q := [.int (i32 (n))]) rfl (jl_iloadn gL_2) ?_
            refine jx_rt (v := some (.int (i32 (n)))) rfl rfl rfl rfl rfl rfl ?_
            exact ⟨_, _, _, ln1, at1, fk2_5, nd1, sy1, na1, vi1, lf1, ec1, rfl, rfl, hW6, hF11, hP12, hS13, hV14, by omega, ((hF7.1 9 rfl).trans (ex_ln1)), ((hF7.1 10 rfl).trans (ex_at1)), (e9), ((hF7.1 31 rfl).trans (ex_nd1)), ((hF7.1 19 rfl).trans (ex_sy1)), ((hF7.1 28 rfl).trans (ex_na1)), ((hF7.1 29 rfl).trans (ex_vi1)), (congrFun (hF7.2 3 rfl) _).trans (ex_lf1), ec18, by omega, by omega, by omega, by omega, by omega, by omega, by omega, by omega, by omega, by omega, by first | exact Or.inl (⟨by omega, by omega⟩)⟩
          · have _q := h380
            exact absurd h380 (by omega)
        · have _q : True := trivial
          exfalso
          omega
      · have _q := h374
        exact absurd h374 (by omega)
    · have _q : True := trivial
      refine jx_if_eq (pc_q := 29) (tg := 112) rfl rfl rfl (by decide) (by decide) (fun h381 => ?_) (fun h381 => ?_)
      · have _q := h381
        refine jx_ld (pc_q := 113) (l_q := L) (st_q := [.ref 66]) rfl (jl_aloadn gL_0) ?_
        refine jx_vr (pc_q := 116) (as := []) (st := []) rfl rfl rfl rfl ⟨rfl, rfl, Nat.le_of_ble_eq_true rfl⟩ rfl rfl (c_bad (dd := d) (hd := by omega) (hW := hW6)  (fk := fk2_5) (e_fk := show G2 16 = fk2_5 from (e9))    ) (fun o V_q hq => ?_)
        obtain ⟨r382, rfl, rfl, b383, q384⟩ := hq
        refine .inr ⟨_, rfl, ?_⟩
        rcases q384 with ⟨rfl, a385⟩ | ⟨rfl, a386⟩
        · have _q : True := trivial
          exfalso
          omega
        · have _q : True := trivial
          refine jx_if_ne (pc_q := 119) (tg := 131) rfl rfl rfl (by decide) (by decide) (fun h387 => ?_) (fun h387 => ?_)
          · have _q := h387
            exact absurd h387 (by omega)
          · have _q := h387
            refine jx_ld (pc_q := 120) (l_q := L) (st_q := [.int (i32 (last))]) rfl (jl_iloadn gL_3) ?_
            refine jx_if_ne (pc_q := 123) (tg := 131) rfl rfl rfl (Int.le_trans (by decide : (-2147483648 : Int) ≤ -2147483648) rx_last.1) (Int.le_trans rx_last.2 (by decide : (2147483647 : Int) ≤ 2147483647)) (fun h388 => ?_) (fun h388 => ?_)
            · have _q := h388
              refine jx_ld (pc_q := 132) (l_q := L) (st_q := [.int (i32 (n))]) rfl (jl_iloadn gL_2) ?_
              refine jx_rt (v := some (.int (i32 (n)))) rfl rfl rfl rfl rfl rfl ?_
              exact ⟨_, _, _, ln1, at1, fk2_5, nd1, sy1, na1, vi1, lf1, ec1, rfl, rfl, hW6, hF11, hP12, hS13, hV14, by omega, ((hF7.1 9 rfl).trans (ex_ln1)), ((hF7.1 10 rfl).trans (ex_at1)), (e9), ((hF7.1 31 rfl).trans (ex_nd1)), ((hF7.1 19 rfl).trans (ex_sy1)), ((hF7.1 28 rfl).trans (ex_na1)), ((hF7.1 29 rfl).trans (ex_vi1)), (congrFun (hF7.2 3 rfl) _).trans (ex_lf1), ec18, by omega, by omega, by omega, by omega, by omega, by omega, by omega, by omega, by omega, by omega, by first | exact Or.inr ((⟨by omega, by omega, by omega, by omega, by omega, by omega, by omega, (wS_ifc sf15 (CI_eq (CI_sb (by omega) sf16) rfl (by omega) (by omega) (by omega) (by omega)) (by omega)), (NX_nd sf15), by omega, sf17⟩))⟩
            · have _q := h388
              refine jx_ld (pc_q := 124) (l_q := L) (st_q := [.ref 66]) rfl (jl_aloadn gL_0) ?_
              refine jx_ld (pc_q := 125) (l_q := L) (st_q := [.int (i32 (lv)), .ref 66]) rfl (jl_iloadn gL_1) ?_
              refine jx_ar (pc_q := 126) (st_q := [.int (i32 (1)), .int (i32 (lv)), .ref 66]) rfl rfl rfl rfl ?_
              refine jx_add (pc_q := 127) rfl rfl ?_
              refine jx_vr (pc_q := 130) (as := [.int (i32 ((lv + 1)))]) (st := []) rfl rfl rfl rfl ⟨rfl, rfl, Nat.le_of_ble_eq_true rfl⟩ rfl rfl (c_needLevel (dd := d) (hd := by omega) (hW := hW6) (lv := (lv + 1)) (ln := ln1) (e_ln := show G2 9 = ln1 from ((hF7.1 9 rfl).trans (ex_ln1))) (li := li) (e_li := show G2 3 = li from ((hF7.1 3 rfl).trans ((hFx.1 3 rfl).trans (e_li)))) (fk := fk2_5) (e_fk := show G2 16 = fk2_5 from (e9)) (ll := A 5 (ln1).toNat) (e_ll := show A3 5 (ln1).toNat = A 5 (ln1).toNat from (congrFun ((hF7.2 5 rfl).trans (hFx.2 5 rfl)) _))  (h_lv := ⟨(by omega), (by omega)⟩)  ) (fun o V_q hq => ?_)
              obtain ⟨G389, A390, r391, fk2_392, rfl, rfl, hW393, hF394, b395, e396, q397⟩ := hq
              have hF398 := Fr_tr hF11 hF394 (Fr_sub (by decide)) (Fr_sub (by decide))
              have hP399 := Pf_f hP12 hF394 (by decide)
              have hS400 := Fx_f hS13 hF394 (by decide)
              have hV401 := Fx_f hV14 hF394 (by decide)
              have sf402 : ND A390 (n) (30) (0) (0) (0) (0) (Ax 21 (n).toNat) (0) := ND_ag (by omega) (Ag_fr hF394 (by decide)) sf15
              have sf403 : CI 1 A390 (sy1) pb (k) (Vs) (n) (last) (n + 1) (nd1) (sy) (sy1) := CI_ag (by omega) (by omega) (Sg_fr hF394 (by decide)) (Qg_fr hF394 (by decide)) (Ag_fr hF394 (by decide)) (congrFun (hF394.2 21 rfl) _) sf16
              have sf404 : NdM A390 (nd) (nd1) (sy) := NdM_f hF394 (by decide) sf17
              have ec405 : ecn A390 (G389 31) = ec1 := (ecn_f (hF394.2 15 rfl) (hF394.1 31 rfl)).trans ec18
              have bfk2_392 : (0 : Int) ≤ fk2_392 ∧ fk2_392 ≤ 6 := e396 ▸ hW393.1 16
              refine .inr ⟨_, rfl, ?_⟩
              rcases q397 with ⟨rfl, a406, a407, a408, a409⟩ | ⟨rfl, a410⟩
              · have _q : True := trivial
                have b411 : (0 : Int) ≤ A 4 (ln1).toNat ∧ A 4 (ln1).toNat ≤ 3000 := hW.2 4 _
                have lt412 : lf1 < A 4 (ln1).toNat := LT_at (LT_ext (((hF394.1 3 rfl).trans ((hF7.1 3 rfl).trans (hFx.1 3 rfl)))) (((hF394.2 3 rfl).trans ((hF7.2 3 rfl).trans (hFx.2 3 rfl)))) (((hF394.2 4 rfl).trans ((hF7.2 4 rfl).trans (hFx.2 4 rfl)))) i_LT) (show G389 3 = li from ((hF394.1 3 rfl).trans ((hF7.1 3 rfl).trans ((hFx.1 3 rfl).trans (e_li))))) (show A390 3 (ln1).toNat = lf1 from (congrFun ((hF394.2 3 rfl).trans (hF7.2 3 rfl)) _).trans (ex_lf1)) (show A390 4 (ln1).toNat = A 4 (ln1).toNat from (congrFun ((hF394.2 4 rfl).trans ((hF7.2 4 rfl).trans (hFx.2 4 rfl))) _)) (by omega) (by omega)
                refine jx_ar (pc_q := 131) (st_q := []) rfl rfl rfl rfl ?_
                refine jx_ld (pc_q := 132) (l_q := L) (st_q := [.int (i32 (n))]) rfl (jl_iloadn gL_2) ?_
                refine jx_rt (v := some (.int (i32 (n)))) rfl rfl rfl rfl rfl rfl ?_
                exact ⟨_, _, _, ln1, at1, fk2_392, nd1, sy1, na1, vi1, lf1, ec1, rfl, rfl, hW393, hF398, hP399, hS400, hV401, by omega, ((hF394.1 9 rfl).trans ((hF7.1 9 rfl).trans (ex_ln1))), ((hF394.1 10 rfl).trans ((hF7.1 10 rfl).trans (ex_at1))), (e396), ((hF394.1 31 rfl).trans ((hF7.1 31 rfl).trans (ex_nd1))), ((hF394.1 19 rfl).trans ((hF7.1 19 rfl).trans (ex_sy1))), ((hF394.1 28 rfl).trans ((hF7.1 28 rfl).trans (ex_na1))), ((hF394.1 29 rfl).trans ((hF7.1 29 rfl).trans (ex_vi1))), (congrFun ((hF394.2 3 rfl).trans (hF7.2 3 rfl)) _).trans (ex_lf1), ec405, by omega, by omega, by omega, by omega, by omega, by omega, by omega, by omega, by omega, by omega, by first | exact Or.inr ((⟨by omega, by omega, by omega, by omega, by omega, by omega, by omega, (wS_ifc sf402 (CI_eq (CI_sb (by omega) sf403) rfl (by omega) (by omega) (by omega) (by omega)) (by omega)), (NX_nd sf402), by omega, sf404⟩))⟩
              · have _q : True := trivial
                refine jx_ar (pc_q := 131) (st_q := []) rfl rfl rfl rfl ?_
                refine jx_ld (pc_q := 132) (l_q := L) (st_q := [.int (i32 (n))]) rfl (jl_iloadn gL_2) ?_
                refine jx_rt (v := some (.int (i32 (n)))) rfl rfl rfl rfl rfl rfl ?_
                exact ⟨_, _, _, ln1, at1, fk2_392, nd1, sy1, na1, vi1, lf1, ec1, rfl, rfl, hW393, hF398, hP399, hS400, hV401, by omega, ((hF394.1 9 rfl).trans ((hF7.1 9 rfl).trans (ex_ln1))), ((hF394.1 10 rfl).trans ((hF7.1 10 rfl).trans (ex_at1))), (e396), ((hF394.1 31 rfl).trans ((hF7.1 31 rfl).trans (ex_nd1))), ((hF394.1 19 rfl).trans ((hF7.1 19 rfl).trans (ex_sy1))), ((hF394.1 28 rfl).trans ((hF7.1 28 rfl).trans (ex_na1))), ((hF394.1 29 rfl).trans ((hF7.1 29 rfl).trans (ex_vi1))), (congrFun ((hF394.2 3 rfl).trans (hF7.2 3 rfl)) _).trans (ex_lf1), ec405, by omega, by omega, by omega, by omega, by omega, by omega, by omega, by omega, by omega, by omega, by first | exact Or.inl (⟨by omega, by omega⟩)⟩
      · have _q := h381
        exact absurd h381 (by omega)
set_option maxRecDepth 20000 in
set_option maxHeartbeats 4000000 in
theorem c_readIf_w {X : jX} {k : Nat} (hP : RPw X k) {dd : Nat} {Vs : Nat → Prop} {sb pb : Int} (hvb : VB Vs sb) {c0 c1 : jC} {G : Nat → Int} {A : Nat → Nat → Int} {T : jH} {lv : Int} {ln li at0 fk nd sy na vi le op0 tk0 ec : Int} (hd : 8 * k + 82 ≤ dd) (hW : Wk G A) (e_ln : G 9 = ln) (e_li : G 3 = li) (e_at0 : G 10 = at0) (e_fk : G 16 = fk) (e_nd : G 31 = nd) (e_sy : G 19 = sy) (e_na : G 28 = na) (e_vi : G 29 = vi) (e_le : A 4 (ln).toNat = le) (e_op0 : G 15 = op0) (e_tk0 : G 11 = tk0) (e_ec : ecn A (G 31) = ec) (i_LT : LT G A) (i_SV : SV Vs sb G A) (i_PQ : PQ Vs sb pb G A) (h_lv : (-2147483648 : Int) ≤ lv ∧ lv ≤ 2147483647) (p_0 : 0 ≤ lv ∧ lv ≤ 15) (p_1 : 18 - lv ≤ ((k + 1 : Nat) : Int)) (p_2 : fk = 0) (p_3 : ln < li) (p_4 : at0 ≤ le) (p_5 : op0 = 0) (p_6 : nd ≤ 2 * at0 - tz tk0 + 30) (p_7 : sy ≤ na + 2) (p_8 : vi ≤ sy) (p_9 : sb = sy) (p_10 : 1 ≤ tk0) : wk X dd 301 [.ref 66, .int (i32 lv)] (rV c0 c1 G A T) (fun o V_q => ∃ (G_q : Nat → Int) (A_q : Nat → Nat → Int) (r : Int) (ln2 : Int) (at2 : Int) (fk2 : Int) (nd2 : Int) (sy2 : Int) (na2 : Int) (vi2 : Int) (lf2 : Int) (ec2 : Int), V_q = rV c0 c1 G_q A_q T ∧ o = .inl (some (.int (i32 r))) ∧ Wk G_q A_q ∧ Fr [9, 10, 11, 12, 13, 14, 15, 16, 17, 18, 19, 28, 29, 31] [6, 7, 8, 9, 10, 11, 12, 14, 15, 16, 17, 18, 19, 20, 21, 22, 23, 24, 28] G A G_q A_q ∧ Pf nd A A_q ∧ Fx sr (sy) A A_q ∧ Fx [14] (vi) A A_q ∧ ((-2147483648 : Int) ≤ r ∧ r ≤ 2147483647) ∧ G_q 9 = ln2 ∧ G_q 10 = at2 ∧ G_q 16 = fk2 ∧ G_q 31 = nd2 ∧ G_q 19 = sy2 ∧ G_q 28 = na2 ∧ G_q 29 = vi2 ∧ A_q 3 (ln2).toNat = lf2 ∧ ecn A_q (G_q 31) = ec2 ∧ (at0 ≤ at2) ∧ (nd ≤ nd2) ∧ (sy ≤ sy2) ∧ (sy2 ≤ na2 + 2) ∧ (vi ≤ vi2) ∧ (vi2 ≤ vi + 1) ∧ (0 ≤ r) ∧ (r ≤ 6999) ∧ (ln ≤ ln2) ∧ (ln2 ≤ li) ∧ (((1 ≤ fk2) ∧ (nd2 - nd ≤ 2 * at2 - (2 * at0 - tz tk0) + 14)) ∨ ((fk2 = 0) ∧ (vi2 = vi) ∧ (ln < ln2) ∧ (nd2 - nd ≤ 2 * at2 - (2 * at0 - tz tk0)) ∧ (at2 < lf2 ∨ li ≤ ln2) ∧ (nd ≤ r) ∧ (r < nd2) ∧ (wSt A_q (sy2) pb (wP A_q (sy2) pb (k)) (Vs) (r) (nd) (nd2) (sy) (sy2)) ∧ (NX A_q (r)) ∧ (nd2 - nd + 5 * (ec2 - ec) ≤ 2 * at2 - (2 * at0 - tz tk0)) ∧ (NdM A_q (nd) (nd2) (sy))))) := by
  obtain ⟨d, rfl⟩ : ∃ d, dd = d + 1 := ⟨dd - 1, by omega⟩
  refine wk_of (e := jm301) rfl (Nat.le_of_ble_eq_true rfl) ?_
  show wj X d jm301 (0, [(0, .ref 66), (1, .int (i32 (lv)))], [], rV c0 c1 G A T) _
  have hF0 : Fr [9, 10, 11, 12, 13, 14, 15, 16, 17, 18, 19, 28, 29, 31] [6, 7, 8, 9, 10, 11, 12, 14, 15, 16, 17, 18, 19, 20, 21, 22, 23, 24, 28] G A G A := Fr_rf
  have hP0 : Pf nd A A := Pf_rf
  have hS0 : Fx sr (sy) A A := Fx_rf
  have hV0 : Fx [14] (vi) A A := Fx_rf
  have b_ln : (0 : Int) ≤ ln ∧ ln ≤ 3000 := e_ln ▸ hW.1 9
  have b_li : (0 : Int) ≤ li ∧ li ≤ 3000 := e_li ▸ hW.1 3
  have b_at0 : (0 : Int) ≤ at0 ∧ at0 ≤ 3002 := e_at0 ▸ hW.1 10
  have b_fk : (0 : Int) ≤ fk ∧ fk ≤ 6 := e_fk ▸ hW.1 16
  have b_nd : (0 : Int) ≤ nd ∧ nd ≤ 6999 := e_nd ▸ hW.1 31
  have b_sy : (0 : Int) ≤ sy ∧ sy ≤ 202 := e_sy ▸ hW.1 19
  have b_na : (0 : Int) ≤ na ∧ na ≤ 200 := e_na ▸ hW.1 28
  have b_vi : (0 : Int) ≤ vi ∧ vi ≤ 202 := e_vi ▸ hW.1 29
  have b_le : (0 : Int) ≤ le ∧ le ≤ 3000 := e_le ▸ hW.2 4 _
  have b_op0 : (-2147483648 : Int) ≤ op0 ∧ op0 ≤ 2147483647 := e_op0 ▸ hW.1 15
  have z_tk0 := tz_f tk0
  have b_tk0 : (0 : Int) ≤ tk0 ∧ tk0 ≤ 5 := e_tk0 ▸ hW.1 11
  refine jx_ld (pc_q := 1) (l_q := [(0, .ref 66), (1, .int (i32 (lv)))]) (st_q := [.ref 66]) rfl (jl_aloadn rfl) ?_
  refine jx_ar (pc_q := 3) (st_q := [.int (i32 (30)), .ref 66]) rfl rfl rfl rfl ?_
  refine jx_ar (pc_q := 4) (st_q := [.int (i32 (0)), .int (i32 (30)), .ref 66]) rfl rfl rfl rfl ?_
  refine jx_ar (pc_q := 5) (st_q := [.int (i32 (0)), .int (i32 (0)), .int (i32 (30)), .ref 66]) rfl rfl rfl rfl ?_
  refine jx_ar (pc_q := 6) (st_q := [.int (i32 (0)), .int (i32 (0)), .int (i32 (0)), .int (i32 (30)), .ref 66]) rfl rfl rfl rfl ?_
  refine jx_ar (pc_q := 7) (st_q := [.int (i32 (0)), .int (i32 (0)), .int (i32 (0)), .int (i32 (0)), .int (i32 (30)), .ref 66]) rfl rfl rfl rfl ?_
  refine jx_vr (pc_q := 10) (as := [.int (i32 (30)), .int (i32 (0)), .int (i32 (0)), .int (i32 (0)), .int (i32 (0))]) (st := []) rfl rfl rfl rfl ⟨rfl, rfl, Nat.le_of_ble_eq_true rfl⟩ rfl rfl (c_node_o (dd := d) (hd := by omega) (hW := hW) (kind := 30) (a := 0) (b := 0) (c := 0) (e := 0) (nd := nd) (e_nd := show G 31 = nd from (e_nd)) (ec := ec) (e_ec := show ecn A (G 31) = ec from e_ec) (sy := sy) (e_sy := show G 19 = sy from (e_sy))  (h_kind := ⟨(by decide), (by decide)⟩) (h_a := ⟨(by decide), (by decide)⟩) (h_b := ⟨(by decide), (by decide)⟩) (h_c := ⟨(by decide), (by decide)⟩) (h_e := ⟨(by decide), (by decide)⟩)  (p_0 := by omega) (p_1 := by omega) (p_2 := by omega)) (fun o V_q hq => ?_)
  obtain ⟨G413, A414, nd2_415, ec2_416, rfl, rfl, hW417, hF418, hQ419, e420, e421, p422, p423, p424, p425, -⟩ := hq
  have hF427 := Fr_tr hF0 hF418 (Fr_sub (by decide)) (Fr_sub (by decide))
  have hP428 := Pf_tr hP0 hQ419 (by omega)
  have hS429 := Fx_f hS0 hF418 (by decide)
  have hV430 := Fx_f hV0 hF418 (by decide)
  have bnd2_415 : (0 : Int) ≤ nd2_415 ∧ nd2_415 ≤ 6999 := e420 ▸ hW417.1 31
  refine .inr ⟨_, rfl, ?_⟩
  refine jx_ld (pc_q := 11) (l_q := jSto1 [(0, .ref 66), (1, .int (i32 (lv)))] 2 (.int (i32 (nd)))) (st_q := []) rfl rfl ?_
  obtain ⟨L431, eL431⟩ : ∃ q, q = jSto1 [(0, .ref 66), (1, .int (i32 (lv)))] 2 (.int (i32 (nd))) := ⟨_, rfl⟩
  rw [← eL431]
  have gL431_0 : jGet L431 0 = some (.ref 66) := eL431 ▸ jg_ne (by decide) (rfl : jGet [(0, .ref 66), (1, .int (i32 (lv)))] 0 = some (.ref 66)) rfl
  have gL431_1 : jGet L431 1 = some (.int (i32 (lv))) := eL431 ▸ jg_ne (by decide) (rfl : jGet [(0, .ref 66), (1, .int (i32 (lv)))] 1 = some (.int (i32 (lv)))) rfl
  have gL431_2 : jGet L431 2 = some (.int (i32 (nd))) := eL431 ▸ jg_eq
  refine jx_ld (pc_q := 12) (l_q := L431) (st_q := [.ref 66]) rfl (jl_aloadn gL431_0) ?_
  refine jx_vr (pc_q := 15) (as := []) (st := []) rfl rfl rfl rfl ⟨rfl, rfl, Nat.le_of_ble_eq_true rfl⟩ rfl rfl (c_next (dd := d) (hd := by omega) (hW := hW417)  (ln := ln) (e_ln := show G413 9 = ln from ((hF418.1 9 rfl).trans (e_ln))) (le := le) (e_le := show A414 4 (ln).toNat = le from (congrFun (hF418.2 4 rfl) _).trans (e_le)) (at0 := at0) (e_at0 := show G413 10 = at0 from ((hF418.1 10 rfl).trans (e_at0)))    (p_0 := by omega)) (fun o V_q hq => ?_)
  obtain ⟨G432, A433, at2_434, tk2_435, rfl, rfl, hW436, hF437, e438, e439, p440, p441, p442, -⟩ := hq
  have hF444 := Fr_tr hF427 hF437 (Fr_sub (by decide)) (Fr_sub (by decide))
  have hP445 := Pf_f hP428 hF437 (by decide)
  have hS446 := Fx_f hS429 hF437 (by decide)
  have hV447 := Fx_f hV430 hF437 (by decide)
  have sf448 : ND A433 (nd) (30) (0) (0) (0) (0) (0) (0) := ND_ag (by omega) (Ag_fr hF437 (by decide)) p424
  have sf449 : NdM A433 (nd) (nd + 1) (sy) := NdM_f hF437 (by decide) p425
  have ec450 : ecn A433 (G432 31) = ec2_416 := (ecn_f (hF437.2 15 rfl) (hF437.1 31 rfl)).trans e421
  have bat2_434 : (0 : Int) ≤ at2_434 ∧ at2_434 ≤ 3002 := e438 ▸ hW436.1 10
  have ztk2_435 := tz_b tk2_435
  have btk2_435 : (0 : Int) ≤ tk2_435 ∧ tk2_435 ≤ 5 := e439 ▸ hW436.1 11
  refine .inl ⟨rfl, ?_⟩
  have pz451 : at0 + tz tk2_435 ≤ at2_434 := by omega
  refine jx_ld (pc_q := 16) (l_q := L431) (st_q := [.ref 66]) rfl (jl_aloadn gL431_0) ?_
  refine jx_vr (pc_q := 19) (as := []) (st := []) rfl rfl rfl rfl ⟨rfl, rfl, Nat.le_of_ble_eq_true rfl⟩ rfl rfl (c_endLine (dd := d) (hd := by omega) (hW := hW436)  (ln := ln) (e_ln := show G432 9 = ln from ((hF437.1 9 rfl).trans ((hF418.1 9 rfl).trans (e_ln)))) (li := li) (e_li := show G432 3 = li from ((hF437.1 3 rfl).trans ((hF418.1 3 rfl).trans (e_li)))) (fk := fk) (e_fk := show G432 16 = fk from ((hF437.1 16 rfl).trans ((hF418.1 16 rfl).trans (e_fk)))) (tk0 := tk2_435) (e_tk0 := show G432 11 = tk2_435 from (e439))    (p_0 := by omega)) (fun o V_q hq => ?_)
  obtain ⟨G452, A453, ln2_454, fk2_455, rfl, rfl, hW456, hF457, e458, e459, q460⟩ := hq
  have hF461 := Fr_tr hF444 hF457 (Fr_sub (by decide)) (Fr_sub (by decide))
  have hP462 := Pf_f hP445 hF457 (by decide)
  have hS463 := Fx_f hS446 hF457 (by decide)
  have hV464 := Fx_f hV447 hF457 (by decide)
  have sf465 : ND A453 (nd) (30) (0) (0) (0) (0) (0) (0) := ND_ag (by omega) (Ag_fr hF457 (by decide)) sf448
  have sf466 : NdM A453 (nd) (nd + 1) (sy) := NdM_f hF457 (by decide) sf449
  have ec467 : ecn A453 (G452 31) = ec2_416 := (ecn_f (hF457.2 15 rfl) (hF457.1 31 rfl)).trans ec450
  have bln2_454 : (0 : Int) ≤ ln2_454 ∧ ln2_454 ≤ 3000 := e458 ▸ hW456.1 9
  have bfk2_455 : (0 : Int) ≤ fk2_455 ∧ fk2_455 ≤ 6 := e459 ▸ hW456.1 16
  refine .inl ⟨rfl, ?_⟩
  rcases q460 with ⟨a468, a469, a470, a471, a472⟩ | ⟨a473, a474⟩
  · have _q : True := trivial
    have b475 : (0 : Int) ≤ A 3 (ln2_454).toNat ∧ A 3 (ln2_454).toNat ≤ 3000 := hW.2 3 _
    have lt476 : ln2_454 < li → le < A 3 (ln2_454).toNat := fun hh => LT_nx (LT_ext (((hF457.1 3 rfl).trans ((hF437.1 3 rfl).trans (hF418.1 3 rfl)))) (((hF457.2 3 rfl).trans ((hF437.2 3 rfl).trans (hF418.2 3 rfl)))) (((hF457.2 4 rfl).trans ((hF437.2 4 rfl).trans (hF418.2 4 rfl)))) i_LT) (show G452 3 = li from ((hF457.1 3 rfl).trans ((hF437.1 3 rfl).trans ((hF418.1 3 rfl).trans (e_li))))) (show A453 4 (ln).toNat = le from (congrFun ((hF457.2 4 rfl).trans ((hF437.2 4 rfl).trans (hF418.2 4 rfl))) _).trans (e_le)) (show A453 3 (ln2_454).toNat = A 3 (ln2_454).toNat from (congrFun ((hF457.2 3 rfl).trans ((hF437.2 3 rfl).trans (hF418.2 3 rfl))) _)) (show ln2_454 = ln + 1 by omega) (by omega) hh
    refine jx_ar (pc_q := 20) (st_q := [.int (i32 (0))]) rfl rfl rfl rfl ?_
    refine jx_ld (pc_q := 21) (l_q := jSto1 L431 3 (.int (i32 (0)))) (st_q := []) rfl rfl ?_
    obtain ⟨L477, eL477⟩ : ∃ q, q = jSto1 L431 3 (.int (i32 (0))) := ⟨_, rfl⟩
    rw [← eL477]
    have gL477_0 : jGet L477 0 = some (.ref 66) := eL477 ▸ jg_ne (by decide) gL431_0 rfl
    have gL477_1 : jGet L477 1 = some (.int (i32 (lv))) := eL477 ▸ jg_ne (by decide) gL431_1 rfl
    have gL477_2 : jGet L477 2 = some (.int (i32 (nd))) := eL477 ▸ jg_ne (by decide) gL431_2 rfl
    have gL477_3 : jGet L477 3 = some (.int (i32 (0))) := eL477 ▸ jg_eq
    exact c_readIf_w_at_21 (X := X) (k := k) (hP := hP) (d := d) (Vs := Vs) (sb := sb) (pb := pb) (hvb := hvb) (c0 := c0) (c1 := c1) (G := G) (A := A) (T := T) (lv := lv) (ln := ln) (li := li) (at0 := at0) (fk := fk) (nd := nd) (sy := sy) (na := na) (vi := vi) (le := le) (op0 := op0) (tk0 := tk0) (ec := ec) (hd := hd) (hW := hW) (e_ln := e_ln) (e_li := e_li) (e_at0 := e_at0) (e_fk := e_fk) (e_nd := e_nd) (e_sy := e_sy) (e_na := e_na) (e_vi := e_vi) (e_le := e_le) (e_op0 := e_op0) (e_tk0 := e_tk0) (e_ec := e_ec) (i_LT := i_LT) (i_SV := i_SV) (i_PQ := i_PQ) (h_lv := h_lv) (p_0 := p_0) (p_1 := p_1) (p_2 := p_2) (p_3 := p_3) (p_4 := p_4) (p_5 := p_5) (p_6 := p_6) (p_7 := p_7) (p_8 := p_8) (p_9 := p_9) (p_10 := p_10) _ L477 G452 A453 (nd) (0) (ln2_454) (at2_434) (fk2_455) (nd2_415) (sy) (na) (vi) (A 3 (ln2_454).toNat) (ec2_416) rfl gL477_0 gL477_1 gL477_2 gL477_3 hW456 hF461 hP462 hS463 hV464 ((e458)) (((hF457.1 10 rfl).trans (e438))) ((e459)) (((hF457.1 31 rfl).trans ((hF437.1 31 rfl).trans (e420)))) (((hF457.1 19 rfl).trans ((hF437.1 19 rfl).trans ((hF418.1 19 rfl).trans (e_sy))))) (((hF457.1 28 rfl).trans ((hF437.1 28 rfl).trans ((hF418.1 28 rfl).trans (e_na))))) (((hF457.1 29 rfl).trans ((hF437.1 29 rfl).trans ((hF418.1 29 rfl).trans (e_vi))))) ((congrFun ((hF457.2 3 rfl).trans ((hF437.2 3 rfl).trans (hF418.2 3 rfl))) _)) (ec467) (by omega) (by omega) (by omega) (by omega) (by omega) (by omega) (by omega) (by omega) (by omega) (by omega) (by omega) (by omega) (by omega) (by omega) (by omega) (by omega) ((ND_sf sf465)) ((CI_nil (ND_f0 sf465) (by omega) (by omega))) (by omega) ((NdM_w sf466 (by omega) (by omega) (by omega)))
  · have _q : True := trivial
    refine jx_ar (pc_q := 20) (st_q := [.int (i32 (0))]) rfl rfl rfl rfl ?_
    refine jx_ld (pc_q := 21) (l_q := jSto1 L431 3 (.int (i32 (0)))) (st_q := []) rfl rfl ?_
    obtain ⟨L478, eL478⟩ : ∃ q, q = jSto1 L431 3 (.int (i32 (0))) := ⟨_, rfl⟩
    rw [← eL478]
    have gL478_0 : jGet L478 0 = some (.ref 66) := eL478 ▸ jg_ne (by decide) gL431_0 rfl
    have gL478_1 : jGet L478 1 = some (.int (i32 (lv))) := eL478 ▸ jg_ne (by decide) gL431_1 rfl
    have gL478_2 : jGet L478 2 = some (.int (i32 (nd))) := eL478 ▸ jg_ne (by decide) gL431_2 rfl
    have gL478_3 : jGet L478 3 = some (.int (i32 (0))) := eL478 ▸ jg_eq
    refine jx_ld (pc_q := 22) (l_q := L478) (st_q := [.ref 66]) rfl (jl_aloadn gL478_0) ?_
    refine jx_ld (pc_q := 23) (l_q := L478) (st_q := [.int (i32 (lv)), .ref 66]) rfl (jl_iloadn gL478_1) ?_
    have b479 : (-1 : Int) ≤ A 5 (ln2_454).toNat ∧ A 5 (ln2_454).toNat ≤ 15 := hW.2 5 _
    refine jx_vr (pc_q := 26) (as := [.int (i32 (lv))]) (st := []) rfl rfl rfl rfl ⟨rfl, rfl, Nat.le_of_ble_eq_true rfl⟩ rfl rfl (c_isBelow (dd := d) (hd := by omega) (hW := hW456) (lv := lv) (ln := ln2_454) (e_ln := show G452 9 = ln2_454 from (e458)) (li := li) (e_li := show G452 3 = li from ((hF457.1 3 rfl).trans ((hF437.1 3 rfl).trans ((hF418.1 3 rfl).trans (e_li))))) (fk := fk2_455) (e_fk := show G452 16 = fk2_455 from (e459)) (ll := A 5 (ln2_454).toNat) (e_ll := show A453 5 (ln2_454).toNat = A 5 (ln2_454).toNat from (congrFun ((hF457.2 5 rfl).trans ((hF437.2 5 rfl).trans (hF418.2 5 rfl))) _))  (h_lv := ⟨(Int.le_trans (by decide : (-2147483648 : Int) ≤ -2147483648) h_lv.1), (Int.le_trans h_lv.2 (by decide : (2147483647 : Int) ≤ 2147483647))⟩)  (p_0 := by omega)) (fun o V_q hq => ?_)
    obtain ⟨G480, A481, r482, fk2_483, rfl, rfl, hW484, hF485, b486, e487, q488⟩ := hq
    have hF489 := Fr_tr hF461 hF485 (Fr_sub (by decide)) (Fr_sub (by decide))
    have hP490 := Pf_f hP462 hF485 (by decide)
    have hS491 := Fx_f hS463 hF485 (by decide)
    have hV492 := Fx_f hV464 hF485 (by decide)
    have sf493 : ND A481 (nd) (30) (0) (0) (0) (0) (0) (0) := ND_ag (by omega) (Ag_fr hF485 (by decide)) sf465
    have sf494 : NdM A481 (nd) (nd + 1) (sy) := NdM_f hF485 (by decide) sf466
    have ec495 : ecn A481 (G480 31) = ec2_416 := (ecn_f (hF485.2 15 rfl) (hF485.1 31 rfl)).trans ec467
    have bfk2_483 : (0 : Int) ≤ fk2_483 ∧ fk2_483 ≤ 6 := e487 ▸ hW484.1 16
    refine .inr ⟨_, rfl, ?_⟩
    rcases q488 with ⟨rfl, a496, a497, a498, a499⟩ | ⟨rfl, a500⟩ | ⟨rfl, a501, a502, a503⟩
    · have _q : True := trivial
      exfalso
      omega
    · have _q : True := trivial
      refine jx_if_eq (pc_q := 29) (tg := 112) rfl rfl rfl (by decide) (by decide) (fun h504 => ?_) (fun h504 => ?_)
      · have _q := h504
        refine jx_ld (pc_q := 113) (l_q := L478) (st_q := [.ref 66]) rfl (jl_aloadn gL478_0) ?_
        refine jx_vr (pc_q := 116) (as := []) (st := []) rfl rfl rfl rfl ⟨rfl, rfl, Nat.le_of_ble_eq_true rfl⟩ rfl rfl (c_bad (dd := d) (hd := by omega) (hW := hW484)  (fk := fk2_483) (e_fk := show G480 16 = fk2_483 from (e487))    ) (fun o V_q hq => ?_)
        obtain ⟨r505, rfl, rfl, b506, q507⟩ := hq
        refine .inr ⟨_, rfl, ?_⟩
        rcases q507 with ⟨rfl, a508⟩ | ⟨rfl, a509⟩
        · have _q : True := trivial
          refine jx_if_ne (pc_q := 119) (tg := 131) rfl rfl rfl (by decide) (by decide) (fun h510 => ?_) (fun h510 => ?_)
          · have _q := h510
            refine jx_ld (pc_q := 132) (l_q := L478) (st_q := [.int (i32 (nd))]) rfl (jl_iloadn gL478_2) ?_
            refine jx_rt (v := some (.int (i32 (nd)))) rfl rfl rfl rfl rfl rfl ?_
            exact ⟨_, _, _, ln2_454, at2_434, fk2_483, nd2_415, sy, na, vi, A 3 (ln2_454).toNat, ec2_416, rfl, rfl, hW484, hF489, hP490, hS491, hV492, by omega, ((hF485.1 9 rfl).trans (e458)), ((hF485.1 10 rfl).trans ((hF457.1 10 rfl).trans (e438))), (e487), ((hF485.1 31 rfl).trans ((hF457.1 31 rfl).trans ((hF437.1 31 rfl).trans (e420)))), ((hF485.1 19 rfl).trans ((hF457.1 19 rfl).trans ((hF437.1 19 rfl).trans ((hF418.1 19 rfl).trans (e_sy))))), ((hF485.1 28 rfl).trans ((hF457.1 28 rfl).trans ((hF437.1 28 rfl).trans ((hF418.1 28 rfl).trans (e_na))))), ((hF485.1 29 rfl).trans ((hF457.1 29 rfl).trans ((hF437.1 29 rfl).trans ((hF418.1 29 rfl).trans (e_vi))))), (congrFun ((hF485.2 3 rfl).trans ((hF457.2 3 rfl).trans ((hF437.2 3 rfl).trans (hF418.2 3 rfl)))) _), ec495, by omega, by omega, by omega, by omega, by omega, by omega, by omega, by omega, by omega, by omega, by first | exact Or.inl (⟨by omega, by omega⟩)⟩
          · have _q := h510
            exact absurd h510 (by omega)
        · have _q : True := trivial
          exfalso
          omega
      · have _q := h504
        exact absurd h504 (by omega)
    · have _q : True := trivial
      exfalso
      omega
