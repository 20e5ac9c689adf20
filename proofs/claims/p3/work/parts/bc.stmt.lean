set_option maxRecDepth 20000 in
set_option maxHeartbeats 4000000 in
theorem c_readAlt_w_at_24 {X : jX} {k : Nat} (hP : RPw X k) {d : Nat} {Vs : Nat → Prop} {sb pb : Int} (hvb : VB Vs sb) {c0 c1 : jC} {G : Nat → Int} {A : Nat → Nat → Int} {T : jH} {lv : Int} {ln li at0 fk nd sy na vi le op0 tk0 ec : Int} (hd : 8 * k + 82 ≤ d + 1) (hW : Wk G A) (e_ln : G 9 = ln) (e_li : G 3 = li) (e_at0 : G 10 = at0) (e_fk : G 16 = fk) (e_nd : G 31 = nd) (e_sy : G 19 = sy) (e_na : G 28 = na) (e_vi : G 29 = vi) (e_le : A 4 (ln).toNat = le) (e_op0 : G 15 = op0) (e_tk0 : G 11 = tk0) (e_ec : ecn A (G 31) = ec) (i_LT : LT G A) (i_SV : SV Vs sb G A) (i_PQ : PQ Vs sb pb G A) (h_lv : (-2147483648 : Int) ≤ lv ∧ lv ≤ 2147483647) (p_0 : 0 ≤ lv ∧ lv ≤ 15) (p_1 : 18 - lv ≤ ((k + 1 : Nat) : Int)) (p_2 : fk = 0) (p_3 : ln < li) (p_4 : at0 ≤ le) (p_5 : op0 = 0) (p_6 : nd ≤ 2 * at0 - tz tk0 + 30) (p_7 : sy ≤ na + 2) (p_8 : vi ≤ sy) (p_9 : sb = sy) (p_10 : 1 ≤ tk0) : ∀ (m : Nat) (L : jL) (Gx : Nat → Int) (Ax : Nat → Nat → Int) (n last many ln1 at1 fk1 nd1 sy1 na1 vi1 lf1 ec1 : Int), (li - ln1).toNat = m → jGet L 0 = some (.ref 66) → jGet L 1 = some (.int (i32 (lv))) → jGet L 2 = some (.int (i32 n)) → jGet L 3 = some (.int (i32 last)) → jGet L 4 = some (.int (i32 many)) → Wk Gx Ax → Fr [9, 10, 11, 12, 13, 14, 15, 16, 17, 18, 19, 28, 29, 31] [6, 7, 8, 9, 10, 11, 12, 14, 15, 16, 17, 18, 19, 20, 21, 22, 23, 24, 28] G A Gx Ax → Pf nd A Ax → Fx sr (sy) A Ax → Fx [14] (vi) A Ax → Gx 9 = ln1 → Gx 10 = at1 → Gx 16 = fk1 → Gx 31 = nd1 → Gx 19 = sy1 → Gx 28 = na1 → Gx 29 = vi1 → Ax 3 (ln1).toNat = lf1 → ecn Ax (Gx 31) = ec1 → ((-2147483648 : Int) ≤ n ∧ n ≤ 2147483647) → ((-2147483648 : Int) ≤ last ∧ last ≤ 2147483647) → ((-2147483648 : Int) ≤ many ∧ many ≤ 2147483647) → (fk1 = 0) → (at0 ≤ at1) → (nd ≤ n ∧ n ≤ 6998 ∧ n < nd1) → (sy ≤ sy1) → (sy1 ≤ na1 + 2) → (vi1 = vi) → (ln < ln1) → (ln1 ≤ li) → (nd1 - nd ≤ 2 * at1 - (2 * at0 - tz tk0)) → (at1 < lf1 ∨ li ≤ ln1) → (n = nd) → (0 ≤ last ∧ last ≤ 6998) → (last = 0 ∨ n < last) → (last < nd1) → (0 ≤ many ∧ many ≤ 8) → (ND Ax (n) (32) (0) (0) (0) (0) (Ax 21 (n).toNat) (0)) → (CL 2 Ax (sy1) pb (k) (Vs) (n) (last) (many) (n + 1) (nd1) (sy) (sy1)) → (nd1 - nd + 5 * (ec1 - ec) ≤ 2 * at1 - (2 * at0 - tz tk0)) → (NdM Ax (nd) (nd1) (sy)) → wj X d jm302 (24, L, [], rV c0 c1 Gx Ax T) (fun o V_q => ∃ (G_q : Nat → Int) (A_q : Nat → Nat → Int) (r : Int) (ln2 : Int) (at2 : Int) (fk2 : Int) (nd2 : Int) (sy2 : Int) (na2 : Int) (vi2 : Int) (lf2 : Int) (ec2 : Int), V_q = rV c0 c1 G_q A_q T ∧ o = .inl (some (.int (i32 r))) ∧ Wk G_q A_q ∧ Fr [9, 10, 11, 12, 13, 14, 15, 16, 17, 18, 19, 28, 29, 31] [6, 7, 8, 9, 10, 11, 12, 14, 15, 16, 17, 18, 19, 20, 21, 22, 23, 24, 28] G A G_q A_q ∧ Pf nd A A_q ∧ Fx sr (sy) A A_q ∧ Fx [14] (vi) A A_q ∧ ((-2147483648 : Int) ≤ r ∧ r ≤ 2147483647) ∧ G_q 9 = ln2 ∧ G_q 10 = at2 ∧ G_q 16 = fk2 ∧ G_q 31 = nd2 ∧ G_q 19 = sy2 ∧ G_q 28 = na2 ∧ G_q 29 = vi2 ∧ A_q 3 (ln2).toNat = lf2 ∧ ecn A_q (G_q 31) = ec2 ∧ (at0 ≤ at2) ∧ (nd ≤ nd2) ∧ (sy ≤ sy2) ∧ (sy2 ≤ na2 + 2) ∧ (vi ≤ vi2) ∧ (vi2 ≤ vi + 1) ∧ (0 ≤ r) ∧ (r ≤ 6999) ∧ (ln ≤ ln2) ∧ (ln2 ≤ li) ∧ (((1 ≤ fk2) ∧ (nd2 - nd ≤ 2 * at2 - (2 * at0 - tz tk0) + 14)) ∨ ((fk2 = 0) ∧ (vi2 = vi) ∧ (ln < ln2) ∧ (nd2 - nd ≤ 2 * at2 - (2 * at0 - tz tk0)) ∧ (at2 < lf2 ∨ li ≤ ln2) ∧ (nd ≤ r) ∧ (r < nd2) ∧ (wSt A_q (sy2) pb (wP A_q (sy2) pb (k)) (Vs) (r) (nd) (nd2) (sy) (sy2)) ∧ (NX A_q (r)) ∧ (nd2 - nd + 5 * (ec2 - ec) ≤ 2 * at2 - (2 * at0 - tz tk0)) ∧ (NdM A_q (nd) (nd2) (sy))))) := by
  have hF0 : Fr [9, 10, 11, 12, 13, 14, 15, 16, 17, 18, 19, 28, 29, 31] [6, 7, 8, 9, 10, 11, 12, 14, 15, 16, 17, 18, 19, 20, 21, 22, 23, 24, 28] G A G A := Fr_rf
  have hP0 : Pf nd A A := Pf_rf
  have hS0 : Fx sr (sy) A A := Fx_rf
  have hV0 : Fx [14] (vi) A A := Fx_rf
  have b_ln : (0 : Int) ≤ ln ∧ ln ≤ 3000 := e_ln ▸ hW.1 9
  have b_li : (0 : Int) ≤ li ∧ li ≤ 3000 := e_li ▸ hW.1 3
  have b_at0 : (0 : Int) ≤ at0 ∧ at0 ≤ 3002 := e_at0 ▸ hW.1 10
  have b_fk : (0 : Int) ≤ fk ∧ fk ≤ 6 := e_fk ▸ hW.1 16
  have b_nd : (0 : Int) ≤ nd ∧ nd ≤ 6999 := e_nd ▸ hW.1 31
  have b_sy : (0 : Int) ≤ sy ∧ sy ≤ 202 := e_sy ▸ hW.1 19
  have b_na : (0 : Int) ≤ na ∧ na ≤ 200 := e_na ▸ hW.1 28
  have b_vi : (0 : Int) ≤ vi ∧ vi ≤ 202 := e_vi ▸ hW.1 29
  have b_le : (0 : Int) ≤ le ∧ le ≤ 3000 := e_le ▸ hW.2 4 _
  have b_op0 : (-2147483648 : Int) ≤ op0 ∧ op0 ≤ 2147483647 := e_op0 ▸ hW.1 15
  have z_tk0 := tz_f tk0
  have b_tk0 : (0 : Int) ≤ tk0 ∧ tk0 ≤ 5 := e_tk0 ▸ hW.1 11
  intro m
  induction m using Nat.strongRecOn with
  | ind m ih24 =>
    intro L Gx Ax n last many ln1 at1 fk1 nd1 sy1 na1 vi1 lf1 ec1 hm gL_0 gL_1 gL_2 gL_3 gL_4 hWx hFx hPx hSx hVx ex_ln1 ex_at1 ex_fk1 ex_nd1 ex_sy1 ex_na1 ex_vi1 ex_lf1 ex_ec1 rx_n rx_last rx_many iv_0 iv_1 iv_2 iv_3 iv_4 iv_5 iv_6 iv_7 iv_8 iv_9 iv_10 iv_11 iv_12 iv_13 iv_14 iv_15 iv_16 iv_17 iv_18
    have b_ln1 : (0 : Int) ≤ ln1 ∧ ln1 ≤ 3000 := ex_ln1 ▸ hWx.1 9
    have b_at1 : (0 : Int) ≤ at1 ∧ at1 ≤ 3002 := ex_at1 ▸ hWx.1 10
    have b_fk1 : (0 : Int) ≤ fk1 ∧ fk1 ≤ 6 := ex_fk1 ▸ hWx.1 16
    have b_nd1 : (0 : Int) ≤ nd1 ∧ nd1 ≤ 6999 := ex_nd1 ▸ hWx.1 31
    have b_sy1 : (0 : Int) ≤ sy1 ∧ sy1 ≤ 202 := ex_sy1 ▸ hWx.1 19
    have b_na1 : (0 : Int) ≤ na1 ∧ na1 ≤ 200 := ex_na1 ▸ hWx.1 28
    have b_vi1 : (0 : Int) ≤ vi1 ∧ vi1 ≤ 202 := ex_vi1 ▸ hWx.1 29
    refine jx_ld (pc_q := 25) (l_q := L) (st_q := [.ref 66]) rfl (jl_aloadn gL_0) ?_
    refine jx_ld (pc_q := 26) (l_q := L) (st_q := [.int (i32 (lv)), .ref 66]) rfl (jl_iloadn gL_1) ?_
    have b1 : (-1 : Int) ≤ A 5 (ln1).toNat ∧ A 5 (ln1).toNat ≤ 15 := hW.2 5 _
    refine jx_vr (pc_q := 29) (as := [.int (i32 (lv))]) (st := []) rfl rfl rfl rfl ⟨rfl, rfl, Nat.le_of_ble_eq_true rfl⟩ rfl rfl (c_isBelow (dd := d) (hd := by omega) (hW := hWx) (lv := lv) (ln := ln1) (e_ln := show Gx 9 = ln1 from (ex_ln1)) (li := li) (e_li := show Gx 3 = li from ((hFx.1 3 rfl).trans (e_li))) (fk := fk1) (e_fk := show Gx 16 = fk1 from (ex_fk1)) (ll := A 5 (ln1).toNat) (e_ll := show Ax 5 (ln1).toNat = A 5 (ln1).toNat from (congrFun (hFx.2 5 rfl) _))  (h_lv := ⟨(Int.le_trans (by decide : (-2147483648 : Int) ≤ -2147483648) h_lv.1), (Int.le_trans h_lv.2 (by decide : (2147483647 : Int) ≤ 2147483647))⟩)  (p_0 := by omega)) (fun o V_q hq => ?_)
    obtain ⟨G2, A3, r4, fk2_5, rfl, rfl, hW6, hF7, b8, e9, q10⟩ := hq
    have hF11 := Fr_tr hFx hF7 (Fr_sub (by decide)) (Fr_sub (by decide))
    have hP12 := Pf_f hPx hF7 (by decide)
    have hS13 := Fx_f hSx hF7 (by decide)
    have hV14 := Fx_f hVx hF7 (by decide)
    have sf15 : ND A3 (n) (32) (0) (0) (0) (0) (Ax 21 (n).toNat) (0) := ND_ag (by omega) (Ag_fr hF7 (by decide)) iv_15
    have sf16 : CL 2 A3 (sy1) pb (k) (Vs) (n) (last) (many) (n + 1) (nd1) (sy) (sy1) := CL_ag (by omega) (by omega) (Sg_fr hF7 (by decide)) (Qg_fr hF7 (by decide)) (Ag_fr hF7 (by decide)) (congrFun (hF7.2 21 rfl) _) iv_16
    have sf17 : NdM A3 (nd) (nd1) (sy) := NdM_f hF7 (by decide) iv_18
    have ec18 : ecn A3 (G2 31) = ec1 := (ecn_f (hF7.2 15 rfl) (hF7.1 31 rfl)).trans ex_ec1
    have bfk2_5 : (0 : Int) ≤ fk2_5 ∧ fk2_5 ≤ 6 := e9 ▸ hW6.1 16
    refine .inr ⟨_, rfl, ?_⟩
    rcases q10 with ⟨rfl, a19, a20, a21, a22⟩ | ⟨rfl, a23⟩ | ⟨rfl, a24, a25, a26⟩
    · have _q : True := trivial
      have b27 : (0 : Int) ≤ A 4 (ln1).toNat ∧ A 4 (ln1).toNat ≤ 3000 := hW.2 4 _
      have lt28 : lf1 < A 4 (ln1).toNat := LT_at (LT_ext (((hF7.1 3 rfl).trans (hFx.1 3 rfl))) (((hF7.2 3 rfl).trans (hFx.2 3 rfl))) (((hF7.2 4 rfl).trans (hFx.2 4 rfl))) i_LT) (show G2 3 = li from ((hF7.1 3 rfl).trans ((hFx.1 3 rfl).trans (e_li)))) (show A3 3 (ln1).toNat = lf1 from (congrFun (hF7.2 3 rfl) _).trans (ex_lf1)) (show A3 4 (ln1).toNat = A 4 (ln1).toNat from (congrFun ((hF7.2 4 rfl).trans (hFx.2 4 rfl)) _)) (by omega) (by omega)
      refine jx_if_eq (pc_q := 32) (tg := 130) rfl rfl rfl (by decide) (by decide) (fun h29 => ?_) (fun h29 => ?_)
      · have _q := h29
        exact absurd h29 (by omega)
      · have _q := h29
        refine jx_ld (pc_q := 34) (l_q := L) (st_q := [.int (i32 (many))]) rfl (jl_iload gL_4) ?_
        refine jx_ar (pc_q := 36) (st_q := [.int (i32 (8)), .int (i32 (many))]) rfl rfl rfl rfl ?_
        refine jx_icmp_ne (pc_q := 39) (tg := 65) rfl rfl rfl (Int.le_trans (by decide : (-2147483648 : Int) ≤ -2147483648) rx_many.1) (Int.le_trans rx_many.2 (by decide : (2147483647 : Int) ≤ 2147483647)) (by decide) (by decide) (fun h30 => ?_) (fun h30 => ?_)
        · have _q := h30
          refine jx_ld (pc_q := 66) (l_q := L) (st_q := [.ref 66]) rfl (jl_aloadn gL_0) ?_
          refine jx_vr (pc_q := 69) (as := []) (st := []) rfl rfl rfl rfl ⟨rfl, rfl, Nat.le_of_ble_eq_true rfl⟩ rfl rfl (c_openLine (dd := d) (hd := by omega) (hW := hW6)  (ln := ln1) (e_ln := show G2 9 = ln1 from ((hF7.1 9 rfl).trans (ex_ln1))) (le := A 4 (ln1).toNat) (e_le := show A3 4 (ln1).toNat = A 4 (ln1).toNat from (congrFun ((hF7.2 4 rfl).trans (hFx.2 4 rfl)) _)) (lf := lf1) (e_lf := show A3 3 (ln1).toNat = lf1 from (congrFun (hF7.2 3 rfl) _).trans (ex_lf1))    (p_0 := by omega)) (fun o V_q hq => ?_)
          obtain ⟨G31, A32, at2_33, tk2_34, op2_35, rfl, rfl, hW36, hF37, e38, e39, e40, p41, p42, p43, p44, -⟩ := hq
          have hF46 := Fr_tr hF11 hF37 (Fr_sub (by decide)) (Fr_sub (by decide))
          have hP47 := Pf_f hP12 hF37 (by decide)
          have hS48 := Fx_f hS13 hF37 (by decide)
          have hV49 := Fx_f hV14 hF37 (by decide)
          have sf50 : ND A32 (n) (32) (0) (0) (0) (0) (Ax 21 (n).toNat) (0) := ND_ag (by omega) (Ag_fr hF37 (by decide)) sf15
          have sf51 : CL 2 A32 (sy1) pb (k) (Vs) (n) (last) (many) (n + 1) (nd1) (sy) (sy1) := CL_ag (by omega) (by omega) (Sg_fr hF37 (by decide)) (Qg_fr hF37 (by decide)) (Ag_fr hF37 (by decide)) (congrFun (hF37.2 21 rfl) _) sf16
          have sf52 : NdM A32 (nd) (nd1) (sy) := NdM_f hF37 (by decide) sf17
          have ec53 : ecn A32 (G31 31) = ec1 := (ecn_f (hF37.2 15 rfl) (hF37.1 31 rfl)).trans ec18
          have bat2_33 : (0 : Int) ≤ at2_33 ∧ at2_33 ≤ 3002 := e38 ▸ hW36.1 10
          have ztk2_34 := tz_b tk2_34
          have btk2_34 : (0 : Int) ≤ tk2_34 ∧ tk2_34 ≤ 5 := e39 ▸ hW36.1 11
          have bop2_35 : (-2147483648 : Int) ≤ op2_35 ∧ op2_35 ≤ 2147483647 := e40 ▸ hW36.1 15
          refine .inl ⟨rfl, ?_⟩
          have pz54 : lf1 + tz tk2_34 ≤ at2_33 := by omega
          refine jx_ld (pc_q := 70) (l_q := L) (st_q := [.ref 66]) rfl (jl_aloadn gL_0) ?_
          refine jx_vr (pc_q := 73) (as := []) (st := []) rfl rfl rfl rfl ⟨rfl, rfl, Nat.le_of_ble_eq_true rfl⟩ rfl rfl (c_readGuard_w (dd := d) (hd := by omega) (hW := hW36)  (ln := ln1) (e_ln := show G31 9 = ln1 from ((hF37.1 9 rfl).trans ((hF7.1 9 rfl).trans (ex_ln1)))) (le := A 4 (ln1).toNat) (e_le := show A32 4 (ln1).toNat = A 4 (ln1).toNat from (congrFun ((hF37.2 4 rfl).trans ((hF7.2 4 rfl).trans (hFx.2 4 rfl))) _)) (at0 := at2_33) (e_at0 := show G31 10 = at2_33 from (e38)) (fk := fk2_5) (e_fk := show G31 16 = fk2_5 from ((hF37.1 16 rfl).trans (e9))) (op0 := op2_35) (e_op0 := show G31 15 = op2_35 from (e40)) (nd := nd1) (e_nd := show G31 31 = nd1 from ((hF37.1 31 rfl).trans ((hF7.1 31 rfl).trans (ex_nd1)))) (tk0 := tk2_34) (e_tk0 := show G31 11 = tk2_34 from (e39)) (li := li) (e_li := show G31 3 = li from ((hF37.1 3 rfl).trans ((hF7.1 3 rfl).trans ((hFx.1 3 rfl).trans (e_li))))) (ec := ec1) (e_ec := show ecn A32 (G31 31) = ec1 from ec53) (sy := sy1) (e_sy := show G31 19 = sy1 from ((hF37.1 19 rfl).trans ((hF7.1 19 rfl).trans (ex_sy1)))) (i_SV := (SV_fx i_SV e_vi (show G31 29 = vi1 from ((hF37.1 29 rfl).trans ((hF7.1 29 rfl).trans (ex_vi1)))) (by omega) hV49))   (p_0 := by omega) (p_1 := by omega) (p_2 := by omega) (p_3 := by omega) (p_4 := by omega)) (fun o V_q hq => ?_)
          obtain ⟨G55, A56, r57, at2_58, fk2_59, nd2_60, ln2_61, ec2_62, rfl, rfl, hW63, hF64, hQ65, b66, e67, e68, e69, e70, e71, p72, p73, p74, p75, p76, q77⟩ := hq
          have hF78 := Fr_tr hF46 hF64 (Fr_sub (by decide)) (Fr_sub (by decide))
          have hP79 := Pf_tr hP47 hQ65 (by omega)
          have hS80 := Fx_f hS48 hF64 (by decide)
          have hV81 := Fx_f hV49 hF64 (by decide)
          have sf82 : ND A56 (n) (32) (0) (0) (0) (0) (Ax 21 (n).toNat) (0) := ND_ag (by omega) (Ag_pf hQ65 (by omega)) sf50
          have sf83 : CL 2 A56 (sy1) pb (k) (Vs) (n) (last) (many) (n + 1) (nd1) (sy) (sy1) := CL_ag (by omega) (by omega) (Sg_fr hF64 (by decide)) (Qg_fr hF64 (by decide)) (Ag_pf hQ65 (by omega)) (hQ65 21 _ rfl (by omega)) sf51
          have sf84 : NdM A56 (nd) (nd1) (sy) := NdM_pf hQ65 (by omega) (by omega) sf52
          have bat2_58 : (0 : Int) ≤ at2_58 ∧ at2_58 ≤ 3002 := e67 ▸ hW63.1 10
          have bfk2_59 : (0 : Int) ≤ fk2_59 ∧ fk2_59 ≤ 6 := e68 ▸ hW63.1 16
          have bnd2_60 : (0 : Int) ≤ nd2_60 ∧ nd2_60 ≤ 6999 := e69 ▸ hW63.1 31
          have bln2_61 : (0 : Int) ≤ ln2_61 ∧ ln2_61 ≤ 3000 := e70 ▸ hW63.1 9
          refine .inr ⟨_, rfl, ?_⟩
          rcases q77 with ⟨a85, a86, a87⟩ | ⟨a88, a89, a90, a91, a92, a93, a94, a95, a96⟩
          · have _q : True := trivial
            refine jx_ld (pc_q := 75) (l_q := jSto1 L 5 (.int (i32 (r57)))) (st_q := []) rfl rfl ?_
            obtain ⟨L97, eL97⟩ : ∃ q, q = jSto1 L 5 (.int (i32 (r57))) := ⟨_, rfl⟩
            rw [← eL97]
            have gL97_0 : jGet L97 0 = some (.ref 66) := eL97 ▸ jg_ne (by decide) gL_0 rfl
            have gL97_1 : jGet L97 1 = some (.int (i32 (lv))) := eL97 ▸ jg_ne (by decide) gL_1 rfl
            have gL97_2 : jGet L97 2 = some (.int (i32 (n))) := eL97 ▸ jg_ne (by decide) gL_2 rfl
            have gL97_3 : jGet L97 3 = some (.int (i32 (last))) := eL97 ▸ jg_ne (by decide) gL_3 rfl
            have gL97_4 : jGet L97 4 = some (.int (i32 (many))) := eL97 ▸ jg_ne (by decide) gL_4 rfl
            have gL97_5 : jGet L97 5 = some (.int (i32 (r57))) := eL97 ▸ jg_eq
            refine jx_ld (pc_q := 76) (l_q := L97) (st_q := [.ref 66]) rfl (jl_aloadn gL97_0) ?_
            refine jx_vr (pc_q := 79) (as := []) (st := []) rfl rfl rfl rfl ⟨rfl, rfl, Nat.le_of_ble_eq_true rfl⟩ rfl rfl (c_bad (dd := d) (hd := by omega) (hW := hW63)  (fk := fk2_59) (e_fk := show G55 16 = fk2_59 from (e68))    ) (fun o V_q hq => ?_)
            obtain ⟨r98, rfl, rfl, b99, q100⟩ := hq
            refine .inr ⟨_, rfl, ?_⟩
            rcases q100 with ⟨rfl, a101⟩ | ⟨rfl, a102⟩
            · have _q : True := trivial
              refine jx_if_eq (pc_q := 82) (tg := 86) rfl rfl rfl (by decide) (by decide) (fun h103 => ?_) (fun h103 => ?_)
              · have _q := h103
                exact absurd h103 (by omega)
              · have _q := h103
                refine jx_ar (pc_q := 83) (st_q := [.int (i32 (0))]) rfl rfl rfl rfl ?_
                refine jx_go (tg := 93) rfl rfl ?_
                refine jx_ld (pc_q := 95) (l_q := jSto1 L97 6 (.int (i32 (0)))) (st_q := []) rfl rfl ?_
                obtain ⟨L104, eL104⟩ : ∃ q, q = jSto1 L97 6 (.int (i32 (0))) := ⟨_, rfl⟩
                rw [← eL104]
                have gL104_0 : jGet L104 0 = some (.ref 66) := eL104 ▸ jg_ne (by decide) gL97_0 rfl
                have gL104_1 : jGet L104 1 = some (.int (i32 (lv))) := eL104 ▸ jg_ne (by decide) gL97_1 rfl
                have gL104_2 : jGet L104 2 = some (.int (i32 (n))) := eL104 ▸ jg_ne (by decide) gL97_2 rfl
                have gL104_3 : jGet L104 3 = some (.int (i32 (last))) := eL104 ▸ jg_ne (by decide) gL97_3 rfl
                have gL104_4 : jGet L104 4 = some (.int (i32 (many))) := eL104 ▸ jg_ne (by decide) gL97_4 rfl
                have gL104_5 : jGet L104 5 = some (.int (i32 (r57))) := eL104 ▸ jg_ne (by decide) gL97_5 rfl
                have gL104_6 : jGet L104 6 = some (.int (i32 (0))) := eL104 ▸ jg_eq
                refine jx_ld (pc_q := 96) (l_q := L104) (st_q := [.ref 66]) rfl (jl_aloadn gL104_0) ?_
                refine jx_vr (pc_q := 99) (as := []) (st := []) rfl rfl rfl rfl ⟨rfl, rfl, Nat.le_of_ble_eq_true rfl⟩ rfl rfl (c_bad (dd := d) (hd := by omega) (hW := hW63)  (fk := fk2_59) (e_fk := show G55 16 = fk2_59 from (e68))    ) (fun o V_q hq => ?_)
                obtain ⟨r105, rfl, rfl, b106, q107⟩ := hq
                refine .inr ⟨_, rfl, ?_⟩
                rcases q107 with ⟨rfl, a108⟩ | ⟨rfl, a109⟩
                · have _q : True := trivial
                  refine jx_if_eq (pc_q := 102) (tg := 104) rfl rfl rfl (by decide) (by decide) (fun h110 => ?_) (fun h110 => ?_)
                  · have _q := h110
                    exact absurd h110 (by omega)
                  · have _q := h110
                    refine jx_ar (pc_q := 103) (st_q := [.int (i32 (0))]) rfl rfl rfl rfl ?_
                    refine jx_rt (v := some (.int (i32 (0)))) rfl rfl rfl rfl rfl rfl ?_
                    exact ⟨_, _, _, ln2_61, at2_58, fk2_59, nd2_60, sy1, na1, vi1, A 3 (ln2_61).toNat, ec2_62, rfl, rfl, hW63, hF78, hP79, hS80, hV81, by omega, (e70), (e67), (e68), (e69), ((hF64.1 19 rfl).trans ((hF37.1 19 rfl).trans ((hF7.1 19 rfl).trans (ex_sy1)))), ((hF64.1 28 rfl).trans ((hF37.1 28 rfl).trans ((hF7.1 28 rfl).trans (ex_na1)))), ((hF64.1 29 rfl).trans ((hF37.1 29 rfl).trans ((hF7.1 29 rfl).trans (ex_vi1)))), (congrFun ((hF64.2 3 rfl).trans ((hF37.2 3 rfl).trans ((hF7.2 3 rfl).trans (hFx.2 3 rfl)))) _), e71, by omega, by omega, by omega, by omega, by omega, by omega, by omega, by omega, by omega, by omega, by first | exact Or.inl (⟨by omega, by omega⟩)⟩
                · have _q : True := trivial
                  exfalso
                  omega
            · have _q : True := trivial
              exfalso
              omega
          · have _q : True := trivial
            have b111 : (0 : Int) ≤ A 3 (ln2_61).toNat ∧ A 3 (ln2_61).toNat ≤ 3000 := hW.2 3 _
            have lt112 : ln2_61 < li → A 4 (ln1).toNat < A 3 (ln2_61).toNat := fun hh => LT_nx (LT_ext (((hF64.1 3 rfl).trans ((hF37.1 3 rfl).trans ((hF7.1 3 rfl).trans (hFx.1 3 rfl))))) (((hF64.2 3 rfl).trans ((hF37.2 3 rfl).trans ((hF7.2 3 rfl).trans (hFx.2 3 rfl))))) (((hF64.2 4 rfl).trans ((hF37.2 4 rfl).trans ((hF7.2 4 rfl).trans (hFx.2 4 rfl))))) i_LT) (show G55 3 = li from ((hF64.1 3 rfl).trans ((hF37.1 3 rfl).trans ((hF7.1 3 rfl).trans ((hFx.1 3 rfl).trans (e_li)))))) (show A56 4 (ln1).toNat = A 4 (ln1).toNat from (congrFun ((hF64.2 4 rfl).trans ((hF37.2 4 rfl).trans ((hF7.2 4 rfl).trans (hFx.2 4 rfl)))) _)) (show A56 3 (ln2_61).toNat = A 3 (ln2_61).toNat from (congrFun ((hF64.2 3 rfl).trans ((hF37.2 3 rfl).trans ((hF7.2 3 rfl).trans (hFx.2 3 rfl)))) _)) (show ln2_61 = ln1 + 1 by omega) (by omega) hh
            refine jx_ld (pc_q := 75) (l_q := jSto1 L 5 (.int (i32 (r57)))) (st_q := []) rfl rfl ?_
            obtain ⟨L113, eL113⟩ : ∃ q, q = jSto1 L 5 (.int (i32 (r57))) := ⟨_, rfl⟩
            rw [← eL113]
            have gL113_0 : jGet L113 0 = some (.ref 66) := eL113 ▸ jg_ne (by decide) gL_0 rfl
            have gL113_1 : jGet L113 1 = some (.int (i32 (lv))) := eL113 ▸ jg_ne (by decide) gL_1 rfl
            have gL113_2 : jGet L113 2 = some (.int (i32 (n))) := eL113 ▸ jg_ne (by decide) gL_2 rfl
            have gL113_3 : jGet L113 3 = some (.int (i32 (last))) := eL113 ▸ jg_ne (by decide) gL_3 rfl
            have gL113_4 : jGet L113 4 = some (.int (i32 (many))) := eL113 ▸ jg_ne (by decide) gL_4 rfl
            have gL113_5 : jGet L113 5 = some (.int (i32 (r57))) := eL113 ▸ jg_eq
            refine jx_ld (pc_q := 76) (l_q := L113) (st_q := [.ref 66]) rfl (jl_aloadn gL113_0) ?_
            refine jx_vr (pc_q := 79) (as := []) (st := []) rfl rfl rfl rfl ⟨rfl, rfl, Nat.le_of_ble_eq_true rfl⟩ rfl rfl (c_bad (dd := d) (hd := by omega) (hW := hW63)  (fk := fk2_59) (e_fk := show G55 16 = fk2_59 from (e68))    ) (fun o V_q hq => ?_)
            obtain ⟨r114, rfl, rfl, b115, q116⟩ := hq
            refine .inr ⟨_, rfl, ?_⟩
            rcases q116 with ⟨rfl, a117⟩ | ⟨rfl, a118⟩
            · have _q : True := trivial
              exfalso
              omega
            · have _q : True := trivial
              refine jx_if_eq (pc_q := 82) (tg := 86) rfl rfl rfl (by decide) (by decide) (fun h119 => ?_) (fun h119 => ?_)
              · have _q := h119
                refine jx_ld (pc_q := 87) (l_q := L113) (st_q := [.ref 66]) rfl (jl_aloadn gL113_0) ?_
                refine jx_ld (pc_q := 88) (l_q := L113) (st_q := [.int (i32 (lv)), .ref 66]) rfl (jl_iloadn gL113_1) ?_
                refine jx_ar (pc_q := 89) (st_q := [.int (i32 (2)), .int (i32 (lv)), .ref 66]) rfl rfl rfl rfl ?_
                refine jx_add (pc_q := 90) rfl rfl ?_
                refine jx_vr (pc_q := 93) (as := [.int (i32 ((lv + 2)))]) (st := []) rfl rfl rfl rfl ⟨rfl, rfl, Nat.le_of_ble_eq_true rfl⟩ rfl rfl (hP (dd := d) (hd := by omega) (hW := hW63) (lv := (lv + 2)) (at0 := at2_58) (ln := ln2_61) (e_ln := show G55 9 = ln2_61 from (e70)) (li := li) (e_li := show G55 3 = li from ((hF64.1 3 rfl).trans ((hF37.1 3 rfl).trans ((hF7.1 3 rfl).trans ((hFx.1 3 rfl).trans (e_li)))))) (fk := fk2_59) (e_fk := show G55 16 = fk2_59 from (e68)) (nd := nd2_60) (e_nd := show G55 31 = nd2_60 from (e69)) (sy := sy1) (e_sy := show G55 19 = sy1 from ((hF64.1 19 rfl).trans ((hF37.1 19 rfl).trans ((hF7.1 19 rfl).trans (ex_sy1))))) (na := na1) (e_na := show G55 28 = na1 from ((hF64.1 28 rfl).trans ((hF37.1 28 rfl).trans ((hF7.1 28 rfl).trans (ex_na1))))) (vi := vi1) (e_vi := show G55 29 = vi1 from ((hF64.1 29 rfl).trans ((hF37.1 29 rfl).trans ((hF7.1 29 rfl).trans (ex_vi1))))) (lf := A 3 (ln2_61).toNat) (e_lf := show A56 3 (ln2_61).toNat = A 3 (ln2_61).toNat from (congrFun ((hF64.2 3 rfl).trans ((hF37.2 3 rfl).trans ((hF7.2 3 rfl).trans (hFx.2 3 rfl)))) _)) (ac := at2_58) (e_ac := show G55 10 = at2_58 from (e67)) (ec := ec2_62) (e_ec := show ecn A56 (G55 31) = ec2_62 from e71) (i_LT := (LT_ext (((hF64.1 3 rfl).trans ((hF37.1 3 rfl).trans ((hF7.1 3 rfl).trans (hFx.1 3 rfl))))) (((hF64.2 3 rfl).trans ((hF37.2 3 rfl).trans ((hF7.2 3 rfl).trans (hFx.2 3 rfl))))) (((hF64.2 4 rfl).trans ((hF37.2 4 rfl).trans ((hF7.2 4 rfl).trans (hFx.2 4 rfl))))) i_LT)) (i_SV := (SV_fx i_SV e_vi (show G55 29 = vi1 from ((hF64.1 29 rfl).trans ((hF37.1 29 rfl).trans ((hF7.1 29 rfl).trans (ex_vi1))))) (by omega) hV81)) (i_PQ := (PQ_fx i_PQ hS80 (by omega) (hF78.2 29 rfl) (hF78.2 30 rfl))) (hvb := hvb) (h_lv := ⟨(by omega), (by omega)⟩)  (p_0 := by omega) (p_1 := by omega) (p_2 := by omega) (p_3 := by omega) (p_4 := by omega) (p_5 := by omega) (p_6 := by omega) (p_7 := by omega) (p_8 := by omega) (p_9 := by omega) (p_10 := by omega)) (fun o V_q hq => ?_)
                obtain ⟨G120, A121, r122, ln2_123, at2_124, fk2_125, nd2_126, sy2_127, na2_128, vi2_129, lf2_130, ec2_131, rfl, rfl, hW132, hF133, hQ134, hQ135, hQ136, b137, e138, e139, e140, e141, e142, e143, e144, e145, e146, p147, p148, p149, p150, p151, p152, p153, p154, p155, q156⟩ := hq
                have hF157 := Fr_tr hF78 hF133 (Fr_sub (by decide)) (Fr_sub (by decide))
                have hP158 := Pf_tr hP79 hQ134 (by omega)
                have hS159 := Fx_tr hS80 hQ135 (by omega)
                have hV160 := Fx_tr hV81 hQ136 (by omega)
                have sf161 : ND A121 (n) (32) (0) (0) (0) (0) (Ax 21 (n).toNat) (0) := ND_ag (by omega) (Ag_pf hQ134 (by omega)) sf82
                have sf162 : CL 2 A121 (sy1) pb (k) (Vs) (n) (last) (many) (n + 1) (nd1) (sy) (sy1) := CL_ag (by omega) (by omega) (Fx_su hQ135 (by omega)) (Qg_fr hF133 (by decide)) (Ag_pf hQ134 (by omega)) (hQ134 21 _ rfl (by omega)) sf83
                have sf163 : NdM A121 (nd) (nd1) (sy) := NdM_pf hQ134 (by omega) (by omega) sf84
                have sf164 : wU A121 Vs sb (r57) (nd1) (nd2_60) := wU_ag (by omega) (Fx_su hQ135 (by omega)) (Ax_ag (Ag_pf hQ134 (by omega))) a93
                have sf165 : NX A121 (r57) := NX_ag (by omega) (Ag_pf hQ134 (by omega)) a94
                have sf166 : NdM A121 (nd1) (nd2_60) (sy1) := NdM_pf hQ134 (by omega) (by omega) a96
                have bln2_123 : (0 : Int) ≤ ln2_123 ∧ ln2_123 ≤ 3000 := e138 ▸ hW132.1 9
                have bat2_124 : (0 : Int) ≤ at2_124 ∧ at2_124 ≤ 3002 := e139 ▸ hW132.1 10
                have bfk2_125 : (0 : Int) ≤ fk2_125 ∧ fk2_125 ≤ 6 := e140 ▸ hW132.1 16
                have bnd2_126 : (0 : Int) ≤ nd2_126 ∧ nd2_126 ≤ 6999 := e141 ▸ hW132.1 31
                have bsy2_127 : (0 : Int) ≤ sy2_127 ∧ sy2_127 ≤ 202 := e142 ▸ hW132.1 19
                have bna2_128 : (0 : Int) ≤ na2_128 ∧ na2_128 ≤ 200 := e143 ▸ hW132.1 28
                have bvi2_129 : (0 : Int) ≤ vi2_129 ∧ vi2_129 ≤ 202 := e144 ▸ hW132.1 29
                have blf2_130 : (0 : Int) ≤ lf2_130 ∧ lf2_130 ≤ 3000 := e145 ▸ hW132.2 3 _
                refine .inr ⟨_, rfl, ?_⟩
                rcases q156 with ⟨a167, a168⟩ | ⟨a169, a170, a171, a172, a173, a174, a175, a176, a177, a178⟩
                · have _q : True := trivial
                  refine jx_ld (pc_q := 95) (l_q := jSto1 L113 6 (.int (i32 (r122)))) (st_q := []) rfl rfl ?_
                  obtain ⟨L179, eL179⟩ : ∃ q, q = jSto1 L113 6 (.int (i32 (r122))) := ⟨_, rfl⟩
                  rw [← eL179]
                  have gL179_0 : jGet L179 0 = some (.ref 66) := eL179 ▸ jg_ne (by decide) gL113_0 rfl
                  have gL179_1 : jGet L179 1 = some (.int (i32 (lv))) := eL179 ▸ jg_ne (by decide) gL113_1 rfl
                  have gL179_2 : jGet L179 2 = some (.int (i32 (n))) := eL179 ▸ jg_ne (by decide) gL113_2 rfl
                  have gL179_3 : jGet L179 3 = some (.int (i32 (last))) := eL179 ▸ jg_ne (by decide) gL113_3 rfl
                  have gL179_4 : jGet L179 4 = some (.int (i32 (many))) := eL179 ▸ jg_ne (by decide) gL113_4 rfl
                  have gL179_5 : jGet L179 5 = some (.int (i32 (r57))) := eL179 ▸ jg_ne (by decide) gL113_5 rfl
                  have gL179_6 : jGet L179 6 = some (.int (i32 (r122))) := eL179 ▸ jg_eq
                  refine jx_ld (pc_q := 96) (l_q := L179) (st_q := [.ref 66]) rfl (jl_aloadn gL179_0) ?_
                  refine jx_vr (pc_q := 99) (as := []) (st := []) rfl rfl rfl rfl ⟨rfl, rfl, Nat.le_of_ble_eq_true rfl⟩ rfl rfl (c_bad (dd := d) (hd := by omega) (hW := hW132)  (fk := fk2_125) (e_fk := show G120 16 = fk2_125 from (e140))    ) (fun o V_q hq => ?_)
                  obtain ⟨r180, rfl, rfl, b181, q182⟩ := hq
                  refine .inr ⟨_, rfl, ?_⟩
                  rcases q182 with ⟨rfl, a183⟩ | ⟨rfl, a184⟩
                  · have _q : True := trivial
                    refine jx_if_eq (pc_q := 102) (tg := 104) rfl rfl rfl (by decide) (by decide) (fun h185 => ?_) (fun h185 => ?_)
                    · have _q := h185
                      exact absurd h185 (by omega)
                    · have _q := h185
                      refine jx_ar (pc_q := 103) (st_q := [.int (i32 (0))]) rfl rfl rfl rfl ?_
                      refine jx_rt (v := some (.int (i32 (0)))) rfl rfl rfl rfl rfl rfl ?_
                      exact ⟨_, _, _, ln2_123, at2_124, fk2_125, nd2_126, sy2_127, na2_128, vi2_129, lf2_130, ec2_131, rfl, rfl, hW132, hF157, hP158, hS159, hV160, by omega, (e138), (e139), (e140), (e141), (e142), (e143), (e144), (e145), e146, by omega, by omega, by omega, by omega, by omega, by omega, by omega, by omega, by omega, by omega, by first | exact Or.inl (⟨by omega, by omega⟩)⟩
                  · have _q : True := trivial
                    exfalso
                    omega
                · have _q : True := trivial
                  refine jx_ld (pc_q := 95) (l_q := jSto1 L113 6 (.int (i32 (r122)))) (st_q := []) rfl rfl ?_
                  obtain ⟨L186, eL186⟩ : ∃ q, q = jSto1 L113 6 (.int (i32 (r122))) := ⟨_, rfl⟩
                  rw [← eL186]
                  have gL186_0 : jGet L186 0 = some (.ref 66) := eL186 ▸ jg_ne (by decide) gL113_0 rfl
                  have gL186_1 : jGet L186 1 = some (.int (i32 (lv))) := eL186 ▸ jg_ne (by decide) gL113_1 rfl
                  have gL186_2 : jGet L186 2 = some (.int (i32 (n))) := eL186 ▸ jg_ne (by decide) gL113_2 rfl
                  have gL186_3 : jGet L186 3 = some (.int (i32 (last))) := eL186 ▸ jg_ne (by decide) gL113_3 rfl
                  have gL186_4 : jGet L186 4 = some (.int (i32 (many))) := eL186 ▸ jg_ne (by decide) gL113_4 rfl
                  have gL186_5 : jGet L186 5 = some (.int (i32 (r57))) := eL186 ▸ jg_ne (by decide) gL113_5 rfl
                  have gL186_6 : jGet L186 6 = some (.int (i32 (r122))) := eL186 ▸ jg_eq
                  refine jx_ld (pc_q := 96) (l_q := L186) (st_q := [.ref 66]) rfl (jl_aloadn gL186_0) ?_
                  refine jx_vr (pc_q := 99) (as := []) (st := []) rfl rfl rfl rfl ⟨rfl, rfl, Nat.le_of_ble_eq_true rfl⟩ rfl rfl (c_bad (dd := d) (hd := by omega) (hW := hW132)  (fk := fk2_125) (e_fk := show G120 16 = fk2_125 from (e140))    ) (fun o V_q hq => ?_)
                  obtain ⟨r187, rfl, rfl, b188, q189⟩ := hq
                  refine .inr ⟨_, rfl, ?_⟩
                  rcases q189 with ⟨rfl, a190⟩ | ⟨rfl, a191⟩
                  · have _q : True := trivial
                    exfalso
                    omega
                  · have _q : True := trivial
                    refine jx_if_eq (pc_q := 102) (tg := 104) rfl rfl rfl (by decide) (by decide) (fun h192 => ?_) (fun h192 => ?_)
                    · have _q := h192
                      refine jx_ld (pc_q := 105) (l_q := L186) (st_q := [.ref 66]) rfl (jl_aloadn gL186_0) ?_
                      refine jr_get (pc_q := 108) (i := 38) (v := .ref 88) rfl rfl (by decide) rfl rfl ?_
                      refine jx_ld (pc_q := 110) (l_q := L186) (st_q := [.int (i32 (r57)), .ref 88]) rfl (jl_iload gL186_5) ?_
                      refine jx_ld (pc_q := 112) (l_q := L186) (st_q := [.int (i32 (r122)), .int (i32 (r57)), .ref 88]) rfl (jl_iload gL186_6) ?_
                      refine jr_st (pc_q := 113) (i := 21) (m := 7000) (z := r57) (y := r122) rfl (by decide) rfl (by decide) (by omega) (by omega) rfl ?_
                      have hW194 : Wk G120 (uA A121 21 (r57).toNat (r122)) := Wk_a hW132 (show (-2147483648 : Int) ≤ r122 by omega) (show r122 ≤ (2147483647 : Int) by omega)
                      have hF195 := Fr_a (z := r122) (k := 21) (n := (r57).toNat) hF157 (by decide)
                      obtain ⟨A193, eA193⟩ : ∃ q, q = uA A121 21 (r57).toNat (r122) := ⟨_, rfl⟩
                      rw [← eA193]
                      rw [← eA193] at hW194 hF195
                      have q196 : A193 21 (r57).toNat = r122 := by rw [eA193]; exact uA_eq
                      have hP197 : Pf nd A A193 := eA193 ▸ Pf_a hP158 (z := r57) (by omega) (by omega)
                      have hS198 : Fx sr (sy) A A193 := eA193 ▸ Fx_n hS159 rfl
                      have hV199 : Fx [14] (vi) A A193 := eA193 ▸ Fx_n hV160 rfl
                      have sf200 : ND A193 (n) (32) (0) (0) (0) (0) (Ax 21 (n).toNat) (0) := ND_ag (by omega) (Ag_st eA193 (by omega) (by omega)) sf161
                      have sf201 : CL 2 A193 (sy1) pb (k) (Vs) (n) (last) (many) (n + 1) (nd1) (sy) (sy1) := CL_ag (by omega) (by omega) (Sg_ne eA193 rfl) (Qg_ne eA193 rfl) (Ag_st eA193 (by omega) (by omega)) ((by rw [eA193]; exact uA_ni (by omega))) sf162
                      have sf202 : NdM A193 (nd) (nd1) (sy) := NdM_st eA193 (by decide) sf163
                      have sf203 : wU A193 Vs sb (r57) (nd1) (nd2_60) := wU_f eA193 (by omega) sf164
                      have sf204 : NX A193 (r57) := NX_r eA193 (by decide) sf165
                      have sf205 : NdM A193 (nd1) (nd2_60) (sy1) := NdM_st eA193 (by decide) sf166
                      have sf206 : wP A193 (sy2_127) pb (k) (Vs) (r122) (nd2_60) (nd2_126) (sy1) (sy2_127) := wP_ag (Sg_ne eA193 rfl) (Qg_ne eA193 rfl) (by omega) (by omega) (Ax_ag (Ag_st eA193 (by omega) (by omega))) a175
                      have sf207 : NX A193 (r122) := NX_r eA193 (by decide) a176
                      have sf208 : NdM A193 (nd2_60) (nd2_126) (sy1) := NdM_st eA193 (by decide) a178
                      have ec209 : ecn A193 (G120 31) = ec2_131 := (ecn_e ((congrFun eA193 15).trans (uA_ne (by decide)))).trans e146
                      refine jx_ld (pc_q := 114) (l_q := L186) (st_q := [.ref 66]) rfl (jl_aloadn gL186_0) ?_
                      refine jx_ld (pc_q := 115) (l_q := L186) (st_q := [.int (i32 (n)), .ref 66]) rfl (jl_iloadn gL186_2) ?_
                      refine jx_ld (pc_q := 116) (l_q := L186) (st_q := [.int (i32 (last)), .int (i32 (n)), .ref 66]) rfl (jl_iloadn gL186_3) ?_
                      refine jx_ld (pc_q := 118) (l_q := L186) (st_q := [.int (i32 (r57)), .int (i32 (last)), .int (i32 (n)), .ref 66]) rfl (jl_iload gL186_5) ?_
                      refine jx_vr (pc_q := 121) (as := [.int (i32 (n)), .int (i32 (last)), .int (i32 (r57))]) (st := []) rfl rfl rfl rfl ⟨rfl, rfl, Nat.le_of_ble_eq_true rfl⟩ rfl rfl (c_addTo (dd := d) (zz := nd) (hd := by omega) (hW := hW194) (n := n) (last := last) (one := r57)   (h_n := ⟨(Int.le_trans (by decide : (-2147483648 : Int) ≤ -2147483648) rx_n.1), (Int.le_trans rx_n.2 (by decide : (2147483647 : Int) ≤ 2147483647))⟩) (h_last := ⟨(Int.le_trans (by decide : (-2147483648 : Int) ≤ -2147483648) rx_last.1), (Int.le_trans rx_last.2 (by decide : (2147483647 : Int) ≤ 2147483647))⟩) (h_one := ⟨(Int.le_trans (by decide : (-2147483648 : Int) ≤ -2147483648) b66.1), (Int.le_trans b66.2 (by decide : (2147483647 : Int) ≤ 2147483647))⟩)  (p_0 := by omega) (p_1 := by omega) (p_2 := by omega) (p_3 := by omega)) (fun o V_q hq => ?_)
                      obtain ⟨G210, A211, rfl, rfl, hW212, hF213, hQ214, q215⟩ := hq
                      have hF216 := Fr_tr hF195 hF213 (Fr_sub (by decide)) (Fr_sub (by decide))
                      have hP217 := Pf_tr hP197 hQ214 (by omega)
                      have hS218 := Fx_f hS198 hF213 (by decide)
                      have hV219 := Fx_f hV199 hF213 (by decide)
                      have ec220 : ecn A211 (G210 31) = ec2_131 := (ecn_f (hF213.2 15 rfl) (hF213.1 31 rfl)).trans ec209
                      refine .inl ⟨rfl, ?_⟩
                      rcases q215 with ⟨a221, a222⟩ | ⟨a223, a224⟩
                      · have _q : True := trivial
                        have sf225 : ND A211 (n) (32) (0) (0) (0) (0) (r57) (0) := ND_f a222 sf200
                        have sf226 : CL 2 A211 (sy2_127) pb (k) (Vs) (n) (r57) (many + 1) (n + 1) (nd2_126) (sy) (sy2_127) := CL_one a222 (by omega) (by omega) (by omega) (by omega) (by omega) (by omega) (show RQ 2 A193 (sy2_127) pb (k) (Vs) (r57) (nd1) (nd2_126) (sy1) (sy2_127) from wG_mk (m := nd2_60) (wU_sb (by omega) (wU_eq sf203 (by omega) (by omega))) (show A193 21 (r57).toNat = r122 from (q196)) (by omega) (by omega) (wP_eq sf206 (by omega) rfl rfl (by omega) rfl (by omega) rfl (by omega))) sf204 (CL_sb (by omega) sf201)
                        have sf227 : NdM A211 (nd) (nd1) (sy) := NdM_st a222 (by decide) sf202
                        have sf228 : wU A211 Vs sb (r57) (nd1) (nd2_60) := wU_ag (by omega) (Sg_ne a222 rfl) (Ax_ag (Ag_st a222 (by omega) (by omega))) sf203
                        have sf229 : NX A211 (r57) := NX_r a222 (by decide) sf204
                        have sf230 : NdM A211 (nd1) (nd2_60) (sy1) := NdM_st a222 (by decide) sf205
                        have sf231 : wP A211 (sy2_127) pb (k) (Vs) (r122) (nd2_60) (nd2_126) (sy1) (sy2_127) := wP_ag (Sg_ne a222 rfl) (Qg_ne a222 rfl) (by omega) (by omega) (Ax_ag (Ag_st a222 (by omega) (by omega))) sf206
                        have sf232 : NX A211 (r122) := NX_r a222 (by decide) sf207
                        have sf233 : NdM A211 (nd2_60) (nd2_126) (sy1) := NdM_st a222 (by decide) sf208
                        refine jx_ld (pc_q := 123) (l_q := L186) (st_q := [.int (i32 (r57))]) rfl (jl_iload gL186_5) ?_
                        refine jx_ld (pc_q := 124) (l_q := jSto1 L186 3 (.int (i32 (r57)))) (st_q := []) rfl rfl ?_
                        obtain ⟨L234, eL234⟩ : ∃ q, q = jSto1 L186 3 (.int (i32 (r57))) := ⟨_, rfl⟩
                        rw [← eL234]
                        have gL234_0 : jGet L234 0 = some (.ref 66) := eL234 ▸ jg_ne (by decide) gL186_0 rfl
                        have gL234_1 : jGet L234 1 = some (.int (i32 (lv))) := eL234 ▸ jg_ne (by decide) gL186_1 rfl
                        have gL234_2 : jGet L234 2 = some (.int (i32 (n))) := eL234 ▸ jg_ne (by decide) gL186_2 rfl
                        have gL234_4 : jGet L234 4 = some (.int (i32 (many))) := eL234 ▸ jg_ne (by decide) gL186_4 rfl
                        have gL234_5 : jGet L234 5 = some (.int (i32 (r57))) := eL234 ▸ jg_ne (by decide) gL186_5 rfl
                        have gL234_6 : jGet L234 6 = some (.int (i32 (r122))) := eL234 ▸ jg_ne (by decide) gL186_6 rfl
                        have gL234_3 : jGet L234 3 = some (.int (i32 (r57))) := eL234 ▸ jg_eq
                        refine jx_inc (pc_q := 127) (l_q := jSto1 L234 4 (.int (i32 ((many + (1)))))) (x := many) rfl gL234_4 (by decide) rfl rfl ?_
                        obtain ⟨L235, eL235⟩ : ∃ q, q = jSto1 L234 4 (.int (i32 ((many + (1))))) := ⟨_, rfl⟩
                        rw [← eL235]
                        have gL235_0 : jGet L235 0 = some (.ref 66) := eL235 ▸ jg_ne (by decide) gL234_0 rfl
                        have gL235_1 : jGet L235 1 = some (.int (i32 (lv))) := eL235 ▸ jg_ne (by decide) gL234_1 rfl
                        have gL235_2 : jGet L235 2 = some (.int (i32 (n))) := eL235 ▸ jg_ne (by decide) gL234_2 rfl
                        have gL235_5 : jGet L235 5 = some (.int (i32 (r57))) := eL235 ▸ jg_ne (by decide) gL234_5 rfl
                        have gL235_6 : jGet L235 6 = some (.int (i32 (r122))) := eL235 ▸ jg_ne (by decide) gL234_6 rfl
                        have gL235_3 : jGet L235 3 = some (.int (i32 (r57))) := eL235 ▸ jg_ne (by decide) gL234_3 rfl
                        have gL235_4 : jGet L235 4 = some (.int (i32 ((many + (1))))) := eL235 ▸ jg_eq
                        refine jx_go (tg := 24) rfl rfl ?_
                        exact ih24 _ (by omega) L235 G210 A211 (n) (r57) ((many + (1))) (ln2_123) (at2_124) (fk2_125) (nd2_126) (sy2_127) (na2_128) (vi2_129) (lf2_130) (ec2_131) rfl gL235_0 gL235_1 gL235_2 gL235_3 gL235_4 hW212 hF216 hP217 hS218 hV219 (((hF213.1 9 rfl).trans (e138))) (((hF213.1 10 rfl).trans (e139))) (((hF213.1 16 rfl).trans (e140))) (((hF213.1 31 rfl).trans (e141))) (((hF213.1 19 rfl).trans (e142))) (((hF213.1 28 rfl).trans (e143))) (((hF213.1 29 rfl).trans (e144))) ((congrFun ((hF213.2 3 rfl).trans ((congrFun eA193 3).trans (uA_ne (by decide)))) _).trans (e145)) (ec220) (by omega) (by omega) (by omega) (by omega) (by omega) (by omega) (by omega) (by omega) (by omega) (by omega) (by omega) (by omega) (by omega) (by omega) (by omega) (by omega) (by omega) (by omega) ((ND_sf sf225)) ((CL_eq (CL_sb (by omega) sf226) (by omega) (by omega) (by omega) (by omega) (by omega) (by omega))) (by omega) ((NdM_w (NdM_app (sy := sy) sf227 (NdM_app (sy := sy) sf230 sf233 (by omega) (by omega) (by omega)) (by omega) (by omega) (by omega)) (by omega) (by omega) (by omega)))
                      · have _q : True := trivial
                        have sf236 : ND A211 (n) (32) (0) (0) (0) (0) (Ax 21 (n).toNat) (0) := ND_ag (by omega) (Ag_st a224 (by omega) (by omega)) sf200
                        have sf237 : CL 2 A211 (sy2_127) pb (k) (Vs) (n) (r57) (many + 1) (n + 1) (nd2_126) (sy) (sy2_127) := CL_two a224 (by omega) (by omega) (by omega) (by omega) (by omega) (show RQ 2 A193 (sy2_127) pb (k) (Vs) (r57) (nd1) (nd2_126) (sy1) (sy2_127) from wG_mk (m := nd2_60) (wU_sb (by omega) (wU_eq sf203 (by omega) (by omega))) (show A193 21 (r57).toNat = r122 from (q196)) (by omega) (by omega) (wP_eq sf206 (by omega) rfl rfl (by omega) rfl (by omega) rfl (by omega))) sf204 (CL_sb (by omega) sf201)
                        have sf238 : NdM A211 (nd) (nd1) (sy) := NdM_st a224 (by decide) sf202
                        have sf239 : wU A211 Vs sb (r57) (nd1) (nd2_60) := wU_ag (by omega) (Sg_ne a224 rfl) (Ax_ag (Ag_st a224 (by omega) (by omega))) sf203
                        have sf240 : NX A211 (r57) := NX_ag (by omega) (Ag_st a224 (by omega) (by omega)) sf204
                        have sf241 : NdM A211 (nd1) (nd2_60) (sy1) := NdM_st a224 (by decide) sf205
                        have sf242 : wP A211 (sy2_127) pb (k) (Vs) (r122) (nd2_60) (nd2_126) (sy1) (sy2_127) := wP_ag (Sg_ne a224 rfl) (Qg_ne a224 rfl) (by omega) (by omega) (Ax_ag (Ag_st a224 (by omega) (by omega))) sf206
                        have sf243 : NX A211 (r122) := NX_ag (by omega) (Ag_st a224 (by omega) (by omega)) sf207
                        have sf244 : NdM A211 (nd2_60) (nd2_126) (sy1) := NdM_st a224 (by decide) sf208
                        refine jx_ld (pc_q := 123) (l_q := L186) (st_q := [.int (i32 (r57))]) rfl (jl_iload gL186_5) ?_
                        refine jx_ld (pc_q := 124) (l_q := jSto1 L186 3 (.int (i32 (r57)))) (st_q := []) rfl rfl ?_
                        obtain ⟨L245, eL245⟩ : ∃ q, q = jSto1 L186 3 (.int (i32 (r57))) := ⟨_, rfl⟩
                        rw [← eL245]
                        have gL245_0 : jGet L245 0 = some (.ref 66) := eL245 ▸ jg_ne (by decide) gL186_0 rfl
                        have gL245_1 : jGet L245 1 = some (.int (i32 (lv))) := eL245 ▸ jg_ne (by decide) gL186_1 rfl
                        have gL245_2 : jGet L245 2 = some (.int (i32 (n))) := eL245 ▸ jg_ne (by decide) gL186_2 rfl
                        have gL245_4 : jGet L245 4 = some (.int (i32 (many))) := eL245 ▸ jg_ne (by decide) gL186_4 rfl
                        have gL245_5 : jGet L245 5 = some (.int (i32 (r57))) := eL245 ▸ jg_ne (by decide) gL186_5 rfl
                        have gL245_6 : jGet L245 6 = some (.int (i32 (r122))) := eL245 ▸ jg_ne (by decide) gL186_6 rfl
                        have gL245_3 : jGet L245 3 = some (.int (i32 (r57))) := eL245 ▸ jg_eq
                        refine jx_inc (pc_q := 127) (l_q := jSto1 L245 4 (.int (i32 ((many + (1)))))) (x := many) rfl gL245_4 (by decide) rfl rfl ?_
                        obtain ⟨L246, eL246⟩ : ∃ q, q = jSto1 L245 4 (.int (i32 ((many + (1))))) := ⟨_, rfl⟩
                        rw [← eL246]
                        have gL246_0 : jGet L246 0 = some (.ref 66) := eL246 ▸ jg_ne (by decide) gL245_0 rfl
                        have gL246_1 : jGet L246 1 = some (.int (i32 (lv))) := eL246 ▸ jg_ne (by decide) gL245_1 rfl
                        have gL246_2 : jGet L246 2 = some (.int (i32 (n))) := eL246 ▸ jg_ne (by decide) gL245_2 rfl
                        have gL246_5 : jGet L246 5 = some (.int (i32 (r57))) := eL246 ▸ jg_ne (by decide) gL245_5 rfl
                        have gL246_6 : jGet L246 6 = some (.int (i32 (r122))) := eL246 ▸ jg_ne (by decide) gL245_6 rfl
                        have gL246_3 : jGet L246 3 = some (.int (i32 (r57))) := eL246 ▸ jg_ne (by decide) gL245_3 rfl
                        have gL246_4 : jGet L246 4 = some (.int (i32 ((many + (1))))) := eL246 ▸ jg_eq
                        refine jx_go (tg := 24) rfl rfl ?_
                        exact ih24 _ (by omega) L246 G210 A211 (n) (r57) ((many + (1))) (ln2_123) (at2_124) (fk2_125) (nd2_126) (sy2_127) (na2_128) (vi2_129) (lf2_130) (ec2_131) rfl gL246_0 gL246_1 gL246_2 gL246_3 gL246_4 hW212 hF216 hP217 hS218 hV219 (((hF213.1 9 rfl).trans (e138))) (((hF213.1 10 rfl).trans (e139))) (((hF213.1 16 rfl).trans (e140))) (((hF213.1 31 rfl).trans (e141))) (((hF213.1 19 rfl).trans (e142))) (((hF213.1 28 rfl).trans (e143))) (((hF213.1 29 rfl).trans (e144))) ((congrFun ((hF213.2 3 rfl).trans ((congrFun eA193 3).trans (uA_ne (by decide)))) _).trans (e145)) (ec220) (by omega) (by omega) (by omega) (by omega) (by omega) (by omega) (by omega) (by omega) (by omega) (by omega) (by omega) (by omega) (by omega) (by omega) (by omega) (by omega) (by omega) (by omega) ((ND_sf sf236)) ((CL_eq (CL_sb (by omega) sf237) (by omega) (by omega) (by omega) (by omega) (by omega) (by omega))) (by omega) ((NdM_w (NdM_app (sy := sy) sf238 (NdM_app (sy := sy) sf241 sf244 (by omega) (by omega) (by omega)) (by omega) (by omega) (by omega)) (by omega) (by omega) (by omega)))
                    · have _q := h192
                      exact absurd h192 (by omega)
              · have _q := h119
                exact absurd h119 (by omega)
        · have _q := h30
          refine jx_ld (pc_q := 40) (l_q := L) (st_q := [.ref 66]) rfl (jl_aloadn gL_0) ?_
          refine jx_ar (pc_q := 41) (st_q := [.int (i32 (1)), .ref 66]) rfl rfl rfl rfl ?_
          refine jx_ld (pc_q := 42) (l_q := L) (st_q := [.ref 66, .int (i32 (1)), .ref 66]) rfl (jl_aloadn gL_0) ?_
          refine jr_get (pc_q := 45) (i := 6) (v := .ref 70) rfl rfl (by decide) rfl rfl ?_
          refine jx_ld (pc_q := 46) (l_q := L) (st_q := [.ref 66, .ref 70, .int (i32 (1)), .ref 66]) rfl (jl_aloadn gL_0) ?_
          refine jr_get (pc_q := 49) (i := 9) (v := .int (i32 (ln1))) rfl rfl (by decide) (rFv_eq (by decide) (show G2 9 = ln1 from ((hF7.1 9 rfl).trans (ex_ln1)))) rfl ?_
          refine jr_ldv (pc_q := 50) (i := 3) (m := 3001) (z := ln1) (y := lf1) rfl (by decide) rfl (by decide) (Int.le_trans (by decide : (0 : Int) ≤ 0) b_ln1.1) (Int.lt_of_le_of_lt b_ln1.2 (by decide : (3000 : Int) < ((3001 : Nat) : Int))) rfl (show A3 3 (ln1).toNat = lf1 from (congrFun (hF7.2 3 rfl) _).trans (ex_lf1)) ?_
          refine jx_ld (pc_q := 51) (l_q := L) (st_q := [.ref 66, .int (i32 (lf1)), .int (i32 (1)), .ref 66]) rfl (jl_aloadn gL_0) ?_
          refine jr_get (pc_q := 54) (i := 5) (v := .ref 69) rfl rfl (by decide) rfl rfl ?_
          refine jx_ld (pc_q := 55) (l_q := L) (st_q := [.ref 66, .ref 69, .int (i32 (lf1)), .int (i32 (1)), .ref 66]) rfl (jl_aloadn gL_0) ?_
          refine jr_get (pc_q := 58) (i := 9) (v := .int (i32 (ln1))) rfl rfl (by decide) (rFv_eq (by decide) (show G2 9 = ln1 from ((hF7.1 9 rfl).trans (ex_ln1)))) rfl ?_
          have b247 : (0 : Int) ≤ A 2 (ln1).toNat ∧ A 2 (ln1).toNat ≤ 3000 := hW.2 2 _
          refine jr_ldv (pc_q := 59) (i := 2) (m := 3001) (z := ln1) (y := A 2 (ln1).toNat) rfl (by decide) rfl (by decide) (Int.le_trans (by decide : (0 : Int) ≤ 0) b_ln1.1) (Int.lt_of_le_of_lt b_ln1.2 (by decide : (3000 : Int) < ((3001 : Nat) : Int))) rfl (show A3 2 (ln1).toNat = A 2 (ln1).toNat from (congrFun ((hF7.2 2 rfl).trans (hFx.2 2 rfl)) _)) ?_
          refine jx_sub (pc_q := 60) rfl rfl ?_
          refine jx_vr (pc_q := 63) (as := [.int (i32 (1)), .int (i32 ((lf1 - A 2 (ln1).toNat)))]) (st := []) rfl rfl rfl rfl ⟨rfl, rfl, Nat.le_of_ble_eq_true rfl⟩ rfl rfl (c_fail (dd := d) (hd := by omega) (hW := hW6) (kind := 1) (place := (lf1 - A 2 (ln1).toNat)) (fk := fk2_5) (e_fk := show G2 16 = fk2_5 from (e9))  (h_kind := ⟨(by decide), (by decide)⟩) (h_place := ⟨(by omega), (by omega)⟩)  (p_0 := by omega) (p_1 := by omega)) (fun o V_q hq => ?_)
          obtain ⟨G248, A249, fk2_250, rfl, rfl, hW251, hF252, e253, p254, -⟩ := hq
          have hF256 := Fr_tr hF11 hF252 (Fr_sub (by decide)) (Fr_sub (by decide))
          have hP257 := Pf_f hP12 hF252 (by decide)
          have hS258 := Fx_f hS13 hF252 (by decide)
          have hV259 := Fx_f hV14 hF252 (by decide)
          have sf260 : ND A249 (n) (32) (0) (0) (0) (0) (Ax 21 (n).toNat) (0) := ND_ag (by omega) (Ag_fr hF252 (by decide)) sf15
          have sf261 : CL 2 A249 (sy1) pb (k) (Vs) (n) (last) (many) (n + 1) (nd1) (sy) (sy1) := CL_ag (by omega) (by omega) (Sg_fr hF252 (by decide)) (Qg_fr hF252 (by decide)) (Ag_fr hF252 (by decide)) (congrFun (hF252.2 21 rfl) _) sf16
          have sf262 : NdM A249 (nd) (nd1) (sy) := NdM_f hF252 (by decide) sf17
          have ec263 : ecn A249 (G248 31) = ec1 := (ecn_f (hF252.2 15 rfl) (hF252.1 31 rfl)).trans ec18
          have bfk2_250 : (0 : Int) ≤ fk2_250 ∧ fk2_250 ≤ 6 := e253 ▸ hW251.1 16
          refine .inl ⟨rfl, ?_⟩
          refine jx_ar (pc_q := 64) (st_q := [.int (i32 (0))]) rfl rfl rfl rfl ?_
          refine jx_rt (v := some (.int (i32 (0)))) rfl rfl rfl rfl rfl rfl ?_
          exact ⟨_, _, _, ln1, at1, fk2_250, nd1, sy1, na1, vi1, lf1, ec1, rfl, rfl, hW251, hF256, hP257, hS258, hV259, by omega, ((hF252.1 9 rfl).trans ((hF7.1 9 rfl).trans (ex_ln1))), ((hF252.1 10 rfl).trans ((hF7.1 10 rfl).trans (ex_at1))), (e253), ((hF252.1 31 rfl).trans ((hF7.1 31 rfl).trans (ex_nd1))), ((hF252.1 19 rfl).trans ((hF7.1 19 rfl).trans (ex_sy1))), ((hF252.1 28 rfl).trans ((hF7.1 28 rfl).trans (ex_na1))), ((hF252.1 29 rfl).trans ((hF7.1 29 rfl).trans (ex_vi1))), (congrFun ((hF252.2 3 rfl).trans (hF7.2 3 rfl)) _).trans (ex_lf1), ec263, by omega, by omega, by omega, by omega, by omega, by omega, by omega, by omega, by omega, by omega, by first | exact Or.inl (⟨by omega, by omega⟩)⟩
    · have _q : True := trivial
      refine jx_if_eq (pc_q := 32) (tg := 130) rfl rfl rfl (by decide) (by decide) (fun h264 => ?_) (fun h264 => ?_)
      · have _q := h264
        refine jx_ld (pc_q := 131) (l_q := L) (st_q := [.ref 66]) rfl (jl_aloadn gL_0) ?_
        refine jx_vr (pc_q := 134) (as := []) (st := []) rfl rfl rfl rfl ⟨rfl, rfl, Nat.le_of_ble_eq_true rfl⟩ rfl rfl (c_bad (dd := d) (hd := by omega) (hW := hW6)  (fk := fk2_5) (e_fk := show G2 16 = fk2_5 from (e9))    ) (fun o V_q hq => ?_)
        obtain ⟨r265, rfl, rfl, b266, q267⟩ := hq
        refine .inr ⟨_, rfl, ?_⟩
        rcases q267 with ⟨rfl, a268⟩ | ⟨rfl, a269⟩
        · have _q : True := trivial
          refine jx_if_ne (pc_q := 137) (tg := 150) rfl rfl rfl (by decide) (by decide) (fun h270 => ?_) (fun h270 => ?_)
          · have _q := h270
            refine jx_ld (pc_q := 151) (l_q := L) (st_q := [.ref 66]) rfl (jl_aloadn gL_0) ?_
            refine jr_get (pc_q := 154) (i := 35) (v := .ref 85) rfl rfl (by decide) rfl rfl ?_
            refine jx_ld (pc_q := 155) (l_q := L) (st_q := [.int (i32 (n)), .ref 85]) rfl (jl_iloadn gL_2) ?_
            refine jx_ld (pc_q := 157) (l_q := L) (st_q := [.int (i32 (many)), .int (i32 (n)), .ref 85]) rfl (jl_iload gL_4) ?_
            refine jr_st (pc_q := 158) (i := 18) (m := 7000) (z := n) (y := many) rfl (by decide) rfl (by decide) (by omega) (by omega) rfl ?_
            have hW272 : Wk G2 (uA A3 18 (n).toNat (many)) := Wk_a hW6 (show (-2147483648 : Int) ≤ many by omega) (show many ≤ (2147483647 : Int) by omega)
            have hF273 := Fr_a (z := many) (k := 18) (n := (n).toNat) hF11 (by decide)
            obtain ⟨A271, eA271⟩ : ∃ q, q = uA A3 18 (n).toNat (many) := ⟨_, rfl⟩
            rw [← eA271]
            rw [← eA271] at hW272 hF273
            have q274 : A271 18 (n).toNat = many := by rw [eA271]; exact uA_eq
            have hP275 : Pf nd A A271 := eA271 ▸ Pf_a hP12 (z := n) (by omega) (by omega)
            have hS276 : Fx sr (sy) A A271 := eA271 ▸ Fx_n hS13 rfl
            have hV277 : Fx [14] (vi) A A271 := eA271 ▸ Fx_n hV14 rfl
            have sf278 : ND A271 (n) (32) (0) (many) (0) (0) (Ax 21 (n).toNat) (0) := ND_b eA271 sf15
            have sf279 : CL 2 A271 (sy1) pb (k) (Vs) (n) (last) (many) (n + 1) (nd1) (sy) (sy1) := CL_ag (by omega) (by omega) (Sg_ne eA271 rfl) (Qg_ne eA271 rfl) (Ag_st eA271 (by omega) (by omega)) ((congrFun ((congrFun eA271 21).trans (uA_ne (by decide))) _)) sf16
            have sf280 : NdM A271 (nd) (nd1) (sy) := NdM_18 eA271 sf15.1 (by decide) sf17
            have ec281 : ecn A271 (G2 31) = ec1 := (ecn_e ((congrFun eA271 15).trans (uA_ne (by decide)))).trans ec18
            refine jx_ld (pc_q := 159) (l_q := L) (st_q := [.int (i32 (n))]) rfl (jl_iloadn gL_2) ?_
            refine jx_rt (v := some (.int (i32 (n)))) rfl rfl rfl rfl rfl rfl ?_
            exact ⟨_, _, _, ln1, at1, fk2_5, nd1, sy1, na1, vi1, lf1, ec1, rfl, rfl, hW272, hF273, hP275, hS276, hV277, by omega, ((hF7.1 9 rfl).trans (ex_ln1)), ((hF7.1 10 rfl).trans (ex_at1)), (e9), ((hF7.1 31 rfl).trans (ex_nd1)), ((hF7.1 19 rfl).trans (ex_sy1)), ((hF7.1 28 rfl).trans (ex_na1)), ((hF7.1 29 rfl).trans (ex_vi1)), (congrFun (((congrFun eA271 3).trans (uA_ne (by decide))).trans (hF7.2 3 rfl)) _).trans (ex_lf1), ec281, by omega, by omega, by omega, by omega, by omega, by omega, by omega, by omega, by omega, by omega, by first | exact Or.inl (⟨by omega, by omega⟩)⟩
          · have _q := h270
            exact absurd h270 (by omega)
        · have _q : True := trivial
          exfalso
          omega
      · have _q := h264
        exact absurd h264 (by omega)
    · have _q : True := trivial
      refine jx_if_eq (pc_q := 32) (tg := 130) rfl rfl rfl (by decide) (by decide) (fun h282 => ?_) (fun h282 => ?_)
      · have _q := h282
        refine jx_ld (pc_q := 131) (l_q := L) (st_q := [.ref 66]) rfl (jl_aloadn gL_0) ?_
        refine jx_vr (pc_q := 134) (as := []) (st := []) rfl rfl rfl rfl ⟨rfl, rfl, Nat.le_of_ble_eq_true rfl⟩ rfl rfl (c_bad (dd := d) (hd := by omega) (hW := hW6)  (fk := fk2_5) (e_fk := show G2 16 = fk2_5 from (e9))    ) (fun o V_q hq => ?_)
        obtain ⟨r283, rfl, rfl, b284, q285⟩ := hq
        refine .inr ⟨_, rfl, ?_⟩
        rcases q285 with ⟨rfl, a286⟩ | ⟨rfl, a287⟩
        · have _q : True := trivial
          exfalso
          omega
        · have _q : True := trivial
          refine jx_if_ne (pc_q := 137) (tg := 150) rfl rfl rfl (by decide) (by decide) (fun h288 => ?_) (fun h288 => ?_)
          · have _q := h288
            exact absurd h288 (by omega)
          · have _q := h288
            refine jx_ld (pc_q := 139) (l_q := L) (st_q := [.int (i32 (many))]) rfl (jl_iload gL_4) ?_
            refine jx_if_ne (pc_q := 142) (tg := 150) rfl rfl rfl (Int.le_trans (by decide : (-2147483648 : Int) ≤ -2147483648) rx_many.1) (Int.le_trans rx_many.2 (by decide : (2147483647 : Int) ≤ 2147483647)) (fun h289 => ?_) (fun h289 => ?_)
            · have _q := h289
              refine jx_ld (pc_q := 151) (l_q := L) (st_q := [.ref 66]) rfl (jl_aloadn gL_0) ?_
              refine jr_get (pc_q := 154) (i := 35) (v := .ref 85) rfl rfl (by decide) rfl rfl ?_
              refine jx_ld (pc_q := 155) (l_q := L) (st_q := [.int (i32 (n)), .ref 85]) rfl (jl_iloadn gL_2) ?_
              refine jx_ld (pc_q := 157) (l_q := L) (st_q := [.int (i32 (many)), .int (i32 (n)), .ref 85]) rfl (jl_iload gL_4) ?_
              refine jr_st (pc_q := 158) (i := 18) (m := 7000) (z := n) (y := many) rfl (by decide) rfl (by decide) (by omega) (by omega) rfl ?_
              have hW291 : Wk G2 (uA A3 18 (n).toNat (many)) := Wk_a hW6 (show (-2147483648 : Int) ≤ many by omega) (show many ≤ (2147483647 : Int) by omega)
              have hF292 := Fr_a (z := many) (k := 18) (n := (n).toNat) hF11 (by decide)
              obtain ⟨A290, eA290⟩ : ∃ q, q = uA A3 18 (n).toNat (many) := ⟨_, rfl⟩
              rw [← eA290]
              rw [← eA290] at hW291 hF292
              have q293 : A290 18 (n).toNat = many := by rw [eA290]; exact uA_eq
              have hP294 : Pf nd A A290 := eA290 ▸ Pf_a hP12 (z := n) (by omega) (by omega)
              have hS295 : Fx sr (sy) A A290 := eA290 ▸ Fx_n hS13 rfl
              have hV296 : Fx [14] (vi) A A290 := eA290 ▸ Fx_n hV14 rfl
              have sf297 : ND A290 (n) (32) (0) (many) (0) (0) (Ax 21 (n).toNat) (0) := ND_b eA290 sf15
              have sf298 : CL 2 A290 (sy1) pb (k) (Vs) (n) (last) (many) (n + 1) (nd1) (sy) (sy1) := CL_ag (by omega) (by omega) (Sg_ne eA290 rfl) (Qg_ne eA290 rfl) (Ag_st eA290 (by omega) (by omega)) ((congrFun ((congrFun eA290 21).trans (uA_ne (by decide))) _)) sf16
              have sf299 : NdM A290 (nd) (nd1) (sy) := NdM_18 eA290 sf15.1 (by decide) sf17
              have ec300 : ecn A290 (G2 31) = ec1 := (ecn_e ((congrFun eA290 15).trans (uA_ne (by decide)))).trans ec18
              refine jx_ld (pc_q := 159) (l_q := L) (st_q := [.int (i32 (n))]) rfl (jl_iloadn gL_2) ?_
              refine jx_rt (v := some (.int (i32 (n)))) rfl rfl rfl rfl rfl rfl ?_
              exact ⟨_, _, _, ln1, at1, fk2_5, nd1, sy1, na1, vi1, lf1, ec1, rfl, rfl, hW291, hF292, hP294, hS295, hV296, by omega, ((hF7.1 9 rfl).trans (ex_ln1)), ((hF7.1 10 rfl).trans (ex_at1)), (e9), ((hF7.1 31 rfl).trans (ex_nd1)), ((hF7.1 19 rfl).trans (ex_sy1)), ((hF7.1 28 rfl).trans (ex_na1)), ((hF7.1 29 rfl).trans (ex_vi1)), (congrFun (((congrFun eA290 3).trans (uA_ne (by decide))).trans (hF7.2 3 rfl)) _).trans (ex_lf1), ec300, by omega, by omega, by omega, by omega, by omega, by omega, by omega, by omega, by omega, by omega, by first | exact Or.inr ((⟨by omega, by omega, by omega, by omega, by omega, by omega, by omega, (wS_alt sf297 (RL_eq (RL_cl sf298) (by omega) (by omega) (by omega) (by omega) (by omega)) (by omega) (by omega)), (NX_nd sf297), by omega, sf299⟩))⟩
            · have _q := h289
              refine jx_ld (pc_q := 143) (l_q := L) (st_q := [.ref 66]) rfl (jl_aloadn gL_0) ?_
              refine jx_ld (pc_q := 144) (l_q := L) (st_q := [.int (i32 (lv)), .ref 66]) rfl (jl_iloadn gL_1) ?_
              refine jx_ar (pc_q := 145) (st_q := [.int (i32 (1)), .int (i32 (lv)), .ref 66]) rfl rfl rfl rfl ?_
              refine jx_add (pc_q := 146) rfl rfl ?_
              refine jx_vr (pc_q := 149) (as := [.int (i32 ((lv + 1)))]) (st := []) rfl rfl rfl rfl ⟨rfl, rfl, Nat.le_of_ble_eq_true rfl⟩ rfl rfl (c_needLevel (dd := d) (hd := by omega) (hW := hW6) (lv := (lv + 1)) (ln := ln1) (e_ln := show G2 9 = ln1 from ((hF7.1 9 rfl).trans (ex_ln1))) (li := li) (e_li := show G2 3 = li from ((hF7.1 3 rfl).trans ((hFx.1 3 rfl).trans (e_li)))) (fk := fk2_5) (e_fk := show G2 16 = fk2_5 from (e9)) (ll := A 5 (ln1).toNat) (e_ll := show A3 5 (ln1).toNat = A 5 (ln1).toNat from (congrFun ((hF7.2 5 rfl).trans (hFx.2 5 rfl)) _))  (h_lv := ⟨(by omega), (by omega)⟩)  ) (fun o V_q hq => ?_)
              obtain ⟨G301, A302, r303, fk2_304, rfl, rfl, hW305, hF306, b307, e308, q309⟩ := hq
              have hF310 := Fr_tr hF11 hF306 (Fr_sub (by decide)) (Fr_sub (by decide))
              have hP311 := Pf_f hP12 hF306 (by decide)
              have hS312 := Fx_f hS13 hF306 (by decide)
              have hV313 := Fx_f hV14 hF306 (by decide)
              have sf314 : ND A302 (n) (32) (0) (0) (0) (0) (Ax 21 (n).toNat) (0) := ND_ag (by omega) (Ag_fr hF306 (by decide)) sf15
              have sf315 : CL 2 A302 (sy1) pb (k) (Vs) (n) (last) (many) (n + 1) (nd1) (sy) (sy1) := CL_ag (by omega) (by omega) (Sg_fr hF306 (by decide)) (Qg_fr hF306 (by decide)) (Ag_fr hF306 (by decide)) (congrFun (hF306.2 21 rfl) _) sf16
              have sf316 : NdM A302 (nd) (nd1) (sy) := NdM_f hF306 (by decide) sf17
              have ec317 : ecn A302 (G301 31) = ec1 := (ecn_f (hF306.2 15 rfl) (hF306.1 31 rfl)).trans ec18
              have bfk2_304 : (0 : Int) ≤ fk2_304 ∧ fk2_304 ≤ 6 := e308 ▸ hW305.1 16
              refine .inr ⟨_, rfl, ?_⟩
              rcases q309 with ⟨rfl, a318, a319, a320, a321⟩ | ⟨rfl, a322⟩
              · have _q : True := trivial
                have b323 : (0 : Int) ≤ A 4 (ln1).toNat ∧ A 4 (ln1).toNat ≤ 3000 := hW.2 4 _
                have lt324 : lf1 < A 4 (ln1).toNat := LT_at (LT_ext (((hF306.1 3 rfl).trans ((hF7.1 3 rfl).trans (hFx.1 3 rfl)))) (((hF306.2 3 rfl).trans ((hF7.2 3 rfl).trans (hFx.2 3 rfl)))) (((hF306.2 4 rfl).trans ((hF7.2 4 rfl).trans (hFx.2 4 rfl)))) i_LT) (show G301 3 = li from ((hF306.1 3 rfl).trans ((hF7.1 3 rfl).trans ((hFx.1 3 rfl).trans (e_li))))) (show A302 3 (ln1).toNat = lf1 from (congrFun ((hF306.2 3 rfl).trans (hF7.2 3 rfl)) _).trans (ex_lf1)) (show A302 4 (ln1).toNat = A 4 (ln1).toNat from (congrFun ((hF306.2 4 rfl).trans ((hF7.2 4 rfl).trans (hFx.2 4 rfl))) _)) (by omega) (by omega)
                refine jx_ar (pc_q := 150) (st_q := []) rfl rfl rfl rfl ?_
                refine jx_ld (pc_q := 151) (l_q := L) (st_q := [.ref 66]) rfl (jl_aloadn gL_0) ?_
                refine jr_get (pc_q := 154) (i := 35) (v := .ref 85) rfl rfl (by decide) rfl rfl ?_
                refine jx_ld (pc_q := 155) (l_q := L) (st_q := [.int (i32 (n)), .ref 85]) rfl (jl_iloadn gL_2) ?_
                refine jx_ld (pc_q := 157) (l_q := L) (st_q := [.int (i32 (many)), .int (i32 (n)), .ref 85]) rfl (jl_iload gL_4) ?_
                refine jr_st (pc_q := 158) (i := 18) (m := 7000) (z := n) (y := many) rfl (by decide) rfl (by decide) (by omega) (by omega) rfl ?_
                have hW326 : Wk G301 (uA A302 18 (n).toNat (many)) := Wk_a hW305 (show (-2147483648 : Int) ≤ many by omega) (show many ≤ (2147483647 : Int) by omega)
                have hF327 := Fr_a (z := many) (k := 18) (n := (n).toNat) hF310 (by decide)
                obtain ⟨A325, eA325⟩ : ∃ q, q = uA A302 18 (n).toNat (many) := ⟨_, rfl⟩
                rw [← eA325]
                rw [← eA325] at hW326 hF327
                have q328 : A325 18 (n).toNat = many := by rw [eA325]; exact uA_eq
                have hP329 : Pf nd A A325 := eA325 ▸ Pf_a hP311 (z := n) (by omega) (by omega)
                have hS330 : Fx sr (sy) A A325 := eA325 ▸ Fx_n hS312 rfl
                have hV331 : Fx [14] (vi) A A325 := eA325 ▸ Fx_n hV313 rfl
                have sf332 : ND A325 (n) (32) (0) (many) (0) (0) (Ax 21 (n).toNat) (0) := ND_b eA325 sf314
                have sf333 : CL 2 A325 (sy1) pb (k) (Vs) (n) (last) (many) (n + 1) (nd1) (sy) (sy1) := CL_ag (by omega) (by omega) (Sg_ne eA325 rfl) (Qg_ne eA325 rfl) (Ag_st eA325 (by omega) (by omega)) ((congrFun ((congrFun eA325 21).trans (uA_ne (by decide))) _)) sf315
                have sf334 : NdM A325 (nd) (nd1) (sy) := NdM_18 eA325 sf314.1 (by decide) sf316
                have ec335 : ecn A325 (G301 31) = ec1 := (ecn_e ((congrFun eA325 15).trans (uA_ne (by decide)))).trans ec317
                refine jx_ld (pc_q := 159) (l_q := L) (st_q := [.int (i32 (n))]) rfl (jl_iloadn gL_2) ?_
                refine jx_rt (v := some (.int (i32 (n)))) rfl rfl rfl rfl rfl rfl ?_
                exact ⟨_, _, _, ln1, at1, fk2_304, nd1, sy1, na1, vi1, lf1, ec1, rfl, rfl, hW326, hF327, hP329, hS330, hV331, by omega, ((hF306.1 9 rfl).trans ((hF7.1 9 rfl).trans (ex_ln1))), ((hF306.1 10 rfl).trans ((hF7.1 10 rfl).trans (ex_at1))), (e308), ((hF306.1 31 rfl).trans ((hF7.1 31 rfl).trans (ex_nd1))), ((hF306.1 19 rfl).trans ((hF7.1 19 rfl).trans (ex_sy1))), ((hF306.1 28 rfl).trans ((hF7.1 28 rfl).trans (ex_na1))), ((hF306.1 29 rfl).trans ((hF7.1 29 rfl).trans (ex_vi1))), (congrFun (((congrFun eA325 3).trans (uA_ne (by decide))).trans ((hF306.2 3 rfl).trans (hF7.2 3 rfl))) _).trans (ex_lf1), ec335, by omega, by omega, by omega, by omega, by omega, by omega, by omega, by omega, by omega, by omega, by first | exact Or.inr ((⟨by omega, by omega, by omega, by omega, by omega, by omega, by omega, (wS_alt sf332 (RL_eq (RL_cl sf333) (by omega) (by omega) (by omega) (by omega) (by omega)) (by omega) (by omega)), (NX_nd sf332), by omega, sf334⟩))⟩
              · have _q : True := trivial
                refine jx_ar (pc_q := 150) (st_q := []) rfl rfl rfl rfl ?_
                refine jx_ld (pc_q := 151) (l_q := L) (st_q := [.ref 66]) rfl (jl_aloadn gL_0) ?_
                refine jr_get (pc_q := 154) (i := 35) (v := .ref 85) rfl rfl (by decide) rfl rfl ?_
                refine jx_ld (pc_q := 155) (l_q := L) (st_q := [.int (i32 (n)), .ref 85]) rfl (jl_iloadn gL_2) ?_
                refine jx_ld (pc_q := 157) (l_q := L) (st_q := [.int (i32 (many)), .int (i32 (n)), .ref 85]) rfl (jl_iload gL_4) ?_
                refine jr_st (pc_q := 158) (i := 18) (m := 7000) (z := n) (y := many) rfl (by decide) rfl (by decide) (by omega) (by omega) rfl ?_
                have hW337 : Wk G301 (uA A302 18 (n).toNat (many)) := Wk_a hW305 (show (-2147483648 : Int) ≤ many by omega) (show many ≤ (2147483647 : Int) by omega)
                have hF338 := Fr_a (z := many) (k := 18) (n := (n).toNat) hF310 (by decide)
                obtain ⟨A336, eA336⟩ : ∃ q, q = uA A302 18 (n).toNat (many) := ⟨_, rfl⟩
                rw [← eA336]
                rw [← eA336] at hW337 hF338
                have q339 : A336 18 (n).toNat = many := by rw [eA336]; exact uA_eq
                have hP340 : Pf nd A A336 := eA336 ▸ Pf_a hP311 (z := n) (by omega) (by omega)
                have hS341 : Fx sr (sy) A A336 := eA336 ▸ Fx_n hS312 rfl
                have hV342 : Fx [14] (vi) A A336 := eA336 ▸ Fx_n hV313 rfl
                have sf343 : ND A336 (n) (32) (0) (many) (0) (0) (Ax 21 (n).toNat) (0) := ND_b eA336 sf314
                have sf344 : CL 2 A336 (sy1) pb (k) (Vs) (n) (last) (many) (n + 1) (nd1) (sy) (sy1) := CL_ag (by omega) (by omega) (Sg_ne eA336 rfl) (Qg_ne eA336 rfl) (Ag_st eA336 (by omega) (by omega)) ((congrFun ((congrFun eA336 21).trans (uA_ne (by decide))) _)) sf315
                have sf345 : NdM A336 (nd) (nd1) (sy) := NdM_18 eA336 sf314.1 (by decide) sf316
                have ec346 : ecn A336 (G301 31) = ec1 := (ecn_e ((congrFun eA336 15).trans (uA_ne (by decide)))).trans ec317
                refine jx_ld (pc_q := 159) (l_q := L) (st_q := [.int (i32 (n))]) rfl (jl_iloadn gL_2) ?_
                refine jx_rt (v := some (.int (i32 (n)))) rfl rfl rfl rfl rfl rfl ?_
                exact ⟨_, _, _, ln1, at1, fk2_304, nd1, sy1, na1, vi1, lf1, ec1, rfl, rfl, hW337, hF338, hP340, hS341, hV342, by omega, ((hF306.1 9 rfl).trans ((hF7.1 9 rfl).trans (ex_ln1))), ((hF306.1 10 rfl).trans ((hF7.1 10 rfl).trans (ex_at1))), (e308), ((hF306.1 31 rfl).trans ((hF7.1 31 rfl).trans (ex_nd1))), ((hF306.1 19 rfl).trans ((hF7.1 19 rfl).trans (ex_sy1))), ((hF306.1 28 rfl).trans ((hF7.1 28 rfl).trans (ex_na1))), ((hF306.1 29 rfl).trans ((hF7.1 29 rfl).trans (ex_vi1))), (congrFun (((congrFun eA336 3).trans (uA_ne (by decide))).trans ((hF306.2 3 rfl).trans (hF7.2 3 rfl))) _).trans (ex_lf1), ec346, by omega, by omega, by omega, by omega, by omega, by omega, by omega, by omega, by omega, by omega, by first | exact Or.inl (⟨by omega, by omega⟩)⟩
      · have _q := h282
        exact absurd h282 (by omega)
set_option maxRecDepth 20000 in
set_option maxHeartbeats 4000000 in
theorem c_readAlt_w {X : jX} {k : Nat} (hP : RPw X k) {dd : Nat} {Vs : Nat → Prop} {sb pb : Int} (hvb : VB Vs sb) {c0 c1 : jC} {G : Nat → Int} {A : Nat → Nat → Int} {T : jH} {lv : Int} {ln li at0 fk nd sy na vi le op0 tk0 ec : Int} (hd : 8 * k + 82 ≤ dd) (hW : Wk G A) (e_ln : G 9 = ln) (e_li : G 3 = li) (e_at0 : G 10 = at0) (e_fk : G 16 = fk) (e_nd : G 31 = nd) (e_sy : G 19 = sy) (e_na : G 28 = na) (e_vi : G 29 = vi) (e_le : A 4 (ln).toNat = le) (e_op0 : G 15 = op0) (e_tk0 : G 11 = tk0) (e_ec : ecn A (G 31) = ec) (i_LT : LT G A) (i_SV : SV Vs sb G A) (i_PQ : PQ Vs sb pb G A) (h_lv : (-2147483648 : Int) ≤ lv ∧ lv ≤ 2147483647) (p_0 : 0 ≤ lv ∧ lv ≤ 15) (p_1 : 18 - lv ≤ ((k + 1 : Nat) : Int)) (p_2 : fk = 0) (p_3 : ln < li) (p_4 : at0 ≤ le) (p_5 : op0 = 0) (p_6 : nd ≤ 2 * at0 - tz tk0 + 30) (p_7 : sy ≤ na + 2) (p_8 : vi ≤ sy) (p_9 : sb = sy) (p_10 : 1 ≤ tk0) : wk X dd 302 [.ref 66, .int (i32 lv)] (rV c0 c1 G A T) (fun o V_q => ∃ (G_q : Nat → Int) (A_q : Nat → Nat → Int) (r : Int) (ln2 : Int) (at2 : Int) (fk2 : Int) (nd2 : Int) (sy2 : Int) (na2 : Int) (vi2 : Int) (lf2 : Int) (ec2 : Int), V_q = rV c0 c1 G_q A_q T ∧ o = .inl (some (.int (i32 r))) ∧ Wk G_q A_q ∧ Fr [9, 10, 11, 12, 13, 14, 15, 16, 17, 18, 19, 28, 29, 31] [6, 7, 8, 9, 10, 11, 12, 14, 15, 16, 17, 18, 19, 20, 21, 22, 23, 24, 28] G A G_q A_q ∧ Pf nd A A_q ∧ Fx sr (sy) A A_q ∧ Fx [14] (vi) A A_q ∧ ((-2147483648 : Int) ≤ r ∧ r ≤ 2147483647) ∧ G_q 9 = ln2 ∧ G_q 10 = at2 ∧ G_q 16 = fk2 ∧ G_q 31 = nd2 ∧ G_q 19 = sy2 ∧ G_q 28 = na2 ∧ G_q 29 = vi2 ∧ A_q 3 (ln2).toNat = lf2 ∧ ecn A_q (G_q 31) = ec2 ∧ (at0 ≤ at2) ∧ (nd ≤ nd2) ∧ (sy ≤ sy2) ∧ (sy2 ≤ na2 + 2) ∧ (vi ≤ vi2) ∧ (vi2 ≤ vi + 1) ∧ (0 ≤ r) ∧ (r ≤ 6999) ∧ (ln ≤ ln2) ∧ (ln2 ≤ li) ∧ (((1 ≤ fk2) ∧ (nd2 - nd ≤ 2 * at2 - (2 * at0 - tz tk0) + 14)) ∨ ((fk2 = 0) ∧ (vi2 = vi) ∧ (ln < ln2) ∧ (nd2 - nd ≤ 2 * at2 - (2 * at0 - tz tk0)) ∧ (at2 < lf2 ∨ li ≤ ln2) ∧ (nd ≤ r) ∧ (r < nd2) ∧ (wSt A_q (sy2) pb (wP A_q (sy2) pb (k)) (Vs) (r) (nd) (nd2) (sy) (sy2)) ∧ (NX A_q (r)) ∧ (nd2 - nd + 5 * (ec2 - ec) ≤ 2 * at2 - (2 * at0 - tz tk0)) ∧ (NdM A_q (nd) (nd2) (sy))))) := by
  obtain ⟨d, rfl⟩ : ∃ d, dd = d + 1 := ⟨dd - 1, by omega⟩
  refine wk_of (e := jm302) rfl (Nat.le_of_ble_eq_true rfl) ?_
  show wj X d jm302 (0, [(0, .ref 66), (1, .int (i32 (lv)))], [], rV c0 c1 G A T) _
  have hF0 : Fr [9, 10, 11, 12, 13, 14, 15, 16, 17, 18, 19, 28, 29, 31] [6, 7, 8, 9, 10, 11, 12, 14, 15, 16, 17, 18, 19, 20, 21, 22, 23, 24, 28] G A G A := Fr_rf
  have hP0 : Pf nd A A := Pf_rf
  have hS0 : Fx sr (sy) A A := Fx_rf
  have hV0 : Fx [14] (vi) A A := Fx_rf
  have b_ln : (0 : Int) ≤ ln ∧ ln ≤ 3000 := e_ln ▸ hW.1 9
  have b_li : (0 : Int) ≤ li ∧ li ≤ 3000 := e_li ▸ hW.1 3
  have b_at0 : (0 : Int) ≤ at0 ∧ at0 ≤ 3002 := e_at0 ▸ hW.1 10
  have b_fk : (0 : Int) ≤ fk ∧ fk ≤ 6 := e_fk ▸ hW.1 16
  have b_nd : (0 : Int) ≤ nd ∧ nd ≤ 6999 := e_nd ▸ hW.1 31
  have b_sy : (0 : Int) ≤ sy ∧ sy ≤ 202 := e_sy ▸ hW.1 19
  have b_na : (0 : Int) ≤ na ∧ na ≤ 200 := e_na ▸ hW.1 28
  have b_vi : (0 : Int) ≤ vi ∧ vi ≤ 202 := e_vi ▸ hW.1 29
  have b_le : (0 : Int) ≤ le ∧ le ≤ 3000 := e_le ▸ hW.2 4 _
  have b_op0 : (-2147483648 : Int) ≤ op0 ∧ op0 ≤ 2147483647 := e_op0 ▸ hW.1 15
  have z_tk0 := tz_f tk0
  have b_tk0 : (0 : Int) ≤ tk0 ∧ tk0 ≤ 5 := e_tk0 ▸ hW.1 11
  refine jx_ld (pc_q := 1) (l_q := [(0, .ref 66), (1, .int (i32 (lv)))]) (st_q := [.ref 66]) rfl (jl_aloadn rfl) ?_
  refine jx_ar (pc_q := 3) (st_q := [.int (i32 (32)), .ref 66]) rfl rfl rfl rfl ?_
  refine jx_ar (pc_q := 4) (st_q := [.int (i32 (0)), .int (i32 (32)), .ref 66]) rfl rfl rfl rfl ?_
  refine jx_ar (pc_q := 5) (st_q := [.int (i32 (0)), .int (i32 (0)), .int (i32 (32)), .ref 66]) rfl rfl rfl rfl ?_
  refine jx_ar (pc_q := 6) (st_q := [.int (i32 (0)), .int (i32 (0)), .int (i32 (0)), .int (i32 (32)), .ref 66]) rfl rfl rfl rfl ?_
  refine jx_ar (pc_q := 7) (st_q := [.int (i32 (0)), .int (i32 (0)), .int (i32 (0)), .int (i32 (0)), .int (i32 (32)), .ref 66]) rfl rfl rfl rfl ?_
  refine jx_vr (pc_q := 10) (as := [.int (i32 (32)), .int (i32 (0)), .int (i32 (0)), .int (i32 (0)), .int (i32 (0))]) (st := []) rfl rfl rfl rfl ⟨rfl, rfl, Nat.le_of_ble_eq_true rfl⟩ rfl rfl (c_node_o (dd := d) (hd := by omega) (hW := hW) (kind := 32) (a := 0) (b := 0) (c := 0) (e := 0) (nd := nd) (e_nd := show G 31 = nd from (e_nd)) (ec := ec) (e_ec := show ecn A (G 31) = ec from e_ec) (sy := sy) (e_sy := show G 19 = sy from (e_sy))  (h_kind := ⟨(by decide), (by decide)⟩) (h_a := ⟨(by decide), (by decide)⟩) (h_b := ⟨(by decide), (by decide)⟩) (h_c := ⟨(by decide), (by decide)⟩) (h_e := ⟨(by decide), (by decide)⟩)  (p_0 := by omega) (p_1 := by omega) (p_2 := by omega)) (fun o V_q hq => ?_)
  obtain ⟨G347, A348, nd2_349, ec2_350, rfl, rfl, hW351, hF352, hQ353, e354, e355, p356, p357, p358, p359, -⟩ := hq
  have hF361 := Fr_tr hF0 hF352 (Fr_sub (by decide)) (Fr_sub (by decide))
  have hP362 := Pf_tr hP0 hQ353 (by omega)
  have hS363 := Fx_f hS0 hF352 (by decide)
  have hV364 := Fx_f hV0 hF352 (by decide)
  have bnd2_349 : (0 : Int) ≤ nd2_349 ∧ nd2_349 ≤ 6999 := e354 ▸ hW351.1 31
  refine .inr ⟨_, rfl, ?_⟩
  refine jx_ld (pc_q := 11) (l_q := jSto1 [(0, .ref 66), (1, .int (i32 (lv)))] 2 (.int (i32 (nd)))) (st_q := []) rfl rfl ?_
  obtain ⟨L365, eL365⟩ : ∃ q, q = jSto1 [(0, .ref 66), (1, .int (i32 (lv)))] 2 (.int (i32 (nd))) := ⟨_, rfl⟩
  rw [← eL365]
  have gL365_0 : jGet L365 0 = some (.ref 66) := eL365 ▸ jg_ne (by decide) (rfl : jGet [(0, .ref 66), (1, .int (i32 (lv)))] 0 = some (.ref 66)) rfl
  have gL365_1 : jGet L365 1 = some (.int (i32 (lv))) := eL365 ▸ jg_ne (by decide) (rfl : jGet [(0, .ref 66), (1, .int (i32 (lv)))] 1 = some (.int (i32 (lv)))) rfl
  have gL365_2 : jGet L365 2 = some (.int (i32 (nd))) := eL365 ▸ jg_eq
  refine jx_ld (pc_q := 12) (l_q := L365) (st_q := [.ref 66]) rfl (jl_aloadn gL365_0) ?_
  refine jx_vr (pc_q := 15) (as := []) (st := []) rfl rfl rfl rfl ⟨rfl, rfl, Nat.le_of_ble_eq_true rfl⟩ rfl rfl (c_next (dd := d) (hd := by omega) (hW := hW351)  (ln := ln) (e_ln := show G347 9 = ln from ((hF352.1 9 rfl).trans (e_ln))) (le := le) (e_le := show A348 4 (ln).toNat = le from (congrFun (hF352.2 4 rfl) _).trans (e_le)) (at0 := at0) (e_at0 := show G347 10 = at0 from ((hF352.1 10 rfl).trans (e_at0)))    (p_0 := by omega)) (fun o V_q hq => ?_)
  obtain ⟨G366, A367, at2_368, tk2_369, rfl, rfl, hW370, hF371, e372, e373, p374, p375, p376, -⟩ := hq
  have hF378 := Fr_tr hF361 hF371 (Fr_sub (by decide)) (Fr_sub (by decide))
  have hP379 := Pf_f hP362 hF371 (by decide)
  have hS380 := Fx_f hS363 hF371 (by decide)
  have hV381 := Fx_f hV364 hF371 (by decide)
  have sf382 : ND A367 (nd) (32) (0) (0) (0) (0) (0) (0) := ND_ag (by omega) (Ag_fr hF371 (by decide)) p358
  have sf383 : NdM A367 (nd) (nd + 1) (sy) := NdM_f hF371 (by decide) p359
  have ec384 : ecn A367 (G366 31) = ec2_350 := (ecn_f (hF371.2 15 rfl) (hF371.1 31 rfl)).trans e355
  have bat2_368 : (0 : Int) ≤ at2_368 ∧ at2_368 ≤ 3002 := e372 ▸ hW370.1 10
  have ztk2_369 := tz_b tk2_369
  have btk2_369 : (0 : Int) ≤ tk2_369 ∧ tk2_369 ≤ 5 := e373 ▸ hW370.1 11
  refine .inl ⟨rfl, ?_⟩
  have pz385 : at0 + tz tk2_369 ≤ at2_368 := by omega
  refine jx_ld (pc_q := 16) (l_q := L365) (st_q := [.ref 66]) rfl (jl_aloadn gL365_0) ?_
  refine jx_vr (pc_q := 19) (as := []) (st := []) rfl rfl rfl rfl ⟨rfl, rfl, Nat.le_of_ble_eq_true rfl⟩ rfl rfl (c_endLine (dd := d) (hd := by omega) (hW := hW370)  (ln := ln) (e_ln := show G366 9 = ln from ((hF371.1 9 rfl).trans ((hF352.1 9 rfl).trans (e_ln)))) (li := li) (e_li := show G366 3 = li from ((hF371.1 3 rfl).trans ((hF352.1 3 rfl).trans (e_li)))) (fk := fk) (e_fk := show G366 16 = fk from ((hF371.1 16 rfl).trans ((hF352.1 16 rfl).trans (e_fk)))) (tk0 := tk2_369) (e_tk0 := show G366 11 = tk2_369 from (e373))    (p_0 := by omega)) (fun o V_q hq => ?_)
  obtain ⟨G386, A387, ln2_388, fk2_389, rfl, rfl, hW390, hF391, e392, e393, q394⟩ := hq
  have hF395 := Fr_tr hF378 hF391 (Fr_sub (by decide)) (Fr_sub (by decide))
  have hP396 := Pf_f hP379 hF391 (by decide)
  have hS397 := Fx_f hS380 hF391 (by decide)
  have hV398 := Fx_f hV381 hF391 (by decide)
  have sf399 : ND A387 (nd) (32) (0) (0) (0) (0) (0) (0) := ND_ag (by omega) (Ag_fr hF391 (by decide)) sf382
  have sf400 : NdM A387 (nd) (nd + 1) (sy) := NdM_f hF391 (by decide) sf383
  have ec401 : ecn A387 (G386 31) = ec2_350 := (ecn_f (hF391.2 15 rfl) (hF391.1 31 rfl)).trans ec384
  have bln2_388 : (0 : Int) ≤ ln2_388 ∧ ln2_388 ≤ 3000 := e392 ▸ hW390.1 9
  have bfk2_389 : (0 : Int) ≤ fk2_389 ∧ fk2_389 ≤ 6 := e393 ▸ hW390.1 16
  refine .inl ⟨rfl, ?_⟩
  rcases q394 with ⟨a402, a403, a404, a405, a406⟩ | ⟨a407, a408⟩
  · have _q : True := trivial
    have b409 : (0 : Int) ≤ A 3 (ln2_388).toNat ∧ A 3 (ln2_388).toNat ≤ 3000 := hW.2 3 _
    have lt410 : ln2_388 < li → le < A 3 (ln2_388).toNat := fun hh => LT_nx (LT_ext (((hF391.1 3 rfl).trans ((hF371.1 3 rfl).trans (hF352.1 3 rfl)))) (((hF391.2 3 rfl).trans ((hF371.2 3 rfl).trans (hF352.2 3 rfl)))) (((hF391.2 4 rfl).trans ((hF371.2 4 rfl).trans (hF352.2 4 rfl)))) i_LT) (show G386 3 = li from ((hF391.1 3 rfl).trans ((hF371.1 3 rfl).trans ((hF352.1 3 rfl).trans (e_li))))) (show A387 4 (ln).toNat = le from (congrFun ((hF391.2 4 rfl).trans ((hF371.2 4 rfl).trans (hF352.2 4 rfl))) _).trans (e_le)) (show A387 3 (ln2_388).toNat = A 3 (ln2_388).toNat from (congrFun ((hF391.2 3 rfl).trans ((hF371.2 3 rfl).trans (hF352.2 3 rfl))) _)) (show ln2_388 = ln + 1 by omega) (by omega) hh
    refine jx_ar (pc_q := 20) (st_q := [.int (i32 (0))]) rfl rfl rfl rfl ?_
    refine jx_ld (pc_q := 21) (l_q := jSto1 L365 3 (.int (i32 (0)))) (st_q := []) rfl rfl ?_
    obtain ⟨L411, eL411⟩ : ∃ q, q = jSto1 L365 3 (.int (i32 (0))) := ⟨_, rfl⟩
    rw [← eL411]
    have gL411_0 : jGet L411 0 = some (.ref 66) := eL411 ▸ jg_ne (by decide) gL365_0 rfl
    have gL411_1 : jGet L411 1 = some (.int (i32 (lv))) := eL411 ▸ jg_ne (by decide) gL365_1 rfl
    have gL411_2 : jGet L411 2 = some (.int (i32 (nd))) := eL411 ▸ jg_ne (by decide) gL365_2 rfl
    have gL411_3 : jGet L411 3 = some (.int (i32 (0))) := eL411 ▸ jg_eq
    refine jx_ar (pc_q := 22) (st_q := [.int (i32 (0))]) rfl rfl rfl rfl ?_
    refine jx_ld (pc_q := 24) (l_q := jSto1 L411 4 (.int (i32 (0)))) (st_q := []) rfl rfl ?_
    obtain ⟨L412, eL412⟩ : ∃ q, q = jSto1 L411 4 (.int (i32 (0))) := ⟨_, rfl⟩
    rw [← eL412]
    have gL412_0 : jGet L412 0 = some (.ref 66) := eL412 ▸ jg_ne (by decide) gL411_0 rfl
    have gL412_1 : jGet L412 1 = some (.int (i32 (lv))) := eL412 ▸ jg_ne (by decide) gL411_1 rfl
    have gL412_2 : jGet L412 2 = some (.int (i32 (nd))) := eL412 ▸ jg_ne (by decide) gL411_2 rfl
    have gL412_3 : jGet L412 3 = some (.int (i32 (0))) := eL412 ▸ jg_ne (by decide) gL411_3 rfl
    have gL412_4 : jGet L412 4 = some (.int (i32 (0))) := eL412 ▸ jg_eq
    exact c_readAlt_w_at_24 (X := X) (k := k) (hP := hP) (d := d) (Vs := Vs) (sb := sb) (pb := pb) (hvb := hvb) (c0 := c0) (c1 := c1) (G := G) (A := A) (T := T) (lv := lv) (ln := ln) (li := li) (at0 := at0) (fk := fk) (nd := nd) (sy := sy) (na := na) (vi := vi) (le := le) (op0 := op0) (tk0 := tk0) (ec := ec) (hd := hd) (hW := hW) (e_ln := e_ln) (e_li := e_li) (e_at0 := e_at0) (e_fk := e_fk) (e_nd := e_nd) (e_sy := e_sy) (e_na := e_na) (e_vi := e_vi) (e_le := e_le) (e_op0 := e_op0) (e_tk0 := e_tk0) (e_ec := e_ec) (i_LT := i_LT) (i_SV := i_SV) (i_PQ := i_PQ) (h_lv := h_lv) (p_0 := p_0) (p_1 := p_1) (p_2 := p_2) (p_3 := p_3) (p_4 := p_4) (p_5 := p_5) (p_6 := p_6) (p_7 := p_7) (p_8 := p_8) (p_9 := p_9) (p_10 := p_10) _ L412 G386 A387 (nd) (0) (0) (ln2_388) (at2_368) (fk2_389) (nd2_349) (sy) (na) (vi) (A 3 (ln2_388).toNat) (ec2_350) rfl gL412_0 gL412_1 gL412_2 gL412_3 gL412_4 hW390 hF395 hP396 hS397 hV398 ((e392)) (((hF391.1 10 rfl).trans (e372))) ((e393)) (((hF391.1 31 rfl).trans ((hF371.1 31 rfl).trans (e354)))) (((hF391.1 19 rfl).trans ((hF371.1 19 rfl).trans ((hF352.1 19 rfl).trans (e_sy))))) (((hF391.1 28 rfl).trans ((hF371.1 28 rfl).trans ((hF352.1 28 rfl).trans (e_na))))) (((hF391.1 29 rfl).trans ((hF371.1 29 rfl).trans ((hF352.1 29 rfl).trans (e_vi))))) ((congrFun ((hF391.2 3 rfl).trans ((hF371.2 3 rfl).trans (hF352.2 3 rfl))) _)) (ec401) (by omega) (by omega) (by omega) (by omega) (by omega) (by omega) (by omega) (by omega) (by omega) (by omega) (by omega) (by omega) (by omega) (by omega) (by omega) (by omega) (by omega) (by omega) ((ND_sf sf399)) ((CL_eq (CL_nil (lo := nd + 1) (s0 := sy) (ND_f0 sf399)) (by omega) (by omega) (by omega) (by omega) (by omega) (by omega))) (by omega) ((NdM_w sf400 (by omega) (by omega) (by omega)))
  · have _q : True := trivial
    refine jx_ar (pc_q := 20) (st_q := [.int (i32 (0))]) rfl rfl rfl rfl ?_
    refine jx_ld (pc_q := 21) (l_q := jSto1 L365 3 (.int (i32 (0)))) (st_q := []) rfl rfl ?_
    obtain ⟨L413, eL413⟩ : ∃ q, q = jSto1 L365 3 (.int (i32 (0))) := ⟨_, rfl⟩
    rw [← eL413]
    have gL413_0 : jGet L413 0 = some (.ref 66) := eL413 ▸ jg_ne (by decide) gL365_0 rfl
    have gL413_1 : jGet L413 1 = some (.int (i32 (lv))) := eL413 ▸ jg_ne (by decide) gL365_1 rfl
    have gL413_2 : jGet L413 2 = some (.int (i32 (nd))) := eL413 ▸ jg_ne (by decide) gL365_2 rfl
    have gL413_3 : jGet L413 3 = some (.int (i32 (0))) := eL413 ▸ jg_eq
    refine jx_ar (pc_q := 22) (st_q := [.int (i32 (0))]) rfl rfl rfl rfl ?_
    refine jx_ld (pc_q := 24) (l_q := jSto1 L413 4 (.int (i32 (0)))) (st_q := []) rfl rfl ?_
    obtain ⟨L414, eL414⟩ : ∃ q, q = jSto1 L413 4 (.int (i32 (0))) := ⟨_, rfl⟩
    rw [← eL414]
    have gL414_0 : jGet L414 0 = some (.ref 66) := eL414 ▸ jg_ne (by decide) gL413_0 rfl
    have gL414_1 : jGet L414 1 = some (.int (i32 (lv))) := eL414 ▸ jg_ne (by decide) gL413_1 rfl
    have gL414_2 : jGet L414 2 = some (.int (i32 (nd))) := eL414 ▸ jg_ne (by decide) gL413_2 rfl
    have gL414_3 : jGet L414 3 = some (.int (i32 (0))) := eL414 ▸ jg_ne (by decide) gL413_3 rfl
    have gL414_4 : jGet L414 4 = some (.int (i32 (0))) := eL414 ▸ jg_eq
    refine jx_ld (pc_q := 25) (l_q := L414) (st_q := [.ref 66]) rfl (jl_aloadn gL414_0) ?_
    refine jx_ld (pc_q := 26) (l_q := L414) (st_q := [.int (i32 (lv)), .ref 66]) rfl (jl_iloadn gL414_1) ?_
    have b415 : (-1 : Int) ≤ A 5 (ln2_388).toNat ∧ A 5 (ln2_388).toNat ≤ 15 := hW.2 5 _
    refine jx_vr (pc_q := 29) (as := [.int (i32 (lv))]) (st := []) rfl rfl rfl rfl ⟨rfl, rfl, Nat.le_of_ble_eq_true rfl⟩ rfl rfl (c_isBelow (dd := d) (hd := by omega) (hW := hW390) (lv := lv) (ln := ln2_388) (e_ln := show G386 9 = ln2_388 from (e392)) (li := li) (e_li := show G386 3 = li from ((hF391.1 3 rfl).trans ((hF371.1 3 rfl).trans ((hF352.1 3 rfl).trans (e_li))))) (fk := fk2_389) (e_fk := show G386 16 = fk2_389 from (e393)) (ll := A 5 (ln2_388).toNat) (e_ll := show A387 5 (ln2_388).toNat = A 5 (ln2_388).toNat from (congrFun ((hF391.2 5 rfl).trans ((hF371.2 5 rfl).trans (hF352.2 5 rfl))) _))  (h_lv := ⟨(Int.le_trans (by decide : (-2147483648 : Int) ≤ -2147483648) h_lv.1), (Int.le_trans h_lv.2 (by decide : (2147483647 : Int) ≤ 2147483647))⟩)  (p_0 := by omega)) (fun o V_q hq => ?_)
    obtain ⟨G416, A417, r418, fk2_419, rfl, rfl, hW420, hF421, b422, e423, q424⟩ := hq
    have hF425 := Fr_tr hF395 hF421 (Fr_sub (by decide)) (Fr_sub (by decide))
    have hP426 := Pf_f hP396 hF421 (by decide)
    have hS427 := Fx_f hS397 hF421 (by decide)
    have hV428 := Fx_f hV398 hF421 (by decide)
    have sf429 : ND A417 (nd) (32) (0) (0) (0) (0) (0) (0) := ND_ag (by omega) (Ag_fr hF421 (by decide)) sf399
    have sf430 : NdM A417 (nd) (nd + 1) (sy) := NdM_f hF421 (by decide) sf400
    have ec431 : ecn A417 (G416 31) = ec2_350 := (ecn_f (hF421.2 15 rfl) (hF421.1 31 rfl)).trans ec401
    have bfk2_419 : (0 : Int) ≤ fk2_419 ∧ fk2_419 ≤ 6 := e423 ▸ hW420.1 16
    refine .inr ⟨_, rfl, ?_⟩
    rcases q424 with ⟨rfl, a432, a433, a434, a435⟩ | ⟨rfl, a436⟩ | ⟨rfl, a437, a438, a439⟩
    · have _q : True := trivial
      exfalso
      omega
    · have _q : True := trivial
      refine jx_if_eq (pc_q := 32) (tg := 130) rfl rfl rfl (by decide) (by decide) (fun h440 => ?_) (fun h440 => ?_)
      · have _q := h440
        refine jx_ld (pc_q := 131) (l_q := L414) (st_q := [.ref 66]) rfl (jl_aloadn gL414_0) ?_
        refine jx_vr (pc_q := 134) (as := []) (st := []) rfl rfl rfl rfl ⟨rfl, rfl, Nat.le_of_ble_eq_true rfl⟩ rfl rfl (c_bad (dd := d) (hd := by omega) (hW := hW420)  (fk := fk2_419) (e_fk := show G416 16 = fk2_419 from (e423))    ) (fun o V_q hq => ?_)
        obtain ⟨r441, rfl, rfl, b442, q443⟩ := hq
        refine .inr ⟨_, rfl, ?_⟩
        rcases q443 with ⟨rfl, a444⟩ | ⟨rfl, a445⟩
        · have _q : True := trivial
          refine jx_if_ne (pc_q := 137) (tg := 150) rfl rfl rfl (by decide) (by decide) (fun h446 => ?_) (fun h446 => ?_)
          · have _q := h446
            refine jx_ld (pc_q := 151) (l_q := L414) (st_q := [.ref 66]) rfl (jl_aloadn gL414_0) ?_
            refine jr_get (pc_q := 154) (i := 35) (v := .ref 85) rfl rfl (by decide) rfl rfl ?_
            refine jx_ld (pc_q := 155) (l_q := L414) (st_q := [.int (i32 (nd)), .ref 85]) rfl (jl_iloadn gL414_2) ?_
            refine jx_ld (pc_q := 157) (l_q := L414) (st_q := [.int (i32 (0)), .int (i32 (nd)), .ref 85]) rfl (jl_iload gL414_4) ?_
            refine jr_st (pc_q := 158) (i := 18) (m := 7000) (z := nd) (y := 0) rfl (by decide) rfl (by decide) (by omega) (by omega) rfl ?_
            have hW448 : Wk G416 (uA A417 18 (nd).toNat (0)) := Wk_a hW420 (show (-2147483648 : Int) ≤ 0 by omega) (show 0 ≤ (2147483647 : Int) by omega)
            have hF449 := Fr_a (z := 0) (k := 18) (n := (nd).toNat) hF425 (by decide)
            obtain ⟨A447, eA447⟩ : ∃ q, q = uA A417 18 (nd).toNat (0) := ⟨_, rfl⟩
            rw [← eA447]
            rw [← eA447] at hW448 hF449
            have q450 : A447 18 (nd).toNat = 0 := by rw [eA447]; exact uA_eq
            have hP451 : Pf nd A A447 := eA447 ▸ Pf_a hP426 (z := nd) (by omega) (by omega)
            have hS452 : Fx sr (sy) A A447 := eA447 ▸ Fx_n hS427 rfl
            have hV453 : Fx [14] (vi) A A447 := eA447 ▸ Fx_n hV428 rfl
            have sf454 : ND A447 (nd) (32) (0) (0) (0) (0) (0) (0) := ND_b eA447 sf429
            have sf455 : NdM A447 (nd) (nd + 1) (sy) := NdM_18 eA447 sf429.1 (by decide) sf430
            have ec456 : ecn A447 (G416 31) = ec2_350 := (ecn_e ((congrFun eA447 15).trans (uA_ne (by decide)))).trans ec431
            refine jx_ld (pc_q := 159) (l_q := L414) (st_q := [.int (i32 (nd))]) rfl (jl_iloadn gL414_2) ?_
            refine jx_rt (v := some (.int (i32 (nd)))) rfl rfl rfl rfl rfl rfl ?_
            exact ⟨_, _, _, ln2_388, at2_368, fk2_419, nd2_349, sy, na, vi, A 3 (ln2_388).toNat, ec2_350, rfl, rfl, hW448, hF449, hP451, hS452, hV453, by omega, ((hF421.1 9 rfl).trans (e392)), ((hF421.1 10 rfl).trans ((hF391.1 10 rfl).trans (e372))), (e423), ((hF421.1 31 rfl).trans ((hF391.1 31 rfl).trans ((hF371.1 31 rfl).trans (e354)))), ((hF421.1 19 rfl).trans ((hF391.1 19 rfl).trans ((hF371.1 19 rfl).trans ((hF352.1 19 rfl).trans (e_sy))))), ((hF421.1 28 rfl).trans ((hF391.1 28 rfl).trans ((hF371.1 28 rfl).trans ((hF352.1 28 rfl).trans (e_na))))), ((hF421.1 29 rfl).trans ((hF391.1 29 rfl).trans ((hF371.1 29 rfl).trans ((hF352.1 29 rfl).trans (e_vi))))), (congrFun (((congrFun eA447 3).trans (uA_ne (by decide))).trans ((hF421.2 3 rfl).trans ((hF391.2 3 rfl).trans ((hF371.2 3 rfl).trans (hF352.2 3 rfl))))) _), ec456, by omega, by omega, by omega, by omega, by omega, by omega, by omega, by omega, by omega, by omega, by first | exact Or.inl (⟨by omega, by omega⟩)⟩
          · have _q := h446
            exact absurd h446 (by omega)
        · have _q : True := trivial
          exfalso
          omega
      · have _q := h440
        exact absurd h440 (by omega)
    · have _q : True := trivial
      exfalso
      omega
set_option maxRecDepth 20000 in
set_option maxHeartbeats 4000000 in
theorem c_readStatement_w {X : jX} {k : Nat} (hP : RPw X k) {dd : Nat} {Vs : Nat → Prop} {sb pb : Int} (hvb : VB Vs sb) {c0 c1 : jC} {G : Nat → Int} {A : Nat → Nat → Int} {T : jH} {lv : Int} {ln li at0 fk nd sy na vi le op0 tk0 ec : Int} (hd : 8 * k + 83 ≤ dd) (hW : Wk G A) (e_ln : G 9 = ln) (e_li : G 3 = li) (e_at0 : G 10 = at0) (e_fk : G 16 = fk) (e_nd : G 31 = nd) (e_sy : G 19 = sy) (e_na : G 28 = na) (e_vi : G 29 = vi) (e_le : A 4 (ln).toNat = le) (e_op0 : G 15 = op0) (e_tk0 : G 11 = tk0) (e_ec : ecn A (G 31) = ec) (i_LT : LT G A) (i_SV : SV Vs sb G A) (i_PQ : PQ Vs sb pb G A) (h_lv : (-2147483648 : Int) ≤ lv ∧ lv ≤ 2147483647) (p_0 : 0 ≤ lv ∧ lv ≤ 15) (p_1 : 18 - lv ≤ ((k + 1 : Nat) : Int)) (p_2 : fk = 0) (p_3 : ln < li) (p_4 : at0 ≤ le) (p_5 : op0 = 0) (p_6 : nd ≤ 2 * at0 - tz tk0 + 30) (p_7 : sy ≤ na + 2) (p_8 : vi ≤ sy) (p_9 : sb = sy) : wk X dd 295 [.ref 66, .int (i32 lv)] (rV c0 c1 G A T) (fun o V_q => ∃ (G_q : Nat → Int) (A_q : Nat → Nat → Int) (r : Int) (ln2 : Int) (at2 : Int) (fk2 : Int) (nd2 : Int) (sy2 : Int) (na2 : Int) (vi2 : Int) (lf2 : Int) (ec2 : Int), V_q = rV c0 c1 G_q A_q T ∧ o = .inl (some (.int (i32 r))) ∧ Wk G_q A_q ∧ Fr [9, 10, 11, 12, 13, 14, 15, 16, 17, 18, 19, 28, 29, 31] [6, 7, 8, 9, 10, 11, 12, 14, 15, 16, 17, 18, 19, 20, 21, 22, 23, 24, 28] G A G_q A_q ∧ Pf nd A A_q ∧ Fx sr (sy) A A_q ∧ Fx [14] (vi) A A_q ∧ ((-2147483648 : Int) ≤ r ∧ r ≤ 2147483647) ∧ G_q 9 = ln2 ∧ G_q 10 = at2 ∧ G_q 16 = fk2 ∧ G_q 31 = nd2 ∧ G_q 19 = sy2 ∧ G_q 28 = na2 ∧ G_q 29 = vi2 ∧ A_q 3 (ln2).toNat = lf2 ∧ ecn A_q (G_q 31) = ec2 ∧ (at0 ≤ at2) ∧ (nd ≤ nd2) ∧ (sy ≤ sy2) ∧ (sy2 ≤ na2 + 2) ∧ (vi ≤ vi2) ∧ (vi2 ≤ vi + 1) ∧ (0 ≤ r) ∧ (r ≤ 6999) ∧ (ln ≤ ln2) ∧ (ln2 ≤ li) ∧ (((1 ≤ fk2) ∧ (nd2 - nd ≤ 2 * at2 - (2 * at0 - tz tk0) + 14)) ∨ ((fk2 = 0) ∧ (vi2 = vi) ∧ (ln < ln2) ∧ (nd2 - nd ≤ 2 * at2 - (2 * at0 - tz tk0)) ∧ (at2 < lf2 ∨ li ≤ ln2) ∧ (nd ≤ r) ∧ (r < nd2) ∧ (wSt A_q (sy2) pb (wP A_q (sy2) pb (k)) (Vs) (r) (nd) (nd2) (sy) (sy2)) ∧ (NX A_q (r)) ∧ (nd2 - nd + 5 * (ec2 - ec) ≤ 2 * at2 - (2 * at0 - tz tk0)) ∧ (NdO A_q (nd) (nd2) (sy) (r))))) := by
  obtain ⟨d, rfl⟩ : ∃ d, dd = d + 1 := ⟨dd - 1, by omega⟩
  refine wk_of (e := jm295) rfl (Nat.le_of_ble_eq_true rfl) ?_
  show wj X d jm295 (0, [(0, .ref 66), (1, .int (i32 (lv)))], [], rV c0 c1 G A T) _
  have hF0 : Fr [9, 10, 11, 12, 13, 14, 15, 16, 17, 18, 19, 28, 29, 31] [6, 7, 8, 9, 10, 11, 12, 14, 15, 16, 17, 18, 19, 20, 21, 22, 23, 24, 28] G A G A := Fr_rf
  have hP0 : Pf nd A A := Pf_rf
  have hS0 : Fx sr (sy) A A := Fx_rf
  have hV0 : Fx [14] (vi) A A := Fx_rf
  have b_ln : (0 : Int) ≤ ln ∧ ln ≤ 3000 := e_ln ▸ hW.1 9
  have b_li : (0 : Int) ≤ li ∧ li ≤ 3000 := e_li ▸ hW.1 3
  have b_at0 : (0 : Int) ≤ at0 ∧ at0 ≤ 3002 := e_at0 ▸ hW.1 10
  have b_fk : (0 : Int) ≤ fk ∧ fk ≤ 6 := e_fk ▸ hW.1 16
  have b_nd : (0 : Int) ≤ nd ∧ nd ≤ 6999 := e_nd ▸ hW.1 31
  have b_sy : (0 : Int) ≤ sy ∧ sy ≤ 202 := e_sy ▸ hW.1 19
  have b_na : (0 : Int) ≤ na ∧ na ≤ 200 := e_na ▸ hW.1 28
  have b_vi : (0 : Int) ≤ vi ∧ vi ≤ 202 := e_vi ▸ hW.1 29
  have b_le : (0 : Int) ≤ le ∧ le ≤ 3000 := e_le ▸ hW.2 4 _
  have b_op0 : (-2147483648 : Int) ≤ op0 ∧ op0 ≤ 2147483647 := e_op0 ▸ hW.1 15
  have z_tk0 := tz_f tk0
  have b_tk0 : (0 : Int) ≤ tk0 ∧ tk0 ≤ 5 := e_tk0 ▸ hW.1 11
  refine jx_ar (pc_q := 1) (st_q := [.int (i32 (0))]) rfl rfl rfl rfl ?_
  refine jx_ld (pc_q := 2) (l_q := jSto1 [(0, .ref 66), (1, .int (i32 (lv)))] 2 (.int (i32 (0)))) (st_q := []) rfl rfl ?_
  obtain ⟨L1, eL1⟩ : ∃ q, q = jSto1 [(0, .ref 66), (1, .int (i32 (lv)))] 2 (.int (i32 (0))) := ⟨_, rfl⟩
  rw [← eL1]
  have gL1_0 : jGet L1 0 = some (.ref 66) := eL1 ▸ jg_ne (by decide) (rfl : jGet [(0, .ref 66), (1, .int (i32 (lv)))] 0 = some (.ref 66)) rfl
  have gL1_1 : jGet L1 1 = some (.int (i32 (lv))) := eL1 ▸ jg_ne (by decide) (rfl : jGet [(0, .ref 66), (1, .int (i32 (lv)))] 1 = some (.int (i32 (lv)))) rfl
  have gL1_2 : jGet L1 2 = some (.int (i32 (0))) := eL1 ▸ jg_eq
  refine jx_ld (pc_q := 3) (l_q := L1) (st_q := [.ref 66]) rfl (jl_aloadn gL1_0) ?_
  have z2 := tz_f (tk0)
  refine jr_get (pc_q := 6) (i := 11) (v := .int (i32 (tk0))) rfl rfl (by decide) (rFv_eq (by decide) (show G 11 = tk0 from (e_tk0))) rfl ?_
  refine jx_ar (pc_q := 7) (st_q := [.int (i32 (1)), .int (i32 (tk0))]) rfl rfl rfl rfl ?_
  refine jx_icmp_ne (pc_q := 10) (tg := 15) rfl rfl rfl (Int.le_trans (by decide : (-2147483648 : Int) ≤ 0) b_tk0.1) (Int.le_trans b_tk0.2 (by decide : (5 : Int) ≤ 2147483647)) (by decide) (by decide) (fun h3 => ?_) (fun h3 => ?_)
  · have _q := h3
    refine jx_ld (pc_q := 16) (l_q := L1) (st_q := [.ref 66]) rfl (jl_aloadn gL1_0) ?_
    have z4 := tz_f (tk0)
    refine jr_get (pc_q := 19) (i := 11) (v := .int (i32 (tk0))) rfl rfl (by decide) (rFv_eq (by decide) (show G 11 = tk0 from (e_tk0))) rfl ?_
    refine jx_ar (pc_q := 20) (st_q := [.int (i32 (2)), .int (i32 (tk0))]) rfl rfl rfl rfl ?_
    refine jx_icmp_eq (pc_q := 23) (tg := 34) rfl rfl rfl (Int.le_trans (by decide : (-2147483648 : Int) ≤ 0) b_tk0.1) (Int.le_trans b_tk0.2 (by decide : (5 : Int) ≤ 2147483647)) (by decide) (by decide) (fun h5 => ?_) (fun h5 => ?_)
    · have _q := h5
      refine jx_ld (pc_q := 35) (l_q := L1) (st_q := [.ref 66]) rfl (jl_aloadn gL1_0) ?_
      have b6 : (-2147483648 : Int) ≤ G 13 ∧ G 13 ≤ 2147483647 := hW.1 13
      refine jr_get (pc_q := 38) (i := 13) (v := .int (i32 (G 13))) rfl rfl (by decide) rfl rfl ?_
      refine jx_ld (pc_q := 39) (l_q := jSto1 L1 3 (.int (i32 (G 13)))) (st_q := []) rfl rfl ?_
      obtain ⟨L7, eL7⟩ : ∃ q, q = jSto1 L1 3 (.int (i32 (G 13))) := ⟨_, rfl⟩
      rw [← eL7]
      have gL7_0 : jGet L7 0 = some (.ref 66) := eL7 ▸ jg_ne (by decide) gL1_0 rfl
      have gL7_1 : jGet L7 1 = some (.int (i32 (lv))) := eL7 ▸ jg_ne (by decide) gL1_1 rfl
      have gL7_2 : jGet L7 2 = some (.int (i32 (0))) := eL7 ▸ jg_ne (by decide) gL1_2 rfl
      have gL7_3 : jGet L7 3 = some (.int (i32 (G 13))) := eL7 ▸ jg_eq
      refine jx_ld (pc_q := 40) (l_q := L7) (st_q := [.int (i32 (G 13))]) rfl (jl_iloadn gL7_3) ?_
      rcases (by omega : G 13 = 1 ∨ G 13 = 2 ∨ G 13 = 3 ∨ G 13 = 4 ∨ G 13 = 5 ∨ G 13 = 6 ∨ G 13 = 7 ∨ G 13 = 8 ∨ (G 13 < 1 ∨ 8 < G 13)) with h8 | h8 | h8 | h8 | h8 | h8 | h8 | h8 | h8
      · refine jx_swe (z := 1) (tg := 120) h8 rfl rfl rfl rfl ?_
        refine jx_ld (pc_q := 121) (l_q := L7) (st_q := [.ref 66]) rfl (jl_aloadn gL7_0) ?_
        refine jx_ld (pc_q := 122) (l_q := L7) (st_q := [.int (i32 (lv)), .ref 66]) rfl (jl_iloadn gL7_1) ?_
        refine jx_vr (pc_q := 125) (as := [.int (i32 (lv))]) (st := []) rfl rfl rfl rfl ⟨rfl, rfl, Nat.le_of_ble_eq_true rfl⟩ rfl rfl (c_readSeq_w (dd := d) (hP := hP) (hd := by omega) (hW := hW) (lv := lv) (ln := ln) (e_ln := show G 9 = ln from (e_ln)) (li := li) (e_li := show G 3 = li from (e_li)) (at0 := at0) (e_at0 := show G 10 = at0 from (e_at0)) (fk := fk) (e_fk := show G 16 = fk from (e_fk)) (nd := nd) (e_nd := show G 31 = nd from (e_nd)) (sy := sy) (e_sy := show G 19 = sy from (e_sy)) (na := na) (e_na := show G 28 = na from (e_na)) (vi := vi) (e_vi := show G 29 = vi from (e_vi)) (le := le) (e_le := show A 4 (ln).toNat = le from (e_le)) (op0 := op0) (e_op0 := show G 15 = op0 from (e_op0)) (tk0 := tk0) (e_tk0 := show G 11 = tk0 from (e_tk0)) (ec := ec) (e_ec := show ecn A (G 31) = ec from e_ec) (i_LT := (LT_ext (rfl) (rfl) (rfl) i_LT)) (i_SV := (SV_fx i_SV e_vi (show G 29 = vi from (e_vi)) (by omega) hV0)) (i_PQ := (PQ_fx i_PQ hS0 (by omega) (hF0.2 29 rfl) (hF0.2 30 rfl))) (hvb := hvb) (h_lv := ⟨(Int.le_trans (by decide : (-2147483648 : Int) ≤ -2147483648) h_lv.1), (Int.le_trans h_lv.2 (by decide : (2147483647 : Int) ≤ 2147483647))⟩)  (p_0 := by omega) (p_1 := by omega) (p_2 := by omega) (p_3 := by omega) (p_4 := by omega) (p_5 := by omega) (p_6 := by omega) (p_7 := by omega) (p_8 := by omega) (p_9 := by omega) (p_10 := by omega)) (fun o V_q hq => ?_)
        obtain ⟨G9, A10, r11, ln2_12, at2_13, fk2_14, nd2_15, sy2_16, na2_17, vi2_18, lf2_19, ec2_20, rfl, rfl, hW21, hF22, hQ23, hQ24, hQ25, b26, e27, e28, e29, e30, e31, e32, e33, e34, e35, p36, p37, p38, p39, p40, p41, p42, p43, p44, p45, q46⟩ := hq
        have hF47 := Fr_tr hF0 hF22 (Fr_sub (by decide)) (Fr_sub (by decide))
        have hP48 := Pf_tr hP0 hQ23 (by omega)
        have hS49 := Fx_tr hS0 hQ24 (by omega)
        have hV50 := Fx_tr hV0 hQ25 (by omega)
        have bln2_12 : (0 : Int) ≤ ln2_12 ∧ ln2_12 ≤ 3000 := e27 ▸ hW21.1 9
        have bat2_13 : (0 : Int) ≤ at2_13 ∧ at2_13 ≤ 3002 := e28 ▸ hW21.1 10
        have bfk2_14 : (0 : Int) ≤ fk2_14 ∧ fk2_14 ≤ 6 := e29 ▸ hW21.1 16
        have bnd2_15 : (0 : Int) ≤ nd2_15 ∧ nd2_15 ≤ 6999 := e30 ▸ hW21.1 31
        have bsy2_16 : (0 : Int) ≤ sy2_16 ∧ sy2_16 ≤ 202 := e31 ▸ hW21.1 19
        have bna2_17 : (0 : Int) ≤ na2_17 ∧ na2_17 ≤ 200 := e32 ▸ hW21.1 28
        have bvi2_18 : (0 : Int) ≤ vi2_18 ∧ vi2_18 ≤ 202 := e33 ▸ hW21.1 29
        have blf2_19 : (0 : Int) ≤ lf2_19 ∧ lf2_19 ≤ 3000 := e34 ▸ hW21.2 3 _
        refine .inr ⟨_, rfl, ?_⟩
        rcases q46 with ⟨a51, a52⟩ | ⟨a53, a54, a55, a56, a57, a58, a59, a60, a61, a62, a63⟩
        · have _q : True := trivial
          refine jx_rt (v := some (.int (i32 (r11)))) rfl rfl rfl rfl rfl rfl ?_
          exact ⟨_, _, _, ln2_12, at2_13, fk2_14, nd2_15, sy2_16, na2_17, vi2_18, lf2_19, ec2_20, rfl, rfl, hW21, hF47, hP48, hS49, hV50, by omega, (e27), (e28), (e29), (e30), (e31), (e32), (e33), (e34), e35, by omega, by omega, by omega, by omega, by omega, by omega, by omega, by omega, by omega, by omega, by first | exact Or.inl (⟨by omega, by omega⟩)⟩
        · have _q : True := trivial
          refine jx_rt (v := some (.int (i32 (r11)))) rfl rfl rfl rfl rfl rfl ?_
          exact ⟨_, _, _, ln2_12, at2_13, fk2_14, nd2_15, sy2_16, na2_17, vi2_18, lf2_19, ec2_20, rfl, rfl, hW21, hF47, hP48, hS49, hV50, by omega, (e27), (e28), (e29), (e30), (e31), (e32), (e33), (e34), e35, by omega, by omega, by omega, by omega, by omega, by omega, by omega, by omega, by omega, by omega, by first | exact Or.inr ((⟨by omega, by omega, by omega, by omega, by omega, by omega, by omega, a60, a61, by omega, (NdO_w (NdO_m (r := r11) a63) (by omega) (by omega) (by omega))⟩))⟩
      · refine jx_swe (z := 2) (tg := 186) h8 rfl rfl rfl rfl ?_
        refine jx_ld (pc_q := 187) (l_q := L7) (st_q := [.ref 66]) rfl (jl_aloadn gL7_0) ?_
        refine jx_ld (pc_q := 188) (l_q := L7) (st_q := [.int (i32 (lv)), .ref 66]) rfl (jl_iloadn gL7_1) ?_
        refine jx_vr (pc_q := 191) (as := [.int (i32 (lv))]) (st := []) rfl rfl rfl rfl ⟨rfl, rfl, Nat.le_of_ble_eq_true rfl⟩ rfl rfl (c_readPar_w (dd := d) (hP := hP) (hd := by omega) (hW := hW) (lv := lv) (ln := ln) (e_ln := show G 9 = ln from (e_ln)) (li := li) (e_li := show G 3 = li from (e_li)) (at0 := at0) (e_at0 := show G 10 = at0 from (e_at0)) (fk := fk) (e_fk := show G 16 = fk from (e_fk)) (nd := nd) (e_nd := show G 31 = nd from (e_nd)) (sy := sy) (e_sy := show G 19 = sy from (e_sy)) (na := na) (e_na := show G 28 = na from (e_na)) (vi := vi) (e_vi := show G 29 = vi from (e_vi)) (le := le) (e_le := show A 4 (ln).toNat = le from (e_le)) (op0 := op0) (e_op0 := show G 15 = op0 from (e_op0)) (tk0 := tk0) (e_tk0 := show G 11 = tk0 from (e_tk0)) (ec := ec) (e_ec := show ecn A (G 31) = ec from e_ec) (i_LT := (LT_ext (rfl) (rfl) (rfl) i_LT)) (i_SV := (SV_fx i_SV e_vi (show G 29 = vi from (e_vi)) (by omega) hV0)) (i_PQ := (PQ_fx i_PQ hS0 (by omega) (hF0.2 29 rfl) (hF0.2 30 rfl))) (hvb := hvb) (h_lv := ⟨(Int.le_trans (by decide : (-2147483648 : Int) ≤ -2147483648) h_lv.1), (Int.le_trans h_lv.2 (by decide : (2147483647 : Int) ≤ 2147483647))⟩)  (p_0 := by omega) (p_1 := by omega) (p_2 := by omega) (p_3 := by omega) (p_4 := by omega) (p_5 := by omega) (p_6 := by omega) (p_7 := by omega) (p_8 := by omega) (p_9 := by omega) (p_10 := by omega)) (fun o V_q hq => ?_)
        obtain ⟨G64, A65, r66, ln2_67, at2_68, fk2_69, nd2_70, sy2_71, na2_72, vi2_73, lf2_74, ec2_75, rfl, rfl, hW76, hF77, hQ78, hQ79, hQ80, b81, e82, e83, e84, e85, e86, e87, e88, e89, e90, p91, p92, p93, p94, p95, p96, p97, p98, p99, p100, q101⟩ := hq
        have hF102 := Fr_tr hF0 hF77 (Fr_sub (by decide)) (Fr_sub (by decide))
        have hP103 := Pf_tr hP0 hQ78 (by omega)
        have hS104 := Fx_tr hS0 hQ79 (by omega)
        have hV105 := Fx_tr hV0 hQ80 (by omega)
        have bln2_67 : (0 : Int) ≤ ln2_67 ∧ ln2_67 ≤ 3000 := e82 ▸ hW76.1 9
        have bat2_68 : (0 : Int) ≤ at2_68 ∧ at2_68 ≤ 3002 := e83 ▸ hW76.1 10
        have bfk2_69 : (0 : Int) ≤ fk2_69 ∧ fk2_69 ≤ 6 := e84 ▸ hW76.1 16
        have bnd2_70 : (0 : Int) ≤ nd2_70 ∧ nd2_70 ≤ 6999 := e85 ▸ hW76.1 31
        have bsy2_71 : (0 : Int) ≤ sy2_71 ∧ sy2_71 ≤ 202 := e86 ▸ hW76.1 19
        have bna2_72 : (0 : Int) ≤ na2_72 ∧ na2_72 ≤ 200 := e87 ▸ hW76.1 28
        have bvi2_73 : (0 : Int) ≤ vi2_73 ∧ vi2_73 ≤ 202 := e88 ▸ hW76.1 29
        have blf2_74 : (0 : Int) ≤ lf2_74 ∧ lf2_74 ≤ 3000 := e89 ▸ hW76.2 3 _
        refine .inr ⟨_, rfl, ?_⟩
        rcases q101 with ⟨a106, a107⟩ | ⟨a108, a109, a110, a111, a112, a113, a114, a115, a116, a117, a118⟩
        · have _q : True := trivial
          refine jx_rt (v := some (.int (i32 (r66)))) rfl rfl rfl rfl rfl rfl ?_
          exact ⟨_, _, _, ln2_67, at2_68, fk2_69, nd2_70, sy2_71, na2_72, vi2_73, lf2_74, ec2_75, rfl, rfl, hW76, hF102, hP103, hS104, hV105, by omega, (e82), (e83), (e84), (e85), (e86), (e87), (e88), (e89), e90, by omega, by omega, by omega, by omega, by omega, by omega, by omega, by omega, by omega, by omega, by first | exact Or.inl (⟨by omega, by omega⟩)⟩
        · have _q : True := trivial
          refine jx_rt (v := some (.int (i32 (r66)))) rfl rfl rfl rfl rfl rfl ?_
          exact ⟨_, _, _, ln2_67, at2_68, fk2_69, nd2_70, sy2_71, na2_72, vi2_73, lf2_74, ec2_75, rfl, rfl, hW76, hF102, hP103, hS104, hV105, by omega, (e82), (e83), (e84), (e85), (e86), (e87), (e88), (e89), e90, by omega, by omega, by omega, by omega, by omega, by omega, by omega, by omega, by omega, by omega, by first | exact Or.inr ((⟨by omega, by omega, by omega, by omega, by omega, by omega, by omega, a115, a116, by omega, a118⟩))⟩
      · refine jx_swe (z := 3) (tg := 126) h8 rfl rfl rfl rfl ?_
        refine jx_ld (pc_q := 127) (l_q := L7) (st_q := [.ref 66]) rfl (jl_aloadn gL7_0) ?_
        refine jx_vr (pc_q := 130) (as := []) (st := []) rfl rfl rfl rfl ⟨rfl, rfl, Nat.le_of_ble_eq_true rfl⟩ rfl rfl (c_next (dd := d) (hd := by omega) (hW := hW)  (ln := ln) (e_ln := show G 9 = ln from (e_ln)) (le := le) (e_le := show A 4 (ln).toNat = le from (e_le)) (at0 := at0) (e_at0 := show G 10 = at0 from (e_at0))    (p_0 := by omega)) (fun o V_q hq => ?_)
        obtain ⟨G119, A120, at2_121, tk2_122, rfl, rfl, hW123, hF124, e125, e126, p127, p128, p129, -⟩ := hq
        have hF131 := Fr_tr hF0 hF124 (Fr_sub (by decide)) (Fr_sub (by decide))
        have hP132 := Pf_f hP0 hF124 (by decide)
        have hS133 := Fx_f hS0 hF124 (by decide)
        have hV134 := Fx_f hV0 hF124 (by decide)
        have ec135 : ecn A120 (G119 31) = ec := (ecn_f (hF124.2 15 rfl) (hF124.1 31 rfl)).trans e_ec
        have bat2_121 : (0 : Int) ≤ at2_121 ∧ at2_121 ≤ 3002 := e125 ▸ hW123.1 10
        have ztk2_122 := tz_b tk2_122
        have btk2_122 : (0 : Int) ≤ tk2_122 ∧ tk2_122 ≤ 5 := e126 ▸ hW123.1 11
        refine .inl ⟨rfl, ?_⟩
        have pz136 : at0 + tz tk2_122 ≤ at2_121 := by omega
        refine jx_ld (pc_q := 131) (l_q := L7) (st_q := [.ref 66]) rfl (jl_aloadn gL7_0) ?_
        refine jx_vr (pc_q := 134) (as := []) (st := []) rfl rfl rfl rfl ⟨rfl, rfl, Nat.le_of_ble_eq_true rfl⟩ rfl rfl (c_bad (dd := d) (hd := by omega) (hW := hW123)  (fk := fk) (e_fk := show G119 16 = fk from ((hF124.1 16 rfl).trans (e_fk)))    ) (fun o V_q hq => ?_)
        obtain ⟨r137, rfl, rfl, b138, q139⟩ := hq
        refine .inr ⟨_, rfl, ?_⟩
        rcases q139 with ⟨rfl, a140⟩ | ⟨rfl, a141⟩
        · have _q : True := trivial
          exfalso
          omega
        · have _q : True := trivial
          refine jx_if_ne (pc_q := 137) (tg := 156) rfl rfl rfl (by decide) (by decide) (fun h142 => ?_) (fun h142 => ?_)
          · have _q := h142
            exact absurd h142 (by omega)
          · have _q := h142
            refine jx_ld (pc_q := 138) (l_q := L7) (st_q := [.ref 66]) rfl (jl_aloadn gL7_0) ?_
            refine jx_ar (pc_q := 139) (st_q := [.int (i32 (2)), .ref 66]) rfl rfl rfl rfl ?_
            have b143 : (-2147483648 : Int) ≤ G119 13 ∧ G119 13 ≤ 2147483647 := hW123.1 13
            refine jx_vr (pc_q := 142) (as := [.int (i32 (2))]) (st := []) rfl rfl rfl rfl ⟨rfl, rfl, Nat.le_of_ble_eq_true rfl⟩ rfl rfl (c_isKey (dd := d) (hd := by omega) (hW := hW123) (k := 2) (tk := tk2_122) (e_tk := show G119 11 = tk2_122 from (e126)) (tn := G119 13) (e_tn := show G119 13 = G119 13 from rfl)  (h_k := ⟨(by decide), (by decide)⟩)  ) (fun o V_q hq => ?_)
            obtain ⟨r144, rfl, rfl, b145, q146⟩ := hq
            refine .inr ⟨_, rfl, ?_⟩
            rcases q146 with ⟨rfl, a147, a148, a149⟩ | rfl
            · have _q : True := trivial
              refine jx_if_ne (pc_q := 145) (tg := 156) rfl rfl rfl (by decide) (by decide) (fun h150 => ?_) (fun h150 => ?_)
              · have _q := h150
                refine jx_ld (pc_q := 157) (l_q := L7) (st_q := [.ref 66]) rfl (jl_aloadn gL7_0) ?_
                refine jx_ar (pc_q := 159) (st_q := [.int (i32 (28)), .ref 66]) rfl rfl rfl rfl ?_
                refine jx_ar (pc_q := 160) (st_q := [.int (i32 (1)), .int (i32 (28)), .ref 66]) rfl rfl rfl rfl ?_
                refine jx_ar (pc_q := 161) (st_q := [.int (i32 (0)), .int (i32 (1)), .int (i32 (28)), .ref 66]) rfl rfl rfl rfl ?_
                refine jx_ar (pc_q := 162) (st_q := [.int (i32 (0)), .int (i32 (0)), .int (i32 (1)), .int (i32 (28)), .ref 66]) rfl rfl rfl rfl ?_
                refine jx_ar (pc_q := 163) (st_q := [.int (i32 (0)), .int (i32 (0)), .int (i32 (0)), .int (i32 (1)), .int (i32 (28)), .ref 66]) rfl rfl rfl rfl ?_
                refine jx_vr (pc_q := 166) (as := [.int (i32 (28)), .int (i32 (1)), .int (i32 (0)), .int (i32 (0)), .int (i32 (0))]) (st := []) rfl rfl rfl rfl ⟨rfl, rfl, Nat.le_of_ble_eq_true rfl⟩ rfl rfl (c_node_p (dd := d) (hd := by omega) (hW := hW123) (kind := 28) (a := 1) (b := 0) (c := 0) (e := 0) (nd := nd) (e_nd := show G119 31 = nd from ((hF124.1 31 rfl).trans (e_nd))) (ec := ec) (e_ec := show ecn A120 (G119 31) = ec from ec135) (sy := sy) (e_sy := show G119 19 = sy from ((hF124.1 19 rfl).trans (e_sy))) (ln := ln) (e_ln := show G119 9 = ln from ((hF124.1 9 rfl).trans (e_ln))) (li := li) (e_li := show G119 3 = li from ((hF124.1 3 rfl).trans (e_li)))  (h_kind := ⟨(by decide), (by decide)⟩) (h_a := ⟨(by decide), (by decide)⟩) (h_b := ⟨(by decide), (by decide)⟩) (h_c := ⟨(by decide), (by decide)⟩) (h_e := ⟨(by decide), (by decide)⟩)  (p_0 := by omega) (p_1 := by omega) (p_2 := by omega) (p_3 := by omega)) (fun o V_q hq => ?_)
                obtain ⟨G151, A152, nd2_153, ec2_154, rfl, rfl, hW155, hF156, hQ157, e158, e159, p160, p161, p162, p163, -⟩ := hq
                have hF165 := Fr_tr hF131 hF156 (Fr_sub (by decide)) (Fr_sub (by decide))
                have hP166 := Pf_tr hP132 hQ157 (by omega)
                have hS167 := Fx_f hS133 hF156 (by decide)
                have hV168 := Fx_f hV134 hF156 (by decide)
                have bnd2_153 : (0 : Int) ≤ nd2_153 ∧ nd2_153 ≤ 6999 := e158 ▸ hW155.1 31
                refine .inr ⟨_, rfl, ?_⟩
                refine jx_ld (pc_q := 167) (l_q := jSto1 L7 2 (.int (i32 (nd)))) (st_q := []) rfl rfl ?_
                obtain ⟨L169, eL169⟩ : ∃ q, q = jSto1 L7 2 (.int (i32 (nd))) := ⟨_, rfl⟩
                rw [← eL169]
                have gL169_0 : jGet L169 0 = some (.ref 66) := eL169 ▸ jg_ne (by decide) gL7_0 rfl
                have gL169_1 : jGet L169 1 = some (.int (i32 (lv))) := eL169 ▸ jg_ne (by decide) gL7_1 rfl
                have gL169_3 : jGet L169 3 = some (.int (i32 (G 13))) := eL169 ▸ jg_ne (by decide) gL7_3 rfl
                have gL169_2 : jGet L169 2 = some (.int (i32 (nd))) := eL169 ▸ jg_eq
                refine jx_ld (pc_q := 168) (l_q := L169) (st_q := [.ref 66]) rfl (jl_aloadn gL169_0) ?_
                refine jx_ar (pc_q := 169) (st_q := [.int (i32 (1)), .ref 66]) rfl rfl rfl rfl ?_
                refine jx_vr (pc_q := 172) (as := [.int (i32 (1))]) (st := []) rfl rfl rfl rfl ⟨rfl, rfl, Nat.le_of_ble_eq_true rfl⟩ rfl rfl (c_need (dd := d) (hd := by omega) (hW := hW155) (g := 1) (ln := ln) (e_ln := show G151 9 = ln from ((hF156.1 9 rfl).trans ((hF124.1 9 rfl).trans (e_ln)))) (le := le) (e_le := show A152 4 (ln).toNat = le from (congrFun ((hF156.2 4 rfl).trans (hF124.2 4 rfl)) _).trans (e_le)) (at0 := at2_121) (e_at0 := show G151 10 = at2_121 from ((hF156.1 10 rfl).trans (e125))) (fk := fk) (e_fk := show G151 16 = fk from ((hF156.1 16 rfl).trans ((hF124.1 16 rfl).trans (e_fk)))) (tk0 := tk2_122) (e_tk0 := show G151 11 = tk2_122 from ((hF156.1 11 rfl).trans (e126)))  (h_g := ⟨(by decide), (by decide)⟩)  (p_0 := by omega)) (fun o V_q hq => ?_)
                obtain ⟨G170, A171, at2_172, tk2_173, fk2_174, rfl, rfl, hW175, hF176, e177, e178, e179, p180, p181, q182⟩ := hq
                have hF183 := Fr_tr hF165 hF176 (Fr_sub (by decide)) (Fr_sub (by decide))
                have hP184 := Pf_f hP166 hF176 (by decide)
                have hS185 := Fx_f hS167 hF176 (by decide)
                have hV186 := Fx_f hV168 hF176 (by decide)
                have sf187 : ND A171 (nd) (28) (1) (0) (0) (0) (0) (0) := ND_ag (by omega) (Ag_fr hF176 (by decide)) p162
                have sf188 : NdO A171 (nd) (nd + 1) (sy) (nd) := NdO_f hF176 (by decide) p163
                have ec189 : ecn A171 (G170 31) = ec2_154 := (ecn_f (hF176.2 15 rfl) (hF176.1 31 rfl)).trans e159
                have bat2_172 : (0 : Int) ≤ at2_172 ∧ at2_172 ≤ 3002 := e177 ▸ hW175.1 10
                have ztk2_173 := tz_b tk2_173
                have btk2_173 : (0 : Int) ≤ tk2_173 ∧ tk2_173 ≤ 5 := e178 ▸ hW175.1 11
                have bfk2_174 : (0 : Int) ≤ fk2_174 ∧ fk2_174 ≤ 6 := e179 ▸ hW175.1 16
                refine .inl ⟨rfl, ?_⟩
                rcases q182 with ⟨a190, a191, a192, a193⟩ | ⟨a194, a195, a196, a197⟩
                · have _q : True := trivial
                  refine jx_ld (pc_q := 173) (l_q := L169) (st_q := [.ref 66]) rfl (jl_aloadn gL169_0) ?_
                  refine jx_vr (pc_q := 176) (as := []) (st := []) rfl rfl rfl rfl ⟨rfl, rfl, Nat.le_of_ble_eq_true rfl⟩ rfl rfl (c_endLine (dd := d) (hd := by omega) (hW := hW175)  (ln := ln) (e_ln := show G170 9 = ln from ((hF176.1 9 rfl).trans ((hF156.1 9 rfl).trans ((hF124.1 9 rfl).trans (e_ln))))) (li := li) (e_li := show G170 3 = li from ((hF176.1 3 rfl).trans ((hF156.1 3 rfl).trans ((hF124.1 3 rfl).trans (e_li))))) (fk := fk2_174) (e_fk := show G170 16 = fk2_174 from (e179)) (tk0 := tk2_173) (e_tk0 := show G170 11 = tk2_173 from (e178))    (p_0 := by omega)) (fun o V_q hq => ?_)
                  obtain ⟨G198, A199, ln2_200, fk2_201, rfl, rfl, hW202, hF203, e204, e205, q206⟩ := hq
                  have hF207 := Fr_tr hF183 hF203 (Fr_sub (by decide)) (Fr_sub (by decide))
                  have hP208 := Pf_f hP184 hF203 (by decide)
                  have hS209 := Fx_f hS185 hF203 (by decide)
                  have hV210 := Fx_f hV186 hF203 (by decide)
                  have sf211 : ND A199 (nd) (28) (1) (0) (0) (0) (0) (0) := ND_ag (by omega) (Ag_fr hF203 (by decide)) sf187
                  have sf212 : NdO A199 (nd) (nd + 1) (sy) (nd) := NdO_f hF203 (by decide) sf188
                  have ec213 : ecn A199 (G198 31) = ec2_154 := (ecn_f (hF203.2 15 rfl) (hF203.1 31 rfl)).trans ec189
                  have bln2_200 : (0 : Int) ≤ ln2_200 ∧ ln2_200 ≤ 3000 := e204 ▸ hW202.1 9
                  have bfk2_201 : (0 : Int) ≤ fk2_201 ∧ fk2_201 ≤ 6 := e205 ▸ hW202.1 16
                  refine .inl ⟨rfl, ?_⟩
                  rcases q206 with ⟨a214, a215, a216, a217, a218⟩ | ⟨a219, a220⟩
                  · have _q : True := trivial
                    exfalso
                    omega
                  · have _q : True := trivial
                    refine jx_ld (pc_q := 177) (l_q := L169) (st_q := [.ref 66]) rfl (jl_aloadn gL169_0) ?_
                    refine jx_ld (pc_q := 178) (l_q := L169) (st_q := [.int (i32 (nd)), .ref 66]) rfl (jl_iloadn gL169_2) ?_
                    refine jx_ld (pc_q := 179) (l_q := L169) (st_q := [.int (i32 (lv)), .int (i32 (nd)), .ref 66]) rfl (jl_iloadn gL169_1) ?_
                    refine jx_ar (pc_q := 180) (st_q := [.int (i32 (2)), .int (i32 (lv)), .int (i32 (nd)), .ref 66]) rfl rfl rfl rfl ?_
                    refine jx_ar (pc_q := 181) (st_q := [.int (i32 (2)), .int (i32 (2)), .int (i32 (lv)), .int (i32 (nd)), .ref 66]) rfl rfl rfl rfl ?_
                    refine jx_vr (pc_q := 184) (as := [.int (i32 (nd)), .int (i32 (lv)), .int (i32 (2)), .int (i32 (2))]) (st := []) rfl rfl rfl rfl ⟨rfl, rfl, Nat.le_of_ble_eq_true rfl⟩ rfl rfl (c_readChildren_f (dd := d) (zz := nd) (hd := by omega) (hW := hW202) (n := nd) (lv := lv) (least := 2) (mo := 2) (fk := fk2_201) (e_fk := show G198 16 = fk2_201 from (e205))  (h_n := ⟨(Int.le_trans (by decide : (-2147483648 : Int) ≤ 0) b_nd.1), (Int.le_trans b_nd.2 (by decide : (6999 : Int) ≤ 2147483647))⟩) (h_lv := ⟨(Int.le_trans (by decide : (-2147483648 : Int) ≤ -2147483648) h_lv.1), (Int.le_trans h_lv.2 (by decide : (2147483647 : Int) ≤ 2147483647))⟩) (h_least := ⟨(by decide), (by decide)⟩) (h_mo := ⟨(by decide), (by decide)⟩)  (p_0 := by omega) (p_1 := by omega) (p_2 := by omega) (p_3 := by omega)) (fun o V_q hq => ?_)
                    obtain ⟨G221, A222, fk2_223, rfl, rfl, hW224, hF225, hQ226, e227, p228, -⟩ := hq
                    have hF230 := Fr_tr hF207 hF225 (Fr_sub (by decide)) (Fr_sub (by decide))
                    have hP231 := Pf_tr hP208 hQ226 (by omega)
                    have hS232 := Fx_f hS209 hF225 (by decide)
                    have hV233 := Fx_f hV210 hF225 (by decide)
                    have ec234 : ecn A222 (G221 31) = ec2_154 := (ecn_f (hF225.2 15 rfl) (hF225.1 31 rfl)).trans ec213
                    have bfk2_223 : (0 : Int) ≤ fk2_223 ∧ fk2_223 ≤ 6 := e227 ▸ hW224.1 16
                    refine .inl ⟨rfl, ?_⟩
                    refine jx_ld (pc_q := 185) (l_q := L169) (st_q := [.int (i32 (nd))]) rfl (jl_iloadn gL169_2) ?_
                    refine jx_rt (v := some (.int (i32 (nd)))) rfl rfl rfl rfl rfl rfl ?_
                    exact ⟨_, _, _, ln2_200, at2_172, fk2_223, nd2_153, sy, na, vi, A 3 (ln2_200).toNat, ec2_154, rfl, rfl, hW224, hF230, hP231, hS232, hV233, by omega, ((hF225.1 9 rfl).trans (e204)), ((hF225.1 10 rfl).trans ((hF203.1 10 rfl).trans (e177))), (e227), ((hF225.1 31 rfl).trans ((hF203.1 31 rfl).trans ((hF176.1 31 rfl).trans (e158)))), ((hF225.1 19 rfl).trans ((hF203.1 19 rfl).trans ((hF176.1 19 rfl).trans ((hF156.1 19 rfl).trans ((hF124.1 19 rfl).trans (e_sy)))))), ((hF225.1 28 rfl).trans ((hF203.1 28 rfl).trans ((hF176.1 28 rfl).trans ((hF156.1 28 rfl).trans ((hF124.1 28 rfl).trans (e_na)))))), ((hF225.1 29 rfl).trans ((hF203.1 29 rfl).trans ((hF176.1 29 rfl).trans ((hF156.1 29 rfl).trans ((hF124.1 29 rfl).trans (e_vi)))))), (congrFun ((hF225.2 3 rfl).trans ((hF203.2 3 rfl).trans ((hF176.2 3 rfl).trans ((hF156.2 3 rfl).trans (hF124.2 3 rfl))))) _), ec234, by omega, by omega, by omega, by omega, by omega, by omega, by omega, by omega, by omega, by omega, by first | exact Or.inl (⟨by omega, by omega⟩)⟩
                · have _q : True := trivial
                  have pz235 : at2_121 + tz tk2_173 ≤ at2_172 := by omega
                  refine jx_ld (pc_q := 173) (l_q := L169) (st_q := [.ref 66]) rfl (jl_aloadn gL169_0) ?_
                  refine jx_vr (pc_q := 176) (as := []) (st := []) rfl rfl rfl rfl ⟨rfl, rfl, Nat.le_of_ble_eq_true rfl⟩ rfl rfl (c_endLine (dd := d) (hd := by omega) (hW := hW175)  (ln := ln) (e_ln := show G170 9 = ln from ((hF176.1 9 rfl).trans ((hF156.1 9 rfl).trans ((hF124.1 9 rfl).trans (e_ln))))) (li := li) (e_li := show G170 3 = li from ((hF176.1 3 rfl).trans ((hF156.1 3 rfl).trans ((hF124.1 3 rfl).trans (e_li))))) (fk := fk2_174) (e_fk := show G170 16 = fk2_174 from (e179)) (tk0 := tk2_173) (e_tk0 := show G170 11 = tk2_173 from (e178))    (p_0 := by omega)) (fun o V_q hq => ?_)
                  obtain ⟨G236, A237, ln2_238, fk2_239, rfl, rfl, hW240, hF241, e242, e243, q244⟩ := hq
                  have hF245 := Fr_tr hF183 hF241 (Fr_sub (by decide)) (Fr_sub (by decide))
                  have hP246 := Pf_f hP184 hF241 (by decide)
                  have hS247 := Fx_f hS185 hF241 (by decide)
                  have hV248 := Fx_f hV186 hF241 (by decide)
                  have sf249 : ND A237 (nd) (28) (1) (0) (0) (0) (0) (0) := ND_ag (by omega) (Ag_fr hF241 (by decide)) sf187
                  have sf250 : NdO A237 (nd) (nd + 1) (sy) (nd) := NdO_f hF241 (by decide) sf188
                  have ec251 : ecn A237 (G236 31) = ec2_154 := (ecn_f (hF241.2 15 rfl) (hF241.1 31 rfl)).trans ec189
                  have bln2_238 : (0 : Int) ≤ ln2_238 ∧ ln2_238 ≤ 3000 := e242 ▸ hW240.1 9
                  have bfk2_239 : (0 : Int) ≤ fk2_239 ∧ fk2_239 ≤ 6 := e243 ▸ hW240.1 16
                  refine .inl ⟨rfl, ?_⟩
                  rcases q244 with ⟨a252, a253, a254, a255, a256⟩ | ⟨a257, a258⟩
                  · have _q : True := trivial
                    have b259 : (0 : Int) ≤ A 3 (ln2_238).toNat ∧ A 3 (ln2_238).toNat ≤ 3000 := hW.2 3 _
                    have lt260 : ln2_238 < li → le < A 3 (ln2_238).toNat := fun hh => LT_nx (LT_ext (((hF241.1 3 rfl).trans ((hF176.1 3 rfl).trans ((hF156.1 3 rfl).trans (hF124.1 3 rfl))))) (((hF241.2 3 rfl).trans ((hF176.2 3 rfl).trans ((hF156.2 3 rfl).trans (hF124.2 3 rfl))))) (((hF241.2 4 rfl).trans ((hF176.2 4 rfl).trans ((hF156.2 4 rfl).trans (hF124.2 4 rfl))))) i_LT) (show G236 3 = li from ((hF241.1 3 rfl).trans ((hF176.1 3 rfl).trans ((hF156.1 3 rfl).trans ((hF124.1 3 rfl).trans (e_li)))))) (show A237 4 (ln).toNat = le from (congrFun ((hF241.2 4 rfl).trans ((hF176.2 4 rfl).trans ((hF156.2 4 rfl).trans (hF124.2 4 rfl)))) _).trans (e_le)) (show A237 3 (ln2_238).toNat = A 3 (ln2_238).toNat from (congrFun ((hF241.2 3 rfl).trans ((hF176.2 3 rfl).trans ((hF156.2 3 rfl).trans (hF124.2 3 rfl)))) _)) (show ln2_238 = ln + 1 by omega) (by omega) hh
                    refine jx_ld (pc_q := 177) (l_q := L169) (st_q := [.ref 66]) rfl (jl_aloadn gL169_0) ?_
                    refine jx_ld (pc_q := 178) (l_q := L169) (st_q := [.int (i32 (nd)), .ref 66]) rfl (jl_iloadn gL169_2) ?_
                    refine jx_ld (pc_q := 179) (l_q := L169) (st_q := [.int (i32 (lv)), .int (i32 (nd)), .ref 66]) rfl (jl_iloadn gL169_1) ?_
                    refine jx_ar (pc_q := 180) (st_q := [.int (i32 (2)), .int (i32 (lv)), .int (i32 (nd)), .ref 66]) rfl rfl rfl rfl ?_
                    refine jx_ar (pc_q := 181) (st_q := [.int (i32 (2)), .int (i32 (2)), .int (i32 (lv)), .int (i32 (nd)), .ref 66]) rfl rfl rfl rfl ?_
                    refine jx_vr (pc_q := 184) (as := [.int (i32 (nd)), .int (i32 (lv)), .int (i32 (2)), .int (i32 (2))]) (st := []) rfl rfl rfl rfl ⟨rfl, rfl, Nat.le_of_ble_eq_true rfl⟩ rfl rfl (c_readChildren_w (dd := d) (hP := hP) (zz := nd) (hd := by omega) (hW := hW240) (n := nd) (lv := lv) (least := 2) (mo := 2) (kk := 28) (aa := 1) (bb := 0) (cc := 0) (de := 0) (xx := 0) (ln := ln2_238) (e_ln := show G236 9 = ln2_238 from (e242)) (li := li) (e_li := show G236 3 = li from ((hF241.1 3 rfl).trans ((hF176.1 3 rfl).trans ((hF156.1 3 rfl).trans ((hF124.1 3 rfl).trans (e_li)))))) (at0 := at2_172) (e_at0 := show G236 10 = at2_172 from ((hF241.1 10 rfl).trans (e177))) (fk := fk2_239) (e_fk := show G236 16 = fk2_239 from (e243)) (nd := nd2_153) (e_nd := show G236 31 = nd2_153 from ((hF241.1 31 rfl).trans ((hF176.1 31 rfl).trans (e158)))) (sy := sy) (e_sy := show G236 19 = sy from ((hF241.1 19 rfl).trans ((hF176.1 19 rfl).trans ((hF156.1 19 rfl).trans ((hF124.1 19 rfl).trans (e_sy)))))) (na := na) (e_na := show G236 28 = na from ((hF241.1 28 rfl).trans ((hF176.1 28 rfl).trans ((hF156.1 28 rfl).trans ((hF124.1 28 rfl).trans (e_na)))))) (vi := vi) (e_vi := show G236 29 = vi from ((hF241.1 29 rfl).trans ((hF176.1 29 rfl).trans ((hF156.1 29 rfl).trans ((hF124.1 29 rfl).trans (e_vi)))))) (lf := A 3 (ln2_238).toNat) (e_lf := show A237 3 (ln2_238).toNat = A 3 (ln2_238).toNat from (congrFun ((hF241.2 3 rfl).trans ((hF176.2 3 rfl).trans ((hF156.2 3 rfl).trans (hF124.2 3 rfl)))) _)) (ec := ec2_154) (e_ec := show ecn A237 (G236 31) = ec2_154 from ec251) (i_LT := (LT_ext (((hF241.1 3 rfl).trans ((hF176.1 3 rfl).trans ((hF156.1 3 rfl).trans (hF124.1 3 rfl))))) (((hF241.2 3 rfl).trans ((hF176.2 3 rfl).trans ((hF156.2 3 rfl).trans (hF124.2 3 rfl))))) (((hF241.2 4 rfl).trans ((hF176.2 4 rfl).trans ((hF156.2 4 rfl).trans (hF124.2 4 rfl))))) i_LT)) (i_SV := (SV_fx i_SV e_vi (show G236 29 = vi from ((hF241.1 29 rfl).trans ((hF176.1 29 rfl).trans ((hF156.1 29 rfl).trans ((hF124.1 29 rfl).trans (e_vi)))))) (by omega) hV248)) (i_PQ := (PQ_fx i_PQ hS247 (by omega) (hF245.2 29 rfl) (hF245.2 30 rfl))) (hvb := hvb) (h_n := ⟨(Int.le_trans (by decide : (-2147483648 : Int) ≤ 0) b_nd.1), (Int.le_trans b_nd.2 (by decide : (6999 : Int) ≤ 2147483647))⟩) (h_lv := ⟨(Int.le_trans (by decide : (-2147483648 : Int) ≤ -2147483648) h_lv.1), (Int.le_trans h_lv.2 (by decide : (2147483647 : Int) ≤ 2147483647))⟩) (h_least := ⟨(by decide), (by decide)⟩) (h_mo := ⟨(by decide), (by decide)⟩)  (p_0 := by omega) (p_1 := by omega) (p_2 := by omega) (p_3 := by omega) (p_4 := by omega) (p_5 := by omega) (p_6 := by omega) (p_7 := by omega) (p_8 := by omega) (p_9 := by omega) (p_10 := by omega) (p_11 := by omega) (p_12 := by omega) (p_13 := by omega) (p_14 := by omega) (p_15 := sf249) (p_16 := sf250)) (fun o V_q hq => ?_)
                    obtain ⟨G261, A262, ln2_263, at2_264, fk2_265, nd2_266, sy2_267, na2_268, vi2_269, lf2_270, mm_271, f2_272, ec2_273, rfl, rfl, hW274, hF275, hQ276, hQ277, hQ278, hQ279, e280, e281, e282, e283, e284, e285, e286, e287, e288, e289, e290, p291, p292, p293, p294, p295, p296, p297, q298⟩ := hq
                    have hF299 := Fr_tr hF245 hF275 (Fr_sub (by decide)) (Fr_sub (by decide))
                    have hP300 := Pf_tr hP246 hQ276 (by omega)
                    have hS301 := Fx_tr hS247 hQ278 (by omega)
                    have hV302 := Fx_tr hV248 hQ279 (by omega)
                    have sf303 : NdM A262 (nd + 1) (nd + 1) (sy) := NdM_px hQ277 (by omega) (by omega) (by omega) (NdO_r (lo_q := nd + 1) (by omega) (by omega) sf250)
                    have bln2_263 : (0 : Int) ≤ ln2_263 ∧ ln2_263 ≤ 3000 := e280 ▸ hW274.1 9
                    have bat2_264 : (0 : Int) ≤ at2_264 ∧ at2_264 ≤ 3002 := e281 ▸ hW274.1 10
                    have bfk2_265 : (0 : Int) ≤ fk2_265 ∧ fk2_265 ≤ 6 := e282 ▸ hW274.1 16
                    have bnd2_266 : (0 : Int) ≤ nd2_266 ∧ nd2_266 ≤ 6999 := e283 ▸ hW274.1 31
                    have bsy2_267 : (0 : Int) ≤ sy2_267 ∧ sy2_267 ≤ 202 := e284 ▸ hW274.1 19
                    have bna2_268 : (0 : Int) ≤ na2_268 ∧ na2_268 ≤ 200 := e285 ▸ hW274.1 28
                    have bvi2_269 : (0 : Int) ≤ vi2_269 ∧ vi2_269 ≤ 202 := e286 ▸ hW274.1 29
                    have blf2_270 : (0 : Int) ≤ lf2_270 ∧ lf2_270 ≤ 3000 := e287 ▸ hW274.2 3 _
                    have bmm_271 : (-2147483648 : Int) ≤ mm_271 ∧ mm_271 ≤ 2147483647 := e288 ▸ hW274.2 18 _
                    have bf2_272 : (-2147483648 : Int) ≤ f2_272 ∧ f2_272 ≤ 2147483647 := e289 ▸ hW274.2 21 _
                    refine .inl ⟨rfl, ?_⟩
                    rcases q298 with ⟨a304, a305⟩ | ⟨a306, a307, a308, a309, a310, a311, a312, a313, a314, a315⟩
                    · have _q : True := trivial
                      refine jx_ld (pc_q := 185) (l_q := L169) (st_q := [.int (i32 (nd))]) rfl (jl_iloadn gL169_2) ?_
                      refine jx_rt (v := some (.int (i32 (nd)))) rfl rfl rfl rfl rfl rfl ?_
                      exact ⟨_, _, _, ln2_263, at2_264, fk2_265, nd2_266, sy2_267, na2_268, vi2_269, lf2_270, ec2_273, rfl, rfl, hW274, hF299, hP300, hS301, hV302, by omega, (e280), (e281), (e282), (e283), (e284), (e285), (e286), (e287), e290, by omega, by omega, by omega, by omega, by omega, by omega, by omega, by omega, by omega, by omega, by first | exact Or.inl (⟨by omega, by omega⟩)⟩
                    · have _q : True := trivial
                      refine jx_ld (pc_q := 185) (l_q := L169) (st_q := [.int (i32 (nd))]) rfl (jl_iloadn gL169_2) ?_
                      refine jx_rt (v := some (.int (i32 (nd)))) rfl rfl rfl rfl rfl rfl ?_
                      exact ⟨_, _, _, ln2_263, at2_264, fk2_265, nd2_266, sy2_267, na2_268, vi2_269, lf2_270, ec2_273, rfl, rfl, hW274, hF299, hP300, hS301, hV302, by omega, (e280), (e281), (e282), (e283), (e284), (e285), (e286), (e287), e290, by omega, by omega, by omega, by omega, by omega, by omega, by omega, by omega, by omega, by omega, by first | exact Or.inr ((⟨by omega, by omega, by omega, by omega, by omega, by omega, by omega, (wS_par a311 (RL_eq a312 (by omega) (by omega) (by omega) (by omega) (by omega)) (by omega) (by omega) (by omega)), (NX_nd a311), by omega, (NdO_w (NdO_app (sy := sy) a314 (NdO_app (sy := sy) (NdO_m (r := nd) sf303) (NdO_m (r := nd) a315) (by omega) (by omega) (by omega)) (by omega) (by omega) (by omega)) (by omega) (by omega) (by omega))⟩))⟩
                  · have _q : True := trivial
                    refine jx_ld (pc_q := 177) (l_q := L169) (st_q := [.ref 66]) rfl (jl_aloadn gL169_0) ?_
                    refine jx_ld (pc_q := 178) (l_q := L169) (st_q := [.int (i32 (nd)), .ref 66]) rfl (jl_iloadn gL169_2) ?_
                    refine jx_ld (pc_q := 179) (l_q := L169) (st_q := [.int (i32 (lv)), .int (i32 (nd)), .ref 66]) rfl (jl_iloadn gL169_1) ?_
                    refine jx_ar (pc_q := 180) (st_q := [.int (i32 (2)), .int (i32 (lv)), .int (i32 (nd)), .ref 66]) rfl rfl rfl rfl ?_
                    refine jx_ar (pc_q := 181) (st_q := [.int (i32 (2)), .int (i32 (2)), .int (i32 (lv)), .int (i32 (nd)), .ref 66]) rfl rfl rfl rfl ?_
                    refine jx_vr (pc_q := 184) (as := [.int (i32 (nd)), .int (i32 (lv)), .int (i32 (2)), .int (i32 (2))]) (st := []) rfl rfl rfl rfl ⟨rfl, rfl, Nat.le_of_ble_eq_true rfl⟩ rfl rfl (c_readChildren_f (dd := d) (zz := nd) (hd := by omega) (hW := hW240) (n := nd) (lv := lv) (least := 2) (mo := 2) (fk := fk2_239) (e_fk := show G236 16 = fk2_239 from (e243))  (h_n := ⟨(Int.le_trans (by decide : (-2147483648 : Int) ≤ 0) b_nd.1), (Int.le_trans b_nd.2 (by decide : (6999 : Int) ≤ 2147483647))⟩) (h_lv := ⟨(Int.le_trans (by decide : (-2147483648 : Int) ≤ -2147483648) h_lv.1), (Int.le_trans h_lv.2 (by decide : (2147483647 : Int) ≤ 2147483647))⟩) (h_least := ⟨(by decide), (by decide)⟩) (h_mo := ⟨(by decide), (by decide)⟩)  (p_0 := by omega) (p_1 := by omega) (p_2 := by omega) (p_3 := by omega)) (fun o V_q hq => ?_)
                    obtain ⟨G316, A317, fk2_318, rfl, rfl, hW319, hF320, hQ321, e322, p323, -⟩ := hq
                    have hF325 := Fr_tr hF245 hF320 (Fr_sub (by decide)) (Fr_sub (by decide))
                    have hP326 := Pf_tr hP246 hQ321 (by omega)
                    have hS327 := Fx_f hS247 hF320 (by decide)
                    have hV328 := Fx_f hV248 hF320 (by decide)
                    have ec329 : ecn A317 (G316 31) = ec2_154 := (ecn_f (hF320.2 15 rfl) (hF320.1 31 rfl)).trans ec251
                    have bfk2_318 : (0 : Int) ≤ fk2_318 ∧ fk2_318 ≤ 6 := e322 ▸ hW319.1 16
                    refine .inl ⟨rfl, ?_⟩
                    refine jx_ld (pc_q := 185) (l_q := L169) (st_q := [.int (i32 (nd))]) rfl (jl_iloadn gL169_2) ?_
                    refine jx_rt (v := some (.int (i32 (nd)))) rfl rfl rfl rfl rfl rfl ?_
                    exact ⟨_, _, _, ln2_238, at2_172, fk2_318, nd2_153, sy, na, vi, A 3 (ln2_238).toNat, ec2_154, rfl, rfl, hW319, hF325, hP326, hS327, hV328, by omega, ((hF320.1 9 rfl).trans (e242)), ((hF320.1 10 rfl).trans ((hF241.1 10 rfl).trans (e177))), (e322), ((hF320.1 31 rfl).trans ((hF241.1 31 rfl).trans ((hF176.1 31 rfl).trans (e158)))), ((hF320.1 19 rfl).trans ((hF241.1 19 rfl).trans ((hF176.1 19 rfl).trans ((hF156.1 19 rfl).trans ((hF124.1 19 rfl).trans (e_sy)))))), ((hF320.1 28 rfl).trans ((hF241.1 28 rfl).trans ((hF176.1 28 rfl).trans ((hF156.1 28 rfl).trans ((hF124.1 28 rfl).trans (e_na)))))), ((hF320.1 29 rfl).trans ((hF241.1 29 rfl).trans ((hF176.1 29 rfl).trans ((hF156.1 29 rfl).trans ((hF124.1 29 rfl).trans (e_vi)))))), (congrFun ((hF320.2 3 rfl).trans ((hF241.2 3 rfl).trans ((hF176.2 3 rfl).trans ((hF156.2 3 rfl).trans (hF124.2 3 rfl))))) _), ec329, by omega, by omega, by omega, by omega, by omega, by omega, by omega, by omega, by omega, by omega, by first | exact Or.inl (⟨by omega, by omega⟩)⟩
              · have _q := h150
                exact absurd h150 (by omega)
            · have _q : True := trivial
              refine jx_if_ne (pc_q := 145) (tg := 156) rfl rfl rfl (by decide) (by decide) (fun h330 => ?_) (fun h330 => ?_)
              · have _q := h330
                exact absurd h330 (by omega)
              · have _q := h330
                refine jx_ld (pc_q := 146) (l_q := L7) (st_q := [.ref 66]) rfl (jl_aloadn gL7_0) ?_
                refine jx_ar (pc_q := 147) (st_q := [.int (i32 (1)), .ref 66]) rfl rfl rfl rfl ?_
                refine jx_ld (pc_q := 148) (l_q := L7) (st_q := [.ref 66, .int (i32 (1)), .ref 66]) rfl (jl_aloadn gL7_0) ?_
                have b331 : (-3000 : Int) ≤ G119 12 ∧ G119 12 ≤ 3002 := hW123.1 12
                refine jr_get (pc_q := 151) (i := 12) (v := .int (i32 (G119 12))) rfl rfl (by decide) rfl rfl ?_
                refine jx_vr (pc_q := 154) (as := [.int (i32 (1)), .int (i32 (G119 12))]) (st := []) rfl rfl rfl rfl ⟨rfl, rfl, Nat.le_of_ble_eq_true rfl⟩ rfl rfl (c_fail (dd := d) (hd := by omega) (hW := hW123) (kind := 1) (place := G119 12) (fk := fk) (e_fk := show G119 16 = fk from ((hF124.1 16 rfl).trans (e_fk)))  (h_kind := ⟨(by decide), (by decide)⟩) (h_place := ⟨(Int.le_trans (by decide : (-2147483648 : Int) ≤ -3000) b331.1), (Int.le_trans b331.2 (by decide : (3002 : Int) ≤ 2147483647))⟩)  (p_0 := by omega) (p_1 := by omega)) (fun o V_q hq => ?_)
                obtain ⟨G332, A333, fk2_334, rfl, rfl, hW335, hF336, e337, p338, -⟩ := hq
                have hF340 := Fr_tr hF131 hF336 (Fr_sub (by decide)) (Fr_sub (by decide))
                have hP341 := Pf_f hP132 hF336 (by decide)
                have hS342 := Fx_f hS133 hF336 (by decide)
                have hV343 := Fx_f hV134 hF336 (by decide)
                have ec344 : ecn A333 (G332 31) = ec := (ecn_f (hF336.2 15 rfl) (hF336.1 31 rfl)).trans ec135
                have bfk2_334 : (0 : Int) ≤ fk2_334 ∧ fk2_334 ≤ 6 := e337 ▸ hW335.1 16
                refine .inl ⟨rfl, ?_⟩
                refine jx_ar (pc_q := 155) (st_q := [.int (i32 (0))]) rfl rfl rfl rfl ?_
                refine jx_rt (v := some (.int (i32 (0)))) rfl rfl rfl rfl rfl rfl ?_
                exact ⟨_, _, _, ln, at2_121, fk2_334, nd, sy, na, vi, A 3 (ln).toNat, ec, rfl, rfl, hW335, hF340, hP341, hS342, hV343, by omega, ((hF336.1 9 rfl).trans ((hF124.1 9 rfl).trans (e_ln))), ((hF336.1 10 rfl).trans (e125)), (e337), ((hF336.1 31 rfl).trans ((hF124.1 31 rfl).trans (e_nd))), ((hF336.1 19 rfl).trans ((hF124.1 19 rfl).trans (e_sy))), ((hF336.1 28 rfl).trans ((hF124.1 28 rfl).trans (e_na))), ((hF336.1 29 rfl).trans ((hF124.1 29 rfl).trans (e_vi))), (congrFun ((hF336.2 3 rfl).trans (hF124.2 3 rfl)) _), ec344, by omega, by omega, by omega, by omega, by omega, by omega, by omega, by omega, by omega, by omega, by first | exact Or.inl (⟨by omega, by omega⟩)⟩
      · refine jx_swe (z := 4) (tg := 253) h8 rfl rfl rfl rfl ?_
        refine jx_ld (pc_q := 254) (l_q := L7) (st_q := [.ref 66]) rfl (jl_aloadn gL7_0) ?_
        refine jx_ld (pc_q := 255) (l_q := L7) (st_q := [.int (i32 (lv)), .ref 66]) rfl (jl_iloadn gL7_1) ?_
        refine jx_vr (pc_q := 258) (as := [.int (i32 (lv))]) (st := []) rfl rfl rfl rfl ⟨rfl, rfl, Nat.le_of_ble_eq_true rfl⟩ rfl rfl (c_readAlt_w (dd := d) (hP := hP) (hd := by omega) (hW := hW) (lv := lv) (ln := ln) (e_ln := show G 9 = ln from (e_ln)) (li := li) (e_li := show G 3 = li from (e_li)) (at0 := at0) (e_at0 := show G 10 = at0 from (e_at0)) (fk := fk) (e_fk := show G 16 = fk from (e_fk)) (nd := nd) (e_nd := show G 31 = nd from (e_nd)) (sy := sy) (e_sy := show G 19 = sy from (e_sy)) (na := na) (e_na := show G 28 = na from (e_na)) (vi := vi) (e_vi := show G 29 = vi from (e_vi)) (le := le) (e_le := show A 4 (ln).toNat = le from (e_le)) (op0 := op0) (e_op0 := show G 15 = op0 from (e_op0)) (tk0 := tk0) (e_tk0 := show G 11 = tk0 from (e_tk0)) (ec := ec) (e_ec := show ecn A (G 31) = ec from e_ec) (i_LT := (LT_ext (rfl) (rfl) (rfl) i_LT)) (i_SV := (SV_fx i_SV e_vi (show G 29 = vi from (e_vi)) (by omega) hV0)) (i_PQ := (PQ_fx i_PQ hS0 (by omega) (hF0.2 29 rfl) (hF0.2 30 rfl))) (hvb := hvb) (h_lv := ⟨(Int.le_trans (by decide : (-2147483648 : Int) ≤ -2147483648) h_lv.1), (Int.le_trans h_lv.2 (by decide : (2147483647 : Int) ≤ 2147483647))⟩)  (p_0 := by omega) (p_1 := by omega) (p_2 := by omega) (p_3 := by omega) (p_4 := by omega) (p_5 := by omega) (p_6 := by omega) (p_7 := by omega) (p_8 := by omega) (p_9 := by omega) (p_10 := by omega)) (fun o V_q hq => ?_)
        obtain ⟨G345, A346, r347, ln2_348, at2_349, fk2_350, nd2_351, sy2_352, na2_353, vi2_354, lf2_355, ec2_356, rfl, rfl, hW357, hF358, hQ359, hQ360, hQ361, b362, e363, e364, e365, e366, e367, e368, e369, e370, e371, p372, p373, p374, p375, p376, p377, p378, p379, p380, p381, q382⟩ := hq
        have hF383 := Fr_tr hF0 hF358 (Fr_sub (by decide)) (Fr_sub (by decide))
        have hP384 := Pf_tr hP0 hQ359 (by omega)
        have hS385 := Fx_tr hS0 hQ360 (by omega)
        have hV386 := Fx_tr hV0 hQ361 (by omega)
        have bln2_348 : (0 : Int) ≤ ln2_348 ∧ ln2_348 ≤ 3000 := e363 ▸ hW357.1 9
        have bat2_349 : (0 : Int) ≤ at2_349 ∧ at2_349 ≤ 3002 := e364 ▸ hW357.1 10
        have bfk2_350 : (0 : Int) ≤ fk2_350 ∧ fk2_350 ≤ 6 := e365 ▸ hW357.1 16
        have bnd2_351 : (0 : Int) ≤ nd2_351 ∧ nd2_351 ≤ 6999 := e366 ▸ hW357.1 31
        have bsy2_352 : (0 : Int) ≤ sy2_352 ∧ sy2_352 ≤ 202 := e367 ▸ hW357.1 19
        have bna2_353 : (0 : Int) ≤ na2_353 ∧ na2_353 ≤ 200 := e368 ▸ hW357.1 28
        have bvi2_354 : (0 : Int) ≤ vi2_354 ∧ vi2_354 ≤ 202 := e369 ▸ hW357.1 29
        have blf2_355 : (0 : Int) ≤ lf2_355 ∧ lf2_355 ≤ 3000 := e370 ▸ hW357.2 3 _
        refine .inr ⟨_, rfl, ?_⟩
        rcases q382 with ⟨a387, a388⟩ | ⟨a389, a390, a391, a392, a393, a394, a395, a396, a397, a398, a399⟩
        · have _q : True := trivial
          refine jx_rt (v := some (.int (i32 (r347)))) rfl rfl rfl rfl rfl rfl ?_
          exact ⟨_, _, _, ln2_348, at2_349, fk2_350, nd2_351, sy2_352, na2_353, vi2_354, lf2_355, ec2_356, rfl, rfl, hW357, hF383, hP384, hS385, hV386, by omega, (e363), (e364), (e365), (e366), (e367), (e368), (e369), (e370), e371, by omega, by omega, by omega, by omega, by omega, by omega, by omega, by omega, by omega, by omega, by first | exact Or.inl (⟨by omega, by omega⟩)⟩
        · have _q : True := trivial
          refine jx_rt (v := some (.int (i32 (r347)))) rfl rfl rfl rfl rfl rfl ?_
          exact ⟨_, _, _, ln2_348, at2_349, fk2_350, nd2_351, sy2_352, na2_353, vi2_354, lf2_355, ec2_356, rfl, rfl, hW357, hF383, hP384, hS385, hV386, by omega, (e363), (e364), (e365), (e366), (e367), (e368), (e369), (e370), e371, by omega, by omega, by omega, by omega, by omega, by omega, by omega, by omega, by omega, by omega, by first | exact Or.inr ((⟨by omega, by omega, by omega, by omega, by omega, by omega, by omega, a396, a397, by omega, (NdO_w (NdO_m (r := r347) a399) (by omega) (by omega) (by omega))⟩))⟩
      · refine jx_swe (z := 5) (tg := 192) h8 rfl rfl rfl rfl ?_
        refine jx_ld (pc_q := 193) (l_q := L7) (st_q := [.ref 66]) rfl (jl_aloadn gL7_0) ?_
        refine jx_ld (pc_q := 194) (l_q := L7) (st_q := [.int (i32 (lv)), .ref 66]) rfl (jl_iloadn gL7_1) ?_
        refine jx_vr (pc_q := 197) (as := [.int (i32 (lv))]) (st := []) rfl rfl rfl rfl ⟨rfl, rfl, Nat.le_of_ble_eq_true rfl⟩ rfl rfl (c_readIf_w (dd := d) (hP := hP) (hd := by omega) (hW := hW) (lv := lv) (ln := ln) (e_ln := show G 9 = ln from (e_ln)) (li := li) (e_li := show G 3 = li from (e_li)) (at0 := at0) (e_at0 := show G 10 = at0 from (e_at0)) (fk := fk) (e_fk := show G 16 = fk from (e_fk)) (nd := nd) (e_nd := show G 31 = nd from (e_nd)) (sy := sy) (e_sy := show G 19 = sy from (e_sy)) (na := na) (e_na := show G 28 = na from (e_na)) (vi := vi) (e_vi := show G 29 = vi from (e_vi)) (le := le) (e_le := show A 4 (ln).toNat = le from (e_le)) (op0 := op0) (e_op0 := show G 15 = op0 from (e_op0)) (tk0 := tk0) (e_tk0 := show G 11 = tk0 from (e_tk0)) (ec := ec) (e_ec := show ecn A (G 31) = ec from e_ec) (i_LT := (LT_ext (rfl) (rfl) (rfl) i_LT)) (i_SV := (SV_fx i_SV e_vi (show G 29 = vi from (e_vi)) (by omega) hV0)) (i_PQ := (PQ_fx i_PQ hS0 (by omega) (hF0.2 29 rfl) (hF0.2 30 rfl))) (hvb := hvb) (h_lv := ⟨(Int.le_trans (by decide : (-2147483648 : Int) ≤ -2147483648) h_lv.1), (Int.le_trans h_lv.2 (by decide : (2147483647 : Int) ≤ 2147483647))⟩)  (p_0 := by omega) (p_1 := by omega) (p_2 := by omega) (p_3 := by omega) (p_4 := by omega) (p_5 := by omega) (p_6 := by omega) (p_7 := by omega) (p_8 := by omega) (p_9 := by omega) (p_10 := by omega)) (fun o V_q hq => ?_)
        obtain ⟨G400, A401, r402, ln2_403, at2_404, fk2_405, nd2_406, sy2_407, na2_408, vi2_409, lf2_410, ec2_411, rfl, rfl, hW412, hF413, hQ414, hQ415, hQ416, b417, e418, e419, e420, e421, e422, e423, e424, e425, e426, p427, p428, p429, p430, p431, p432, p433, p434, p435, p436, q437⟩ := hq
        have hF438 := Fr_tr hF0 hF413 (Fr_sub (by decide)) (Fr_sub (by decide))
        have hP439 := Pf_tr hP0 hQ414 (by omega)
        have hS440 := Fx_tr hS0 hQ415 (by omega)
        have hV441 := Fx_tr hV0 hQ416 (by omega)
        have bln2_403 : (0 : Int) ≤ ln2_403 ∧ ln2_403 ≤ 3000 := e418 ▸ hW412.1 9
        have bat2_404 : (0 : Int) ≤ at2_404 ∧ at2_404 ≤ 3002 := e419 ▸ hW412.1 10
        have bfk2_405 : (0 : Int) ≤ fk2_405 ∧ fk2_405 ≤ 6 := e420 ▸ hW412.1 16
        have bnd2_406 : (0 : Int) ≤ nd2_406 ∧ nd2_406 ≤ 6999 := e421 ▸ hW412.1 31
        have bsy2_407 : (0 : Int) ≤ sy2_407 ∧ sy2_407 ≤ 202 := e422 ▸ hW412.1 19
        have bna2_408 : (0 : Int) ≤ na2_408 ∧ na2_408 ≤ 200 := e423 ▸ hW412.1 28
        have bvi2_409 : (0 : Int) ≤ vi2_409 ∧ vi2_409 ≤ 202 := e424 ▸ hW412.1 29
        have blf2_410 : (0 : Int) ≤ lf2_410 ∧ lf2_410 ≤ 3000 := e425 ▸ hW412.2 3 _
        refine .inr ⟨_, rfl, ?_⟩
        rcases q437 with ⟨a442, a443⟩ | ⟨a444, a445, a446, a447, a448, a449, a450, a451, a452, a453, a454⟩
        · have _q : True := trivial
          refine jx_rt (v := some (.int (i32 (r402)))) rfl rfl rfl rfl rfl rfl ?_
          exact ⟨_, _, _, ln2_403, at2_404, fk2_405, nd2_406, sy2_407, na2_408, vi2_409, lf2_410, ec2_411, rfl, rfl, hW412, hF438, hP439, hS440, hV441, by omega, (e418), (e419), (e420), (e421), (e422), (e423), (e424), (e425), e426, by omega, by omega, by omega, by omega, by omega, by omega, by omega, by omega, by omega, by omega, by first | exact Or.inl (⟨by omega, by omega⟩)⟩
        · have _q : True := trivial
          refine jx_rt (v := some (.int (i32 (r402)))) rfl rfl rfl rfl rfl rfl ?_
          exact ⟨_, _, _, ln2_403, at2_404, fk2_405, nd2_406, sy2_407, na2_408, vi2_409, lf2_410, ec2_411, rfl, rfl, hW412, hF438, hP439, hS440, hV441, by omega, (e418), (e419), (e420), (e421), (e422), (e423), (e424), (e425), e426, by omega, by omega, by omega, by omega, by omega, by omega, by omega, by omega, by omega, by omega, by first | exact Or.inr ((⟨by omega, by omega, by omega, by omega, by omega, by omega, by omega, a451, a452, by omega, (NdO_w (NdO_m (r := r402) a454) (by omega) (by omega) (by omega))⟩))⟩
      · refine jx_swe (z := 6) (tg := 198) h8 rfl rfl rfl rfl ?_
        refine jx_ld (pc_q := 199) (l_q := L7) (st_q := [.ref 66]) rfl (jl_aloadn gL7_0) ?_
        refine jx_vr (pc_q := 202) (as := []) (st := []) rfl rfl rfl rfl ⟨rfl, rfl, Nat.le_of_ble_eq_true rfl⟩ rfl rfl (c_next (dd := d) (hd := by omega) (hW := hW)  (ln := ln) (e_ln := show G 9 = ln from (e_ln)) (le := le) (e_le := show A 4 (ln).toNat = le from (e_le)) (at0 := at0) (e_at0 := show G 10 = at0 from (e_at0))    (p_0 := by omega)) (fun o V_q hq => ?_)
        obtain ⟨G455, A456, at2_457, tk2_458, rfl, rfl, hW459, hF460, e461, e462, p463, p464, p465, -⟩ := hq
        have hF467 := Fr_tr hF0 hF460 (Fr_sub (by decide)) (Fr_sub (by decide))
        have hP468 := Pf_f hP0 hF460 (by decide)
        have hS469 := Fx_f hS0 hF460 (by decide)
        have hV470 := Fx_f hV0 hF460 (by decide)
        have ec471 : ecn A456 (G455 31) = ec := (ecn_f (hF460.2 15 rfl) (hF460.1 31 rfl)).trans e_ec
        have bat2_457 : (0 : Int) ≤ at2_457 ∧ at2_457 ≤ 3002 := e461 ▸ hW459.1 10
        have ztk2_458 := tz_b tk2_458
        have btk2_458 : (0 : Int) ≤ tk2_458 ∧ tk2_458 ≤ 5 := e462 ▸ hW459.1 11
        refine .inl ⟨rfl, ?_⟩
        have pz472 : at0 + tz tk2_458 ≤ at2_457 := by omega
        refine jx_ld (pc_q := 203) (l_q := L7) (st_q := [.ref 66]) rfl (jl_aloadn gL7_0) ?_
        refine jx_ar (pc_q := 205) (st_q := [.int (i32 (31)), .ref 66]) rfl rfl rfl rfl ?_
        refine jx_ar (pc_q := 206) (st_q := [.int (i32 (0)), .int (i32 (31)), .ref 66]) rfl rfl rfl rfl ?_
        refine jx_ar (pc_q := 207) (st_q := [.int (i32 (0)), .int (i32 (0)), .int (i32 (31)), .ref 66]) rfl rfl rfl rfl ?_
        refine jx_ar (pc_q := 208) (st_q := [.int (i32 (0)), .int (i32 (0)), .int (i32 (0)), .int (i32 (31)), .ref 66]) rfl rfl rfl rfl ?_
        refine jx_ar (pc_q := 209) (st_q := [.int (i32 (0)), .int (i32 (0)), .int (i32 (0)), .int (i32 (0)), .int (i32 (31)), .ref 66]) rfl rfl rfl rfl ?_
        refine jx_vr (pc_q := 212) (as := [.int (i32 (31)), .int (i32 (0)), .int (i32 (0)), .int (i32 (0)), .int (i32 (0))]) (st := []) rfl rfl rfl rfl ⟨rfl, rfl, Nat.le_of_ble_eq_true rfl⟩ rfl rfl (c_node_o (dd := d) (hd := by omega) (hW := hW459) (kind := 31) (a := 0) (b := 0) (c := 0) (e := 0) (nd := nd) (e_nd := show G455 31 = nd from ((hF460.1 31 rfl).trans (e_nd))) (ec := ec) (e_ec := show ecn A456 (G455 31) = ec from ec471) (sy := sy) (e_sy := show G455 19 = sy from ((hF460.1 19 rfl).trans (e_sy)))  (h_kind := ⟨(by decide), (by decide)⟩) (h_a := ⟨(by decide), (by decide)⟩) (h_b := ⟨(by decide), (by decide)⟩) (h_c := ⟨(by decide), (by decide)⟩) (h_e := ⟨(by decide), (by decide)⟩)  (p_0 := by omega) (p_1 := by omega) (p_2 := by omega)) (fun o V_q hq => ?_)
        obtain ⟨G473, A474, nd2_475, ec2_476, rfl, rfl, hW477, hF478, hQ479, e480, e481, p482, p483, p484, p485, -⟩ := hq
        have hF487 := Fr_tr hF467 hF478 (Fr_sub (by decide)) (Fr_sub (by decide))
        have hP488 := Pf_tr hP468 hQ479 (by omega)
        have hS489 := Fx_f hS469 hF478 (by decide)
        have hV490 := Fx_f hV470 hF478 (by decide)
        have bnd2_475 : (0 : Int) ≤ nd2_475 ∧ nd2_475 ≤ 6999 := e480 ▸ hW477.1 31
        refine .inr ⟨_, rfl, ?_⟩
        refine jx_ld (pc_q := 213) (l_q := jSto1 L7 2 (.int (i32 (nd)))) (st_q := []) rfl rfl ?_
        obtain ⟨L491, eL491⟩ : ∃ q, q = jSto1 L7 2 (.int (i32 (nd))) := ⟨_, rfl⟩
        rw [← eL491]
        have gL491_0 : jGet L491 0 = some (.ref 66) := eL491 ▸ jg_ne (by decide) gL7_0 rfl
        have gL491_1 : jGet L491 1 = some (.int (i32 (lv))) := eL491 ▸ jg_ne (by decide) gL7_1 rfl
        have gL491_3 : jGet L491 3 = some (.int (i32 (G 13))) := eL491 ▸ jg_ne (by decide) gL7_3 rfl
        have gL491_2 : jGet L491 2 = some (.int (i32 (nd))) := eL491 ▸ jg_eq
        refine jx_ld (pc_q := 214) (l_q := L491) (st_q := [.ref 66]) rfl (jl_aloadn gL491_0) ?_
        refine jr_get (pc_q := 217) (i := 34) (v := .ref 84) rfl rfl (by decide) rfl rfl ?_
        refine jx_ld (pc_q := 218) (l_q := L491) (st_q := [.int (i32 (nd)), .ref 84]) rfl (jl_iloadn gL491_2) ?_
        refine jx_ld (pc_q := 219) (l_q := L491) (st_q := [.ref 66, .int (i32 (nd)), .ref 84]) rfl (jl_aloadn gL491_0) ?_
        refine jx_vr (pc_q := 222) (as := []) (st := [.int (i32 (nd)), .ref 84]) rfl rfl rfl rfl ⟨rfl, rfl, Nat.le_of_ble_eq_true rfl⟩ rfl rfl (REw_all X 9 (dd := d) (hd := by omega) (hW := hW477)  (ln := ln) (e_ln := show G473 9 = ln from ((hF478.1 9 rfl).trans ((hF460.1 9 rfl).trans (e_ln)))) (le := le) (e_le := show A474 4 (ln).toNat = le from (congrFun ((hF478.2 4 rfl).trans (hF460.2 4 rfl)) _).trans (e_le)) (at0 := at2_457) (e_at0 := show G473 10 = at2_457 from ((hF478.1 10 rfl).trans (e461))) (fk := fk) (e_fk := show G473 16 = fk from ((hF478.1 16 rfl).trans ((hF460.1 16 rfl).trans (e_fk)))) (op0 := op0) (e_op0 := show G473 15 = op0 from ((hF478.1 15 rfl).trans ((hF460.1 15 rfl).trans (e_op0)))) (nd := nd2_475) (e_nd := show G473 31 = nd2_475 from (e480)) (tk0 := tk2_458) (e_tk0 := show G473 11 = tk2_458 from ((hF478.1 11 rfl).trans (e462))) (ec := ec2_476) (e_ec := show ecn A474 (G473 31) = ec2_476 from e481) (sy := sy) (e_sy := show G473 19 = sy from ((hF478.1 19 rfl).trans ((hF460.1 19 rfl).trans (e_sy)))) (i_SV := (SV_fx i_SV e_vi (show G473 29 = vi from ((hF478.1 29 rfl).trans ((hF460.1 29 rfl).trans (e_vi)))) (by omega) hV490))   (p_0 := by omega) (p_1 := by omega) (p_2 := by omega) (p_3 := by omega) (p_4 := by omega) (p_5 := by omega)) (fun o V_q hq => ?_)
        obtain ⟨G492, A493, r494, at2_495, fk2_496, op2_497, nd2_498, tk2_499, ec2_500, rfl, rfl, hW501, hF502, hQ503, b504, e505, e506, e507, e508, e509, e510, p511, p512, p513, p514, p515, p516, q517⟩ := hq
        have hF518 := Fr_tr hF487 hF502 (Fr_sub (by decide)) (Fr_sub (by decide))
        have hP519 := Pf_tr hP488 hQ503 (by omega)
        have hS520 := Fx_f hS489 hF502 (by decide)
        have hV521 := Fx_f hV490 hF502 (by decide)
        have sf522 : ND A493 (nd) (31) (0) (0) (0) (0) (0) (0) := ND_ag (by omega) (Ag_pf hQ503 (by omega)) p484
        have sf523 : NdM A493 (nd) (nd + 1) (sy) := NdM_pf hQ503 (by omega) (by omega) p485
        have bat2_495 : (0 : Int) ≤ at2_495 ∧ at2_495 ≤ 3002 := e505 ▸ hW501.1 10
        have bfk2_496 : (0 : Int) ≤ fk2_496 ∧ fk2_496 ≤ 6 := e506 ▸ hW501.1 16
        have bop2_497 : (-2147483648 : Int) ≤ op2_497 ∧ op2_497 ≤ 2147483647 := e507 ▸ hW501.1 15
        have bnd2_498 : (0 : Int) ≤ nd2_498 ∧ nd2_498 ≤ 6999 := e508 ▸ hW501.1 31
        have ztk2_499 := tz_b tk2_499
        have btk2_499 : (0 : Int) ≤ tk2_499 ∧ tk2_499 ≤ 5 := e509 ▸ hW501.1 11
        refine .inr ⟨_, rfl, ?_⟩
        rcases q517 with ⟨a524, a525, a526, a527, a528, a529⟩ | ⟨a530, a531, a532⟩ | ⟨a533, a534, a535, a536, a537, a538, a539, a540⟩
        · have _q : True := trivial
          exfalso
          omega
        · have _q : True := trivial
          refine jr_st (pc_q := 223) (i := 17) (m := 7000) (z := nd) (y := r494) rfl (by decide) rfl (by decide) (by omega) (by omega) rfl ?_
          have hW542 : Wk G492 (uA A493 17 (nd).toNat (r494)) := Wk_a hW501 (show (-2147483648 : Int) ≤ r494 by omega) (show r494 ≤ (2147483647 : Int) by omega)
          have hF543 := Fr_a (z := r494) (k := 17) (n := (nd).toNat) hF518 (by decide)
          obtain ⟨A541, eA541⟩ : ∃ q, q = uA A493 17 (nd).toNat (r494) := ⟨_, rfl⟩
          rw [← eA541]
          rw [← eA541] at hW542 hF543
          have q544 : A541 17 (nd).toNat = r494 := by rw [eA541]; exact uA_eq
          have hP545 : Pf nd A A541 := eA541 ▸ Pf_a hP519 (z := nd) (by omega) (by omega)
          have hS546 : Fx sr (sy) A A541 := eA541 ▸ Fx_n hS520 rfl
          have hV547 : Fx [14] (vi) A A541 := eA541 ▸ Fx_n hV521 rfl
          have sf548 : ND A541 (nd) (31) (r494) (0) (0) (0) (0) (0) := ND_a eA541 sf522
          have sf549 : NdM A541 (nd) (nd + 1) (sy) := NdM_st eA541 (by decide) sf523
          have ec550 : ecn A541 (G492 31) = ec2_500 := (ecn_e ((congrFun eA541 15).trans (uA_ne (by decide)))).trans e510
          refine jx_ld (pc_q := 224) (l_q := L491) (st_q := [.ref 66]) rfl (jl_aloadn gL491_0) ?_
          refine jx_vr (pc_q := 227) (as := []) (st := []) rfl rfl rfl rfl ⟨rfl, rfl, Nat.le_of_ble_eq_true rfl⟩ rfl rfl (c_endLine (dd := d) (hd := by omega) (hW := hW542)  (ln := ln) (e_ln := show G492 9 = ln from ((hF502.1 9 rfl).trans ((hF478.1 9 rfl).trans ((hF460.1 9 rfl).trans (e_ln))))) (li := li) (e_li := show G492 3 = li from ((hF502.1 3 rfl).trans ((hF478.1 3 rfl).trans ((hF460.1 3 rfl).trans (e_li))))) (fk := fk2_496) (e_fk := show G492 16 = fk2_496 from (e506)) (tk0 := tk2_499) (e_tk0 := show G492 11 = tk2_499 from (e509))    (p_0 := by omega)) (fun o V_q hq => ?_)
          obtain ⟨G551, A552, ln2_553, fk2_554, rfl, rfl, hW555, hF556, e557, e558, q559⟩ := hq
          have hF560 := Fr_tr hF543 hF556 (Fr_sub (by decide)) (Fr_sub (by decide))
          have hP561 := Pf_f hP545 hF556 (by decide)
          have hS562 := Fx_f hS546 hF556 (by decide)
          have hV563 := Fx_f hV547 hF556 (by decide)
          have sf564 : ND A552 (nd) (31) (r494) (0) (0) (0) (0) (0) := ND_ag (by omega) (Ag_fr hF556 (by decide)) sf548
          have sf565 : NdM A552 (nd) (nd + 1) (sy) := NdM_f hF556 (by decide) sf549
          have ec566 : ecn A552 (G551 31) = ec2_500 := (ecn_f (hF556.2 15 rfl) (hF556.1 31 rfl)).trans ec550
          have bln2_553 : (0 : Int) ≤ ln2_553 ∧ ln2_553 ≤ 3000 := e557 ▸ hW555.1 9
          have bfk2_554 : (0 : Int) ≤ fk2_554 ∧ fk2_554 ≤ 6 := e558 ▸ hW555.1 16
          refine .inl ⟨rfl, ?_⟩
          rcases q559 with ⟨a567, a568, a569, a570, a571⟩ | ⟨a572, a573⟩
          · have _q : True := trivial
            exfalso
            omega
          · have _q : True := trivial
            refine jx_ld (pc_q := 228) (l_q := L491) (st_q := [.ref 66]) rfl (jl_aloadn gL491_0) ?_
            refine jr_get (pc_q := 231) (i := 38) (v := .ref 88) rfl rfl (by decide) rfl rfl ?_
            refine jx_ld (pc_q := 232) (l_q := L491) (st_q := [.int (i32 (nd)), .ref 88]) rfl (jl_iloadn gL491_2) ?_
            refine jx_ld (pc_q := 233) (l_q := L491) (st_q := [.ref 66, .int (i32 (nd)), .ref 88]) rfl (jl_aloadn gL491_0) ?_
            refine jx_vr (pc_q := 236) (as := []) (st := [.int (i32 (nd)), .ref 88]) rfl rfl rfl rfl ⟨rfl, rfl, Nat.le_of_ble_eq_true rfl⟩ rfl rfl (c_bad (dd := d) (hd := by omega) (hW := hW555)  (fk := fk2_554) (e_fk := show G551 16 = fk2_554 from (e558))    ) (fun o V_q hq => ?_)
            obtain ⟨r574, rfl, rfl, b575, q576⟩ := hq
            refine .inr ⟨_, rfl, ?_⟩
            rcases q576 with ⟨rfl, a577⟩ | ⟨rfl, a578⟩
            · have _q : True := trivial
              refine jx_if_eq (pc_q := 239) (tg := 243) rfl rfl rfl (by decide) (by decide) (fun h579 => ?_) (fun h579 => ?_)
              · have _q := h579
                exact absurd h579 (by omega)
              · have _q := h579
                refine jx_ar (pc_q := 240) (st_q := [.int (i32 (0)), .int (i32 (nd)), .ref 88]) rfl rfl rfl rfl ?_
                refine jx_go (tg := 250) rfl rfl ?_
                refine jr_st (pc_q := 251) (i := 21) (m := 7000) (z := nd) (y := 0) rfl (by decide) rfl (by decide) (by omega) (by omega) rfl ?_
                have hW581 : Wk G551 (uA A552 21 (nd).toNat (0)) := Wk_a hW555 (show (-2147483648 : Int) ≤ 0 by omega) (show 0 ≤ (2147483647 : Int) by omega)
                have hF582 := Fr_a (z := 0) (k := 21) (n := (nd).toNat) hF560 (by decide)
                obtain ⟨A580, eA580⟩ : ∃ q, q = uA A552 21 (nd).toNat (0) := ⟨_, rfl⟩
                rw [← eA580]
                rw [← eA580] at hW581 hF582
                have q583 : A580 21 (nd).toNat = 0 := by rw [eA580]; exact uA_eq
                have hP584 : Pf nd A A580 := eA580 ▸ Pf_a hP561 (z := nd) (by omega) (by omega)
                have hS585 : Fx sr (sy) A A580 := eA580 ▸ Fx_n hS562 rfl
                have hV586 : Fx [14] (vi) A A580 := eA580 ▸ Fx_n hV563 rfl
                have sf587 : ND A580 (nd) (31) (r494) (0) (0) (0) (0) (0) := ND_f eA580 sf564
                have sf588 : NdM A580 (nd) (nd + 1) (sy) := NdM_st eA580 (by decide) sf565
                have ec589 : ecn A580 (G551 31) = ec2_500 := (ecn_e ((congrFun eA580 15).trans (uA_ne (by decide)))).trans ec566
                refine jx_ld (pc_q := 252) (l_q := L491) (st_q := [.int (i32 (nd))]) rfl (jl_iloadn gL491_2) ?_
                refine jx_rt (v := some (.int (i32 (nd)))) rfl rfl rfl rfl rfl rfl ?_
                exact ⟨_, _, _, ln2_553, at2_495, fk2_554, nd2_498, sy, na, vi, A 3 (ln2_553).toNat, ec2_500, rfl, rfl, hW581, hF582, hP584, hS585, hV586, by omega, (e557), ((hF556.1 10 rfl).trans (e505)), (e558), ((hF556.1 31 rfl).trans (e508)), ((hF556.1 19 rfl).trans ((hF502.1 19 rfl).trans ((hF478.1 19 rfl).trans ((hF460.1 19 rfl).trans (e_sy))))), ((hF556.1 28 rfl).trans ((hF502.1 28 rfl).trans ((hF478.1 28 rfl).trans ((hF460.1 28 rfl).trans (e_na))))), ((hF556.1 29 rfl).trans ((hF502.1 29 rfl).trans ((hF478.1 29 rfl).trans ((hF460.1 29 rfl).trans (e_vi))))), (congrFun (((congrFun eA580 3).trans (uA_ne (by decide))).trans ((hF556.2 3 rfl).trans (((congrFun eA541 3).trans (uA_ne (by decide))).trans ((hF502.2 3 rfl).trans ((hF478.2 3 rfl).trans (hF460.2 3 rfl)))))) _), ec589, by omega, by omega, by omega, by omega, by omega, by omega, by omega, by omega, by omega, by omega, by first | exact Or.inl (⟨by omega, by omega⟩)⟩
            · have _q : True := trivial
              exfalso
              omega
        · have _q : True := trivial
          refine jr_st (pc_q := 223) (i := 17) (m := 7000) (z := nd) (y := r494) rfl (by decide) rfl (by decide) (by omega) (by omega) rfl ?_
          have hW591 : Wk G492 (uA A493 17 (nd).toNat (r494)) := Wk_a hW501 (show (-2147483648 : Int) ≤ r494 by omega) (show r494 ≤ (2147483647 : Int) by omega)
          have hF592 := Fr_a (z := r494) (k := 17) (n := (nd).toNat) hF518 (by decide)
          obtain ⟨A590, eA590⟩ : ∃ q, q = uA A493 17 (nd).toNat (r494) := ⟨_, rfl⟩
          rw [← eA590]
          rw [← eA590] at hW591 hF592
          have q593 : A590 17 (nd).toNat = r494 := by rw [eA590]; exact uA_eq
          have hP594 : Pf nd A A590 := eA590 ▸ Pf_a hP519 (z := nd) (by omega) (by omega)
          have hS595 : Fx sr (sy) A A590 := eA590 ▸ Fx_n hS520 rfl
          have hV596 : Fx [14] (vi) A A590 := eA590 ▸ Fx_n hV521 rfl
          have sf597 : ND A590 (nd) (31) (r494) (0) (0) (0) (0) (0) := ND_a eA590 sf522
          have sf598 : NdM A590 (nd) (nd + 1) (sy) := NdM_st eA590 (by decide) sf523
          have sf599 : wE A590 Vs sb (2 * 9 + 2) (r494) (nd2_475) (nd2_498) := wE_ag (by omega) (Sg_ne eA590 rfl) (Ag_st eA590 (by omega) (by omega)) a536
          have sf600 : NdM A590 (nd2_475) (nd2_498) (sy) := NdM_st eA590 (by decide) a538
          have ec601 : ecn A590 (G492 31) = ec2_500 := (ecn_e ((congrFun eA590 15).trans (uA_ne (by decide)))).trans e510
          refine jx_ld (pc_q := 224) (l_q := L491) (st_q := [.ref 66]) rfl (jl_aloadn gL491_0) ?_
          refine jx_vr (pc_q := 227) (as := []) (st := []) rfl rfl rfl rfl ⟨rfl, rfl, Nat.le_of_ble_eq_true rfl⟩ rfl rfl (c_endLine (dd := d) (hd := by omega) (hW := hW591)  (ln := ln) (e_ln := show G492 9 = ln from ((hF502.1 9 rfl).trans ((hF478.1 9 rfl).trans ((hF460.1 9 rfl).trans (e_ln))))) (li := li) (e_li := show G492 3 = li from ((hF502.1 3 rfl).trans ((hF478.1 3 rfl).trans ((hF460.1 3 rfl).trans (e_li))))) (fk := fk2_496) (e_fk := show G492 16 = fk2_496 from (e506)) (tk0 := tk2_499) (e_tk0 := show G492 11 = tk2_499 from (e509))    (p_0 := by omega)) (fun o V_q hq => ?_)
          obtain ⟨G602, A603, ln2_604, fk2_605, rfl, rfl, hW606, hF607, e608, e609, q610⟩ := hq
          have hF611 := Fr_tr hF592 hF607 (Fr_sub (by decide)) (Fr_sub (by decide))
          have hP612 := Pf_f hP594 hF607 (by decide)
          have hS613 := Fx_f hS595 hF607 (by decide)
          have hV614 := Fx_f hV596 hF607 (by decide)
          have sf615 : ND A603 (nd) (31) (r494) (0) (0) (0) (0) (0) := ND_ag (by omega) (Ag_fr hF607 (by decide)) sf597
          have sf616 : NdM A603 (nd) (nd + 1) (sy) := NdM_f hF607 (by decide) sf598
          have sf617 : wE A603 Vs sb (2 * 9 + 2) (r494) (nd2_475) (nd2_498) := wE_ag (by omega) (Sg_fr hF607 (by decide)) (Ag_fr hF607 (by decide)) sf599
          have sf618 : NdM A603 (nd2_475) (nd2_498) (sy) := NdM_f hF607 (by decide) sf600
          have ec619 : ecn A603 (G602 31) = ec2_500 := (ecn_f (hF607.2 15 rfl) (hF607.1 31 rfl)).trans ec601
          have bln2_604 : (0 : Int) ≤ ln2_604 ∧ ln2_604 ≤ 3000 := e608 ▸ hW606.1 9
          have bfk2_605 : (0 : Int) ≤ fk2_605 ∧ fk2_605 ≤ 6 := e609 ▸ hW606.1 16
          refine .inl ⟨rfl, ?_⟩
          rcases q610 with ⟨a620, a621, a622, a623, a624⟩ | ⟨a625, a626⟩
          · have _q : True := trivial
            have b627 : (0 : Int) ≤ A 3 (ln2_604).toNat ∧ A 3 (ln2_604).toNat ≤ 3000 := hW.2 3 _
            have lt628 : ln2_604 < li → le < A 3 (ln2_604).toNat := fun hh => LT_nx (LT_ext (((hF607.1 3 rfl).trans ((hF502.1 3 rfl).trans ((hF478.1 3 rfl).trans (hF460.1 3 rfl))))) (((hF607.2 3 rfl).trans (((congrFun eA590 3).trans (uA_ne (by decide))).trans ((hF502.2 3 rfl).trans ((hF478.2 3 rfl).trans (hF460.2 3 rfl)))))) (((hF607.2 4 rfl).trans (((congrFun eA590 4).trans (uA_ne (by decide))).trans ((hF502.2 4 rfl).trans ((hF478.2 4 rfl).trans (hF460.2 4 rfl)))))) i_LT) (show G602 3 = li from ((hF607.1 3 rfl).trans ((hF502.1 3 rfl).trans ((hF478.1 3 rfl).trans ((hF460.1 3 rfl).trans (e_li)))))) (show A603 4 (ln).toNat = le from (congrFun ((hF607.2 4 rfl).trans (((congrFun eA590 4).trans (uA_ne (by decide))).trans ((hF502.2 4 rfl).trans ((hF478.2 4 rfl).trans (hF460.2 4 rfl))))) _).trans (e_le)) (show A603 3 (ln2_604).toNat = A 3 (ln2_604).toNat from (congrFun ((hF607.2 3 rfl).trans (((congrFun eA590 3).trans (uA_ne (by decide))).trans ((hF502.2 3 rfl).trans ((hF478.2 3 rfl).trans (hF460.2 3 rfl))))) _)) (show ln2_604 = ln + 1 by omega) (by omega) hh
            refine jx_ld (pc_q := 228) (l_q := L491) (st_q := [.ref 66]) rfl (jl_aloadn gL491_0) ?_
            refine jr_get (pc_q := 231) (i := 38) (v := .ref 88) rfl rfl (by decide) rfl rfl ?_
            refine jx_ld (pc_q := 232) (l_q := L491) (st_q := [.int (i32 (nd)), .ref 88]) rfl (jl_iloadn gL491_2) ?_
            refine jx_ld (pc_q := 233) (l_q := L491) (st_q := [.ref 66, .int (i32 (nd)), .ref 88]) rfl (jl_aloadn gL491_0) ?_
            refine jx_vr (pc_q := 236) (as := []) (st := [.int (i32 (nd)), .ref 88]) rfl rfl rfl rfl ⟨rfl, rfl, Nat.le_of_ble_eq_true rfl⟩ rfl rfl (c_bad (dd := d) (hd := by omega) (hW := hW606)  (fk := fk2_605) (e_fk := show G602 16 = fk2_605 from (e609))    ) (fun o V_q hq => ?_)
            obtain ⟨r629, rfl, rfl, b630, q631⟩ := hq
            refine .inr ⟨_, rfl, ?_⟩
            rcases q631 with ⟨rfl, a632⟩ | ⟨rfl, a633⟩
            · have _q : True := trivial
              exfalso
              omega
            · have _q : True := trivial
              refine jx_if_eq (pc_q := 239) (tg := 243) rfl rfl rfl (by decide) (by decide) (fun h634 => ?_) (fun h634 => ?_)
              · have _q := h634
                refine jx_ld (pc_q := 244) (l_q := L491) (st_q := [.ref 66, .int (i32 (nd)), .ref 88]) rfl (jl_aloadn gL491_0) ?_
                refine jx_ld (pc_q := 245) (l_q := L491) (st_q := [.int (i32 (lv)), .ref 66, .int (i32 (nd)), .ref 88]) rfl (jl_iloadn gL491_1) ?_
                refine jx_ar (pc_q := 246) (st_q := [.int (i32 (1)), .int (i32 (lv)), .ref 66, .int (i32 (nd)), .ref 88]) rfl rfl rfl rfl ?_
                refine jx_add (pc_q := 247) rfl rfl ?_
                refine jx_vr (pc_q := 250) (as := [.int (i32 ((lv + 1)))]) (st := [.int (i32 (nd)), .ref 88]) rfl rfl rfl rfl ⟨rfl, rfl, Nat.le_of_ble_eq_true rfl⟩ rfl rfl (hP (dd := d) (hd := by omega) (hW := hW606) (lv := (lv + 1)) (at0 := at2_495) (ln := ln2_604) (e_ln := show G602 9 = ln2_604 from (e608)) (li := li) (e_li := show G602 3 = li from ((hF607.1 3 rfl).trans ((hF502.1 3 rfl).trans ((hF478.1 3 rfl).trans ((hF460.1 3 rfl).trans (e_li)))))) (fk := fk2_605) (e_fk := show G602 16 = fk2_605 from (e609)) (nd := nd2_498) (e_nd := show G602 31 = nd2_498 from ((hF607.1 31 rfl).trans (e508))) (sy := sy) (e_sy := show G602 19 = sy from ((hF607.1 19 rfl).trans ((hF502.1 19 rfl).trans ((hF478.1 19 rfl).trans ((hF460.1 19 rfl).trans (e_sy)))))) (na := na) (e_na := show G602 28 = na from ((hF607.1 28 rfl).trans ((hF502.1 28 rfl).trans ((hF478.1 28 rfl).trans ((hF460.1 28 rfl).trans (e_na)))))) (vi := vi) (e_vi := show G602 29 = vi from ((hF607.1 29 rfl).trans ((hF502.1 29 rfl).trans ((hF478.1 29 rfl).trans ((hF460.1 29 rfl).trans (e_vi)))))) (lf := A 3 (ln2_604).toNat) (e_lf := show A603 3 (ln2_604).toNat = A 3 (ln2_604).toNat from (congrFun ((hF607.2 3 rfl).trans (((congrFun eA590 3).trans (uA_ne (by decide))).trans ((hF502.2 3 rfl).trans ((hF478.2 3 rfl).trans (hF460.2 3 rfl))))) _)) (ac := at2_495) (e_ac := show G602 10 = at2_495 from ((hF607.1 10 rfl).trans (e505))) (ec := ec2_500) (e_ec := show ecn A603 (G602 31) = ec2_500 from ec619) (i_LT := (LT_ext (((hF607.1 3 rfl).trans ((hF502.1 3 rfl).trans ((hF478.1 3 rfl).trans (hF460.1 3 rfl))))) (((hF607.2 3 rfl).trans (((congrFun eA590 3).trans (uA_ne (by decide))).trans ((hF502.2 3 rfl).trans ((hF478.2 3 rfl).trans (hF460.2 3 rfl)))))) (((hF607.2 4 rfl).trans (((congrFun eA590 4).trans (uA_ne (by decide))).trans ((hF502.2 4 rfl).trans ((hF478.2 4 rfl).trans (hF460.2 4 rfl)))))) i_LT)) (i_SV := (SV_fx i_SV e_vi (show G602 29 = vi from ((hF607.1 29 rfl).trans ((hF502.1 29 rfl).trans ((hF478.1 29 rfl).trans ((hF460.1 29 rfl).trans (e_vi)))))) (by omega) hV614)) (i_PQ := (PQ_fx i_PQ hS613 (by omega) (hF611.2 29 rfl) (hF611.2 30 rfl))) (hvb := hvb) (h_lv := ⟨(by omega), (by omega)⟩)  (p_0 := by omega) (p_1 := by omega) (p_2 := by omega) (p_3 := by omega) (p_4 := by omega) (p_5 := by omega) (p_6 := by omega) (p_7 := by omega) (p_8 := by omega) (p_9 := by omega) (p_10 := by omega)) (fun o V_q hq => ?_)
                obtain ⟨G635, A636, r637, ln2_638, at2_639, fk2_640, nd2_641, sy2_642, na2_643, vi2_644, lf2_645, ec2_646, rfl, rfl, hW647, hF648, hQ649, hQ650, hQ651, b652, e653, e654, e655, e656, e657, e658, e659, e660, e661, p662, p663, p664, p665, p666, p667, p668, p669, p670, q671⟩ := hq
                have hF672 := Fr_tr hF611 hF648 (Fr_sub (by decide)) (Fr_sub (by decide))
                have k673 : A636 17 (nd).toNat = r494 := (hQ649 17 _ rfl (by omega)).trans (show A603 17 (nd).toNat = r494 from (congrFun (hF607.2 17 rfl) _).trans (q593))
                have hP674 := Pf_tr hP612 hQ649 (by omega)
                have hS675 := Fx_tr hS613 hQ650 (by omega)
                have hV676 := Fx_tr hV614 hQ651 (by omega)
                have sf677 : ND A636 (nd) (31) (r494) (0) (0) (0) (0) (0) := ND_ag (by omega) (Ag_pf hQ649 (by omega)) sf615
                have sf678 : NdM A636 (nd) (nd + 1) (sy) := NdM_pf hQ649 (by omega) (by omega) sf616
                have sf679 : wE A636 Vs sb (2 * 9 + 2) (r494) (nd2_475) (nd2_498) := wE_ag (by omega) (Fx_su hQ650 (by omega)) (Ag_pf hQ649 (by omega)) sf617
                have sf680 : NdM A636 (nd2_475) (nd2_498) (sy) := NdM_pf hQ649 (by omega) (by omega) sf618
                have bln2_638 : (0 : Int) ≤ ln2_638 ∧ ln2_638 ≤ 3000 := e653 ▸ hW647.1 9
                have bat2_639 : (0 : Int) ≤ at2_639 ∧ at2_639 ≤ 3002 := e654 ▸ hW647.1 10
                have bfk2_640 : (0 : Int) ≤ fk2_640 ∧ fk2_640 ≤ 6 := e655 ▸ hW647.1 16
                have bnd2_641 : (0 : Int) ≤ nd2_641 ∧ nd2_641 ≤ 6999 := e656 ▸ hW647.1 31
                have bsy2_642 : (0 : Int) ≤ sy2_642 ∧ sy2_642 ≤ 202 := e657 ▸ hW647.1 19
                have bna2_643 : (0 : Int) ≤ na2_643 ∧ na2_643 ≤ 200 := e658 ▸ hW647.1 28
                have bvi2_644 : (0 : Int) ≤ vi2_644 ∧ vi2_644 ≤ 202 := e659 ▸ hW647.1 29
                have blf2_645 : (0 : Int) ≤ lf2_645 ∧ lf2_645 ≤ 3000 := e660 ▸ hW647.2 3 _
                refine .inr ⟨_, rfl, ?_⟩
                rcases q671 with ⟨a681, a682⟩ | ⟨a683, a684, a685, a686, a687, a688, a689, a690, a691, a692⟩
                · have _q : True := trivial
                  refine jr_st (pc_q := 251) (i := 21) (m := 7000) (z := nd) (y := r637) rfl (by decide) rfl (by decide) (by omega) (by omega) rfl ?_
                  have hW694 : Wk G635 (uA A636 21 (nd).toNat (r637)) := Wk_a hW647 (show (-2147483648 : Int) ≤ r637 by omega) (show r637 ≤ (2147483647 : Int) by omega)
                  have hF695 := Fr_a (z := r637) (k := 21) (n := (nd).toNat) hF672 (by decide)
                  obtain ⟨A693, eA693⟩ : ∃ q, q = uA A636 21 (nd).toNat (r637) := ⟨_, rfl⟩
                  rw [← eA693]
                  rw [← eA693] at hW694 hF695
                  have q696 : A693 21 (nd).toNat = r637 := by rw [eA693]; exact uA_eq
                  have hP697 : Pf nd A A693 := eA693 ▸ Pf_a hP674 (z := nd) (by omega) (by omega)
                  have hS698 : Fx sr (sy) A A693 := eA693 ▸ Fx_n hS675 rfl
                  have hV699 : Fx [14] (vi) A A693 := eA693 ▸ Fx_n hV676 rfl
                  have sf700 : ND A693 (nd) (31) (r494) (0) (0) (0) (r637) (0) := ND_f eA693 sf677
                  have sf701 : NdM A693 (nd) (nd + 1) (sy) := NdM_st eA693 (by decide) sf678
                  have sf702 : wE A693 Vs sb (2 * 9 + 2) (r494) (nd2_475) (nd2_498) := wE_ag (by omega) (Sg_ne eA693 rfl) (Ag_st eA693 (by omega) (by omega)) sf679
                  have sf703 : NdM A693 (nd2_475) (nd2_498) (sy) := NdM_st eA693 (by decide) sf680
                  have ec704 : ecn A693 (G635 31) = ec2_646 := (ecn_e ((congrFun eA693 15).trans (uA_ne (by decide)))).trans e661
                  refine jx_ld (pc_q := 252) (l_q := L491) (st_q := [.int (i32 (nd))]) rfl (jl_iloadn gL491_2) ?_
                  refine jx_rt (v := some (.int (i32 (nd)))) rfl rfl rfl rfl rfl rfl ?_
                  exact ⟨_, _, _, ln2_638, at2_639, fk2_640, nd2_641, sy2_642, na2_643, vi2_644, lf2_645, ec2_646, rfl, rfl, hW694, hF695, hP697, hS698, hV699, by omega, (e653), (e654), (e655), (e656), (e657), (e658), (e659), (congrFun ((congrFun eA693 3).trans (uA_ne (by decide))) _).trans (e660), ec704, by omega, by omega, by omega, by omega, by omega, by omega, by omega, by omega, by omega, by omega, by first | exact Or.inl (⟨by omega, by omega⟩)⟩
                · have _q : True := trivial
                  refine jr_st (pc_q := 251) (i := 21) (m := 7000) (z := nd) (y := r637) rfl (by decide) rfl (by decide) (by omega) (by omega) rfl ?_
                  have hW706 : Wk G635 (uA A636 21 (nd).toNat (r637)) := Wk_a hW647 (show (-2147483648 : Int) ≤ r637 by omega) (show r637 ≤ (2147483647 : Int) by omega)
                  have hF707 := Fr_a (z := r637) (k := 21) (n := (nd).toNat) hF672 (by decide)
                  obtain ⟨A705, eA705⟩ : ∃ q, q = uA A636 21 (nd).toNat (r637) := ⟨_, rfl⟩
                  rw [← eA705]
                  rw [← eA705] at hW706 hF707
                  have q708 : A705 21 (nd).toNat = r637 := by rw [eA705]; exact uA_eq
                  have hP709 : Pf nd A A705 := eA705 ▸ Pf_a hP674 (z := nd) (by omega) (by omega)
                  have hS710 : Fx sr (sy) A A705 := eA705 ▸ Fx_n hS675 rfl
                  have hV711 : Fx [14] (vi) A A705 := eA705 ▸ Fx_n hV676 rfl
                  have sf712 : ND A705 (nd) (31) (r494) (0) (0) (0) (r637) (0) := ND_f eA705 sf677
                  have sf713 : NdM A705 (nd) (nd + 1) (sy) := NdM_st eA705 (by decide) sf678
                  have sf714 : wE A705 Vs sb (2 * 9 + 2) (r494) (nd2_475) (nd2_498) := wE_ag (by omega) (Sg_ne eA705 rfl) (Ag_st eA705 (by omega) (by omega)) sf679
                  have sf715 : NdM A705 (nd2_475) (nd2_498) (sy) := NdM_st eA705 (by decide) sf680
                  have sf716 : wP A705 (sy2_642) pb (k) (Vs) (r637) (nd2_498) (nd2_641) (sy) (sy2_642) := wP_ag (Sg_ne eA705 rfl) (Qg_ne eA705 rfl) (by omega) (by omega) (Ax_ag (Ag_st eA705 (by omega) (by omega))) a689
                  have sf717 : NX A705 (r637) := NX_r eA705 (by decide) a690
                  have sf718 : NdM A705 (nd2_498) (nd2_641) (sy) := NdM_st eA705 (by decide) a692
                  have ec719 : ecn A705 (G635 31) = ec2_646 := (ecn_e ((congrFun eA705 15).trans (uA_ne (by decide)))).trans e661
                  refine jx_ld (pc_q := 252) (l_q := L491) (st_q := [.int (i32 (nd))]) rfl (jl_iloadn gL491_2) ?_
                  refine jx_rt (v := some (.int (i32 (nd)))) rfl rfl rfl rfl rfl rfl ?_
                  exact ⟨_, _, _, ln2_638, at2_639, fk2_640, nd2_641, sy2_642, na2_643, vi2_644, lf2_645, ec2_646, rfl, rfl, hW706, hF707, hP709, hS710, hV711, by omega, (e653), (e654), (e655), (e656), (e657), (e658), (e659), (congrFun ((congrFun eA705 3).trans (uA_ne (by decide))) _).trans (e660), ec719, by omega, by omega, by omega, by omega, by omega, by omega, by omega, by omega, by omega, by omega, by first | exact Or.inr ((⟨by omega, by omega, by omega, by omega, by omega, by omega, by omega, (wS_while (u := nd2_498) sf712 (by omega) (by omega) (wE_sb (by omega) (wE_mono (by omega) (by omega) (by omega) sf714)) (wP_eq sf716 (by omega) rfl (by omega) (by omega) (by omega) (by omega) (by omega) (by omega))), (NX_nd sf712), by omega, (NdO_w (NdO_app (sy := sy) (NdO_m (r := nd) sf713) (NdO_app (sy := sy) (NdO_m (r := nd) sf715) (NdO_m (r := nd) sf718) (by omega) (by omega) (by omega)) (by omega) (by omega) (by omega)) (by omega) (by omega) (by omega))⟩))⟩
              · have _q := h634
                exact absurd h634 (by omega)
          · have _q : True := trivial
            refine jx_ld (pc_q := 228) (l_q := L491) (st_q := [.ref 66]) rfl (jl_aloadn gL491_0) ?_
            refine jr_get (pc_q := 231) (i := 38) (v := .ref 88) rfl rfl (by decide) rfl rfl ?_
            refine jx_ld (pc_q := 232) (l_q := L491) (st_q := [.int (i32 (nd)), .ref 88]) rfl (jl_iloadn gL491_2) ?_
            refine jx_ld (pc_q := 233) (l_q := L491) (st_q := [.ref 66, .int (i32 (nd)), .ref 88]) rfl (jl_aloadn gL491_0) ?_
            refine jx_vr (pc_q := 236) (as := []) (st := [.int (i32 (nd)), .ref 88]) rfl rfl rfl rfl ⟨rfl, rfl, Nat.le_of_ble_eq_true rfl⟩ rfl rfl (c_bad (dd := d) (hd := by omega) (hW := hW606)  (fk := fk2_605) (e_fk := show G602 16 = fk2_605 from (e609))    ) (fun o V_q hq => ?_)
            obtain ⟨r720, rfl, rfl, b721, q722⟩ := hq
            refine .inr ⟨_, rfl, ?_⟩
            rcases q722 with ⟨rfl, a723⟩ | ⟨rfl, a724⟩
            · have _q : True := trivial
              refine jx_if_eq (pc_q := 239) (tg := 243) rfl rfl rfl (by decide) (by decide) (fun h725 => ?_) (fun h725 => ?_)
              · have _q := h725
                exact absurd h725 (by omega)
              · have _q := h725
                refine jx_ar (pc_q := 240) (st_q := [.int (i32 (0)), .int (i32 (nd)), .ref 88]) rfl rfl rfl rfl ?_
                refine jx_go (tg := 250) rfl rfl ?_
                refine jr_st (pc_q := 251) (i := 21) (m := 7000) (z := nd) (y := 0) rfl (by decide) rfl (by decide) (by omega) (by omega) rfl ?_
                have hW727 : Wk G602 (uA A603 21 (nd).toNat (0)) := Wk_a hW606 (show (-2147483648 : Int) ≤ 0 by omega) (show 0 ≤ (2147483647 : Int) by omega)
                have hF728 := Fr_a (z := 0) (k := 21) (n := (nd).toNat) hF611 (by decide)
                obtain ⟨A726, eA726⟩ : ∃ q, q = uA A603 21 (nd).toNat (0) := ⟨_, rfl⟩
                rw [← eA726]
                rw [← eA726] at hW727 hF728
                have q729 : A726 21 (nd).toNat = 0 := by rw [eA726]; exact uA_eq
                have hP730 : Pf nd A A726 := eA726 ▸ Pf_a hP612 (z := nd) (by omega) (by omega)
                have hS731 : Fx sr (sy) A A726 := eA726 ▸ Fx_n hS613 rfl
                have hV732 : Fx [14] (vi) A A726 := eA726 ▸ Fx_n hV614 rfl
                have sf733 : ND A726 (nd) (31) (r494) (0) (0) (0) (0) (0) := ND_f eA726 sf615
                have sf734 : NdM A726 (nd) (nd + 1) (sy) := NdM_st eA726 (by decide) sf616
                have sf735 : wE A726 Vs sb (2 * 9 + 2) (r494) (nd2_475) (nd2_498) := wE_ag (by omega) (Sg_ne eA726 rfl) (Ag_st eA726 (by omega) (by omega)) sf617
                have sf736 : NdM A726 (nd2_475) (nd2_498) (sy) := NdM_st eA726 (by decide) sf618
                have ec737 : ecn A726 (G602 31) = ec2_500 := (ecn_e ((congrFun eA726 15).trans (uA_ne (by decide)))).trans ec619
                refine jx_ld (pc_q := 252) (l_q := L491) (st_q := [.int (i32 (nd))]) rfl (jl_iloadn gL491_2) ?_
                refine jx_rt (v := some (.int (i32 (nd)))) rfl rfl rfl rfl rfl rfl ?_
                exact ⟨_, _, _, ln2_604, at2_495, fk2_605, nd2_498, sy, na, vi, A 3 (ln2_604).toNat, ec2_500, rfl, rfl, hW727, hF728, hP730, hS731, hV732, by omega, (e608), ((hF607.1 10 rfl).trans (e505)), (e609), ((hF607.1 31 rfl).trans (e508)), ((hF607.1 19 rfl).trans ((hF502.1 19 rfl).trans ((hF478.1 19 rfl).trans ((hF460.1 19 rfl).trans (e_sy))))), ((hF607.1 28 rfl).trans ((hF502.1 28 rfl).trans ((hF478.1 28 rfl).trans ((hF460.1 28 rfl).trans (e_na))))), ((hF607.1 29 rfl).trans ((hF502.1 29 rfl).trans ((hF478.1 29 rfl).trans ((hF460.1 29 rfl).trans (e_vi))))), (congrFun (((congrFun eA726 3).trans (uA_ne (by decide))).trans ((hF607.2 3 rfl).trans (((congrFun eA590 3).trans (uA_ne (by decide))).trans ((hF502.2 3 rfl).trans ((hF478.2 3 rfl).trans (hF460.2 3 rfl)))))) _), ec737, by omega, by omega, by omega, by omega, by omega, by omega, by omega, by omega, by omega, by omega, by first | exact Or.inl (⟨by omega, by omega⟩)⟩
            · have _q : True := trivial
              exfalso
              omega
      · refine jx_swe (z := 7) (tg := 88) h8 rfl rfl rfl rfl ?_
        refine jx_ld (pc_q := 89) (l_q := L7) (st_q := [.ref 66]) rfl (jl_aloadn gL7_0) ?_
        refine jx_ld (pc_q := 90) (l_q := L7) (st_q := [.int (i32 (G 13)), .ref 66]) rfl (jl_iloadn gL7_3) ?_
        refine jx_ar (pc_q := 92) (st_q := [.int (i32 (7)), .int (i32 (G 13)), .ref 66]) rfl rfl rfl rfl ?_
        refine jx_icmp_ne (pc_q := 95) (tg := 100) rfl rfl rfl (Int.le_trans (by decide : (-2147483648 : Int) ≤ -2147483648) b6.1) (Int.le_trans b6.2 (by decide : (2147483647 : Int) ≤ 2147483647)) (by decide) (by decide) (fun h738 => ?_) (fun h738 => ?_)
        · have _q := h738
          refine jx_ar (pc_q := 102) (st_q := [.int (i32 (21)), .ref 66]) rfl rfl rfl rfl ?_
          refine jx_ar (pc_q := 103) (st_q := [.int (i32 (0)), .int (i32 (21)), .ref 66]) rfl rfl rfl rfl ?_
          refine jx_ar (pc_q := 104) (st_q := [.int (i32 (0)), .int (i32 (0)), .int (i32 (21)), .ref 66]) rfl rfl rfl rfl ?_
          refine jx_ar (pc_q := 105) (st_q := [.int (i32 (0)), .int (i32 (0)), .int (i32 (0)), .int (i32 (21)), .ref 66]) rfl rfl rfl rfl ?_
          refine jx_ar (pc_q := 106) (st_q := [.int (i32 (0)), .int (i32 (0)), .int (i32 (0)), .int (i32 (0)), .int (i32 (21)), .ref 66]) rfl rfl rfl rfl ?_
          refine jx_vr (pc_q := 109) (as := [.int (i32 (21)), .int (i32 (0)), .int (i32 (0)), .int (i32 (0)), .int (i32 (0))]) (st := []) rfl rfl rfl rfl ⟨rfl, rfl, Nat.le_of_ble_eq_true rfl⟩ rfl rfl (c_node_o (dd := d) (hd := by omega) (hW := hW) (kind := 21) (a := 0) (b := 0) (c := 0) (e := 0) (nd := nd) (e_nd := show G 31 = nd from (e_nd)) (ec := ec) (e_ec := show ecn A (G 31) = ec from e_ec) (sy := sy) (e_sy := show G 19 = sy from (e_sy))  (h_kind := ⟨(by decide), (by decide)⟩) (h_a := ⟨(by decide), (by decide)⟩) (h_b := ⟨(by decide), (by decide)⟩) (h_c := ⟨(by decide), (by decide)⟩) (h_e := ⟨(by decide), (by decide)⟩)  (p_0 := by omega) (p_1 := by omega) (p_2 := by omega)) (fun o V_q hq => ?_)
          obtain ⟨G739, A740, nd2_741, ec2_742, rfl, rfl, hW743, hF744, hQ745, e746, e747, p748, p749, p750, p751, -⟩ := hq
          have hF753 := Fr_tr hF0 hF744 (Fr_sub (by decide)) (Fr_sub (by decide))
          have hP754 := Pf_tr hP0 hQ745 (by omega)
          have hS755 := Fx_f hS0 hF744 (by decide)
          have hV756 := Fx_f hV0 hF744 (by decide)
          have bnd2_741 : (0 : Int) ≤ nd2_741 ∧ nd2_741 ≤ 6999 := e746 ▸ hW743.1 31
          refine .inr ⟨_, rfl, ?_⟩
          refine jx_ld (pc_q := 110) (l_q := jSto1 L7 2 (.int (i32 (nd)))) (st_q := []) rfl rfl ?_
          obtain ⟨L757, eL757⟩ : ∃ q, q = jSto1 L7 2 (.int (i32 (nd))) := ⟨_, rfl⟩
          rw [← eL757]
          have gL757_0 : jGet L757 0 = some (.ref 66) := eL757 ▸ jg_ne (by decide) gL7_0 rfl
          have gL757_1 : jGet L757 1 = some (.int (i32 (lv))) := eL757 ▸ jg_ne (by decide) gL7_1 rfl
          have gL757_3 : jGet L757 3 = some (.int (i32 (G 13))) := eL757 ▸ jg_ne (by decide) gL7_3 rfl
          have gL757_2 : jGet L757 2 = some (.int (i32 (nd))) := eL757 ▸ jg_eq
          refine jx_ld (pc_q := 111) (l_q := L757) (st_q := [.ref 66]) rfl (jl_aloadn gL757_0) ?_
          refine jx_vr (pc_q := 114) (as := []) (st := []) rfl rfl rfl rfl ⟨rfl, rfl, Nat.le_of_ble_eq_true rfl⟩ rfl rfl (c_next (dd := d) (hd := by omega) (hW := hW743)  (ln := ln) (e_ln := show G739 9 = ln from ((hF744.1 9 rfl).trans (e_ln))) (le := le) (e_le := show A740 4 (ln).toNat = le from (congrFun (hF744.2 4 rfl) _).trans (e_le)) (at0 := at0) (e_at0 := show G739 10 = at0 from ((hF744.1 10 rfl).trans (e_at0)))    (p_0 := by omega)) (fun o V_q hq => ?_)
          obtain ⟨G758, A759, at2_760, tk2_761, rfl, rfl, hW762, hF763, e764, e765, p766, p767, p768, -⟩ := hq
          have hF770 := Fr_tr hF753 hF763 (Fr_sub (by decide)) (Fr_sub (by decide))
          have hP771 := Pf_f hP754 hF763 (by decide)
          have hS772 := Fx_f hS755 hF763 (by decide)
          have hV773 := Fx_f hV756 hF763 (by decide)
          have sf774 : ND A759 (nd) (21) (0) (0) (0) (0) (0) (0) := ND_ag (by omega) (Ag_fr hF763 (by decide)) p750
          have sf775 : NdM A759 (nd) (nd + 1) (sy) := NdM_f hF763 (by decide) p751
          have ec776 : ecn A759 (G758 31) = ec2_742 := (ecn_f (hF763.2 15 rfl) (hF763.1 31 rfl)).trans e747
          have bat2_760 : (0 : Int) ≤ at2_760 ∧ at2_760 ≤ 3002 := e764 ▸ hW762.1 10
          have ztk2_761 := tz_b tk2_761
          have btk2_761 : (0 : Int) ≤ tk2_761 ∧ tk2_761 ≤ 5 := e765 ▸ hW762.1 11
          refine .inl ⟨rfl, ?_⟩
          have pz777 : at0 + tz tk2_761 ≤ at2_760 := by omega
          refine jx_ld (pc_q := 115) (l_q := L757) (st_q := [.ref 66]) rfl (jl_aloadn gL757_0) ?_
          refine jx_vr (pc_q := 118) (as := []) (st := []) rfl rfl rfl rfl ⟨rfl, rfl, Nat.le_of_ble_eq_true rfl⟩ rfl rfl (c_endLine (dd := d) (hd := by omega) (hW := hW762)  (ln := ln) (e_ln := show G758 9 = ln from ((hF763.1 9 rfl).trans ((hF744.1 9 rfl).trans (e_ln)))) (li := li) (e_li := show G758 3 = li from ((hF763.1 3 rfl).trans ((hF744.1 3 rfl).trans (e_li)))) (fk := fk) (e_fk := show G758 16 = fk from ((hF763.1 16 rfl).trans ((hF744.1 16 rfl).trans (e_fk)))) (tk0 := tk2_761) (e_tk0 := show G758 11 = tk2_761 from (e765))    (p_0 := by omega)) (fun o V_q hq => ?_)
          obtain ⟨G778, A779, ln2_780, fk2_781, rfl, rfl, hW782, hF783, e784, e785, q786⟩ := hq
          have hF787 := Fr_tr hF770 hF783 (Fr_sub (by decide)) (Fr_sub (by decide))
          have hP788 := Pf_f hP771 hF783 (by decide)
          have hS789 := Fx_f hS772 hF783 (by decide)
          have hV790 := Fx_f hV773 hF783 (by decide)
          have sf791 : ND A779 (nd) (21) (0) (0) (0) (0) (0) (0) := ND_ag (by omega) (Ag_fr hF783 (by decide)) sf774
          have sf792 : NdM A779 (nd) (nd + 1) (sy) := NdM_f hF783 (by decide) sf775
          have ec793 : ecn A779 (G778 31) = ec2_742 := (ecn_f (hF783.2 15 rfl) (hF783.1 31 rfl)).trans ec776
          have bln2_780 : (0 : Int) ≤ ln2_780 ∧ ln2_780 ≤ 3000 := e784 ▸ hW782.1 9
          have bfk2_781 : (0 : Int) ≤ fk2_781 ∧ fk2_781 ≤ 6 := e785 ▸ hW782.1 16
          refine .inl ⟨rfl, ?_⟩
          rcases q786 with ⟨a794, a795, a796, a797, a798⟩ | ⟨a799, a800⟩
          · have _q : True := trivial
            have b801 : (0 : Int) ≤ A 3 (ln2_780).toNat ∧ A 3 (ln2_780).toNat ≤ 3000 := hW.2 3 _
            have lt802 : ln2_780 < li → le < A 3 (ln2_780).toNat := fun hh => LT_nx (LT_ext (((hF783.1 3 rfl).trans ((hF763.1 3 rfl).trans (hF744.1 3 rfl)))) (((hF783.2 3 rfl).trans ((hF763.2 3 rfl).trans (hF744.2 3 rfl)))) (((hF783.2 4 rfl).trans ((hF763.2 4 rfl).trans (hF744.2 4 rfl)))) i_LT) (show G778 3 = li from ((hF783.1 3 rfl).trans ((hF763.1 3 rfl).trans ((hF744.1 3 rfl).trans (e_li))))) (show A779 4 (ln).toNat = le from (congrFun ((hF783.2 4 rfl).trans ((hF763.2 4 rfl).trans (hF744.2 4 rfl))) _).trans (e_le)) (show A779 3 (ln2_780).toNat = A 3 (ln2_780).toNat from (congrFun ((hF783.2 3 rfl).trans ((hF763.2 3 rfl).trans (hF744.2 3 rfl))) _)) (show ln2_780 = ln + 1 by omega) (by omega) hh
            refine jx_ld (pc_q := 119) (l_q := L757) (st_q := [.int (i32 (nd))]) rfl (jl_iloadn gL757_2) ?_
            refine jx_rt (v := some (.int (i32 (nd)))) rfl rfl rfl rfl rfl rfl ?_
            exact ⟨_, _, _, ln2_780, at2_760, fk2_781, nd2_741, sy, na, vi, A 3 (ln2_780).toNat, ec2_742, rfl, rfl, hW782, hF787, hP788, hS789, hV790, by omega, (e784), ((hF783.1 10 rfl).trans (e764)), (e785), ((hF783.1 31 rfl).trans ((hF763.1 31 rfl).trans (e746))), ((hF783.1 19 rfl).trans ((hF763.1 19 rfl).trans ((hF744.1 19 rfl).trans (e_sy)))), ((hF783.1 28 rfl).trans ((hF763.1 28 rfl).trans ((hF744.1 28 rfl).trans (e_na)))), ((hF783.1 29 rfl).trans ((hF763.1 29 rfl).trans ((hF744.1 29 rfl).trans (e_vi)))), (congrFun ((hF783.2 3 rfl).trans ((hF763.2 3 rfl).trans (hF744.2 3 rfl))) _), ec793, by omega, by omega, by omega, by omega, by omega, by omega, by omega, by omega, by omega, by omega, by first | exact Or.inr ((⟨by omega, by omega, by omega, by omega, by omega, by omega, by omega, (wS_skip sf791 (by omega) (by omega)), (NX_nd sf791), by omega, (NdO_w (NdO_m (r := nd) sf792) (by omega) (by omega) (by omega))⟩))⟩
          · have _q : True := trivial
            refine jx_ld (pc_q := 119) (l_q := L757) (st_q := [.int (i32 (nd))]) rfl (jl_iloadn gL757_2) ?_
            refine jx_rt (v := some (.int (i32 (nd)))) rfl rfl rfl rfl rfl rfl ?_
            exact ⟨_, _, _, ln2_780, at2_760, fk2_781, nd2_741, sy, na, vi, A 3 (ln2_780).toNat, ec2_742, rfl, rfl, hW782, hF787, hP788, hS789, hV790, by omega, (e784), ((hF783.1 10 rfl).trans (e764)), (e785), ((hF783.1 31 rfl).trans ((hF763.1 31 rfl).trans (e746))), ((hF783.1 19 rfl).trans ((hF763.1 19 rfl).trans ((hF744.1 19 rfl).trans (e_sy)))), ((hF783.1 28 rfl).trans ((hF763.1 28 rfl).trans ((hF744.1 28 rfl).trans (e_na)))), ((hF783.1 29 rfl).trans ((hF763.1 29 rfl).trans ((hF744.1 29 rfl).trans (e_vi)))), (congrFun ((hF783.2 3 rfl).trans ((hF763.2 3 rfl).trans (hF744.2 3 rfl))) _), ec793, by omega, by omega, by omega, by omega, by omega, by omega, by omega, by omega, by omega, by omega, by first | exact Or.inl (⟨by omega, by omega⟩)⟩
        · have _q := h738
          refine jx_ar (pc_q := 97) (st_q := [.int (i32 (20)), .ref 66]) rfl rfl rfl rfl ?_
          refine jx_go (tg := 102) rfl rfl ?_
          refine jx_ar (pc_q := 103) (st_q := [.int (i32 (0)), .int (i32 (20)), .ref 66]) rfl rfl rfl rfl ?_
          refine jx_ar (pc_q := 104) (st_q := [.int (i32 (0)), .int (i32 (0)), .int (i32 (20)), .ref 66]) rfl rfl rfl rfl ?_
          refine jx_ar (pc_q := 105) (st_q := [.int (i32 (0)), .int (i32 (0)), .int (i32 (0)), .int (i32 (20)), .ref 66]) rfl rfl rfl rfl ?_
          refine jx_ar (pc_q := 106) (st_q := [.int (i32 (0)), .int (i32 (0)), .int (i32 (0)), .int (i32 (0)), .int (i32 (20)), .ref 66]) rfl rfl rfl rfl ?_
          refine jx_vr (pc_q := 109) (as := [.int (i32 (20)), .int (i32 (0)), .int (i32 (0)), .int (i32 (0)), .int (i32 (0))]) (st := []) rfl rfl rfl rfl ⟨rfl, rfl, Nat.le_of_ble_eq_true rfl⟩ rfl rfl (c_node_o (dd := d) (hd := by omega) (hW := hW) (kind := 20) (a := 0) (b := 0) (c := 0) (e := 0) (nd := nd) (e_nd := show G 31 = nd from (e_nd)) (ec := ec) (e_ec := show ecn A (G 31) = ec from e_ec) (sy := sy) (e_sy := show G 19 = sy from (e_sy))  (h_kind := ⟨(by decide), (by decide)⟩) (h_a := ⟨(by decide), (by decide)⟩) (h_b := ⟨(by decide), (by decide)⟩) (h_c := ⟨(by decide), (by decide)⟩) (h_e := ⟨(by decide), (by decide)⟩)  (p_0 := by omega) (p_1 := by omega) (p_2 := by omega)) (fun o V_q hq => ?_)
          obtain ⟨G803, A804, nd2_805, ec2_806, rfl, rfl, hW807, hF808, hQ809, e810, e811, p812, p813, p814, p815, -⟩ := hq
          have hF817 := Fr_tr hF0 hF808 (Fr_sub (by decide)) (Fr_sub (by decide))
          have hP818 := Pf_tr hP0 hQ809 (by omega)
          have hS819 := Fx_f hS0 hF808 (by decide)
          have hV820 := Fx_f hV0 hF808 (by decide)
          have bnd2_805 : (0 : Int) ≤ nd2_805 ∧ nd2_805 ≤ 6999 := e810 ▸ hW807.1 31
          refine .inr ⟨_, rfl, ?_⟩
          refine jx_ld (pc_q := 110) (l_q := jSto1 L7 2 (.int (i32 (nd)))) (st_q := []) rfl rfl ?_
          obtain ⟨L821, eL821⟩ : ∃ q, q = jSto1 L7 2 (.int (i32 (nd))) := ⟨_, rfl⟩
          rw [← eL821]
          have gL821_0 : jGet L821 0 = some (.ref 66) := eL821 ▸ jg_ne (by decide) gL7_0 rfl
          have gL821_1 : jGet L821 1 = some (.int (i32 (lv))) := eL821 ▸ jg_ne (by decide) gL7_1 rfl
          have gL821_3 : jGet L821 3 = some (.int (i32 (G 13))) := eL821 ▸ jg_ne (by decide) gL7_3 rfl
          have gL821_2 : jGet L821 2 = some (.int (i32 (nd))) := eL821 ▸ jg_eq
          refine jx_ld (pc_q := 111) (l_q := L821) (st_q := [.ref 66]) rfl (jl_aloadn gL821_0) ?_
          refine jx_vr (pc_q := 114) (as := []) (st := []) rfl rfl rfl rfl ⟨rfl, rfl, Nat.le_of_ble_eq_true rfl⟩ rfl rfl (c_next (dd := d) (hd := by omega) (hW := hW807)  (ln := ln) (e_ln := show G803 9 = ln from ((hF808.1 9 rfl).trans (e_ln))) (le := le) (e_le := show A804 4 (ln).toNat = le from (congrFun (hF808.2 4 rfl) _).trans (e_le)) (at0 := at0) (e_at0 := show G803 10 = at0 from ((hF808.1 10 rfl).trans (e_at0)))    (p_0 := by omega)) (fun o V_q hq => ?_)
          obtain ⟨G822, A823, at2_824, tk2_825, rfl, rfl, hW826, hF827, e828, e829, p830, p831, p832, -⟩ := hq
          have hF834 := Fr_tr hF817 hF827 (Fr_sub (by decide)) (Fr_sub (by decide))
          have hP835 := Pf_f hP818 hF827 (by decide)
          have hS836 := Fx_f hS819 hF827 (by decide)
          have hV837 := Fx_f hV820 hF827 (by decide)
          have sf838 : ND A823 (nd) (20) (0) (0) (0) (0) (0) (0) := ND_ag (by omega) (Ag_fr hF827 (by decide)) p814
          have sf839 : NdM A823 (nd) (nd + 1) (sy) := NdM_f hF827 (by decide) p815
          have ec840 : ecn A823 (G822 31) = ec2_806 := (ecn_f (hF827.2 15 rfl) (hF827.1 31 rfl)).trans e811
          have bat2_824 : (0 : Int) ≤ at2_824 ∧ at2_824 ≤ 3002 := e828 ▸ hW826.1 10
          have ztk2_825 := tz_b tk2_825
          have btk2_825 : (0 : Int) ≤ tk2_825 ∧ tk2_825 ≤ 5 := e829 ▸ hW826.1 11
          refine .inl ⟨rfl, ?_⟩
          have pz841 : at0 + tz tk2_825 ≤ at2_824 := by omega
          refine jx_ld (pc_q := 115) (l_q := L821) (st_q := [.ref 66]) rfl (jl_aloadn gL821_0) ?_
          refine jx_vr (pc_q := 118) (as := []) (st := []) rfl rfl rfl rfl ⟨rfl, rfl, Nat.le_of_ble_eq_true rfl⟩ rfl rfl (c_endLine (dd := d) (hd := by omega) (hW := hW826)  (ln := ln) (e_ln := show G822 9 = ln from ((hF827.1 9 rfl).trans ((hF808.1 9 rfl).trans (e_ln)))) (li := li) (e_li := show G822 3 = li from ((hF827.1 3 rfl).trans ((hF808.1 3 rfl).trans (e_li)))) (fk := fk) (e_fk := show G822 16 = fk from ((hF827.1 16 rfl).trans ((hF808.1 16 rfl).trans (e_fk)))) (tk0 := tk2_825) (e_tk0 := show G822 11 = tk2_825 from (e829))    (p_0 := by omega)) (fun o V_q hq => ?_)
          obtain ⟨G842, A843, ln2_844, fk2_845, rfl, rfl, hW846, hF847, e848, e849, q850⟩ := hq
          have hF851 := Fr_tr hF834 hF847 (Fr_sub (by decide)) (Fr_sub (by decide))
          have hP852 := Pf_f hP835 hF847 (by decide)
          have hS853 := Fx_f hS836 hF847 (by decide)
          have hV854 := Fx_f hV837 hF847 (by decide)
          have sf855 : ND A843 (nd) (20) (0) (0) (0) (0) (0) (0) := ND_ag (by omega) (Ag_fr hF847 (by decide)) sf838
          have sf856 : NdM A843 (nd) (nd + 1) (sy) := NdM_f hF847 (by decide) sf839
          have ec857 : ecn A843 (G842 31) = ec2_806 := (ecn_f (hF847.2 15 rfl) (hF847.1 31 rfl)).trans ec840
          have bln2_844 : (0 : Int) ≤ ln2_844 ∧ ln2_844 ≤ 3000 := e848 ▸ hW846.1 9
          have bfk2_845 : (0 : Int) ≤ fk2_845 ∧ fk2_845 ≤ 6 := e849 ▸ hW846.1 16
          refine .inl ⟨rfl, ?_⟩
          rcases q850 with ⟨a858, a859, a860, a861, a862⟩ | ⟨a863, a864⟩
          · have _q : True := trivial
            have b865 : (0 : Int) ≤ A 3 (ln2_844).toNat ∧ A 3 (ln2_844).toNat ≤ 3000 := hW.2 3 _
            have lt866 : ln2_844 < li → le < A 3 (ln2_844).toNat := fun hh => LT_nx (LT_ext (((hF847.1 3 rfl).trans ((hF827.1 3 rfl).trans (hF808.1 3 rfl)))) (((hF847.2 3 rfl).trans ((hF827.2 3 rfl).trans (hF808.2 3 rfl)))) (((hF847.2 4 rfl).trans ((hF827.2 4 rfl).trans (hF808.2 4 rfl)))) i_LT) (show G842 3 = li from ((hF847.1 3 rfl).trans ((hF827.1 3 rfl).trans ((hF808.1 3 rfl).trans (e_li))))) (show A843 4 (ln).toNat = le from (congrFun ((hF847.2 4 rfl).trans ((hF827.2 4 rfl).trans (hF808.2 4 rfl))) _).trans (e_le)) (show A843 3 (ln2_844).toNat = A 3 (ln2_844).toNat from (congrFun ((hF847.2 3 rfl).trans ((hF827.2 3 rfl).trans (hF808.2 3 rfl))) _)) (show ln2_844 = ln + 1 by omega) (by omega) hh
            refine jx_ld (pc_q := 119) (l_q := L821) (st_q := [.int (i32 (nd))]) rfl (jl_iloadn gL821_2) ?_
            refine jx_rt (v := some (.int (i32 (nd)))) rfl rfl rfl rfl rfl rfl ?_
            exact ⟨_, _, _, ln2_844, at2_824, fk2_845, nd2_805, sy, na, vi, A 3 (ln2_844).toNat, ec2_806, rfl, rfl, hW846, hF851, hP852, hS853, hV854, by omega, (e848), ((hF847.1 10 rfl).trans (e828)), (e849), ((hF847.1 31 rfl).trans ((hF827.1 31 rfl).trans (e810))), ((hF847.1 19 rfl).trans ((hF827.1 19 rfl).trans ((hF808.1 19 rfl).trans (e_sy)))), ((hF847.1 28 rfl).trans ((hF827.1 28 rfl).trans ((hF808.1 28 rfl).trans (e_na)))), ((hF847.1 29 rfl).trans ((hF827.1 29 rfl).trans ((hF808.1 29 rfl).trans (e_vi)))), (congrFun ((hF847.2 3 rfl).trans ((hF827.2 3 rfl).trans (hF808.2 3 rfl))) _), ec857, by omega, by omega, by omega, by omega, by omega, by omega, by omega, by omega, by omega, by omega, by first | exact Or.inr ((⟨by omega, by omega, by omega, by omega, by omega, by omega, by omega, (wS_skip sf855 (by omega) (by omega)), (NX_nd sf855), by omega, (NdO_w (NdO_m (r := nd) sf856) (by omega) (by omega) (by omega))⟩))⟩
          · have _q : True := trivial
            refine jx_ld (pc_q := 119) (l_q := L821) (st_q := [.int (i32 (nd))]) rfl (jl_iloadn gL821_2) ?_
            refine jx_rt (v := some (.int (i32 (nd)))) rfl rfl rfl rfl rfl rfl ?_
            exact ⟨_, _, _, ln2_844, at2_824, fk2_845, nd2_805, sy, na, vi, A 3 (ln2_844).toNat, ec2_806, rfl, rfl, hW846, hF851, hP852, hS853, hV854, by omega, (e848), ((hF847.1 10 rfl).trans (e828)), (e849), ((hF847.1 31 rfl).trans ((hF827.1 31 rfl).trans (e810))), ((hF847.1 19 rfl).trans ((hF827.1 19 rfl).trans ((hF808.1 19 rfl).trans (e_sy)))), ((hF847.1 28 rfl).trans ((hF827.1 28 rfl).trans ((hF808.1 28 rfl).trans (e_na)))), ((hF847.1 29 rfl).trans ((hF827.1 29 rfl).trans ((hF808.1 29 rfl).trans (e_vi)))), (congrFun ((hF847.2 3 rfl).trans ((hF827.2 3 rfl).trans (hF808.2 3 rfl))) _), ec857, by omega, by omega, by omega, by omega, by omega, by omega, by omega, by omega, by omega, by omega, by first | exact Or.inl (⟨by omega, by omega⟩)⟩
      · refine jx_swe (z := 8) (tg := 88) h8 rfl rfl rfl rfl ?_
        refine jx_ld (pc_q := 89) (l_q := L7) (st_q := [.ref 66]) rfl (jl_aloadn gL7_0) ?_
        refine jx_ld (pc_q := 90) (l_q := L7) (st_q := [.int (i32 (G 13)), .ref 66]) rfl (jl_iloadn gL7_3) ?_
        refine jx_ar (pc_q := 92) (st_q := [.int (i32 (7)), .int (i32 (G 13)), .ref 66]) rfl rfl rfl rfl ?_
        refine jx_icmp_ne (pc_q := 95) (tg := 100) rfl rfl rfl (Int.le_trans (by decide : (-2147483648 : Int) ≤ -2147483648) b6.1) (Int.le_trans b6.2 (by decide : (2147483647 : Int) ≤ 2147483647)) (by decide) (by decide) (fun h867 => ?_) (fun h867 => ?_)
        · have _q := h867
          refine jx_ar (pc_q := 102) (st_q := [.int (i32 (21)), .ref 66]) rfl rfl rfl rfl ?_
          refine jx_ar (pc_q := 103) (st_q := [.int (i32 (0)), .int (i32 (21)), .ref 66]) rfl rfl rfl rfl ?_
          refine jx_ar (pc_q := 104) (st_q := [.int (i32 (0)), .int (i32 (0)), .int (i32 (21)), .ref 66]) rfl rfl rfl rfl ?_
          refine jx_ar (pc_q := 105) (st_q := [.int (i32 (0)), .int (i32 (0)), .int (i32 (0)), .int (i32 (21)), .ref 66]) rfl rfl rfl rfl ?_
          refine jx_ar (pc_q := 106) (st_q := [.int (i32 (0)), .int (i32 (0)), .int (i32 (0)), .int (i32 (0)), .int (i32 (21)), .ref 66]) rfl rfl rfl rfl ?_
          refine jx_vr (pc_q := 109) (as := [.int (i32 (21)), .int (i32 (0)), .int (i32 (0)), .int (i32 (0)), .int (i32 (0))]) (st := []) rfl rfl rfl rfl ⟨rfl, rfl, Nat.le_of_ble_eq_true rfl⟩ rfl rfl (c_node_o (dd := d) (hd := by omega) (hW := hW) (kind := 21) (a := 0) (b := 0) (c := 0) (e := 0) (nd := nd) (e_nd := show G 31 = nd from (e_nd)) (ec := ec) (e_ec := show ecn A (G 31) = ec from e_ec) (sy := sy) (e_sy := show G 19 = sy from (e_sy))  (h_kind := ⟨(by decide), (by decide)⟩) (h_a := ⟨(by decide), (by decide)⟩) (h_b := ⟨(by decide), (by decide)⟩) (h_c := ⟨(by decide), (by decide)⟩) (h_e := ⟨(by decide), (by decide)⟩)  (p_0 := by omega) (p_1 := by omega) (p_2 := by omega)) (fun o V_q hq => ?_)
          obtain ⟨G868, A869, nd2_870, ec2_871, rfl, rfl, hW872, hF873, hQ874, e875, e876, p877, p878, p879, p880, -⟩ := hq
          have hF882 := Fr_tr hF0 hF873 (Fr_sub (by decide)) (Fr_sub (by decide))
          have hP883 := Pf_tr hP0 hQ874 (by omega)
          have hS884 := Fx_f hS0 hF873 (by decide)
          have hV885 := Fx_f hV0 hF873 (by decide)
          have bnd2_870 : (0 : Int) ≤ nd2_870 ∧ nd2_870 ≤ 6999 := e875 ▸ hW872.1 31
          refine .inr ⟨_, rfl, ?_⟩
          refine jx_ld (pc_q := 110) (l_q := jSto1 L7 2 (.int (i32 (nd)))) (st_q := []) rfl rfl ?_
          obtain ⟨L886, eL886⟩ : ∃ q, q = jSto1 L7 2 (.int (i32 (nd))) := ⟨_, rfl⟩
          rw [← eL886]
          have gL886_0 : jGet L886 0 = some (.ref 66) := eL886 ▸ jg_ne (by decide) gL7_0 rfl
          have gL886_1 : jGet L886 1 = some (.int (i32 (lv))) := eL886 ▸ jg_ne (by decide) gL7_1 rfl
          have gL886_3 : jGet L886 3 = some (.int (i32 (G 13))) := eL886 ▸ jg_ne (by decide) gL7_3 rfl
          have gL886_2 : jGet L886 2 = some (.int (i32 (nd))) := eL886 ▸ jg_eq
          refine jx_ld (pc_q := 111) (l_q := L886) (st_q := [.ref 66]) rfl (jl_aloadn gL886_0) ?_
          refine jx_vr (pc_q := 114) (as := []) (st := []) rfl rfl rfl rfl ⟨rfl, rfl, Nat.le_of_ble_eq_true rfl⟩ rfl rfl (c_next (dd := d) (hd := by omega) (hW := hW872)  (ln := ln) (e_ln := show G868 9 = ln from ((hF873.1 9 rfl).trans (e_ln))) (le := le) (e_le := show A869 4 (ln).toNat = le from (congrFun (hF873.2 4 rfl) _).trans (e_le)) (at0 := at0) (e_at0 := show G868 10 = at0 from ((hF873.1 10 rfl).trans (e_at0)))    (p_0 := by omega)) (fun o V_q hq => ?_)
          obtain ⟨G887, A888, at2_889, tk2_890, rfl, rfl, hW891, hF892, e893, e894, p895, p896, p897, -⟩ := hq
          have hF899 := Fr_tr hF882 hF892 (Fr_sub (by decide)) (Fr_sub (by decide))
          have hP900 := Pf_f hP883 hF892 (by decide)
          have hS901 := Fx_f hS884 hF892 (by decide)
          have hV902 := Fx_f hV885 hF892 (by decide)
          have sf903 : ND A888 (nd) (21) (0) (0) (0) (0) (0) (0) := ND_ag (by omega) (Ag_fr hF892 (by decide)) p879
          have sf904 : NdM A888 (nd) (nd + 1) (sy) := NdM_f hF892 (by decide) p880
          have ec905 : ecn A888 (G887 31) = ec2_871 := (ecn_f (hF892.2 15 rfl) (hF892.1 31 rfl)).trans e876
          have bat2_889 : (0 : Int) ≤ at2_889 ∧ at2_889 ≤ 3002 := e893 ▸ hW891.1 10
          have ztk2_890 := tz_b tk2_890
          have btk2_890 : (0 : Int) ≤ tk2_890 ∧ tk2_890 ≤ 5 := e894 ▸ hW891.1 11
          refine .inl ⟨rfl, ?_⟩
          have pz906 : at0 + tz tk2_890 ≤ at2_889 := by omega
          refine jx_ld (pc_q := 115) (l_q := L886) (st_q := [.ref 66]) rfl (jl_aloadn gL886_0) ?_
          refine jx_vr (pc_q := 118) (as := []) (st := []) rfl rfl rfl rfl ⟨rfl, rfl, Nat.le_of_ble_eq_true rfl⟩ rfl rfl (c_endLine (dd := d) (hd := by omega) (hW := hW891)  (ln := ln) (e_ln := show G887 9 = ln from ((hF892.1 9 rfl).trans ((hF873.1 9 rfl).trans (e_ln)))) (li := li) (e_li := show G887 3 = li from ((hF892.1 3 rfl).trans ((hF873.1 3 rfl).trans (e_li)))) (fk := fk) (e_fk := show G887 16 = fk from ((hF892.1 16 rfl).trans ((hF873.1 16 rfl).trans (e_fk)))) (tk0 := tk2_890) (e_tk0 := show G887 11 = tk2_890 from (e894))    (p_0 := by omega)) (fun o V_q hq => ?_)
          obtain ⟨G907, A908, ln2_909, fk2_910, rfl, rfl, hW911, hF912, e913, e914, q915⟩ := hq
          have hF916 := Fr_tr hF899 hF912 (Fr_sub (by decide)) (Fr_sub (by decide))
          have hP917 := Pf_f hP900 hF912 (by decide)
          have hS918 := Fx_f hS901 hF912 (by decide)
          have hV919 := Fx_f hV902 hF912 (by decide)
          have sf920 : ND A908 (nd) (21) (0) (0) (0) (0) (0) (0) := ND_ag (by omega) (Ag_fr hF912 (by decide)) sf903
          have sf921 : NdM A908 (nd) (nd + 1) (sy) := NdM_f hF912 (by decide) sf904
          have ec922 : ecn A908 (G907 31) = ec2_871 := (ecn_f (hF912.2 15 rfl) (hF912.1 31 rfl)).trans ec905
          have bln2_909 : (0 : Int) ≤ ln2_909 ∧ ln2_909 ≤ 3000 := e913 ▸ hW911.1 9
          have bfk2_910 : (0 : Int) ≤ fk2_910 ∧ fk2_910 ≤ 6 := e914 ▸ hW911.1 16
          refine .inl ⟨rfl, ?_⟩
          rcases q915 with ⟨a923, a924, a925, a926, a927⟩ | ⟨a928, a929⟩
          · have _q : True := trivial
            have b930 : (0 : Int) ≤ A 3 (ln2_909).toNat ∧ A 3 (ln2_909).toNat ≤ 3000 := hW.2 3 _
            have lt931 : ln2_909 < li → le < A 3 (ln2_909).toNat := fun hh => LT_nx (LT_ext (((hF912.1 3 rfl).trans ((hF892.1 3 rfl).trans (hF873.1 3 rfl)))) (((hF912.2 3 rfl).trans ((hF892.2 3 rfl).trans (hF873.2 3 rfl)))) (((hF912.2 4 rfl).trans ((hF892.2 4 rfl).trans (hF873.2 4 rfl)))) i_LT) (show G907 3 = li from ((hF912.1 3 rfl).trans ((hF892.1 3 rfl).trans ((hF873.1 3 rfl).trans (e_li))))) (show A908 4 (ln).toNat = le from (congrFun ((hF912.2 4 rfl).trans ((hF892.2 4 rfl).trans (hF873.2 4 rfl))) _).trans (e_le)) (show A908 3 (ln2_909).toNat = A 3 (ln2_909).toNat from (congrFun ((hF912.2 3 rfl).trans ((hF892.2 3 rfl).trans (hF873.2 3 rfl))) _)) (show ln2_909 = ln + 1 by omega) (by omega) hh
            refine jx_ld (pc_q := 119) (l_q := L886) (st_q := [.int (i32 (nd))]) rfl (jl_iloadn gL886_2) ?_
            refine jx_rt (v := some (.int (i32 (nd)))) rfl rfl rfl rfl rfl rfl ?_
            exact ⟨_, _, _, ln2_909, at2_889, fk2_910, nd2_870, sy, na, vi, A 3 (ln2_909).toNat, ec2_871, rfl, rfl, hW911, hF916, hP917, hS918, hV919, by omega, (e913), ((hF912.1 10 rfl).trans (e893)), (e914), ((hF912.1 31 rfl).trans ((hF892.1 31 rfl).trans (e875))), ((hF912.1 19 rfl).trans ((hF892.1 19 rfl).trans ((hF873.1 19 rfl).trans (e_sy)))), ((hF912.1 28 rfl).trans ((hF892.1 28 rfl).trans ((hF873.1 28 rfl).trans (e_na)))), ((hF912.1 29 rfl).trans ((hF892.1 29 rfl).trans ((hF873.1 29 rfl).trans (e_vi)))), (congrFun ((hF912.2 3 rfl).trans ((hF892.2 3 rfl).trans (hF873.2 3 rfl))) _), ec922, by omega, by omega, by omega, by omega, by omega, by omega, by omega, by omega, by omega, by omega, by first | exact Or.inr ((⟨by omega, by omega, by omega, by omega, by omega, by omega, by omega, (wS_skip sf920 (by omega) (by omega)), (NX_nd sf920), by omega, (NdO_w (NdO_m (r := nd) sf921) (by omega) (by omega) (by omega))⟩))⟩
          · have _q : True := trivial
            refine jx_ld (pc_q := 119) (l_q := L886) (st_q := [.int (i32 (nd))]) rfl (jl_iloadn gL886_2) ?_
            refine jx_rt (v := some (.int (i32 (nd)))) rfl rfl rfl rfl rfl rfl ?_
            exact ⟨_, _, _, ln2_909, at2_889, fk2_910, nd2_870, sy, na, vi, A 3 (ln2_909).toNat, ec2_871, rfl, rfl, hW911, hF916, hP917, hS918, hV919, by omega, (e913), ((hF912.1 10 rfl).trans (e893)), (e914), ((hF912.1 31 rfl).trans ((hF892.1 31 rfl).trans (e875))), ((hF912.1 19 rfl).trans ((hF892.1 19 rfl).trans ((hF873.1 19 rfl).trans (e_sy)))), ((hF912.1 28 rfl).trans ((hF892.1 28 rfl).trans ((hF873.1 28 rfl).trans (e_na)))), ((hF912.1 29 rfl).trans ((hF892.1 29 rfl).trans ((hF873.1 29 rfl).trans (e_vi)))), (congrFun ((hF912.2 3 rfl).trans ((hF892.2 3 rfl).trans (hF873.2 3 rfl))) _), ec922, by omega, by omega, by omega, by omega, by omega, by omega, by omega, by omega, by omega, by omega, by first | exact Or.inl (⟨by omega, by omega⟩)⟩
        · have _q := h867
          refine jx_ar (pc_q := 97) (st_q := [.int (i32 (20)), .ref 66]) rfl rfl rfl rfl ?_
          refine jx_go (tg := 102) rfl rfl ?_
          refine jx_ar (pc_q := 103) (st_q := [.int (i32 (0)), .int (i32 (20)), .ref 66]) rfl rfl rfl rfl ?_
          refine jx_ar (pc_q := 104) (st_q := [.int (i32 (0)), .int (i32 (0)), .int (i32 (20)), .ref 66]) rfl rfl rfl rfl ?_
          refine jx_ar (pc_q := 105) (st_q := [.int (i32 (0)), .int (i32 (0)), .int (i32 (0)), .int (i32 (20)), .ref 66]) rfl rfl rfl rfl ?_
          refine jx_ar (pc_q := 106) (st_q := [.int (i32 (0)), .int (i32 (0)), .int (i32 (0)), .int (i32 (0)), .int (i32 (20)), .ref 66]) rfl rfl rfl rfl ?_
          refine jx_vr (pc_q := 109) (as := [.int (i32 (20)), .int (i32 (0)), .int (i32 (0)), .int (i32 (0)), .int (i32 (0))]) (st := []) rfl rfl rfl rfl ⟨rfl, rfl, Nat.le_of_ble_eq_true rfl⟩ rfl rfl (c_node_o (dd := d) (hd := by omega) (hW := hW) (kind := 20) (a := 0) (b := 0) (c := 0) (e := 0) (nd := nd) (e_nd := show G 31 = nd from (e_nd)) (ec := ec) (e_ec := show ecn A (G 31) = ec from e_ec) (sy := sy) (e_sy := show G 19 = sy from (e_sy))  (h_kind := ⟨(by decide), (by decide)⟩) (h_a := ⟨(by decide), (by decide)⟩) (h_b := ⟨(by decide), (by decide)⟩) (h_c := ⟨(by decide), (by decide)⟩) (h_e := ⟨(by decide), (by decide)⟩)  (p_0 := by omega) (p_1 := by omega) (p_2 := by omega)) (fun o V_q hq => ?_)
          obtain ⟨G932, A933, nd2_934, ec2_935, rfl, rfl, hW936, hF937, hQ938, e939, e940, p941, p942, p943, p944, -⟩ := hq
          have hF946 := Fr_tr hF0 hF937 (Fr_sub (by decide)) (Fr_sub (by decide))
          have hP947 := Pf_tr hP0 hQ938 (by omega)
          have hS948 := Fx_f hS0 hF937 (by decide)
          have hV949 := Fx_f hV0 hF937 (by decide)
          have bnd2_934 : (0 : Int) ≤ nd2_934 ∧ nd2_934 ≤ 6999 := e939 ▸ hW936.1 31
          refine .inr ⟨_, rfl, ?_⟩
          refine jx_ld (pc_q := 110) (l_q := jSto1 L7 2 (.int (i32 (nd)))) (st_q := []) rfl rfl ?_
          obtain ⟨L950, eL950⟩ : ∃ q, q = jSto1 L7 2 (.int (i32 (nd))) := ⟨_, rfl⟩
          rw [← eL950]
          have gL950_0 : jGet L950 0 = some (.ref 66) := eL950 ▸ jg_ne (by decide) gL7_0 rfl
          have gL950_1 : jGet L950 1 = some (.int (i32 (lv))) := eL950 ▸ jg_ne (by decide) gL7_1 rfl
          have gL950_3 : jGet L950 3 = some (.int (i32 (G 13))) := eL950 ▸ jg_ne (by decide) gL7_3 rfl
          have gL950_2 : jGet L950 2 = some (.int (i32 (nd))) := eL950 ▸ jg_eq
          refine jx_ld (pc_q := 111) (l_q := L950) (st_q := [.ref 66]) rfl (jl_aloadn gL950_0) ?_
          refine jx_vr (pc_q := 114) (as := []) (st := []) rfl rfl rfl rfl ⟨rfl, rfl, Nat.le_of_ble_eq_true rfl⟩ rfl rfl (c_next (dd := d) (hd := by omega) (hW := hW936)  (ln := ln) (e_ln := show G932 9 = ln from ((hF937.1 9 rfl).trans (e_ln))) (le := le) (e_le := show A933 4 (ln).toNat = le from (congrFun (hF937.2 4 rfl) _).trans (e_le)) (at0 := at0) (e_at0 := show G932 10 = at0 from ((hF937.1 10 rfl).trans (e_at0)))    (p_0 := by omega)) (fun o V_q hq => ?_)
          obtain ⟨G951, A952, at2_953, tk2_954, rfl, rfl, hW955, hF956, e957, e958, p959, p960, p961, -⟩ := hq
          have hF963 := Fr_tr hF946 hF956 (Fr_sub (by decide)) (Fr_sub (by decide))
          have hP964 := Pf_f hP947 hF956 (by decide)
          have hS965 := Fx_f hS948 hF956 (by decide)
          have hV966 := Fx_f hV949 hF956 (by decide)
          have sf967 : ND A952 (nd) (20) (0) (0) (0) (0) (0) (0) := ND_ag (by omega) (Ag_fr hF956 (by decide)) p943
          have sf968 : NdM A952 (nd) (nd + 1) (sy) := NdM_f hF956 (by decide) p944
          have ec969 : ecn A952 (G951 31) = ec2_935 := (ecn_f (hF956.2 15 rfl) (hF956.1 31 rfl)).trans e940
          have bat2_953 : (0 : Int) ≤ at2_953 ∧ at2_953 ≤ 3002 := e957 ▸ hW955.1 10
          have ztk2_954 := tz_b tk2_954
          have btk2_954 : (0 : Int) ≤ tk2_954 ∧ tk2_954 ≤ 5 := e958 ▸ hW955.1 11
          refine .inl ⟨rfl, ?_⟩
          have pz970 : at0 + tz tk2_954 ≤ at2_953 := by omega
          refine jx_ld (pc_q := 115) (l_q := L950) (st_q := [.ref 66]) rfl (jl_aloadn gL950_0) ?_
          refine jx_vr (pc_q := 118) (as := []) (st := []) rfl rfl rfl rfl ⟨rfl, rfl, Nat.le_of_ble_eq_true rfl⟩ rfl rfl (c_endLine (dd := d) (hd := by omega) (hW := hW955)  (ln := ln) (e_ln := show G951 9 = ln from ((hF956.1 9 rfl).trans ((hF937.1 9 rfl).trans (e_ln)))) (li := li) (e_li := show G951 3 = li from ((hF956.1 3 rfl).trans ((hF937.1 3 rfl).trans (e_li)))) (fk := fk) (e_fk := show G951 16 = fk from ((hF956.1 16 rfl).trans ((hF937.1 16 rfl).trans (e_fk)))) (tk0 := tk2_954) (e_tk0 := show G951 11 = tk2_954 from (e958))    (p_0 := by omega)) (fun o V_q hq => ?_)
          obtain ⟨G971, A972, ln2_973, fk2_974, rfl, rfl, hW975, hF976, e977, e978, q979⟩ := hq
          have hF980 := Fr_tr hF963 hF976 (Fr_sub (by decide)) (Fr_sub (by decide))
          have hP981 := Pf_f hP964 hF976 (by decide)
          have hS982 := Fx_f hS965 hF976 (by decide)
          have hV983 := Fx_f hV966 hF976 (by decide)
          have sf984 : ND A972 (nd) (20) (0) (0) (0) (0) (0) (0) := ND_ag (by omega) (Ag_fr hF976 (by decide)) sf967
          have sf985 : NdM A972 (nd) (nd + 1) (sy) := NdM_f hF976 (by decide) sf968
          have ec986 : ecn A972 (G971 31) = ec2_935 := (ecn_f (hF976.2 15 rfl) (hF976.1 31 rfl)).trans ec969
          have bln2_973 : (0 : Int) ≤ ln2_973 ∧ ln2_973 ≤ 3000 := e977 ▸ hW975.1 9
          have bfk2_974 : (0 : Int) ≤ fk2_974 ∧ fk2_974 ≤ 6 := e978 ▸ hW975.1 16
          refine .inl ⟨rfl, ?_⟩
          rcases q979 with ⟨a987, a988, a989, a990, a991⟩ | ⟨a992, a993⟩
          · have _q : True := trivial
            have b994 : (0 : Int) ≤ A 3 (ln2_973).toNat ∧ A 3 (ln2_973).toNat ≤ 3000 := hW.2 3 _
            have lt995 : ln2_973 < li → le < A 3 (ln2_973).toNat := fun hh => LT_nx (LT_ext (((hF976.1 3 rfl).trans ((hF956.1 3 rfl).trans (hF937.1 3 rfl)))) (((hF976.2 3 rfl).trans ((hF956.2 3 rfl).trans (hF937.2 3 rfl)))) (((hF976.2 4 rfl).trans ((hF956.2 4 rfl).trans (hF937.2 4 rfl)))) i_LT) (show G971 3 = li from ((hF976.1 3 rfl).trans ((hF956.1 3 rfl).trans ((hF937.1 3 rfl).trans (e_li))))) (show A972 4 (ln).toNat = le from (congrFun ((hF976.2 4 rfl).trans ((hF956.2 4 rfl).trans (hF937.2 4 rfl))) _).trans (e_le)) (show A972 3 (ln2_973).toNat = A 3 (ln2_973).toNat from (congrFun ((hF976.2 3 rfl).trans ((hF956.2 3 rfl).trans (hF937.2 3 rfl))) _)) (show ln2_973 = ln + 1 by omega) (by omega) hh
            refine jx_ld (pc_q := 119) (l_q := L950) (st_q := [.int (i32 (nd))]) rfl (jl_iloadn gL950_2) ?_
            refine jx_rt (v := some (.int (i32 (nd)))) rfl rfl rfl rfl rfl rfl ?_
            exact ⟨_, _, _, ln2_973, at2_953, fk2_974, nd2_934, sy, na, vi, A 3 (ln2_973).toNat, ec2_935, rfl, rfl, hW975, hF980, hP981, hS982, hV983, by omega, (e977), ((hF976.1 10 rfl).trans (e957)), (e978), ((hF976.1 31 rfl).trans ((hF956.1 31 rfl).trans (e939))), ((hF976.1 19 rfl).trans ((hF956.1 19 rfl).trans ((hF937.1 19 rfl).trans (e_sy)))), ((hF976.1 28 rfl).trans ((hF956.1 28 rfl).trans ((hF937.1 28 rfl).trans (e_na)))), ((hF976.1 29 rfl).trans ((hF956.1 29 rfl).trans ((hF937.1 29 rfl).trans (e_vi)))), (congrFun ((hF976.2 3 rfl).trans ((hF956.2 3 rfl).trans (hF937.2 3 rfl))) _), ec986, by omega, by omega, by omega, by omega, by omega, by omega, by omega, by omega, by omega, by omega, by first | exact Or.inr ((⟨by omega, by omega, by omega, by omega, by omega, by omega, by omega, (wS_skip sf984 (by omega) (by omega)), (NX_nd sf984), by omega, (NdO_w (NdO_m (r := nd) sf985) (by omega) (by omega) (by omega))⟩))⟩
          · have _q : True := trivial
            refine jx_ld (pc_q := 119) (l_q := L950) (st_q := [.int (i32 (nd))]) rfl (jl_iloadn gL950_2) ?_
            refine jx_rt (v := some (.int (i32 (nd)))) rfl rfl rfl rfl rfl rfl ?_
            exact ⟨_, _, _, ln2_973, at2_953, fk2_974, nd2_934, sy, na, vi, A 3 (ln2_973).toNat, ec2_935, rfl, rfl, hW975, hF980, hP981, hS982, hV983, by omega, (e977), ((hF976.1 10 rfl).trans (e957)), (e978), ((hF976.1 31 rfl).trans ((hF956.1 31 rfl).trans (e939))), ((hF976.1 19 rfl).trans ((hF956.1 19 rfl).trans ((hF937.1 19 rfl).trans (e_sy)))), ((hF976.1 28 rfl).trans ((hF956.1 28 rfl).trans ((hF937.1 28 rfl).trans (e_na)))), ((hF976.1 29 rfl).trans ((hF956.1 29 rfl).trans ((hF937.1 29 rfl).trans (e_vi)))), (congrFun ((hF976.2 3 rfl).trans ((hF956.2 3 rfl).trans (hF937.2 3 rfl))) _), ec986, by omega, by omega, by omega, by omega, by omega, by omega, by omega, by omega, by omega, by omega, by first | exact Or.inl (⟨by omega, by omega⟩)⟩
      · refine jx_swt (tg := 259) (by omega) (by omega) rfl h8 rfl ?_
        refine jx_ld (pc_q := 260) (l_q := L7) (st_q := [.ref 66]) rfl (jl_aloadn gL7_0) ?_
        refine jx_ar (pc_q := 261) (st_q := [.int (i32 (1)), .ref 66]) rfl rfl rfl rfl ?_
        refine jx_ld (pc_q := 262) (l_q := L7) (st_q := [.ref 66, .int (i32 (1)), .ref 66]) rfl (jl_aloadn gL7_0) ?_
        have b996 : (-3000 : Int) ≤ G 12 ∧ G 12 ≤ 3002 := hW.1 12
        refine jr_get (pc_q := 265) (i := 12) (v := .int (i32 (G 12))) rfl rfl (by decide) rfl rfl ?_
        refine jx_vr (pc_q := 268) (as := [.int (i32 (1)), .int (i32 (G 12))]) (st := []) rfl rfl rfl rfl ⟨rfl, rfl, Nat.le_of_ble_eq_true rfl⟩ rfl rfl (c_fail (dd := d) (hd := by omega) (hW := hW) (kind := 1) (place := G 12) (fk := fk) (e_fk := show G 16 = fk from (e_fk))  (h_kind := ⟨(by decide), (by decide)⟩) (h_place := ⟨(Int.le_trans (by decide : (-2147483648 : Int) ≤ -3000) b996.1), (Int.le_trans b996.2 (by decide : (3002 : Int) ≤ 2147483647))⟩)  (p_0 := by omega) (p_1 := by omega)) (fun o V_q hq => ?_)
        obtain ⟨G997, A998, fk2_999, rfl, rfl, hW1000, hF1001, e1002, p1003, -⟩ := hq
        have hF1005 := Fr_tr hF0 hF1001 (Fr_sub (by decide)) (Fr_sub (by decide))
        have hP1006 := Pf_f hP0 hF1001 (by decide)
        have hS1007 := Fx_f hS0 hF1001 (by decide)
        have hV1008 := Fx_f hV0 hF1001 (by decide)
        have ec1009 : ecn A998 (G997 31) = ec := (ecn_f (hF1001.2 15 rfl) (hF1001.1 31 rfl)).trans e_ec
        have bfk2_999 : (0 : Int) ≤ fk2_999 ∧ fk2_999 ≤ 6 := e1002 ▸ hW1000.1 16
        refine .inl ⟨rfl, ?_⟩
        refine jx_ar (pc_q := 269) (st_q := [.int (i32 (0))]) rfl rfl rfl rfl ?_
        refine jx_rt (v := some (.int (i32 (0)))) rfl rfl rfl rfl rfl rfl ?_
        exact ⟨_, _, _, ln, at0, fk2_999, nd, sy, na, vi, A 3 (ln).toNat, ec, rfl, rfl, hW1000, hF1005, hP1006, hS1007, hV1008, by omega, ((hF1001.1 9 rfl).trans (e_ln)), ((hF1001.1 10 rfl).trans (e_at0)), (e1002), ((hF1001.1 31 rfl).trans (e_nd)), ((hF1001.1 19 rfl).trans (e_sy)), ((hF1001.1 28 rfl).trans (e_na)), ((hF1001.1 29 rfl).trans (e_vi)), (congrFun (hF1001.2 3 rfl) _), ec1009, by omega, by omega, by omega, by omega, by omega, by omega, by omega, by omega, by omega, by omega, by first | exact Or.inl (⟨by omega, by omega⟩)⟩
    · have _q := h5
      refine jx_ld (pc_q := 24) (l_q := L1) (st_q := [.ref 66]) rfl (jl_aloadn gL1_0) ?_
      refine jx_ar (pc_q := 25) (st_q := [.int (i32 (1)), .ref 66]) rfl rfl rfl rfl ?_
      refine jx_ld (pc_q := 26) (l_q := L1) (st_q := [.ref 66, .int (i32 (1)), .ref 66]) rfl (jl_aloadn gL1_0) ?_
      have b1010 : (-3000 : Int) ≤ G 12 ∧ G 12 ≤ 3002 := hW.1 12
      refine jr_get (pc_q := 29) (i := 12) (v := .int (i32 (G 12))) rfl rfl (by decide) rfl rfl ?_
      refine jx_vr (pc_q := 32) (as := [.int (i32 (1)), .int (i32 (G 12))]) (st := []) rfl rfl rfl rfl ⟨rfl, rfl, Nat.le_of_ble_eq_true rfl⟩ rfl rfl (c_fail (dd := d) (hd := by omega) (hW := hW) (kind := 1) (place := G 12) (fk := fk) (e_fk := show G 16 = fk from (e_fk))  (h_kind := ⟨(by decide), (by decide)⟩) (h_place := ⟨(Int.le_trans (by decide : (-2147483648 : Int) ≤ -3000) b1010.1), (Int.le_trans b1010.2 (by decide : (3002 : Int) ≤ 2147483647))⟩)  (p_0 := by omega) (p_1 := by omega)) (fun o V_q hq => ?_)
      obtain ⟨G1011, A1012, fk2_1013, rfl, rfl, hW1014, hF1015, e1016, p1017, -⟩ := hq
      have hF1019 := Fr_tr hF0 hF1015 (Fr_sub (by decide)) (Fr_sub (by decide))
      have hP1020 := Pf_f hP0 hF1015 (by decide)
      have hS1021 := Fx_f hS0 hF1015 (by decide)
      have hV1022 := Fx_f hV0 hF1015 (by decide)
      have ec1023 : ecn A1012 (G1011 31) = ec := (ecn_f (hF1015.2 15 rfl) (hF1015.1 31 rfl)).trans e_ec
      have bfk2_1013 : (0 : Int) ≤ fk2_1013 ∧ fk2_1013 ≤ 6 := e1016 ▸ hW1014.1 16
      refine .inl ⟨rfl, ?_⟩
      refine jx_ar (pc_q := 33) (st_q := [.int (i32 (0))]) rfl rfl rfl rfl ?_
      refine jx_rt (v := some (.int (i32 (0)))) rfl rfl rfl rfl rfl rfl ?_
      exact ⟨_, _, _, ln, at0, fk2_1013, nd, sy, na, vi, A 3 (ln).toNat, ec, rfl, rfl, hW1014, hF1019, hP1020, hS1021, hV1022, by omega, ((hF1015.1 9 rfl).trans (e_ln)), ((hF1015.1 10 rfl).trans (e_at0)), (e1016), ((hF1015.1 31 rfl).trans (e_nd)), ((hF1015.1 19 rfl).trans (e_sy)), ((hF1015.1 28 rfl).trans (e_na)), ((hF1015.1 29 rfl).trans (e_vi)), (congrFun (hF1015.2 3 rfl) _), ec1023, by omega, by omega, by omega, by omega, by omega, by omega, by omega, by omega, by omega, by omega, by first | exact Or.inl (⟨by omega, by omega⟩)⟩
  · have _q := h3
    refine jx_ld (pc_q := 11) (l_q := L1) (st_q := [.ref 66]) rfl (jl_aloadn gL1_0) ?_
    refine jx_vr (pc_q := 14) (as := []) (st := []) rfl rfl rfl rfl ⟨rfl, rfl, Nat.le_of_ble_eq_true rfl⟩ rfl rfl (c_readNamed_w (dd := d) (hd := by omega) (hW := hW)  (ln := ln) (e_ln := show G 9 = ln from (e_ln)) (le := le) (e_le := show A 4 (ln).toNat = le from (e_le)) (at0 := at0) (e_at0 := show G 10 = at0 from (e_at0)) (fk := fk) (e_fk := show G 16 = fk from (e_fk)) (op0 := op0) (e_op0 := show G 15 = op0 from (e_op0)) (nd := nd) (e_nd := show G 31 = nd from (e_nd)) (tk0 := tk0) (e_tk0 := show G 11 = tk0 from (e_tk0)) (li := li) (e_li := show G 3 = li from (e_li)) (ec := ec) (e_ec := show ecn A (G 31) = ec from e_ec) (sy := sy) (e_sy := show G 19 = sy from (e_sy)) (i_SV := (SV_fx i_SV e_vi (show G 29 = vi from (e_vi)) (by omega) hV0)) (i_PQ := (PQ_fx i_PQ hS0 (by omega) (hF0.2 29 rfl) (hF0.2 30 rfl)))   (p_0 := by omega) (p_1 := by omega) (p_2 := by omega) (p_3 := by omega) (p_4 := by omega) (p_5 := by omega)) (fun o V_q hq => ?_)
    obtain ⟨G1024, A1025, r1026, at2_1027, fk2_1028, nd2_1029, ln2_1030, ec2_1031, rfl, rfl, hW1032, hF1033, hQ1034, b1035, e1036, e1037, e1038, e1039, e1040, p1041, p1042, p1043, p1044, p1045, q1046⟩ := hq
    have hF1047 := Fr_tr hF0 hF1033 (Fr_sub (by decide)) (Fr_sub (by decide))
    have hP1048 := Pf_tr hP0 hQ1034 (by omega)
    have hS1049 := Fx_f hS0 hF1033 (by decide)
    have hV1050 := Fx_f hV0 hF1033 (by decide)
    have bat2_1027 : (0 : Int) ≤ at2_1027 ∧ at2_1027 ≤ 3002 := e1036 ▸ hW1032.1 10
    have bfk2_1028 : (0 : Int) ≤ fk2_1028 ∧ fk2_1028 ≤ 6 := e1037 ▸ hW1032.1 16
    have bnd2_1029 : (0 : Int) ≤ nd2_1029 ∧ nd2_1029 ≤ 6999 := e1038 ▸ hW1032.1 31
    have bln2_1030 : (0 : Int) ≤ ln2_1030 ∧ ln2_1030 ≤ 3000 := e1039 ▸ hW1032.1 9
    refine .inr ⟨_, rfl, ?_⟩
    rcases q1046 with ⟨a1051, a1052, a1053⟩ | ⟨a1054, a1055, a1056, a1057, a1058, a1059, a1060, a1061, a1062⟩
    · have _q : True := trivial
      refine jx_rt (v := some (.int (i32 (r1026)))) rfl rfl rfl rfl rfl rfl ?_
      exact ⟨_, _, _, ln2_1030, at2_1027, fk2_1028, nd2_1029, sy, na, vi, A 3 (ln2_1030).toNat, ec2_1031, rfl, rfl, hW1032, hF1047, hP1048, hS1049, hV1050, by omega, (e1039), (e1036), (e1037), (e1038), ((hF1033.1 19 rfl).trans (e_sy)), ((hF1033.1 28 rfl).trans (e_na)), ((hF1033.1 29 rfl).trans (e_vi)), (congrFun (hF1033.2 3 rfl) _), e1040, by omega, by omega, by omega, by omega, by omega, by omega, by omega, by omega, by omega, by omega, by first | exact Or.inl (⟨by omega, by omega⟩)⟩
    · have _q : True := trivial
      have b1063 : (0 : Int) ≤ A 3 (ln2_1030).toNat ∧ A 3 (ln2_1030).toNat ≤ 3000 := hW.2 3 _
      have lt1064 : ln2_1030 < li → le < A 3 (ln2_1030).toNat := fun hh => LT_nx (LT_ext ((hF1033.1 3 rfl)) ((hF1033.2 3 rfl)) ((hF1033.2 4 rfl)) i_LT) (show G1024 3 = li from ((hF1033.1 3 rfl).trans (e_li))) (show A1025 4 (ln).toNat = le from (congrFun (hF1033.2 4 rfl) _).trans (e_le)) (show A1025 3 (ln2_1030).toNat = A 3 (ln2_1030).toNat from (congrFun (hF1033.2 3 rfl) _)) (show ln2_1030 = ln + 1 by omega) (by omega) hh
      refine jx_rt (v := some (.int (i32 (r1026)))) rfl rfl rfl rfl rfl rfl ?_
      exact ⟨_, _, _, ln2_1030, at2_1027, fk2_1028, nd2_1029, sy, na, vi, A 3 (ln2_1030).toNat, ec2_1031, rfl, rfl, hW1032, hF1047, hP1048, hS1049, hV1050, by omega, (e1039), (e1036), (e1037), (e1038), ((hF1033.1 19 rfl).trans (e_sy)), ((hF1033.1 28 rfl).trans (e_na)), ((hF1033.1 29 rfl).trans (e_vi)), (congrFun (hF1033.2 3 rfl) _), e1040, by omega, by omega, by omega, by omega, by omega, by omega, by omega, by omega, by omega, by omega, by first | exact Or.inr ((⟨by omega, by omega, by omega, by omega, by omega, by omega, by omega, (wS_leaf (wL_eq a1059 (by omega) (by omega)) (by omega) (by omega)), a1060, by omega, (NdO_w (NdO_m (r := r1026) a1062) (by omega) (by omega) (by omega))⟩))⟩
