set_option maxRecDepth 20000 in
set_option maxHeartbeats 4000000 in
theorem c_readProc_w_at_327p {X : jX} {d : Nat} {Vs : Nat → Prop} {sb pb : Int} (hvb : VB Vs sb) {c0 c1 : jC} {G : Nat → Int} {A : Nat → Nat → Int} {T : jH} {ln li at0 fk nd sy na vi le op0 tk0 pc0 ec : Int} (hd : 8 * 18 + 81 ≤ d + 1) (hW : Wk G A) (e_ln : G 9 = ln) (e_li : G 3 = li) (e_at0 : G 10 = at0) (e_fk : G 16 = fk) (e_nd : G 31 = nd) (e_sy : G 19 = sy) (e_na : G 28 = na) (e_vi : G 29 = vi) (e_le : A 4 (ln).toNat = le) (e_op0 : G 15 = op0) (e_tk0 : G 11 = tk0) (e_pc0 : G 46 = pc0) (e_ec : ecn A (G 31) = ec) (i_LT : LT G A) (i_SV : SV Vs sb G A) (i_PQ : PQ Vs sb pb G A) (p_0 : fk = 0) (p_1 : ln < li) (p_2 : at0 ≤ le) (p_3 : nd ≤ 2 * at0 - tz tk0 + 30) (p_4 : sy ≤ na + 2) (p_5 : vi ≤ sy) (p_6 : sb ≤ sy) (p_7 : pb = pc0) (p_8 : wQ A (pc0).toNat (nd) (sy)) (p_9 : VT (Vs) A (sy)) : ∀ (L : jL) (Gx : Nat → Int) (Ax : Nat → Nat → Int) (p ln1 fk1 sy1 na1 ec1 : Int), jGet L 0 = some (.ref 66) → jGet L 1 = some (.int (i32 p)) → Wk Gx Ax → Fr [9, 10, 11, 12, 13, 14, 15, 16, 17, 18, 19, 28, 29, 31, 46] [6, 7, 8, 9, 10, 11, 12, 14, 15, 16, 17, 18, 19, 20, 21, 22, 23, 24, 28, 29, 30, 31] G A Gx Ax → Pf nd A Ax → Fx sr (sy) A Ax → Fx [14] (vi) A Ax → Fx [29, 30, 31] (pc0) A Ax → Gx 9 = ln1 → Gx 16 = fk1 → Gx 19 = sy1 → Gx 28 = na1 → ecn Ax (Gx 31) = ec1 → Gx 29 = vi → Gx 46 = pc0 → ((-2147483648 : Int) ≤ p ∧ p ≤ 2147483647) → (1 ≤ fk1) → (ln ≤ ln1) → (ln1 ≤ li) → (sy + 1 ≤ sy1) → (sy1 ≤ na1 + 2) → (p = sy) → (pc0 ≤ 23) → wj X d jm308 (327, L, [], rV c0 c1 Gx Ax T) (fun o V_q => ∃ (G_q : Nat → Int) (A_q : Nat → Nat → Int) (ln2 : Int) (at2 : Int) (fk2 : Int) (nd2 : Int) (sy2 : Int) (na2 : Int) (vi2 : Int) (lf2 : Int) (pc2 : Int) (ec2 : Int), V_q = rV c0 c1 G_q A_q T ∧ o = .inl none ∧ Wk G_q A_q ∧ Fr [9, 10, 11, 12, 13, 14, 15, 16, 17, 18, 19, 28, 29, 31, 46] [6, 7, 8, 9, 10, 11, 12, 14, 15, 16, 17, 18, 19, 20, 21, 22, 23, 24, 28, 29, 30, 31] G A G_q A_q ∧ Pf nd A A_q ∧ Fx sr (sy) A A_q ∧ Fx [14] (vi) A A_q ∧ Fx [29, 30, 31] (pc0) A A_q ∧ G_q 9 = ln2 ∧ G_q 10 = at2 ∧ G_q 16 = fk2 ∧ G_q 31 = nd2 ∧ G_q 19 = sy2 ∧ G_q 28 = na2 ∧ G_q 29 = vi2 ∧ A_q 3 (ln2).toNat = lf2 ∧ G_q 46 = pc2 ∧ ecn A_q (G_q 31) = ec2 ∧ (sy2 ≤ na2 + 2) ∧ (vi2 ≤ sy2) ∧ (ln ≤ ln2) ∧ (ln2 ≤ li) ∧ (((1 ≤ fk2)) ∨ ((fk2 = 0) ∧ (ln < ln2) ∧ (at0 ≤ at2) ∧ (pc2 = pc0 + 1) ∧ (nd2 - nd ≤ 2 * at2 - (2 * at0 - tz tk0)) ∧ (at2 < lf2 ∨ li ≤ ln2) ∧ (vi2 = vi + 1) ∧ (sy < sy2) ∧ (wQ A_q (pc2).toNat (nd2) (sy2)) ∧ (SW (Vu Vs sy) (sy2) (vi2) A_q) ∧ (PQ (Vu Vs sy) (sy2) (pc2) (fun _ => 0) A_q) ∧ (VT (Vu Vs sy) A_q (sy2)) ∧ (nd2 - nd + 5 * (ec2 - ec) ≤ 2 * at2 - (2 * at0 - tz tk0)) ∧ (NdM A_q (nd) (nd2) (sy))))) := by
  have hF0 : Fr [9, 10, 11, 12, 13, 14, 15, 16, 17, 18, 19, 28, 29, 31, 46] [6, 7, 8, 9, 10, 11, 12, 14, 15, 16, 17, 18, 19, 20, 21, 22, 23, 24, 28, 29, 30, 31] G A G A := Fr_rf
  have hP0 : Pf nd A A := Pf_rf
  have hS0 : Fx sr (sy) A A := Fx_rf
  have hV0 : Fx [14] (vi) A A := Fx_rf
  have hK0 : Fx [29, 30, 31] (pc0) A A := Fx_rf
  have b_ln : (0 : Int) ≤ ln ∧ ln ≤ 3000 := e_ln ▸ hW.1 9
  have b_li : (0 : Int) ≤ li ∧ li ≤ 3000 := e_li ▸ hW.1 3
  have b_at0 : (0 : Int) ≤ at0 ∧ at0 ≤ 3002 := e_at0 ▸ hW.1 10
  have b_fk : (0 : Int) ≤ fk ∧ fk ≤ 6 := e_fk ▸ hW.1 16
  have b_nd : (0 : Int) ≤ nd ∧ nd ≤ 6999 := e_nd ▸ hW.1 31
  have b_sy : (0 : Int) ≤ sy ∧ sy ≤ 202 := e_sy ▸ hW.1 19
  have b_na : (0 : Int) ≤ na ∧ na ≤ 200 := e_na ▸ hW.1 28
  have b_vi : (0 : Int) ≤ vi ∧ vi ≤ 202 := e_vi ▸ hW.1 29
  have b_le : (0 : Int) ≤ le ∧ le ≤ 3000 := e_le ▸ hW.2 4 _
  have b_op0 : (-2147483648 : Int) ≤ op0 ∧ op0 ≤ 2147483647 := e_op0 ▸ hW.1 15
  have z_tk0 := tz_f tk0
  have b_tk0 : (0 : Int) ≤ tk0 ∧ tk0 ≤ 5 := e_tk0 ▸ hW.1 11
  have b_pc0 : (0 : Int) ≤ pc0 ∧ pc0 ≤ 24 := e_pc0 ▸ hW.1 46
  intro L Gx Ax p ln1 fk1 sy1 na1 ec1 gL_0 gL_1 hWx hFx hPx hSx hVx hKx ex_ln1 ex_fk1 ex_sy1 ex_na1 ex_ec1 fx_29 fx_46 rx_p iv_0 iv_1 iv_2 iv_3 iv_4 iv_5 iv_6
  have b_ln1 : (0 : Int) ≤ ln1 ∧ ln1 ≤ 3000 := ex_ln1 ▸ hWx.1 9
  have b_fk1 : (0 : Int) ≤ fk1 ∧ fk1 ≤ 6 := ex_fk1 ▸ hWx.1 16
  have b_sy1 : (0 : Int) ≤ sy1 ∧ sy1 ≤ 202 := ex_sy1 ▸ hWx.1 19
  have b_na1 : (0 : Int) ≤ na1 ∧ na1 ≤ 200 := ex_na1 ▸ hWx.1 28
  refine jx_ld (pc_q := 328) (l_q := L) (st_q := [.ref 66]) rfl (jl_aloadn gL_0) ?_
  refine jx_ld (pc_q := 329) (l_q := L) (st_q := [.int (i32 (p)), .ref 66]) rfl (jl_iloadn gL_1) ?_
  refine jx_vr (pc_q := 332) (as := [.int (i32 (p))]) (st := []) rfl rfl rfl rfl ⟨rfl, rfl, Nat.le_of_ble_eq_true rfl⟩ rfl rfl (c_show (dd := d) (hd := by omega) (hW := hWx) (s := p) (vi := vi) (e_vi := show Gx 29 = vi from (fx_29))  (h_s := ⟨(Int.le_trans (by decide : (-2147483648 : Int) ≤ -2147483648) rx_p.1), (Int.le_trans rx_p.2 (by decide : (2147483647 : Int) ≤ 2147483647))⟩)  (p_0 := by omega) (p_1 := by omega)) (fun o V_q hq => ?_)
  obtain ⟨G1, A2, vi2_3, sv2_4, rfl, rfl, hW5, hF6, hQ7, e8, e9, p10, p11, -⟩ := hq
  have hF13 := Fr_tr hFx hF6 (Fr_sub (by decide)) (Fr_sub (by decide))
  have hP14 := Pf_f hPx hF6 (by decide)
  have hS15 := Fx_f hSx hF6 (by decide)
  have hV16 := Fx_tr hVx hQ7 (by omega)
  have hK17 := Fx_f hKx hF6 (by decide)
  have ec18 : ecn A2 (G1 31) = ec1 := (ecn_f (hF6.2 15 rfl) (hF6.1 31 rfl)).trans ex_ec1
  have bvi2_3 : (0 : Int) ≤ vi2_3 ∧ vi2_3 ≤ 202 := e8 ▸ hW5.1 29
  have bsv2_4 : (0 : Int) ≤ sv2_4 ∧ sv2_4 ≤ 201 := e9 ▸ hW5.2 14 _
  refine .inl ⟨rfl, ?_⟩
  refine jx_ld (pc_q := 333) (l_q := L) (st_q := [.ref 66]) rfl (jl_aloadn gL_0) ?_
  refine jx_ar (pc_q := 334) (st_q := [.ref 66, .ref 66]) rfl rfl rfl rfl ?_
  refine jr_get (pc_q := 337) (i := 46) (v := .int (i32 (pc0))) rfl rfl (by decide) (rFv_eq (by decide) (show G1 46 = pc0 from ((hF6.1 46 rfl).trans (fx_46)))) rfl ?_
  refine jx_ar (pc_q := 338) (st_q := [.int (i32 (1)), .int (i32 (pc0)), .ref 66]) rfl rfl rfl rfl ?_
  refine jx_add (pc_q := 339) rfl rfl ?_
  refine jr_put (pc_q := 342) (i := 46) (z := (pc0 + 1)) rfl rfl (by decide) rfl rfl rfl rfl rfl rfl ?_
  have hW19 : Wk (uG G1 46 ((pc0 + 1))) A2 := Wk_g hW5 (show (0 : Int) ≤ (pc0 + 1) by omega) (show (pc0 + 1) ≤ (24 : Int) by omega)
  have hF20 := Fr_g (z := (pc0 + 1)) (i := 46) hF13 (by decide)
  have ec21 : ecn A2 ((uG G1 46 ((pc0 + 1))) 31) = ec1 := ec18
  refine jx_rt (v := none) rfl rfl rfl rfl rfl rfl ?_
  exact ⟨_, _, ln1, Gx 10, fk1, Gx 31, sy1, na1, vi2_3, A 3 (ln1).toNat, (pc0 + 1), ec1, rfl, rfl, hW19, hF20, hP14, hS15, hV16, hK17, ((hF6.1 9 rfl).trans (ex_ln1)), (hF6.1 10 rfl), ((hF6.1 16 rfl).trans (ex_fk1)), (hF6.1 31 rfl), ((hF6.1 19 rfl).trans (ex_sy1)), ((hF6.1 28 rfl).trans (ex_na1)), (e8), (congrFun ((hF6.2 3 rfl).trans (hFx.2 3 rfl)) _), rfl, ec21, by omega, by omega, by omega, by omega, by first | exact Or.inl (by omega)⟩
set_option maxRecDepth 20000 in
set_option maxHeartbeats 4000000 in
theorem c_readProc_w_at_253 {X : jX} {d : Nat} {Vs : Nat → Prop} {sb pb : Int} (hvb : VB Vs sb) {c0 c1 : jC} {G : Nat → Int} {A : Nat → Nat → Int} {T : jH} {ln li at0 fk nd sy na vi le op0 tk0 pc0 ec : Int} (hd : 8 * 18 + 81 ≤ d + 1) (hW : Wk G A) (e_ln : G 9 = ln) (e_li : G 3 = li) (e_at0 : G 10 = at0) (e_fk : G 16 = fk) (e_nd : G 31 = nd) (e_sy : G 19 = sy) (e_na : G 28 = na) (e_vi : G 29 = vi) (e_le : A 4 (ln).toNat = le) (e_op0 : G 15 = op0) (e_tk0 : G 11 = tk0) (e_pc0 : G 46 = pc0) (e_ec : ecn A (G 31) = ec) (i_LT : LT G A) (i_SV : SV Vs sb G A) (i_PQ : PQ Vs sb pb G A) (p_0 : fk = 0) (p_1 : ln < li) (p_2 : at0 ≤ le) (p_3 : nd ≤ 2 * at0 - tz tk0 + 30) (p_4 : sy ≤ na + 2) (p_5 : vi ≤ sy) (p_6 : sb ≤ sy) (p_7 : pb = pc0) (p_8 : wQ A (pc0).toNat (nd) (sy)) (p_9 : VT (Vs) A (sy)) : ∀ (m : Nat) (L : jL) (Gx : Nat → Int) (Ax : Nat → Nat → Int) (p many kk ln1 at1 fk1 sy1 na1 vi1 pp1 mp1 kp1 np1 lf1 : Int), (many - kk).toNat = m → jGet L 0 = some (.ref 66) → jGet L 4 = some (.int (i32 (vi))) → jGet L 1 = some (.int (i32 p)) → jGet L 2 = some (.int (i32 many)) → jGet L 5 = some (.int (i32 kk)) → Wk Gx Ax → Fr [9, 10, 11, 12, 13, 14, 15, 16, 17, 18, 19, 28, 29, 31, 46] [6, 7, 8, 9, 10, 11, 12, 14, 15, 16, 17, 18, 19, 20, 21, 22, 23, 24, 28, 29, 30, 31] G A Gx Ax → Pf nd A Ax → Fx sr (sy) A Ax → Fx [14] (vi) A Ax → Fx [29, 30, 31] (pc0) A Ax → Gx 9 = ln1 → Gx 10 = at1 → Gx 16 = fk1 → Gx 19 = sy1 → Gx 28 = na1 → Gx 29 = vi1 → Ax 29 (pc0).toNat = pp1 → Ax 30 (pc0).toNat = mp1 → Ax 7 (sy).toNat = kp1 → Ax 12 (sy).toNat = np1 → Ax 3 (ln1).toNat = lf1 → Gx 46 = pc0 → Gx 31 = nd → ecn Ax (Gx 31) = ec → ((-2147483648 : Int) ≤ p ∧ p ≤ 2147483647) → ((-2147483648 : Int) ≤ many ∧ many ≤ 2147483647) → ((-2147483648 : Int) ≤ kk ∧ kk ≤ 2147483647) → (fk1 = 0) → (ln1 = ln + 1) → (at0 ≤ at1) → (at1 < lf1 ∨ li ≤ ln1) → (sy1 = sy + 1 + many) → (sy1 ≤ na1 + 2) → (vi1 = vi + kk) → (0 ≤ kk ∧ kk ≤ many) → (many ≤ 6) → (mp1 = many) → (wM Ax (sy + 1) (many)) → (DS Ax (vi) (vi1) (sy + 1) (sy1)) → (kp1 = 14) → (np1 = pc0) → (pp1 = sy + 1) → (p = sy) → (pc0 ≤ 23) → wj X d jm308 (253, L, [], rV c0 c1 Gx Ax T) (fun o V_q => ∃ (G_q : Nat → Int) (A_q : Nat → Nat → Int) (ln2 : Int) (at2 : Int) (fk2 : Int) (nd2 : Int) (sy2 : Int) (na2 : Int) (vi2 : Int) (lf2 : Int) (pc2 : Int) (ec2 : Int), V_q = rV c0 c1 G_q A_q T ∧ o = .inl none ∧ Wk G_q A_q ∧ Fr [9, 10, 11, 12, 13, 14, 15, 16, 17, 18, 19, 28, 29, 31, 46] [6, 7, 8, 9, 10, 11, 12, 14, 15, 16, 17, 18, 19, 20, 21, 22, 23, 24, 28, 29, 30, 31] G A G_q A_q ∧ Pf nd A A_q ∧ Fx sr (sy) A A_q ∧ Fx [14] (vi) A A_q ∧ Fx [29, 30, 31] (pc0) A A_q ∧ G_q 9 = ln2 ∧ G_q 10 = at2 ∧ G_q 16 = fk2 ∧ G_q 31 = nd2 ∧ G_q 19 = sy2 ∧ G_q 28 = na2 ∧ G_q 29 = vi2 ∧ A_q 3 (ln2).toNat = lf2 ∧ G_q 46 = pc2 ∧ ecn A_q (G_q 31) = ec2 ∧ (sy2 ≤ na2 + 2) ∧ (vi2 ≤ sy2) ∧ (ln ≤ ln2) ∧ (ln2 ≤ li) ∧ (((1 ≤ fk2)) ∨ ((fk2 = 0) ∧ (ln < ln2) ∧ (at0 ≤ at2) ∧ (pc2 = pc0 + 1) ∧ (nd2 - nd ≤ 2 * at2 - (2 * at0 - tz tk0)) ∧ (at2 < lf2 ∨ li ≤ ln2) ∧ (vi2 = vi + 1) ∧ (sy < sy2) ∧ (wQ A_q (pc2).toNat (nd2) (sy2)) ∧ (SW (Vu Vs sy) (sy2) (vi2) A_q) ∧ (PQ (Vu Vs sy) (sy2) (pc2) (fun _ => 0) A_q) ∧ (VT (Vu Vs sy) A_q (sy2)) ∧ (nd2 - nd + 5 * (ec2 - ec) ≤ 2 * at2 - (2 * at0 - tz tk0)) ∧ (NdM A_q (nd) (nd2) (sy))))) := by
  have hF0 : Fr [9, 10, 11, 12, 13, 14, 15, 16, 17, 18, 19, 28, 29, 31, 46] [6, 7, 8, 9, 10, 11, 12, 14, 15, 16, 17, 18, 19, 20, 21, 22, 23, 24, 28, 29, 30, 31] G A G A := Fr_rf
  have hP0 : Pf nd A A := Pf_rf
  have hS0 : Fx sr (sy) A A := Fx_rf
  have hV0 : Fx [14] (vi) A A := Fx_rf
  have hK0 : Fx [29, 30, 31] (pc0) A A := Fx_rf
  have b_ln : (0 : Int) ≤ ln ∧ ln ≤ 3000 := e_ln ▸ hW.1 9
  have b_li : (0 : Int) ≤ li ∧ li ≤ 3000 := e_li ▸ hW.1 3
  have b_at0 : (0 : Int) ≤ at0 ∧ at0 ≤ 3002 := e_at0 ▸ hW.1 10
  have b_fk : (0 : Int) ≤ fk ∧ fk ≤ 6 := e_fk ▸ hW.1 16
  have b_nd : (0 : Int) ≤ nd ∧ nd ≤ 6999 := e_nd ▸ hW.1 31
  have b_sy : (0 : Int) ≤ sy ∧ sy ≤ 202 := e_sy ▸ hW.1 19
  have b_na : (0 : Int) ≤ na ∧ na ≤ 200 := e_na ▸ hW.1 28
  have b_vi : (0 : Int) ≤ vi ∧ vi ≤ 202 := e_vi ▸ hW.1 29
  have b_le : (0 : Int) ≤ le ∧ le ≤ 3000 := e_le ▸ hW.2 4 _
  have b_op0 : (-2147483648 : Int) ≤ op0 ∧ op0 ≤ 2147483647 := e_op0 ▸ hW.1 15
  have z_tk0 := tz_f tk0
  have b_tk0 : (0 : Int) ≤ tk0 ∧ tk0 ≤ 5 := e_tk0 ▸ hW.1 11
  have b_pc0 : (0 : Int) ≤ pc0 ∧ pc0 ≤ 24 := e_pc0 ▸ hW.1 46
  intro m
  induction m using Nat.strongRecOn with
  | ind m ih253 =>
    intro L Gx Ax p many kk ln1 at1 fk1 sy1 na1 vi1 pp1 mp1 kp1 np1 lf1 hm gL_0 gL_4 gL_1 gL_2 gL_5 hWx hFx hPx hSx hVx hKx ex_ln1 ex_at1 ex_fk1 ex_sy1 ex_na1 ex_vi1 ex_pp1 ex_mp1 ex_kp1 ex_np1 ex_lf1 fx_46 fx_31 fx_900 rx_p rx_many rx_kk iv_0 iv_1 iv_2 iv_3 iv_4 iv_5 iv_6 iv_7 iv_8 iv_9 iv_10 iv_11 iv_12 iv_13 iv_14 iv_15 iv_16
    have b_ln1 : (0 : Int) ≤ ln1 ∧ ln1 ≤ 3000 := ex_ln1 ▸ hWx.1 9
    have b_at1 : (0 : Int) ≤ at1 ∧ at1 ≤ 3002 := ex_at1 ▸ hWx.1 10
    have b_fk1 : (0 : Int) ≤ fk1 ∧ fk1 ≤ 6 := ex_fk1 ▸ hWx.1 16
    have b_sy1 : (0 : Int) ≤ sy1 ∧ sy1 ≤ 202 := ex_sy1 ▸ hWx.1 19
    have b_na1 : (0 : Int) ≤ na1 ∧ na1 ≤ 200 := ex_na1 ▸ hWx.1 28
    have b_vi1 : (0 : Int) ≤ vi1 ∧ vi1 ≤ 202 := ex_vi1 ▸ hWx.1 29
    refine jx_ld (pc_q := 255) (l_q := L) (st_q := [.int (i32 (kk))]) rfl (jl_iload gL_5) ?_
    refine jx_ld (pc_q := 256) (l_q := L) (st_q := [.int (i32 (many)), .int (i32 (kk))]) rfl (jl_iloadn gL_2) ?_
    refine jx_icmp_ge (pc_q := 259) (tg := 281) rfl rfl rfl (Int.le_trans (by decide : (-2147483648 : Int) ≤ -2147483648) rx_kk.1) (Int.le_trans rx_kk.2 (by decide : (2147483647 : Int) ≤ 2147483647)) (Int.le_trans (by decide : (-2147483648 : Int) ≤ -2147483648) rx_many.1) (Int.le_trans rx_many.2 (by decide : (2147483647 : Int) ≤ 2147483647)) (fun h22 => ?_) (fun h22 => ?_)
    · have _q := h22
      refine jx_ld (pc_q := 282) (l_q := L) (st_q := [.ref 66]) rfl (jl_aloadn gL_0) ?_
      refine jr_get (pc_q := 285) (i := 49) (v := .ref 98) rfl rfl (by decide) rfl rfl ?_
      refine jx_ld (pc_q := 286) (l_q := L) (st_q := [.ref 66, .ref 98]) rfl (jl_aloadn gL_0) ?_
      refine jr_get (pc_q := 289) (i := 46) (v := .int (i32 (pc0))) rfl rfl (by decide) (rFv_eq (by decide) (show Gx 46 = pc0 from (fx_46))) rfl ?_
      refine jx_ld (pc_q := 290) (l_q := L) (st_q := [.ref 66, .int (i32 (pc0)), .ref 98]) rfl (jl_aloadn gL_0) ?_
      refine jx_ar (pc_q := 291) (st_q := [.int (i32 (1)), .ref 66, .int (i32 (pc0)), .ref 98]) rfl rfl rfl rfl ?_
      refine jx_vr (pc_q := 294) (as := [.int (i32 (1))]) (st := [.int (i32 (pc0)), .ref 98]) rfl rfl rfl rfl ⟨rfl, rfl, Nat.le_of_ble_eq_true rfl⟩ rfl rfl (RPw_all X 18 (dd := d) (hd := by omega) (hW := hWx) (lv := 1) (at0 := at1) (ln := ln1) (e_ln := show Gx 9 = ln1 from (ex_ln1)) (li := li) (e_li := show Gx 3 = li from ((hFx.1 3 rfl).trans (e_li))) (fk := fk1) (e_fk := show Gx 16 = fk1 from (ex_fk1)) (nd := nd) (e_nd := show Gx 31 = nd from (fx_31)) (sy := sy1) (e_sy := show Gx 19 = sy1 from (ex_sy1)) (na := na1) (e_na := show Gx 28 = na1 from (ex_na1)) (vi := vi1) (e_vi := show Gx 29 = vi1 from (ex_vi1)) (lf := lf1) (e_lf := show Ax 3 (ln1).toNat = lf1 from (ex_lf1)) (ac := at1) (e_ac := show Gx 10 = at1 from (ex_at1)) (ec := ec) (e_ec := show ecn Ax (Gx 31) = ec from fx_900) (i_LT := (LT_ext ((hFx.1 3 rfl)) ((hFx.2 3 rfl)) ((hFx.2 4 rfl)) i_LT)) (i_SV := (SV_dec (s0 := (sy + 1)) (s1 := sy1) i_SV e_vi (show Gx 29 = vi1 from (ex_vi1)) (by omega) hVx iv_11 (by omega))) (i_PQ := (PQ_par (s0 := (sy + 1)) (s1 := sy1) i_PQ hSx (by omega) (by omega) (Fx_su hKx (by omega)) (by omega) (wM_m iv_10 (by omega)) hvb)) (hvb := (VB_d (s0 := (sy + 1)) (s1 := sy1) hvb (by omega))) (h_lv := ⟨(by decide), (by decide)⟩)  (p_0 := by omega) (p_1 := by omega) (p_2 := by omega) (p_3 := by omega) (p_4 := by omega) (p_5 := by omega) (p_6 := by omega) (p_7 := by omega) (p_8 := by omega) (p_9 := by omega) (p_10 := by omega)) (fun o V_q hq => ?_)
      obtain ⟨G23, A24, r25, ln2_26, at2_27, fk2_28, nd2_29, sy2_30, na2_31, vi2_32, lf2_33, ec2_34, rfl, rfl, hW35, hF36, hQ37, hQ38, hQ39, b40, e41, e42, e43, e44, e45, e46, e47, e48, e49, p50, p51, p52, p53, p54, p55, p56, p57, p58, q59⟩ := hq
      have hF60 := Fr_tr hFx hF36 (Fr_sub (by decide)) (Fr_sub (by decide))
      have hP61 := Pf_tr hPx hQ37 (by omega)
      have hS62 := Fx_tr hSx hQ38 (by omega)
      have hV63 := Fx_tr hVx hQ39 (by omega)
      have hK64 := Fx_f hKx hF36 (by decide)
      have k65 : A24 7 (sy).toNat = kp1 := (hQ38 7 _ rfl (by omega)).trans (show Ax 7 (sy).toNat = kp1 from (ex_kp1))
      have k66 : A24 12 (sy).toNat = np1 := (hQ38 12 _ rfl (by omega)).trans (show Ax 12 (sy).toNat = np1 from (ex_np1))
      have sf67 : wM A24 (sy + 1) (many) := wM_fx hQ38 (by omega) (by omega) iv_10
      have sf68 : DS A24 (vi) (vi1) (sy + 1) (sy1) := DS_fx hQ39 (by omega) iv_11
      have bln2_26 : (0 : Int) ≤ ln2_26 ∧ ln2_26 ≤ 3000 := e41 ▸ hW35.1 9
      have bat2_27 : (0 : Int) ≤ at2_27 ∧ at2_27 ≤ 3002 := e42 ▸ hW35.1 10
      have bfk2_28 : (0 : Int) ≤ fk2_28 ∧ fk2_28 ≤ 6 := e43 ▸ hW35.1 16
      have bnd2_29 : (0 : Int) ≤ nd2_29 ∧ nd2_29 ≤ 6999 := e44 ▸ hW35.1 31
      have bsy2_30 : (0 : Int) ≤ sy2_30 ∧ sy2_30 ≤ 202 := e45 ▸ hW35.1 19
      have bna2_31 : (0 : Int) ≤ na2_31 ∧ na2_31 ≤ 200 := e46 ▸ hW35.1 28
      have bvi2_32 : (0 : Int) ≤ vi2_32 ∧ vi2_32 ≤ 202 := e47 ▸ hW35.1 29
      have blf2_33 : (0 : Int) ≤ lf2_33 ∧ lf2_33 ≤ 3000 := e48 ▸ hW35.2 3 _
      refine .inr ⟨_, rfl, ?_⟩
      rcases q59 with ⟨a69, a70⟩ | ⟨a71, a72, a73, a74, a75, a76, a77, a78, a79, a80⟩
      · have _q : True := trivial
        refine jr_st (pc_q := 295) (i := 31) (m := 25) (z := pc0) (y := r25) rfl (by decide) rfl (by decide) (by omega) (by omega) rfl ?_
        have hW82 : Wk G23 (uA A24 31 (pc0).toNat (r25)) := Wk_a hW35 (show (-2147483648 : Int) ≤ r25 by omega) (show r25 ≤ (2147483647 : Int) by omega)
        have hF83 := Fr_a (z := r25) (k := 31) (n := (pc0).toNat) hF60 (by decide)
        obtain ⟨A81, eA81⟩ : ∃ q, q = uA A24 31 (pc0).toNat (r25) := ⟨_, rfl⟩
        rw [← eA81]
        rw [← eA81] at hW82 hF83
        have q84 : A81 31 (pc0).toNat = r25 := by rw [eA81]; exact uA_eq
        have hP85 : Pf nd A A81 := eA81 ▸ Pf_n hP61 rfl
        have hS86 : Fx sr (sy) A A81 := eA81 ▸ Fx_n hS62 rfl
        have hV87 : Fx [14] (vi) A A81 := eA81 ▸ Fx_n hV63 rfl
        have hK88 : Fx [29, 30, 31] (pc0) A A81 := eA81 ▸ Fx_a hK64 (z := pc0) (by omega) (by omega)
        have sf89 : wM A81 (sy + 1) (many) := wM_fx (Sg_ne (sb := sy + 1 + many) eA81 rfl) (by omega) (by omega) sf67
        have sf90 : DS A81 (vi) (vi1) (sy + 1) (sy1) := DS_ext ((congrFun eA81 14).trans (uA_ne (by decide))) sf68
        have ec91 : ecn A81 (G23 31) = ec2_34 := (ecn_e ((congrFun eA81 15).trans (uA_ne (by decide)))).trans e49
        refine jx_ld (pc_q := 296) (l_q := L) (st_q := [.ref 66]) rfl (jl_aloadn gL_0) ?_
        refine jx_ld (pc_q := 298) (l_q := L) (st_q := [.int (i32 (vi)), .ref 66]) rfl (jl_iload gL_4) ?_
        refine jr_put (pc_q := 301) (i := 29) (z := vi) rfl rfl (by decide) rfl rfl rfl rfl rfl rfl ?_
        have hW92 : Wk (uG G23 29 (vi)) A81 := Wk_g hW82 (show (0 : Int) ≤ vi by omega) (show vi ≤ (202 : Int) by omega)
        have hF93 := Fr_g (z := vi) (i := 29) hF83 (by decide)
        have ec94 : ecn A81 ((uG G23 29 (vi)) 31) = ec2_34 := ec91
        have _q : True := trivial
        refine jx_ld (pc_q := 302) (l_q := L) (st_q := [.ref 66]) rfl (jl_aloadn gL_0) ?_
        refine jx_ar (pc_q := 303) (st_q := [.int (i32 (0)), .ref 66]) rfl rfl rfl rfl ?_
        have b95 : (-1 : Int) ≤ A 5 (ln2_26).toNat ∧ A 5 (ln2_26).toNat ≤ 15 := hW.2 5 _
        refine jx_vr (pc_q := 306) (as := [.int (i32 (0))]) (st := []) rfl rfl rfl rfl ⟨rfl, rfl, Nat.le_of_ble_eq_true rfl⟩ rfl rfl (c_needLevel (dd := d) (hd := by omega) (hW := hW92) (lv := 0) (ln := ln2_26) (e_ln := show (uG G23 29 (vi)) 9 = ln2_26 from (e41)) (li := li) (e_li := show (uG G23 29 (vi)) 3 = li from ((hF36.1 3 rfl).trans ((hFx.1 3 rfl).trans (e_li)))) (fk := fk2_28) (e_fk := show (uG G23 29 (vi)) 16 = fk2_28 from (e43)) (ll := A 5 (ln2_26).toNat) (e_ll := show A81 5 (ln2_26).toNat = A 5 (ln2_26).toNat from (congrFun (((congrFun eA81 5).trans (uA_ne (by decide))).trans ((hF36.2 5 rfl).trans (hFx.2 5 rfl))) _))  (h_lv := ⟨(by decide), (by decide)⟩)  ) (fun o V_q hq => ?_)
        obtain ⟨G96, A97, r98, fk2_99, rfl, rfl, hW100, hF101, b102, e103, q104⟩ := hq
        have hF105 := Fr_tr hF93 hF101 (Fr_sub (by decide)) (Fr_sub (by decide))
        have hP106 := Pf_f hP85 hF101 (by decide)
        have hS107 := Fx_f hS86 hF101 (by decide)
        have hV108 := Fx_f hV87 hF101 (by decide)
        have hK109 := Fx_f hK88 hF101 (by decide)
        have sf110 : wM A97 (sy + 1) (many) := wM_fx (Sg_fr (sb := sy + 1 + many) hF101 (by decide)) (by omega) (by omega) sf89
        have ec111 : ecn A97 (G96 31) = ec2_34 := (ecn_f (hF101.2 15 rfl) (hF101.1 31 rfl)).trans ec94
        have bfk2_99 : (0 : Int) ≤ fk2_99 ∧ fk2_99 ≤ 6 := e103 ▸ hW100.1 16
        refine .inr ⟨_, rfl, ?_⟩
        rcases q104 with ⟨rfl, a112, a113, a114, a115⟩ | ⟨rfl, a116⟩
        · have _q : True := trivial
          exfalso
          omega
        · have _q : True := trivial
          refine jx_if_eq (pc_q := 309) (tg := 327) rfl rfl rfl (by decide) (by decide) (fun h117 => ?_) (fun h117 => ?_)
          · have _q := h117
            exact c_readProc_w_at_327p (X := X) (d := d) (Vs := Vs) (sb := sb) (pb := pb) (hvb := hvb) (c0 := c0) (c1 := c1) (G := G) (A := A) (T := T) (ln := ln) (li := li) (at0 := at0) (fk := fk) (nd := nd) (sy := sy) (na := na) (vi := vi) (le := le) (op0 := op0) (tk0 := tk0) (pc0 := pc0) (ec := ec) (hd := hd) (hW := hW) (e_ln := e_ln) (e_li := e_li) (e_at0 := e_at0) (e_fk := e_fk) (e_nd := e_nd) (e_sy := e_sy) (e_na := e_na) (e_vi := e_vi) (e_le := e_le) (e_op0 := e_op0) (e_tk0 := e_tk0) (e_pc0 := e_pc0) (e_ec := e_ec) (i_LT := i_LT) (i_SV := i_SV) (i_PQ := i_PQ) (p_0 := p_0) (p_1 := p_1) (p_2 := p_2) (p_3 := p_3) (p_4 := p_4) (p_5 := p_5) (p_6 := p_6) (p_7 := p_7) (p_8 := p_8) (p_9 := p_9) L G96 A97 (p) (ln2_26) (fk2_99) (sy2_30) (na2_31) (ec2_34) gL_0 gL_1 hW100 hF105 hP106 hS107 hV108 hK109 (((hF101.1 9 rfl).trans (e41))) ((e103)) (((hF101.1 19 rfl).trans (e45))) (((hF101.1 28 rfl).trans (e46))) (ec111) ((hF101.1 29 rfl)) (((hF101.1 46 rfl).trans ((hF36.1 46 rfl).trans (fx_46)))) (by omega) (by omega) (by omega) (by omega) (by omega) (by omega) (by omega) (by omega)
          · have _q := h117
            exact absurd h117 (by omega)
      · have _q : True := trivial
        refine jr_st (pc_q := 295) (i := 31) (m := 25) (z := pc0) (y := r25) rfl (by decide) rfl (by decide) (by omega) (by omega) rfl ?_
        have hW119 : Wk G23 (uA A24 31 (pc0).toNat (r25)) := Wk_a hW35 (show (-2147483648 : Int) ≤ r25 by omega) (show r25 ≤ (2147483647 : Int) by omega)
        have hF120 := Fr_a (z := r25) (k := 31) (n := (pc0).toNat) hF60 (by decide)
        obtain ⟨A118, eA118⟩ : ∃ q, q = uA A24 31 (pc0).toNat (r25) := ⟨_, rfl⟩
        rw [← eA118]
        rw [← eA118] at hW119 hF120
        have q121 : A118 31 (pc0).toNat = r25 := by rw [eA118]; exact uA_eq
        have hP122 : Pf nd A A118 := eA118 ▸ Pf_n hP61 rfl
        have hS123 : Fx sr (sy) A A118 := eA118 ▸ Fx_n hS62 rfl
        have hV124 : Fx [14] (vi) A A118 := eA118 ▸ Fx_n hV63 rfl
        have hK125 : Fx [29, 30, 31] (pc0) A A118 := eA118 ▸ Fx_a hK64 (z := pc0) (by omega) (by omega)
        have sf126 : wM A118 (sy + 1) (many) := wM_fx (Sg_ne (sb := sy + 1 + many) eA118 rfl) (by omega) (by omega) sf67
        have sf127 : DS A118 (vi) (vi1) (sy + 1) (sy1) := DS_ext ((congrFun eA118 14).trans (uA_ne (by decide))) sf68
        have sf128 : wP A118 (sy2_30) pb (18) (Vd Vs (sy + 1) sy1) (r25) (nd) (nd2_29) (sy1) (sy2_30) := wP_ag (Sg_ne eA118 rfl) (Qg_ne eA118 rfl) (by omega) (by omega) (Ax_ag (Ag_ne eA118 rfl)) a77
        have sf129 : NX A118 (r25) := NX_r eA118 (by decide) a78
        have sf130 : NdM A118 (nd) (nd2_29) (sy1) := NdM_st eA118 (by decide) a80
        have ec131 : ecn A118 (G23 31) = ec2_34 := (ecn_e ((congrFun eA118 15).trans (uA_ne (by decide)))).trans e49
        refine jx_ld (pc_q := 296) (l_q := L) (st_q := [.ref 66]) rfl (jl_aloadn gL_0) ?_
        refine jx_ld (pc_q := 298) (l_q := L) (st_q := [.int (i32 (vi)), .ref 66]) rfl (jl_iload gL_4) ?_
        refine jr_put (pc_q := 301) (i := 29) (z := vi) rfl rfl (by decide) rfl rfl rfl rfl rfl rfl ?_
        have hW132 : Wk (uG G23 29 (vi)) A118 := Wk_g hW119 (show (0 : Int) ≤ vi by omega) (show vi ≤ (202 : Int) by omega)
        have hF133 := Fr_g (z := vi) (i := 29) hF120 (by decide)
        have ec134 : ecn A118 ((uG G23 29 (vi)) 31) = ec2_34 := ec131
        have _q : True := trivial
        refine jx_ld (pc_q := 302) (l_q := L) (st_q := [.ref 66]) rfl (jl_aloadn gL_0) ?_
        refine jx_ar (pc_q := 303) (st_q := [.int (i32 (0)), .ref 66]) rfl rfl rfl rfl ?_
        have b135 : (-1 : Int) ≤ A 5 (ln2_26).toNat ∧ A 5 (ln2_26).toNat ≤ 15 := hW.2 5 _
        refine jx_vr (pc_q := 306) (as := [.int (i32 (0))]) (st := []) rfl rfl rfl rfl ⟨rfl, rfl, Nat.le_of_ble_eq_true rfl⟩ rfl rfl (c_needLevel (dd := d) (hd := by omega) (hW := hW132) (lv := 0) (ln := ln2_26) (e_ln := show (uG G23 29 (vi)) 9 = ln2_26 from (e41)) (li := li) (e_li := show (uG G23 29 (vi)) 3 = li from ((hF36.1 3 rfl).trans ((hFx.1 3 rfl).trans (e_li)))) (fk := fk2_28) (e_fk := show (uG G23 29 (vi)) 16 = fk2_28 from (e43)) (ll := A 5 (ln2_26).toNat) (e_ll := show A118 5 (ln2_26).toNat = A 5 (ln2_26).toNat from (congrFun (((congrFun eA118 5).trans (uA_ne (by decide))).trans ((hF36.2 5 rfl).trans (hFx.2 5 rfl))) _))  (h_lv := ⟨(by decide), (by decide)⟩)  ) (fun o V_q hq => ?_)
        obtain ⟨G136, A137, r138, fk2_139, rfl, rfl, hW140, hF141, b142, e143, q144⟩ := hq
        have hF145 := Fr_tr hF133 hF141 (Fr_sub (by decide)) (Fr_sub (by decide))
        have hP146 := Pf_f hP122 hF141 (by decide)
        have hS147 := Fx_f hS123 hF141 (by decide)
        have hV148 := Fx_f hV124 hF141 (by decide)
        have hK149 := Fx_f hK125 hF141 (by decide)
        have sf150 : wM A137 (sy + 1) (many) := wM_fx (Sg_fr (sb := sy + 1 + many) hF141 (by decide)) (by omega) (by omega) sf126
        have sf151 : wP A137 (sy2_30) pb (18) (Vd Vs (sy + 1) sy1) (r25) (nd) (nd2_29) (sy1) (sy2_30) := wP_ag (Sg_fr hF141 (by decide)) (Qg_fr hF141 (by decide)) (by omega) (by omega) (Ax_ag (Ag_fr hF141 (by decide))) sf128
        have sf152 : NX A137 (r25) := NX_ag (by omega) (Ag_fr hF141 (by decide)) sf129
        have sf153 : NdM A137 (nd) (nd2_29) (sy1) := NdM_f hF141 (by decide) sf130
        have ec154 : ecn A137 (G136 31) = ec2_34 := (ecn_f (hF141.2 15 rfl) (hF141.1 31 rfl)).trans ec134
        have bfk2_139 : (0 : Int) ≤ fk2_139 ∧ fk2_139 ≤ 6 := e143 ▸ hW140.1 16
        refine .inr ⟨_, rfl, ?_⟩
        rcases q144 with ⟨rfl, a155, a156, a157, a158⟩ | ⟨rfl, a159⟩
        · have _q : True := trivial
          have b160 : (0 : Int) ≤ A 4 (ln2_26).toNat ∧ A 4 (ln2_26).toNat ≤ 3000 := hW.2 4 _
          have lt161 : lf2_33 < A 4 (ln2_26).toNat := LT_at (LT_ext (((hF141.1 3 rfl).trans ((hF36.1 3 rfl).trans (hFx.1 3 rfl)))) (((hF141.2 3 rfl).trans (((congrFun eA118 3).trans (uA_ne (by decide))).trans ((hF36.2 3 rfl).trans (hFx.2 3 rfl))))) (((hF141.2 4 rfl).trans (((congrFun eA118 4).trans (uA_ne (by decide))).trans ((hF36.2 4 rfl).trans (hFx.2 4 rfl))))) i_LT) (show G136 3 = li from ((hF141.1 3 rfl).trans ((hF36.1 3 rfl).trans ((hFx.1 3 rfl).trans (e_li))))) (show A137 3 (ln2_26).toNat = lf2_33 from (congrFun ((hF141.2 3 rfl).trans ((congrFun eA118 3).trans (uA_ne (by decide)))) _).trans (e48)) (show A137 4 (ln2_26).toNat = A 4 (ln2_26).toNat from (congrFun ((hF141.2 4 rfl).trans (((congrFun eA118 4).trans (uA_ne (by decide))).trans ((hF36.2 4 rfl).trans (hFx.2 4 rfl)))) _)) (by omega) (by omega)
          refine jx_if_eq (pc_q := 309) (tg := 327) rfl rfl rfl (by decide) (by decide) (fun h162 => ?_) (fun h162 => ?_)
          · have _q := h162
            exact absurd h162 (by omega)
          · have _q := h162
            refine jx_ld (pc_q := 310) (l_q := L) (st_q := [.ref 66]) rfl (jl_aloadn gL_0) ?_
            refine jx_vr (pc_q := 313) (as := []) (st := []) rfl rfl rfl rfl ⟨rfl, rfl, Nat.le_of_ble_eq_true rfl⟩ rfl rfl (c_openLine (dd := d) (hd := by omega) (hW := hW140)  (ln := ln2_26) (e_ln := show G136 9 = ln2_26 from ((hF141.1 9 rfl).trans (e41))) (le := A 4 (ln2_26).toNat) (e_le := show A137 4 (ln2_26).toNat = A 4 (ln2_26).toNat from (congrFun ((hF141.2 4 rfl).trans (((congrFun eA118 4).trans (uA_ne (by decide))).trans ((hF36.2 4 rfl).trans (hFx.2 4 rfl)))) _)) (lf := lf2_33) (e_lf := show A137 3 (ln2_26).toNat = lf2_33 from (congrFun ((hF141.2 3 rfl).trans ((congrFun eA118 3).trans (uA_ne (by decide)))) _).trans (e48))    (p_0 := by omega)) (fun o V_q hq => ?_)
            obtain ⟨G163, A164, at2_165, tk2_166, op2_167, rfl, rfl, hW168, hF169, e170, e171, e172, p173, p174, p175, p176, -⟩ := hq
            have hF178 := Fr_tr hF145 hF169 (Fr_sub (by decide)) (Fr_sub (by decide))
            have hP179 := Pf_f hP146 hF169 (by decide)
            have hS180 := Fx_f hS147 hF169 (by decide)
            have hV181 := Fx_f hV148 hF169 (by decide)
            have hK182 := Fx_f hK149 hF169 (by decide)
            have sf183 : wM A164 (sy + 1) (many) := wM_fx (Sg_fr (sb := sy + 1 + many) hF169 (by decide)) (by omega) (by omega) sf150
            have sf184 : wP A164 (sy2_30) pb (18) (Vd Vs (sy + 1) sy1) (r25) (nd) (nd2_29) (sy1) (sy2_30) := wP_ag (Sg_fr hF169 (by decide)) (Qg_fr hF169 (by decide)) (by omega) (by omega) (Ax_ag (Ag_fr hF169 (by decide))) sf151
            have sf185 : NX A164 (r25) := NX_ag (by omega) (Ag_fr hF169 (by decide)) sf152
            have sf186 : NdM A164 (nd) (nd2_29) (sy1) := NdM_f hF169 (by decide) sf153
            have ec187 : ecn A164 (G163 31) = ec2_34 := (ecn_f (hF169.2 15 rfl) (hF169.1 31 rfl)).trans ec154
            have bat2_165 : (0 : Int) ≤ at2_165 ∧ at2_165 ≤ 3002 := e170 ▸ hW168.1 10
            have ztk2_166 := tz_b tk2_166
            have btk2_166 : (0 : Int) ≤ tk2_166 ∧ tk2_166 ≤ 5 := e171 ▸ hW168.1 11
            have bop2_167 : (-2147483648 : Int) ≤ op2_167 ∧ op2_167 ≤ 2147483647 := e172 ▸ hW168.1 15
            refine .inl ⟨rfl, ?_⟩
            have pz188 : lf2_33 + tz tk2_166 ≤ at2_165 := by omega
            refine jx_ld (pc_q := 314) (l_q := L) (st_q := [.ref 66]) rfl (jl_aloadn gL_0) ?_
            refine jx_ld (pc_q := 315) (l_q := L) (st_q := [.ref 66, .ref 66]) rfl (jl_aloadn gL_0) ?_
            refine jx_ar (pc_q := 317) (st_q := [.int (i32 (58)), .ref 66, .ref 66]) rfl rfl rfl rfl ?_
            have b189 : (-2147483648 : Int) ≤ G163 13 ∧ G163 13 ≤ 2147483647 := hW168.1 13
            refine jx_vr (pc_q := 320) (as := [.int (i32 (58))]) (st := [.ref 66]) rfl rfl rfl rfl ⟨rfl, rfl, Nat.le_of_ble_eq_true rfl⟩ rfl rfl (c_is (dd := d) (hd := by omega) (hW := hW168) (k := 58) (tk := tk2_166) (e_tk := show G163 11 = tk2_166 from (e171)) (tn := G163 13) (e_tn := show G163 13 = G163 13 from rfl)  (h_k := ⟨(by decide), (by decide)⟩)  ) (fun o V_q hq => ?_)
            obtain ⟨r190, rfl, rfl, b191, q192⟩ := hq
            refine .inr ⟨_, rfl, ?_⟩
            rcases q192 with ⟨rfl, a193, a194, a195⟩ | rfl
            · have _q : True := trivial
              refine jx_vr (pc_q := 323) (as := [.int (i32 (1))]) (st := []) rfl rfl rfl rfl ⟨rfl, rfl, Nat.le_of_ble_eq_true rfl⟩ rfl rfl (c_need (dd := d) (hd := by omega) (hW := hW168) (g := 1) (ln := ln2_26) (e_ln := show G163 9 = ln2_26 from ((hF169.1 9 rfl).trans ((hF141.1 9 rfl).trans (e41)))) (le := A 4 (ln2_26).toNat) (e_le := show A164 4 (ln2_26).toNat = A 4 (ln2_26).toNat from (congrFun ((hF169.2 4 rfl).trans ((hF141.2 4 rfl).trans (((congrFun eA118 4).trans (uA_ne (by decide))).trans ((hF36.2 4 rfl).trans (hFx.2 4 rfl))))) _)) (at0 := at2_165) (e_at0 := show G163 10 = at2_165 from (e170)) (fk := fk2_139) (e_fk := show G163 16 = fk2_139 from ((hF169.1 16 rfl).trans (e143))) (tk0 := tk2_166) (e_tk0 := show G163 11 = tk2_166 from (e171))  (h_g := ⟨(by decide), (by decide)⟩)  (p_0 := by omega)) (fun o V_q hq => ?_)
              obtain ⟨G196, A197, at2_198, tk2_199, fk2_200, rfl, rfl, hW201, hF202, e203, e204, e205, p206, p207, q208⟩ := hq
              have hF209 := Fr_tr hF178 hF202 (Fr_sub (by decide)) (Fr_sub (by decide))
              have hP210 := Pf_f hP179 hF202 (by decide)
              have hS211 := Fx_f hS180 hF202 (by decide)
              have hV212 := Fx_f hV181 hF202 (by decide)
              have hK213 := Fx_f hK182 hF202 (by decide)
              have sf214 : wM A197 (sy + 1) (many) := wM_fx (Sg_fr (sb := sy + 1 + many) hF202 (by decide)) (by omega) (by omega) sf183
              have sf215 : wP A197 (sy2_30) pb (18) (Vd Vs (sy + 1) sy1) (r25) (nd) (nd2_29) (sy1) (sy2_30) := wP_ag (Sg_fr hF202 (by decide)) (Qg_fr hF202 (by decide)) (by omega) (by omega) (Ax_ag (Ag_fr hF202 (by decide))) sf184
              have sf216 : NX A197 (r25) := NX_ag (by omega) (Ag_fr hF202 (by decide)) sf185
              have sf217 : NdM A197 (nd) (nd2_29) (sy1) := NdM_f hF202 (by decide) sf186
              have ec218 : ecn A197 (G196 31) = ec2_34 := (ecn_f (hF202.2 15 rfl) (hF202.1 31 rfl)).trans ec187
              have bat2_198 : (0 : Int) ≤ at2_198 ∧ at2_198 ≤ 3002 := e203 ▸ hW201.1 10
              have ztk2_199 := tz_b tk2_199
              have btk2_199 : (0 : Int) ≤ tk2_199 ∧ tk2_199 ≤ 5 := e204 ▸ hW201.1 11
              have bfk2_200 : (0 : Int) ≤ fk2_200 ∧ fk2_200 ≤ 6 := e205 ▸ hW201.1 16
              refine .inl ⟨rfl, ?_⟩
              rcases q208 with ⟨a219, a220, a221, a222⟩ | ⟨a223, a224, a225, a226⟩
              · have _q : True := trivial
                refine jx_ld (pc_q := 324) (l_q := L) (st_q := [.ref 66]) rfl (jl_aloadn gL_0) ?_
                refine jx_vr (pc_q := 327) (as := []) (st := []) rfl rfl rfl rfl ⟨rfl, rfl, Nat.le_of_ble_eq_true rfl⟩ rfl rfl (c_endLine (dd := d) (hd := by omega) (hW := hW201)  (ln := ln2_26) (e_ln := show G196 9 = ln2_26 from ((hF202.1 9 rfl).trans ((hF169.1 9 rfl).trans ((hF141.1 9 rfl).trans (e41))))) (li := li) (e_li := show G196 3 = li from ((hF202.1 3 rfl).trans ((hF169.1 3 rfl).trans ((hF141.1 3 rfl).trans ((hF36.1 3 rfl).trans ((hFx.1 3 rfl).trans (e_li))))))) (fk := fk2_200) (e_fk := show G196 16 = fk2_200 from (e205)) (tk0 := tk2_199) (e_tk0 := show G196 11 = tk2_199 from (e204))    (p_0 := by omega)) (fun o V_q hq => ?_)
                obtain ⟨G227, A228, ln2_229, fk2_230, rfl, rfl, hW231, hF232, e233, e234, q235⟩ := hq
                have hF236 := Fr_tr hF209 hF232 (Fr_sub (by decide)) (Fr_sub (by decide))
                have hP237 := Pf_f hP210 hF232 (by decide)
                have hS238 := Fx_f hS211 hF232 (by decide)
                have hV239 := Fx_f hV212 hF232 (by decide)
                have hK240 := Fx_f hK213 hF232 (by decide)
                have sf241 : wM A228 (sy + 1) (many) := wM_fx (Sg_fr (sb := sy + 1 + many) hF232 (by decide)) (by omega) (by omega) sf214
                have sf242 : wP A228 (sy2_30) pb (18) (Vd Vs (sy + 1) sy1) (r25) (nd) (nd2_29) (sy1) (sy2_30) := wP_ag (Sg_fr hF232 (by decide)) (Qg_fr hF232 (by decide)) (by omega) (by omega) (Ax_ag (Ag_fr hF232 (by decide))) sf215
                have sf243 : NX A228 (r25) := NX_ag (by omega) (Ag_fr hF232 (by decide)) sf216
                have sf244 : NdM A228 (nd) (nd2_29) (sy1) := NdM_f hF232 (by decide) sf217
                have ec245 : ecn A228 (G227 31) = ec2_34 := (ecn_f (hF232.2 15 rfl) (hF232.1 31 rfl)).trans ec218
                have bln2_229 : (0 : Int) ≤ ln2_229 ∧ ln2_229 ≤ 3000 := e233 ▸ hW231.1 9
                have bfk2_230 : (0 : Int) ≤ fk2_230 ∧ fk2_230 ≤ 6 := e234 ▸ hW231.1 16
                refine .inl ⟨rfl, ?_⟩
                rcases q235 with ⟨a246, a247, a248, a249, a250⟩ | ⟨a251, a252⟩
                · have _q : True := trivial
                  exfalso
                  omega
                · have _q : True := trivial
                  exact c_readProc_w_at_327p (X := X) (d := d) (Vs := Vs) (sb := sb) (pb := pb) (hvb := hvb) (c0 := c0) (c1 := c1) (G := G) (A := A) (T := T) (ln := ln) (li := li) (at0 := at0) (fk := fk) (nd := nd) (sy := sy) (na := na) (vi := vi) (le := le) (op0 := op0) (tk0 := tk0) (pc0 := pc0) (ec := ec) (hd := hd) (hW := hW) (e_ln := e_ln) (e_li := e_li) (e_at0 := e_at0) (e_fk := e_fk) (e_nd := e_nd) (e_sy := e_sy) (e_na := e_na) (e_vi := e_vi) (e_le := e_le) (e_op0 := e_op0) (e_tk0 := e_tk0) (e_pc0 := e_pc0) (e_ec := e_ec) (i_LT := i_LT) (i_SV := i_SV) (i_PQ := i_PQ) (p_0 := p_0) (p_1 := p_1) (p_2 := p_2) (p_3 := p_3) (p_4 := p_4) (p_5 := p_5) (p_6 := p_6) (p_7 := p_7) (p_8 := p_8) (p_9 := p_9) L G227 A228 (p) (ln2_229) (fk2_230) (sy2_30) (na2_31) (ec2_34) gL_0 gL_1 hW231 hF236 hP237 hS238 hV239 hK240 ((e233)) ((e234)) (((hF232.1 19 rfl).trans ((hF202.1 19 rfl).trans ((hF169.1 19 rfl).trans ((hF141.1 19 rfl).trans (e45)))))) (((hF232.1 28 rfl).trans ((hF202.1 28 rfl).trans ((hF169.1 28 rfl).trans ((hF141.1 28 rfl).trans (e46)))))) (ec245) (((hF232.1 29 rfl).trans ((hF202.1 29 rfl).trans ((hF169.1 29 rfl).trans (hF141.1 29 rfl))))) (((hF232.1 46 rfl).trans ((hF202.1 46 rfl).trans ((hF169.1 46 rfl).trans ((hF141.1 46 rfl).trans ((hF36.1 46 rfl).trans (fx_46))))))) (by omega) (by omega) (by omega) (by omega) (by omega) (by omega) (by omega) (by omega)
              · have _q : True := trivial
                have pz253 : at2_165 + tz tk2_199 ≤ at2_198 := by omega
                refine jx_ld (pc_q := 324) (l_q := L) (st_q := [.ref 66]) rfl (jl_aloadn gL_0) ?_
                refine jx_vr (pc_q := 327) (as := []) (st := []) rfl rfl rfl rfl ⟨rfl, rfl, Nat.le_of_ble_eq_true rfl⟩ rfl rfl (c_endLine (dd := d) (hd := by omega) (hW := hW201)  (ln := ln2_26) (e_ln := show G196 9 = ln2_26 from ((hF202.1 9 rfl).trans ((hF169.1 9 rfl).trans ((hF141.1 9 rfl).trans (e41))))) (li := li) (e_li := show G196 3 = li from ((hF202.1 3 rfl).trans ((hF169.1 3 rfl).trans ((hF141.1 3 rfl).trans ((hF36.1 3 rfl).trans ((hFx.1 3 rfl).trans (e_li))))))) (fk := fk2_200) (e_fk := show G196 16 = fk2_200 from (e205)) (tk0 := tk2_199) (e_tk0 := show G196 11 = tk2_199 from (e204))    (p_0 := by omega)) (fun o V_q hq => ?_)
                obtain ⟨G254, A255, ln2_256, fk2_257, rfl, rfl, hW258, hF259, e260, e261, q262⟩ := hq
                have hF263 := Fr_tr hF209 hF259 (Fr_sub (by decide)) (Fr_sub (by decide))
                have hP264 := Pf_f hP210 hF259 (by decide)
                have hS265 := Fx_f hS211 hF259 (by decide)
                have hV266 := Fx_f hV212 hF259 (by decide)
                have hK267 := Fx_f hK213 hF259 (by decide)
                have sf268 : wM A255 (sy + 1) (many) := wM_fx (Sg_fr (sb := sy + 1 + many) hF259 (by decide)) (by omega) (by omega) sf214
                have sf269 : wP A255 (sy2_30) pb (18) (Vd Vs (sy + 1) sy1) (r25) (nd) (nd2_29) (sy1) (sy2_30) := wP_ag (Sg_fr hF259 (by decide)) (Qg_fr hF259 (by decide)) (by omega) (by omega) (Ax_ag (Ag_fr hF259 (by decide))) sf215
                have sf270 : NX A255 (r25) := NX_ag (by omega) (Ag_fr hF259 (by decide)) sf216
                have sf271 : NdM A255 (nd) (nd2_29) (sy1) := NdM_f hF259 (by decide) sf217
                have ec272 : ecn A255 (G254 31) = ec2_34 := (ecn_f (hF259.2 15 rfl) (hF259.1 31 rfl)).trans ec218
                have bln2_256 : (0 : Int) ≤ ln2_256 ∧ ln2_256 ≤ 3000 := e260 ▸ hW258.1 9
                have bfk2_257 : (0 : Int) ≤ fk2_257 ∧ fk2_257 ≤ 6 := e261 ▸ hW258.1 16
                refine .inl ⟨rfl, ?_⟩
                rcases q262 with ⟨a273, a274, a275, a276, a277⟩ | ⟨a278, a279⟩
                · have _q : True := trivial
                  have b280 : (0 : Int) ≤ A 3 (ln2_256).toNat ∧ A 3 (ln2_256).toNat ≤ 3000 := hW.2 3 _
                  have lt281 : ln2_256 < li → A 4 (ln2_26).toNat < A 3 (ln2_256).toNat := fun hh => LT_nx (LT_ext (((hF259.1 3 rfl).trans ((hF202.1 3 rfl).trans ((hF169.1 3 rfl).trans ((hF141.1 3 rfl).trans ((hF36.1 3 rfl).trans (hFx.1 3 rfl))))))) (((hF259.2 3 rfl).trans ((hF202.2 3 rfl).trans ((hF169.2 3 rfl).trans ((hF141.2 3 rfl).trans (((congrFun eA118 3).trans (uA_ne (by decide))).trans ((hF36.2 3 rfl).trans (hFx.2 3 rfl)))))))) (((hF259.2 4 rfl).trans ((hF202.2 4 rfl).trans ((hF169.2 4 rfl).trans ((hF141.2 4 rfl).trans (((congrFun eA118 4).trans (uA_ne (by decide))).trans ((hF36.2 4 rfl).trans (hFx.2 4 rfl)))))))) i_LT) (show G254 3 = li from ((hF259.1 3 rfl).trans ((hF202.1 3 rfl).trans ((hF169.1 3 rfl).trans ((hF141.1 3 rfl).trans ((hF36.1 3 rfl).trans ((hFx.1 3 rfl).trans (e_li)))))))) (show A255 4 (ln2_26).toNat = A 4 (ln2_26).toNat from (congrFun ((hF259.2 4 rfl).trans ((hF202.2 4 rfl).trans ((hF169.2 4 rfl).trans ((hF141.2 4 rfl).trans (((congrFun eA118 4).trans (uA_ne (by decide))).trans ((hF36.2 4 rfl).trans (hFx.2 4 rfl))))))) _)) (show A255 3 (ln2_256).toNat = A 3 (ln2_256).toNat from (congrFun ((hF259.2 3 rfl).trans ((hF202.2 3 rfl).trans ((hF169.2 3 rfl).trans ((hF141.2 3 rfl).trans (((congrFun eA118 3).trans (uA_ne (by decide))).trans ((hF36.2 3 rfl).trans (hFx.2 3 rfl))))))) _)) (show ln2_256 = ln2_26 + 1 by omega) (by omega) hh
                  refine jx_ld (pc_q := 328) (l_q := L) (st_q := [.ref 66]) rfl (jl_aloadn gL_0) ?_
                  refine jx_ld (pc_q := 329) (l_q := L) (st_q := [.int (i32 (p)), .ref 66]) rfl (jl_iloadn gL_1) ?_
                  refine jx_vr (pc_q := 332) (as := [.int (i32 (p))]) (st := []) rfl rfl rfl rfl ⟨rfl, rfl, Nat.le_of_ble_eq_true rfl⟩ rfl rfl (c_show (dd := d) (hd := by omega) (hW := hW258) (s := p) (vi := vi) (e_vi := show G254 29 = vi from ((hF259.1 29 rfl).trans ((hF202.1 29 rfl).trans ((hF169.1 29 rfl).trans (hF141.1 29 rfl)))))  (h_s := ⟨(Int.le_trans (by decide : (-2147483648 : Int) ≤ -2147483648) rx_p.1), (Int.le_trans rx_p.2 (by decide : (2147483647 : Int) ≤ 2147483647))⟩)  (p_0 := by omega) (p_1 := by omega)) (fun o V_q hq => ?_)
                  obtain ⟨G282, A283, vi2_284, sv2_285, rfl, rfl, hW286, hF287, hQ288, e289, e290, p291, p292, -⟩ := hq
                  have hF294 := Fr_tr hF263 hF287 (Fr_sub (by decide)) (Fr_sub (by decide))
                  have hP295 := Pf_f hP264 hF287 (by decide)
                  have hS296 := Fx_f hS265 hF287 (by decide)
                  have hV297 := Fx_tr hV266 hQ288 (by omega)
                  have hK298 := Fx_f hK267 hF287 (by decide)
                  have sf299 : wM A283 (sy + 1) (many) := wM_fx (Sg_fr (sb := sy + 1 + many) hF287 (by decide)) (by omega) (by omega) sf268
                  have sf300 : wP A283 (sy2_30) pb (18) (Vd Vs (sy + 1) sy1) (r25) (nd) (nd2_29) (sy1) (sy2_30) := wP_ag (Sg_fr hF287 (by decide)) (Qg_fr hF287 (by decide)) (by omega) (by omega) (Ax_ag (Ag_fr hF287 (by decide))) sf269
                  have sf301 : NX A283 (r25) := NX_ag (by omega) (Ag_fr hF287 (by decide)) sf270
                  have sf302 : NdM A283 (nd) (nd2_29) (sy1) := NdM_f hF287 (by decide) sf271
                  have ec303 : ecn A283 (G282 31) = ec2_34 := (ecn_f (hF287.2 15 rfl) (hF287.1 31 rfl)).trans ec272
                  have bvi2_284 : (0 : Int) ≤ vi2_284 ∧ vi2_284 ≤ 202 := e289 ▸ hW286.1 29
                  have bsv2_285 : (0 : Int) ≤ sv2_285 ∧ sv2_285 ≤ 201 := e290 ▸ hW286.2 14 _
                  refine .inl ⟨rfl, ?_⟩
                  refine jx_ld (pc_q := 333) (l_q := L) (st_q := [.ref 66]) rfl (jl_aloadn gL_0) ?_
                  refine jx_ar (pc_q := 334) (st_q := [.ref 66, .ref 66]) rfl rfl rfl rfl ?_
                  refine jr_get (pc_q := 337) (i := 46) (v := .int (i32 (pc0))) rfl rfl (by decide) (rFv_eq (by decide) (show G282 46 = pc0 from ((hF287.1 46 rfl).trans ((hF259.1 46 rfl).trans ((hF202.1 46 rfl).trans ((hF169.1 46 rfl).trans ((hF141.1 46 rfl).trans ((hF36.1 46 rfl).trans (fx_46))))))))) rfl ?_
                  refine jx_ar (pc_q := 338) (st_q := [.int (i32 (1)), .int (i32 (pc0)), .ref 66]) rfl rfl rfl rfl ?_
                  refine jx_add (pc_q := 339) rfl rfl ?_
                  refine jr_put (pc_q := 342) (i := 46) (z := (pc0 + 1)) rfl rfl (by decide) rfl rfl rfl rfl rfl rfl ?_
                  have hW304 : Wk (uG G282 46 ((pc0 + 1))) A283 := Wk_g hW286 (show (0 : Int) ≤ (pc0 + 1) by omega) (show (pc0 + 1) ≤ (24 : Int) by omega)
                  have hF305 := Fr_g (z := (pc0 + 1)) (i := 46) hF294 (by decide)
                  have ec306 : ecn A283 ((uG G282 46 ((pc0 + 1))) 31) = ec2_34 := ec303
                  refine jx_rt (v := none) rfl rfl rfl rfl rfl rfl ?_
                  exact ⟨_, _, ln2_256, at2_198, fk2_257, nd2_29, sy2_30, na2_31, vi2_284, A 3 (ln2_256).toNat, (pc0 + 1), ec2_34, rfl, rfl, hW304, hF305, hP295, hS296, hV297, hK298, ((hF287.1 9 rfl).trans (e260)), ((hF287.1 10 rfl).trans ((hF259.1 10 rfl).trans (e203))), ((hF287.1 16 rfl).trans (e261)), ((hF287.1 31 rfl).trans ((hF259.1 31 rfl).trans ((hF202.1 31 rfl).trans ((hF169.1 31 rfl).trans ((hF141.1 31 rfl).trans (e44)))))), ((hF287.1 19 rfl).trans ((hF259.1 19 rfl).trans ((hF202.1 19 rfl).trans ((hF169.1 19 rfl).trans ((hF141.1 19 rfl).trans (e45)))))), ((hF287.1 28 rfl).trans ((hF259.1 28 rfl).trans ((hF202.1 28 rfl).trans ((hF169.1 28 rfl).trans ((hF141.1 28 rfl).trans (e46)))))), (e289), (congrFun ((hF287.2 3 rfl).trans ((hF259.2 3 rfl).trans ((hF202.2 3 rfl).trans ((hF169.2 3 rfl).trans ((hF141.2 3 rfl).trans (((congrFun eA118 3).trans (uA_ne (by decide))).trans ((hF36.2 3 rfl).trans (hFx.2 3 rfl)))))))) _), rfl, ec306, by omega, by omega, by omega, by omega, by first | exact Or.inr ((⟨by omega, by omega, by omega, by omega, by omega, by omega, by omega, by omega, (wQ_mk (m := many) (pb := pb) (by omega) (by omega) (wQ_fx hP295 hS296 (Fx_su hK298 (by omega)) p_8) (by omega) (by omega) (by omega) (by omega) (by omega) ((show A283 7 (sy).toNat = kp1 from (congrFun ((hF287.2 7 rfl).trans ((hF259.2 7 rfl).trans ((hF202.2 7 rfl).trans ((hF169.2 7 rfl).trans ((hF141.2 7 rfl).trans ((congrFun eA118 7).trans (uA_ne (by decide)))))))) _).trans (k65)).trans (by omega : kp1 = 14)) ((show A283 12 (sy).toNat = np1 from (congrFun ((hF287.2 12 rfl).trans ((hF259.2 12 rfl).trans ((hF202.2 12 rfl).trans ((hF169.2 12 rfl).trans ((hF141.2 12 rfl).trans ((congrFun eA118 12).trans (uA_ne (by decide)))))))) _).trans (k66)).trans (by omega : np1 = pc0)) ((show A283 29 (pc0).toNat = pp1 from (congrFun ((hF287.2 29 rfl).trans ((hF259.2 29 rfl).trans ((hF202.2 29 rfl).trans ((hF169.2 29 rfl).trans ((hF141.2 29 rfl).trans (((congrFun eA118 29).trans (uA_ne (by decide))).trans (hF36.2 29 rfl))))))) _).trans (ex_pp1)).trans (by omega : pp1 = sy + 1)) ((show A283 30 (pc0).toNat = mp1 from (congrFun ((hF287.2 30 rfl).trans ((hF259.2 30 rfl).trans ((hF202.2 30 rfl).trans ((hF169.2 30 rfl).trans ((hF141.2 30 rfl).trans (((congrFun eA118 30).trans (uA_ne (by decide))).trans (hF36.2 30 rfl))))))) _).trans (ex_mp1)).trans (by omega : mp1 = many)) (show A283 31 (pc0).toNat = r25 from (congrFun ((hF287.2 31 rfl).trans ((hF259.2 31 rfl).trans ((hF202.2 31 rfl).trans ((hF169.2 31 rfl).trans (hF141.2 31 rfl))))) _).trans (q121)) sf299 (VT_fx hS296 (by omega) p_9) (by omega) sf300), (SV_sw (SV_show (w := sy2_30) i_SV e_vi (show (uG G282 46 ((pc0 + 1))) 29 = vi2_284 from (e289)) (by omega) hV297 ((show A283 14 (vi).toNat = sv2_285 from (e290)).trans (by omega : sv2_285 = sy)) (by omega) (by omega) (by omega) (by omega)) (show (uG G282 46 ((pc0 + 1))) 29 = vi2_284 from (e289))), (PQ_proc (s1 := sy2_30) i_PQ hS296 (by omega) (by omega) (Fx_su hK298 (by omega)) (by omega) (by omega) (by omega) (((show A283 12 (sy).toNat = np1 from (congrFun ((hF287.2 12 rfl).trans ((hF259.2 12 rfl).trans ((hF202.2 12 rfl).trans ((hF169.2 12 rfl).trans ((hF141.2 12 rfl).trans ((congrFun eA118 12).trans (uA_ne (by decide)))))))) _).trans (k66)).trans (by omega : np1 = pc0)).trans (by omega)) (by rw [show pb = pc0 by omega, ((show A283 30 (pc0).toNat = mp1 from (congrFun ((hF287.2 30 rfl).trans ((hF259.2 30 rfl).trans ((hF202.2 30 rfl).trans ((hF169.2 30 rfl).trans ((hF141.2 30 rfl).trans (((congrFun eA118 30).trans (uA_ne (by decide))).trans (hF36.2 30 rfl))))))) _).trans (ex_mp1)).trans (by omega : mp1 = many))]; omega) (by rw [show pb = pc0 by omega, ((show A283 30 (pc0).toNat = mp1 from (congrFun ((hF287.2 30 rfl).trans ((hF259.2 30 rfl).trans ((hF202.2 30 rfl).trans ((hF169.2 30 rfl).trans ((hF141.2 30 rfl).trans (((congrFun eA118 30).trans (uA_ne (by decide))).trans (hF36.2 30 rfl))))))) _).trans (ex_mp1)).trans (by omega : mp1 = many))]; omega) (by rw [show pb = pc0 by omega]; exact ((show A283 29 (pc0).toNat = pp1 from (congrFun ((hF287.2 29 rfl).trans ((hF259.2 29 rfl).trans ((hF202.2 29 rfl).trans ((hF169.2 29 rfl).trans ((hF141.2 29 rfl).trans (((congrFun eA118 29).trans (uA_ne (by decide))).trans (hF36.2 29 rfl))))))) _).trans (ex_pp1)).trans (by omega : pp1 = sy + 1))) (by rw [show pb = pc0 by omega, ((show A283 30 (pc0).toNat = mp1 from (congrFun ((hF287.2 30 rfl).trans ((hF259.2 30 rfl).trans ((hF202.2 30 rfl).trans ((hF169.2 30 rfl).trans ((hF141.2 30 rfl).trans (((congrFun eA118 30).trans (uA_ne (by decide))).trans (hF36.2 30 rfl))))))) _).trans (ex_mp1)).trans (by omega : mp1 = many))]; omega) (by rw [show pb = pc0 by omega, ((show A283 30 (pc0).toNat = mp1 from (congrFun ((hF287.2 30 rfl).trans ((hF259.2 30 rfl).trans ((hF202.2 30 rfl).trans ((hF169.2 30 rfl).trans ((hF141.2 30 rfl).trans (((congrFun eA118 30).trans (uA_ne (by decide))).trans (hF36.2 30 rfl))))))) _).trans (ex_mp1)).trans (by omega : mp1 = many))]; exact sf299) hvb), (VT_u (VT_fx hS296 (by omega) p_9) (by omega) (by omega) ((show A283 7 (sy).toNat = kp1 from (congrFun ((hF287.2 7 rfl).trans ((hF259.2 7 rfl).trans ((hF202.2 7 rfl).trans ((hF169.2 7 rfl).trans ((hF141.2 7 rfl).trans ((congrFun eA118 7).trans (uA_ne (by decide)))))))) _).trans (k65)).trans (by omega : kp1 = 14))), by omega, (NdM_w sf302 (by omega) (by omega) (by omega))⟩))⟩
                · have _q : True := trivial
                  exact c_readProc_w_at_327p (X := X) (d := d) (Vs := Vs) (sb := sb) (pb := pb) (hvb := hvb) (c0 := c0) (c1 := c1) (G := G) (A := A) (T := T) (ln := ln) (li := li) (at0 := at0) (fk := fk) (nd := nd) (sy := sy) (na := na) (vi := vi) (le := le) (op0 := op0) (tk0 := tk0) (pc0 := pc0) (ec := ec) (hd := hd) (hW := hW) (e_ln := e_ln) (e_li := e_li) (e_at0 := e_at0) (e_fk := e_fk) (e_nd := e_nd) (e_sy := e_sy) (e_na := e_na) (e_vi := e_vi) (e_le := e_le) (e_op0 := e_op0) (e_tk0 := e_tk0) (e_pc0 := e_pc0) (e_ec := e_ec) (i_LT := i_LT) (i_SV := i_SV) (i_PQ := i_PQ) (p_0 := p_0) (p_1 := p_1) (p_2 := p_2) (p_3 := p_3) (p_4 := p_4) (p_5 := p_5) (p_6 := p_6) (p_7 := p_7) (p_8 := p_8) (p_9 := p_9) L G254 A255 (p) (ln2_256) (fk2_257) (sy2_30) (na2_31) (ec2_34) gL_0 gL_1 hW258 hF263 hP264 hS265 hV266 hK267 ((e260)) ((e261)) (((hF259.1 19 rfl).trans ((hF202.1 19 rfl).trans ((hF169.1 19 rfl).trans ((hF141.1 19 rfl).trans (e45)))))) (((hF259.1 28 rfl).trans ((hF202.1 28 rfl).trans ((hF169.1 28 rfl).trans ((hF141.1 28 rfl).trans (e46)))))) (ec272) (((hF259.1 29 rfl).trans ((hF202.1 29 rfl).trans ((hF169.1 29 rfl).trans (hF141.1 29 rfl))))) (((hF259.1 46 rfl).trans ((hF202.1 46 rfl).trans ((hF169.1 46 rfl).trans ((hF141.1 46 rfl).trans ((hF36.1 46 rfl).trans (fx_46))))))) (by omega) (by omega) (by omega) (by omega) (by omega) (by omega) (by omega) (by omega)
            · have _q : True := trivial
              refine jx_vr (pc_q := 323) (as := [.int (i32 (0))]) (st := []) rfl rfl rfl rfl ⟨rfl, rfl, Nat.le_of_ble_eq_true rfl⟩ rfl rfl (c_need (dd := d) (hd := by omega) (hW := hW168) (g := 0) (ln := ln2_26) (e_ln := show G163 9 = ln2_26 from ((hF169.1 9 rfl).trans ((hF141.1 9 rfl).trans (e41)))) (le := A 4 (ln2_26).toNat) (e_le := show A164 4 (ln2_26).toNat = A 4 (ln2_26).toNat from (congrFun ((hF169.2 4 rfl).trans ((hF141.2 4 rfl).trans (((congrFun eA118 4).trans (uA_ne (by decide))).trans ((hF36.2 4 rfl).trans (hFx.2 4 rfl))))) _)) (at0 := at2_165) (e_at0 := show G163 10 = at2_165 from (e170)) (fk := fk2_139) (e_fk := show G163 16 = fk2_139 from ((hF169.1 16 rfl).trans (e143))) (tk0 := tk2_166) (e_tk0 := show G163 11 = tk2_166 from (e171))  (h_g := ⟨(by decide), (by decide)⟩)  (p_0 := by omega)) (fun o V_q hq => ?_)
              obtain ⟨G307, A308, at2_309, tk2_310, fk2_311, rfl, rfl, hW312, hF313, e314, e315, e316, p317, p318, q319⟩ := hq
              have hF320 := Fr_tr hF178 hF313 (Fr_sub (by decide)) (Fr_sub (by decide))
              have hP321 := Pf_f hP179 hF313 (by decide)
              have hS322 := Fx_f hS180 hF313 (by decide)
              have hV323 := Fx_f hV181 hF313 (by decide)
              have hK324 := Fx_f hK182 hF313 (by decide)
              have sf325 : wM A308 (sy + 1) (many) := wM_fx (Sg_fr (sb := sy + 1 + many) hF313 (by decide)) (by omega) (by omega) sf183
              have sf326 : wP A308 (sy2_30) pb (18) (Vd Vs (sy + 1) sy1) (r25) (nd) (nd2_29) (sy1) (sy2_30) := wP_ag (Sg_fr hF313 (by decide)) (Qg_fr hF313 (by decide)) (by omega) (by omega) (Ax_ag (Ag_fr hF313 (by decide))) sf184
              have sf327 : NX A308 (r25) := NX_ag (by omega) (Ag_fr hF313 (by decide)) sf185
              have sf328 : NdM A308 (nd) (nd2_29) (sy1) := NdM_f hF313 (by decide) sf186
              have ec329 : ecn A308 (G307 31) = ec2_34 := (ecn_f (hF313.2 15 rfl) (hF313.1 31 rfl)).trans ec187
              have bat2_309 : (0 : Int) ≤ at2_309 ∧ at2_309 ≤ 3002 := e314 ▸ hW312.1 10
              have ztk2_310 := tz_b tk2_310
              have btk2_310 : (0 : Int) ≤ tk2_310 ∧ tk2_310 ≤ 5 := e315 ▸ hW312.1 11
              have bfk2_311 : (0 : Int) ≤ fk2_311 ∧ fk2_311 ≤ 6 := e316 ▸ hW312.1 16
              refine .inl ⟨rfl, ?_⟩
              rcases q319 with ⟨a330, a331, a332, a333⟩ | ⟨a334, a335, a336, a337⟩
              · have _q : True := trivial
                refine jx_ld (pc_q := 324) (l_q := L) (st_q := [.ref 66]) rfl (jl_aloadn gL_0) ?_
                refine jx_vr (pc_q := 327) (as := []) (st := []) rfl rfl rfl rfl ⟨rfl, rfl, Nat.le_of_ble_eq_true rfl⟩ rfl rfl (c_endLine (dd := d) (hd := by omega) (hW := hW312)  (ln := ln2_26) (e_ln := show G307 9 = ln2_26 from ((hF313.1 9 rfl).trans ((hF169.1 9 rfl).trans ((hF141.1 9 rfl).trans (e41))))) (li := li) (e_li := show G307 3 = li from ((hF313.1 3 rfl).trans ((hF169.1 3 rfl).trans ((hF141.1 3 rfl).trans ((hF36.1 3 rfl).trans ((hFx.1 3 rfl).trans (e_li))))))) (fk := fk2_311) (e_fk := show G307 16 = fk2_311 from (e316)) (tk0 := tk2_310) (e_tk0 := show G307 11 = tk2_310 from (e315))    (p_0 := by omega)) (fun o V_q hq => ?_)
                obtain ⟨G338, A339, ln2_340, fk2_341, rfl, rfl, hW342, hF343, e344, e345, q346⟩ := hq
                have hF347 := Fr_tr hF320 hF343 (Fr_sub (by decide)) (Fr_sub (by decide))
                have hP348 := Pf_f hP321 hF343 (by decide)
                have hS349 := Fx_f hS322 hF343 (by decide)
                have hV350 := Fx_f hV323 hF343 (by decide)
                have hK351 := Fx_f hK324 hF343 (by decide)
                have sf352 : wM A339 (sy + 1) (many) := wM_fx (Sg_fr (sb := sy + 1 + many) hF343 (by decide)) (by omega) (by omega) sf325
                have sf353 : wP A339 (sy2_30) pb (18) (Vd Vs (sy + 1) sy1) (r25) (nd) (nd2_29) (sy1) (sy2_30) := wP_ag (Sg_fr hF343 (by decide)) (Qg_fr hF343 (by decide)) (by omega) (by omega) (Ax_ag (Ag_fr hF343 (by decide))) sf326
                have sf354 : NX A339 (r25) := NX_ag (by omega) (Ag_fr hF343 (by decide)) sf327
                have sf355 : NdM A339 (nd) (nd2_29) (sy1) := NdM_f hF343 (by decide) sf328
                have ec356 : ecn A339 (G338 31) = ec2_34 := (ecn_f (hF343.2 15 rfl) (hF343.1 31 rfl)).trans ec329
                have bln2_340 : (0 : Int) ≤ ln2_340 ∧ ln2_340 ≤ 3000 := e344 ▸ hW342.1 9
                have bfk2_341 : (0 : Int) ≤ fk2_341 ∧ fk2_341 ≤ 6 := e345 ▸ hW342.1 16
                refine .inl ⟨rfl, ?_⟩
                rcases q346 with ⟨a357, a358, a359, a360, a361⟩ | ⟨a362, a363⟩
                · have _q : True := trivial
                  exfalso
                  omega
                · have _q : True := trivial
                  exact c_readProc_w_at_327p (X := X) (d := d) (Vs := Vs) (sb := sb) (pb := pb) (hvb := hvb) (c0 := c0) (c1 := c1) (G := G) (A := A) (T := T) (ln := ln) (li := li) (at0 := at0) (fk := fk) (nd := nd) (sy := sy) (na := na) (vi := vi) (le := le) (op0 := op0) (tk0 := tk0) (pc0 := pc0) (ec := ec) (hd := hd) (hW := hW) (e_ln := e_ln) (e_li := e_li) (e_at0 := e_at0) (e_fk := e_fk) (e_nd := e_nd) (e_sy := e_sy) (e_na := e_na) (e_vi := e_vi) (e_le := e_le) (e_op0 := e_op0) (e_tk0 := e_tk0) (e_pc0 := e_pc0) (e_ec := e_ec) (i_LT := i_LT) (i_SV := i_SV) (i_PQ := i_PQ) (p_0 := p_0) (p_1 := p_1) (p_2 := p_2) (p_3 := p_3) (p_4 := p_4) (p_5 := p_5) (p_6 := p_6) (p_7 := p_7) (p_8 := p_8) (p_9 := p_9) L G338 A339 (p) (ln2_340) (fk2_341) (sy2_30) (na2_31) (ec2_34) gL_0 gL_1 hW342 hF347 hP348 hS349 hV350 hK351 ((e344)) ((e345)) (((hF343.1 19 rfl).trans ((hF313.1 19 rfl).trans ((hF169.1 19 rfl).trans ((hF141.1 19 rfl).trans (e45)))))) (((hF343.1 28 rfl).trans ((hF313.1 28 rfl).trans ((hF169.1 28 rfl).trans ((hF141.1 28 rfl).trans (e46)))))) (ec356) (((hF343.1 29 rfl).trans ((hF313.1 29 rfl).trans ((hF169.1 29 rfl).trans (hF141.1 29 rfl))))) (((hF343.1 46 rfl).trans ((hF313.1 46 rfl).trans ((hF169.1 46 rfl).trans ((hF141.1 46 rfl).trans ((hF36.1 46 rfl).trans (fx_46))))))) (by omega) (by omega) (by omega) (by omega) (by omega) (by omega) (by omega) (by omega)
              · have _q : True := trivial
                exfalso
                omega
        · have _q : True := trivial
          refine jx_if_eq (pc_q := 309) (tg := 327) rfl rfl rfl (by decide) (by decide) (fun h364 => ?_) (fun h364 => ?_)
          · have _q := h364
            exact c_readProc_w_at_327p (X := X) (d := d) (Vs := Vs) (sb := sb) (pb := pb) (hvb := hvb) (c0 := c0) (c1 := c1) (G := G) (A := A) (T := T) (ln := ln) (li := li) (at0 := at0) (fk := fk) (nd := nd) (sy := sy) (na := na) (vi := vi) (le := le) (op0 := op0) (tk0 := tk0) (pc0 := pc0) (ec := ec) (hd := hd) (hW := hW) (e_ln := e_ln) (e_li := e_li) (e_at0 := e_at0) (e_fk := e_fk) (e_nd := e_nd) (e_sy := e_sy) (e_na := e_na) (e_vi := e_vi) (e_le := e_le) (e_op0 := e_op0) (e_tk0 := e_tk0) (e_pc0 := e_pc0) (e_ec := e_ec) (i_LT := i_LT) (i_SV := i_SV) (i_PQ := i_PQ) (p_0 := p_0) (p_1 := p_1) (p_2 := p_2) (p_3 := p_3) (p_4 := p_4) (p_5 := p_5) (p_6 := p_6) (p_7 := p_7) (p_8 := p_8) (p_9 := p_9) L G136 A137 (p) (ln2_26) (fk2_139) (sy2_30) (na2_31) (ec2_34) gL_0 gL_1 hW140 hF145 hP146 hS147 hV148 hK149 (((hF141.1 9 rfl).trans (e41))) ((e143)) (((hF141.1 19 rfl).trans (e45))) (((hF141.1 28 rfl).trans (e46))) (ec154) ((hF141.1 29 rfl)) (((hF141.1 46 rfl).trans ((hF36.1 46 rfl).trans (fx_46)))) (by omega) (by omega) (by omega) (by omega) (by omega) (by omega) (by omega) (by omega)
          · have _q := h364
            exact absurd h364 (by omega)
    · have _q := h22
      refine jx_ld (pc_q := 260) (l_q := L) (st_q := [.ref 66]) rfl (jl_aloadn gL_0) ?_
      refine jx_ld (pc_q := 261) (l_q := L) (st_q := [.ref 66, .ref 66]) rfl (jl_aloadn gL_0) ?_
      refine jr_get (pc_q := 264) (i := 47) (v := .ref 96) rfl rfl (by decide) rfl rfl ?_
      refine jx_ld (pc_q := 265) (l_q := L) (st_q := [.ref 66, .ref 96, .ref 66]) rfl (jl_aloadn gL_0) ?_
      refine jr_get (pc_q := 268) (i := 46) (v := .int (i32 (pc0))) rfl rfl (by decide) (rFv_eq (by decide) (show Gx 46 = pc0 from (fx_46))) rfl ?_
      refine jr_ldv (pc_q := 269) (i := 29) (m := 25) (z := pc0) (y := pp1) rfl (by decide) rfl (by decide) (Int.le_trans (by decide : (0 : Int) ≤ 0) b_pc0.1) (Int.lt_of_le_of_lt b_pc0.2 (by decide : (24 : Int) < ((25 : Nat) : Int))) rfl (show Ax 29 (pc0).toNat = pp1 from (ex_pp1)) ?_
      refine jx_ld (pc_q := 271) (l_q := L) (st_q := [.int (i32 (kk)), .int (i32 (pp1)), .ref 66]) rfl (jl_iload gL_5) ?_
      refine jx_add (pc_q := 272) rfl rfl ?_
      refine jx_vr (pc_q := 275) (as := [.int (i32 ((pp1 + kk)))]) (st := []) rfl rfl rfl rfl ⟨rfl, rfl, Nat.le_of_ble_eq_true rfl⟩ rfl rfl (c_show (dd := d) (hd := by omega) (hW := hWx) (s := (pp1 + kk)) (vi := vi1) (e_vi := show Gx 29 = vi1 from (ex_vi1))  (h_s := ⟨(by omega), (by omega)⟩)  (p_0 := by omega) (p_1 := by omega)) (fun o V_q hq => ?_)
      obtain ⟨G365, A366, vi2_367, sv2_368, rfl, rfl, hW369, hF370, hQ371, e372, e373, p374, p375, -⟩ := hq
      have hF377 := Fr_tr hFx hF370 (Fr_sub (by decide)) (Fr_sub (by decide))
      have hP378 := Pf_f hPx hF370 (by decide)
      have hS379 := Fx_f hSx hF370 (by decide)
      have hV380 := Fx_tr hVx hQ371 (by omega)
      have hK381 := Fx_f hKx hF370 (by decide)
      have sf382 : wM A366 (sy + 1) (many) := wM_fx (Sg_fr (sb := sy + 1 + many) hF370 (by decide)) (by omega) (by omega) iv_10
      have sf383 : DS A366 (vi) (vi1) (sy + 1) (sy1) := DS_fx hQ371 (by omega) iv_11
      have ec384 : ecn A366 (G365 31) = ec := (ecn_f (hF370.2 15 rfl) (hF370.1 31 rfl)).trans fx_900
      have bvi2_367 : (0 : Int) ≤ vi2_367 ∧ vi2_367 ≤ 202 := e372 ▸ hW369.1 29
      have bsv2_368 : (0 : Int) ≤ sv2_368 ∧ sv2_368 ≤ 201 := e373 ▸ hW369.2 14 _
      refine .inl ⟨rfl, ?_⟩
      refine jx_inc (pc_q := 278) (l_q := jSto1 L 5 (.int (i32 ((kk + (1)))))) (x := kk) rfl gL_5 (by decide) rfl rfl ?_
      obtain ⟨L385, eL385⟩ : ∃ q, q = jSto1 L 5 (.int (i32 ((kk + (1))))) := ⟨_, rfl⟩
      rw [← eL385]
      have gL385_0 : jGet L385 0 = some (.ref 66) := eL385 ▸ jg_ne (by decide) gL_0 rfl
      have gL385_4 : jGet L385 4 = some (.int (i32 (vi))) := eL385 ▸ jg_ne (by decide) gL_4 rfl
      have gL385_1 : jGet L385 1 = some (.int (i32 (p))) := eL385 ▸ jg_ne (by decide) gL_1 rfl
      have gL385_2 : jGet L385 2 = some (.int (i32 (many))) := eL385 ▸ jg_ne (by decide) gL_2 rfl
      have gL385_5 : jGet L385 5 = some (.int (i32 ((kk + (1))))) := eL385 ▸ jg_eq
      refine jx_go (tg := 253) rfl rfl ?_
      exact ih253 _ (by omega) L385 G365 A366 (p) (many) ((kk + (1))) (ln1) (at1) (fk1) (sy1) (na1) (vi2_367) (pp1) (mp1) (kp1) (np1) (lf1) rfl gL385_0 gL385_4 gL385_1 gL385_2 gL385_5 hW369 hF377 hP378 hS379 hV380 hK381 (((hF370.1 9 rfl).trans (ex_ln1))) (((hF370.1 10 rfl).trans (ex_at1))) (((hF370.1 16 rfl).trans (ex_fk1))) (((hF370.1 19 rfl).trans (ex_sy1))) (((hF370.1 28 rfl).trans (ex_na1))) ((e372)) ((congrFun (hF370.2 29 rfl) _).trans (ex_pp1)) ((congrFun (hF370.2 30 rfl) _).trans (ex_mp1)) ((congrFun (hF370.2 7 rfl) _).trans (ex_kp1)) ((congrFun (hF370.2 12 rfl) _).trans (ex_np1)) ((congrFun (hF370.2 3 rfl) _).trans (ex_lf1)) (((hF370.1 46 rfl).trans (fx_46))) (((hF370.1 31 rfl).trans (fx_31))) (ec384) (by omega) (by omega) (by omega) (by omega) (by omega) (by omega) (by omega) (by omega) (by omega) (by omega) (by omega) (by omega) (by omega) (sf382) ((DS_add sf383 (show A366 14 (vi1).toNat = sv2_368 from (e373)) (by omega) (by omega) (by omega) (by omega))) (by omega) (by omega) (by omega) (by omega) (by omega)
set_option maxRecDepth 20000 in
set_option maxHeartbeats 4000000 in
theorem c_readProc_w_at_212p {X : jX} {d : Nat} {Vs : Nat → Prop} {sb pb : Int} (hvb : VB Vs sb) {c0 c1 : jC} {G : Nat → Int} {A : Nat → Nat → Int} {T : jH} {ln li at0 fk nd sy na vi le op0 tk0 pc0 ec : Int} (hd : 8 * 18 + 81 ≤ d + 1) (hW : Wk G A) (e_ln : G 9 = ln) (e_li : G 3 = li) (e_at0 : G 10 = at0) (e_fk : G 16 = fk) (e_nd : G 31 = nd) (e_sy : G 19 = sy) (e_na : G 28 = na) (e_vi : G 29 = vi) (e_le : A 4 (ln).toNat = le) (e_op0 : G 15 = op0) (e_tk0 : G 11 = tk0) (e_pc0 : G 46 = pc0) (e_ec : ecn A (G 31) = ec) (i_LT : LT G A) (i_SV : SV Vs sb G A) (i_PQ : PQ Vs sb pb G A) (p_0 : fk = 0) (p_1 : ln < li) (p_2 : at0 ≤ le) (p_3 : nd ≤ 2 * at0 - tz tk0 + 30) (p_4 : sy ≤ na + 2) (p_5 : vi ≤ sy) (p_6 : sb ≤ sy) (p_7 : pb = pc0) (p_8 : wQ A (pc0).toNat (nd) (sy)) (p_9 : VT (Vs) A (sy)) : ∀ (L : jL) (Gx : Nat → Int) (Ax : Nat → Nat → Int) (p many at1 fk1 sy1 na1 : Int), jGet L 0 = some (.ref 66) → jGet L 1 = some (.int (i32 p)) → jGet L 2 = some (.int (i32 many)) → Wk Gx Ax → Fr [9, 10, 11, 12, 13, 14, 15, 16, 17, 18, 19, 28, 29, 31, 46] [6, 7, 8, 9, 10, 11, 12, 14, 15, 16, 17, 18, 19, 20, 21, 22, 23, 24, 28, 29, 30, 31] G A Gx Ax → Pf nd A Ax → Fx sr (sy) A Ax → Fx [14] (vi) A Ax → Fx [29, 30, 31] (pc0) A Ax → Gx 10 = at1 → Gx 16 = fk1 → Gx 19 = sy1 → Gx 28 = na1 → Gx 9 = ln → Gx 29 = vi → Gx 46 = pc0 → Gx 31 = nd → ecn Ax (Gx 31) = ec → ((-2147483648 : Int) ≤ p ∧ p ≤ 2147483647) → ((-2147483648 : Int) ≤ many ∧ many ≤ 2147483647) → (1 ≤ fk1) → (at0 ≤ at1) → (at1 ≤ le) → (sy ≤ sy1) → (sy1 ≤ na1 + 2) → (0 ≤ many ∧ many ≤ 6) → (pc0 ≤ 23) → wj X d jm308 (212, L, [], rV c0 c1 Gx Ax T) (fun o V_q => ∃ (G_q : Nat → Int) (A_q : Nat → Nat → Int) (ln2 : Int) (at2 : Int) (fk2 : Int) (nd2 : Int) (sy2 : Int) (na2 : Int) (vi2 : Int) (lf2 : Int) (pc2 : Int) (ec2 : Int), V_q = rV c0 c1 G_q A_q T ∧ o = .inl none ∧ Wk G_q A_q ∧ Fr [9, 10, 11, 12, 13, 14, 15, 16, 17, 18, 19, 28, 29, 31, 46] [6, 7, 8, 9, 10, 11, 12, 14, 15, 16, 17, 18, 19, 20, 21, 22, 23, 24, 28, 29, 30, 31] G A G_q A_q ∧ Pf nd A A_q ∧ Fx sr (sy) A A_q ∧ Fx [14] (vi) A A_q ∧ Fx [29, 30, 31] (pc0) A A_q ∧ G_q 9 = ln2 ∧ G_q 10 = at2 ∧ G_q 16 = fk2 ∧ G_q 31 = nd2 ∧ G_q 19 = sy2 ∧ G_q 28 = na2 ∧ G_q 29 = vi2 ∧ A_q 3 (ln2).toNat = lf2 ∧ G_q 46 = pc2 ∧ ecn A_q (G_q 31) = ec2 ∧ (sy2 ≤ na2 + 2) ∧ (vi2 ≤ sy2) ∧ (ln ≤ ln2) ∧ (ln2 ≤ li) ∧ (((1 ≤ fk2)) ∨ ((fk2 = 0) ∧ (ln < ln2) ∧ (at0 ≤ at2) ∧ (pc2 = pc0 + 1) ∧ (nd2 - nd ≤ 2 * at2 - (2 * at0 - tz tk0)) ∧ (at2 < lf2 ∨ li ≤ ln2) ∧ (vi2 = vi + 1) ∧ (sy < sy2) ∧ (wQ A_q (pc2).toNat (nd2) (sy2)) ∧ (SW (Vu Vs sy) (sy2) (vi2) A_q) ∧ (PQ (Vu Vs sy) (sy2) (pc2) (fun _ => 0) A_q) ∧ (VT (Vu Vs sy) A_q (sy2)) ∧ (nd2 - nd + 5 * (ec2 - ec) ≤ 2 * at2 - (2 * at0 - tz tk0)) ∧ (NdM A_q (nd) (nd2) (sy))))) := by
  have hF0 : Fr [9, 10, 11, 12, 13, 14, 15, 16, 17, 18, 19, 28, 29, 31, 46] [6, 7, 8, 9, 10, 11, 12, 14, 15, 16, 17, 18, 19, 20, 21, 22, 23, 24, 28, 29, 30, 31] G A G A := Fr_rf
  have hP0 : Pf nd A A := Pf_rf
  have hS0 : Fx sr (sy) A A := Fx_rf
  have hV0 : Fx [14] (vi) A A := Fx_rf
  have hK0 : Fx [29, 30, 31] (pc0) A A := Fx_rf
  have b_ln : (0 : Int) ≤ ln ∧ ln ≤ 3000 := e_ln ▸ hW.1 9
  have b_li : (0 : Int) ≤ li ∧ li ≤ 3000 := e_li ▸ hW.1 3
  have b_at0 : (0 : Int) ≤ at0 ∧ at0 ≤ 3002 := e_at0 ▸ hW.1 10
  have b_fk : (0 : Int) ≤ fk ∧ fk ≤ 6 := e_fk ▸ hW.1 16
  have b_nd : (0 : Int) ≤ nd ∧ nd ≤ 6999 := e_nd ▸ hW.1 31
  have b_sy : (0 : Int) ≤ sy ∧ sy ≤ 202 := e_sy ▸ hW.1 19
  have b_na : (0 : Int) ≤ na ∧ na ≤ 200 := e_na ▸ hW.1 28
  have b_vi : (0 : Int) ≤ vi ∧ vi ≤ 202 := e_vi ▸ hW.1 29
  have b_le : (0 : Int) ≤ le ∧ le ≤ 3000 := e_le ▸ hW.2 4 _
  have b_op0 : (-2147483648 : Int) ≤ op0 ∧ op0 ≤ 2147483647 := e_op0 ▸ hW.1 15
  have z_tk0 := tz_f tk0
  have b_tk0 : (0 : Int) ≤ tk0 ∧ tk0 ≤ 5 := e_tk0 ▸ hW.1 11
  have b_pc0 : (0 : Int) ≤ pc0 ∧ pc0 ≤ 24 := e_pc0 ▸ hW.1 46
  intro L Gx Ax p many at1 fk1 sy1 na1 gL_0 gL_1 gL_2 hWx hFx hPx hSx hVx hKx ex_at1 ex_fk1 ex_sy1 ex_na1 fx_9 fx_29 fx_46 fx_31 fx_900 rx_p rx_many iv_0 iv_1 iv_2 iv_3 iv_4 iv_5 iv_6
  have b_at1 : (0 : Int) ≤ at1 ∧ at1 ≤ 3002 := ex_at1 ▸ hWx.1 10
  have b_fk1 : (0 : Int) ≤ fk1 ∧ fk1 ≤ 6 := ex_fk1 ▸ hWx.1 16
  have b_sy1 : (0 : Int) ≤ sy1 ∧ sy1 ≤ 202 := ex_sy1 ▸ hWx.1 19
  have b_na1 : (0 : Int) ≤ na1 ∧ na1 ≤ 200 := ex_na1 ▸ hWx.1 28
  refine jx_ld (pc_q := 213) (l_q := L) (st_q := [.ref 66]) rfl (jl_aloadn gL_0) ?_
  refine jr_get (pc_q := 216) (i := 48) (v := .ref 97) rfl rfl (by decide) rfl rfl ?_
  refine jx_ld (pc_q := 217) (l_q := L) (st_q := [.ref 66, .ref 97]) rfl (jl_aloadn gL_0) ?_
  refine jr_get (pc_q := 220) (i := 46) (v := .int (i32 (pc0))) rfl rfl (by decide) (rFv_eq (by decide) (show Gx 46 = pc0 from (fx_46))) rfl ?_
  refine jx_ld (pc_q := 221) (l_q := L) (st_q := [.int (i32 (many)), .int (i32 (pc0)), .ref 97]) rfl (jl_iloadn gL_2) ?_
  refine jr_st (pc_q := 222) (i := 30) (m := 25) (z := pc0) (y := many) rfl (by decide) rfl (by decide) (by omega) (by omega) rfl ?_
  have hW387 : Wk Gx (uA Ax 30 (pc0).toNat (many)) := Wk_a hWx (show (0 : Int) ≤ many by omega) (show many ≤ (6 : Int) by omega)
  have hF388 := Fr_a (z := many) (k := 30) (n := (pc0).toNat) hFx (by decide)
  obtain ⟨A386, eA386⟩ : ∃ q, q = uA Ax 30 (pc0).toNat (many) := ⟨_, rfl⟩
  rw [← eA386]
  rw [← eA386] at hW387 hF388
  have q389 : A386 30 (pc0).toNat = many := by rw [eA386]; exact uA_eq
  have hP390 : Pf nd A A386 := eA386 ▸ Pf_n hPx rfl
  have hS391 : Fx sr (sy) A A386 := eA386 ▸ Fx_n hSx rfl
  have hV392 : Fx [14] (vi) A A386 := eA386 ▸ Fx_n hVx rfl
  have hK393 : Fx [29, 30, 31] (pc0) A A386 := eA386 ▸ Fx_a hKx (z := pc0) (by omega) (by omega)
  have ec394 : ecn A386 (Gx 31) = ec := (ecn_e ((congrFun eA386 15).trans (uA_ne (by decide)))).trans fx_900
  refine jx_ld (pc_q := 223) (l_q := L) (st_q := [.ref 66]) rfl (jl_aloadn gL_0) ?_
  refine jx_ld (pc_q := 224) (l_q := L) (st_q := [.ref 66, .ref 66]) rfl (jl_aloadn gL_0) ?_
  refine jx_ar (pc_q := 226) (st_q := [.int (i32 (41)), .ref 66, .ref 66]) rfl rfl rfl rfl ?_
  have b395 : (0 : Int) ≤ Gx 11 ∧ Gx 11 ≤ 5 := hWx.1 11
  have b396 : (-2147483648 : Int) ≤ Gx 13 ∧ Gx 13 ≤ 2147483647 := hWx.1 13
  refine jx_vr (pc_q := 229) (as := [.int (i32 (41))]) (st := [.ref 66]) rfl rfl rfl rfl ⟨rfl, rfl, Nat.le_of_ble_eq_true rfl⟩ rfl rfl (c_is (dd := d) (hd := by omega) (hW := hW387) (k := 41) (tk := Gx 11) (e_tk := show Gx 11 = Gx 11 from rfl) (tn := Gx 13) (e_tn := show Gx 13 = Gx 13 from rfl)  (h_k := ⟨(by decide), (by decide)⟩)  ) (fun o V_q hq => ?_)
  obtain ⟨r397, rfl, rfl, b398, q399⟩ := hq
  refine .inr ⟨_, rfl, ?_⟩
  rcases q399 with ⟨rfl, a400, a401, a402⟩ | rfl
  · have _q : True := trivial
    refine jx_vr (pc_q := 232) (as := [.int (i32 (1))]) (st := []) rfl rfl rfl rfl ⟨rfl, rfl, Nat.le_of_ble_eq_true rfl⟩ rfl rfl (c_need (dd := d) (hd := by omega) (hW := hW387) (g := 1) (ln := ln) (e_ln := show Gx 9 = ln from (fx_9)) (le := le) (e_le := show A386 4 (ln).toNat = le from (congrFun (((congrFun eA386 4).trans (uA_ne (by decide))).trans (hFx.2 4 rfl)) _).trans (e_le)) (at0 := at1) (e_at0 := show Gx 10 = at1 from (ex_at1)) (fk := fk1) (e_fk := show Gx 16 = fk1 from (ex_fk1)) (tk0 := Gx 11) (e_tk0 := show Gx 11 = Gx 11 from rfl)  (h_g := ⟨(by decide), (by decide)⟩)  (p_0 := by omega)) (fun o V_q hq => ?_)
    obtain ⟨G403, A404, at2_405, tk2_406, fk2_407, rfl, rfl, hW408, hF409, e410, e411, e412, p413, p414, q415⟩ := hq
    have hF416 := Fr_tr hF388 hF409 (Fr_sub (by decide)) (Fr_sub (by decide))
    have hP417 := Pf_f hP390 hF409 (by decide)
    have hS418 := Fx_f hS391 hF409 (by decide)
    have hV419 := Fx_f hV392 hF409 (by decide)
    have hK420 := Fx_f hK393 hF409 (by decide)
    have ec421 : ecn A404 (G403 31) = ec := (ecn_f (hF409.2 15 rfl) (hF409.1 31 rfl)).trans ec394
    have bat2_405 : (0 : Int) ≤ at2_405 ∧ at2_405 ≤ 3002 := e410 ▸ hW408.1 10
    have ztk2_406 := tz_b tk2_406
    have btk2_406 : (0 : Int) ≤ tk2_406 ∧ tk2_406 ≤ 5 := e411 ▸ hW408.1 11
    have bfk2_407 : (0 : Int) ≤ fk2_407 ∧ fk2_407 ≤ 6 := e412 ▸ hW408.1 16
    refine .inl ⟨rfl, ?_⟩
    rcases q415 with ⟨a422, a423, a424, a425⟩ | ⟨a426, a427, a428, a429⟩
    · have _q : True := trivial
      refine jx_ld (pc_q := 233) (l_q := L) (st_q := [.ref 66]) rfl (jl_aloadn gL_0) ?_
      refine jx_vr (pc_q := 236) (as := []) (st := []) rfl rfl rfl rfl ⟨rfl, rfl, Nat.le_of_ble_eq_true rfl⟩ rfl rfl (c_endLine (dd := d) (hd := by omega) (hW := hW408)  (ln := ln) (e_ln := show G403 9 = ln from ((hF409.1 9 rfl).trans (fx_9))) (li := li) (e_li := show G403 3 = li from ((hF409.1 3 rfl).trans ((hFx.1 3 rfl).trans (e_li)))) (fk := fk2_407) (e_fk := show G403 16 = fk2_407 from (e412)) (tk0 := tk2_406) (e_tk0 := show G403 11 = tk2_406 from (e411))    (p_0 := by omega)) (fun o V_q hq => ?_)
      obtain ⟨G430, A431, ln2_432, fk2_433, rfl, rfl, hW434, hF435, e436, e437, q438⟩ := hq
      have hF439 := Fr_tr hF416 hF435 (Fr_sub (by decide)) (Fr_sub (by decide))
      have hP440 := Pf_f hP417 hF435 (by decide)
      have hS441 := Fx_f hS418 hF435 (by decide)
      have hV442 := Fx_f hV419 hF435 (by decide)
      have hK443 := Fx_f hK420 hF435 (by decide)
      have ec444 : ecn A431 (G430 31) = ec := (ecn_f (hF435.2 15 rfl) (hF435.1 31 rfl)).trans ec421
      have bln2_432 : (0 : Int) ≤ ln2_432 ∧ ln2_432 ≤ 3000 := e436 ▸ hW434.1 9
      have bfk2_433 : (0 : Int) ≤ fk2_433 ∧ fk2_433 ≤ 6 := e437 ▸ hW434.1 16
      refine .inl ⟨rfl, ?_⟩
      rcases q438 with ⟨a445, a446, a447, a448, a449⟩ | ⟨a450, a451⟩
      · have _q : True := trivial
        exfalso
        omega
      · have _q : True := trivial
        refine jx_ld (pc_q := 237) (l_q := L) (st_q := [.ref 66]) rfl (jl_aloadn gL_0) ?_
        refine jx_vr (pc_q := 240) (as := []) (st := []) rfl rfl rfl rfl ⟨rfl, rfl, Nat.le_of_ble_eq_true rfl⟩ rfl rfl (c_bad (dd := d) (hd := by omega) (hW := hW434)  (fk := fk2_433) (e_fk := show G430 16 = fk2_433 from (e437))    ) (fun o V_q hq => ?_)
        obtain ⟨r452, rfl, rfl, b453, q454⟩ := hq
        refine .inr ⟨_, rfl, ?_⟩
        rcases q454 with ⟨rfl, a455⟩ | ⟨rfl, a456⟩
        · have _q : True := trivial
          refine jx_if_eq (pc_q := 243) (tg := 244) rfl rfl rfl (by decide) (by decide) (fun h457 => ?_) (fun h457 => ?_)
          · have _q := h457
            exact absurd h457 (by omega)
          · have _q := h457
            refine jx_rt (v := none) rfl rfl rfl rfl rfl rfl ?_
            exact ⟨_, _, ln2_432, at2_405, fk2_433, nd, sy1, na1, vi, A 3 (ln2_432).toNat, pc0, ec, rfl, rfl, hW434, hF439, hP440, hS441, hV442, hK443, (e436), ((hF435.1 10 rfl).trans (e410)), (e437), ((hF435.1 31 rfl).trans ((hF409.1 31 rfl).trans (fx_31))), ((hF435.1 19 rfl).trans ((hF409.1 19 rfl).trans (ex_sy1))), ((hF435.1 28 rfl).trans ((hF409.1 28 rfl).trans (ex_na1))), ((hF435.1 29 rfl).trans ((hF409.1 29 rfl).trans (fx_29))), (congrFun ((hF435.2 3 rfl).trans ((hF409.2 3 rfl).trans (((congrFun eA386 3).trans (uA_ne (by decide))).trans (hFx.2 3 rfl)))) _), ((hF435.1 46 rfl).trans ((hF409.1 46 rfl).trans (fx_46))), ec444, by omega, by omega, by omega, by omega, by first | exact Or.inl (by omega)⟩
        · have _q : True := trivial
          exfalso
          omega
    · have _q : True := trivial
      exfalso
      omega
  · have _q : True := trivial
    refine jx_vr (pc_q := 232) (as := [.int (i32 (0))]) (st := []) rfl rfl rfl rfl ⟨rfl, rfl, Nat.le_of_ble_eq_true rfl⟩ rfl rfl (c_need (dd := d) (hd := by omega) (hW := hW387) (g := 0) (ln := ln) (e_ln := show Gx 9 = ln from (fx_9)) (le := le) (e_le := show A386 4 (ln).toNat = le from (congrFun (((congrFun eA386 4).trans (uA_ne (by decide))).trans (hFx.2 4 rfl)) _).trans (e_le)) (at0 := at1) (e_at0 := show Gx 10 = at1 from (ex_at1)) (fk := fk1) (e_fk := show Gx 16 = fk1 from (ex_fk1)) (tk0 := Gx 11) (e_tk0 := show Gx 11 = Gx 11 from rfl)  (h_g := ⟨(by decide), (by decide)⟩)  (p_0 := by omega)) (fun o V_q hq => ?_)
    obtain ⟨G458, A459, at2_460, tk2_461, fk2_462, rfl, rfl, hW463, hF464, e465, e466, e467, p468, p469, q470⟩ := hq
    have hF471 := Fr_tr hF388 hF464 (Fr_sub (by decide)) (Fr_sub (by decide))
    have hP472 := Pf_f hP390 hF464 (by decide)
    have hS473 := Fx_f hS391 hF464 (by decide)
    have hV474 := Fx_f hV392 hF464 (by decide)
    have hK475 := Fx_f hK393 hF464 (by decide)
    have ec476 : ecn A459 (G458 31) = ec := (ecn_f (hF464.2 15 rfl) (hF464.1 31 rfl)).trans ec394
    have bat2_460 : (0 : Int) ≤ at2_460 ∧ at2_460 ≤ 3002 := e465 ▸ hW463.1 10
    have ztk2_461 := tz_b tk2_461
    have btk2_461 : (0 : Int) ≤ tk2_461 ∧ tk2_461 ≤ 5 := e466 ▸ hW463.1 11
    have bfk2_462 : (0 : Int) ≤ fk2_462 ∧ fk2_462 ≤ 6 := e467 ▸ hW463.1 16
    refine .inl ⟨rfl, ?_⟩
    rcases q470 with ⟨a477, a478, a479, a480⟩ | ⟨a481, a482, a483, a484⟩
    · have _q : True := trivial
      refine jx_ld (pc_q := 233) (l_q := L) (st_q := [.ref 66]) rfl (jl_aloadn gL_0) ?_
      refine jx_vr (pc_q := 236) (as := []) (st := []) rfl rfl rfl rfl ⟨rfl, rfl, Nat.le_of_ble_eq_true rfl⟩ rfl rfl (c_endLine (dd := d) (hd := by omega) (hW := hW463)  (ln := ln) (e_ln := show G458 9 = ln from ((hF464.1 9 rfl).trans (fx_9))) (li := li) (e_li := show G458 3 = li from ((hF464.1 3 rfl).trans ((hFx.1 3 rfl).trans (e_li)))) (fk := fk2_462) (e_fk := show G458 16 = fk2_462 from (e467)) (tk0 := tk2_461) (e_tk0 := show G458 11 = tk2_461 from (e466))    (p_0 := by omega)) (fun o V_q hq => ?_)
      obtain ⟨G485, A486, ln2_487, fk2_488, rfl, rfl, hW489, hF490, e491, e492, q493⟩ := hq
      have hF494 := Fr_tr hF471 hF490 (Fr_sub (by decide)) (Fr_sub (by decide))
      have hP495 := Pf_f hP472 hF490 (by decide)
      have hS496 := Fx_f hS473 hF490 (by decide)
      have hV497 := Fx_f hV474 hF490 (by decide)
      have hK498 := Fx_f hK475 hF490 (by decide)
      have ec499 : ecn A486 (G485 31) = ec := (ecn_f (hF490.2 15 rfl) (hF490.1 31 rfl)).trans ec476
      have bln2_487 : (0 : Int) ≤ ln2_487 ∧ ln2_487 ≤ 3000 := e491 ▸ hW489.1 9
      have bfk2_488 : (0 : Int) ≤ fk2_488 ∧ fk2_488 ≤ 6 := e492 ▸ hW489.1 16
      refine .inl ⟨rfl, ?_⟩
      rcases q493 with ⟨a500, a501, a502, a503, a504⟩ | ⟨a505, a506⟩
      · have _q : True := trivial
        exfalso
        omega
      · have _q : True := trivial
        refine jx_ld (pc_q := 237) (l_q := L) (st_q := [.ref 66]) rfl (jl_aloadn gL_0) ?_
        refine jx_vr (pc_q := 240) (as := []) (st := []) rfl rfl rfl rfl ⟨rfl, rfl, Nat.le_of_ble_eq_true rfl⟩ rfl rfl (c_bad (dd := d) (hd := by omega) (hW := hW489)  (fk := fk2_488) (e_fk := show G485 16 = fk2_488 from (e492))    ) (fun o V_q hq => ?_)
        obtain ⟨r507, rfl, rfl, b508, q509⟩ := hq
        refine .inr ⟨_, rfl, ?_⟩
        rcases q509 with ⟨rfl, a510⟩ | ⟨rfl, a511⟩
        · have _q : True := trivial
          refine jx_if_eq (pc_q := 243) (tg := 244) rfl rfl rfl (by decide) (by decide) (fun h512 => ?_) (fun h512 => ?_)
          · have _q := h512
            exact absurd h512 (by omega)
          · have _q := h512
            refine jx_rt (v := none) rfl rfl rfl rfl rfl rfl ?_
            exact ⟨_, _, ln2_487, at2_460, fk2_488, nd, sy1, na1, vi, A 3 (ln2_487).toNat, pc0, ec, rfl, rfl, hW489, hF494, hP495, hS496, hV497, hK498, (e491), ((hF490.1 10 rfl).trans (e465)), (e492), ((hF490.1 31 rfl).trans ((hF464.1 31 rfl).trans (fx_31))), ((hF490.1 19 rfl).trans ((hF464.1 19 rfl).trans (ex_sy1))), ((hF490.1 28 rfl).trans ((hF464.1 28 rfl).trans (ex_na1))), ((hF490.1 29 rfl).trans ((hF464.1 29 rfl).trans (fx_29))), (congrFun ((hF490.2 3 rfl).trans ((hF464.2 3 rfl).trans (((congrFun eA386 3).trans (uA_ne (by decide))).trans (hFx.2 3 rfl)))) _), ((hF490.1 46 rfl).trans ((hF464.1 46 rfl).trans (fx_46))), ec499, by omega, by omega, by omega, by omega, by first | exact Or.inl (by omega)⟩
        · have _q : True := trivial
          exfalso
          omega
    · have _q : True := trivial
      exfalso
      omega
set_option maxRecDepth 20000 in
set_option maxHeartbeats 4000000 in
theorem c_readProc_w_at_146 {X : jX} {d : Nat} {Vs : Nat → Prop} {sb pb : Int} (hvb : VB Vs sb) {c0 c1 : jC} {G : Nat → Int} {A : Nat → Nat → Int} {T : jH} {ln li at0 fk nd sy na vi le op0 tk0 pc0 ec : Int} (hd : 8 * 18 + 81 ≤ d + 1) (hW : Wk G A) (e_ln : G 9 = ln) (e_li : G 3 = li) (e_at0 : G 10 = at0) (e_fk : G 16 = fk) (e_nd : G 31 = nd) (e_sy : G 19 = sy) (e_na : G 28 = na) (e_vi : G 29 = vi) (e_le : A 4 (ln).toNat = le) (e_op0 : G 15 = op0) (e_tk0 : G 11 = tk0) (e_pc0 : G 46 = pc0) (e_ec : ecn A (G 31) = ec) (i_LT : LT G A) (i_SV : SV Vs sb G A) (i_PQ : PQ Vs sb pb G A) (p_0 : fk = 0) (p_1 : ln < li) (p_2 : at0 ≤ le) (p_3 : nd ≤ 2 * at0 - tz tk0 + 30) (p_4 : sy ≤ na + 2) (p_5 : vi ≤ sy) (p_6 : sb ≤ sy) (p_7 : pb = pc0) (p_8 : wQ A (pc0).toNat (nd) (sy)) (p_9 : VT (Vs) A (sy)) : ∀ (m : Nat) (L : jL) (Gx : Nat → Int) (Ax : Nat → Nat → Int) (p many more at1 tk1 fk1 sy1 na1 pp1 kp1 np1 : Int), (7 - many).toNat = m → jGet L 0 = some (.ref 66) → jGet L 1 = some (.int (i32 p)) → jGet L 2 = some (.int (i32 many)) → jGet L 3 = some (.int (i32 more)) → Wk Gx Ax → Fr [9, 10, 11, 12, 13, 14, 15, 16, 17, 18, 19, 28, 29, 31, 46] [6, 7, 8, 9, 10, 11, 12, 14, 15, 16, 17, 18, 19, 20, 21, 22, 23, 24, 28, 29, 30, 31] G A Gx Ax → Pf nd A Ax → Fx sr (sy) A Ax → Fx [14] (vi) A Ax → Fx [29, 30, 31] (pc0) A Ax → Gx 10 = at1 → Gx 11 = tk1 → Gx 16 = fk1 → Gx 19 = sy1 → Gx 28 = na1 → Ax 29 (pc0).toNat = pp1 → Ax 7 (sy).toNat = kp1 → Ax 12 (sy).toNat = np1 → Gx 9 = ln → Gx 29 = vi → Gx 46 = pc0 → Gx 31 = nd → ecn Ax (Gx 31) = ec → ((-2147483648 : Int) ≤ p ∧ p ≤ 2147483647) → ((-2147483648 : Int) ≤ many ∧ many ≤ 2147483647) → ((-2147483648 : Int) ≤ more ∧ more ≤ 2147483647) → (fk1 = 0) → (at0 ≤ at1) → (at1 ≤ le) → (sy1 = sy + 1 + many) → (sy1 ≤ na1 + 2) → (0 ≤ many) → (0 ≤ more ∧ more ≤ 1) → (many + more ≤ 6) → (wM Ax (sy + 1) (many)) → (kp1 = 14) → (np1 = pc0) → (pp1 = sy + 1) → (p = sy) → (pc0 ≤ 23) → wj X d jm308 (146, L, [], rV c0 c1 Gx Ax T) (fun o V_q => ∃ (G_q : Nat → Int) (A_q : Nat → Nat → Int) (ln2 : Int) (at2 : Int) (fk2 : Int) (nd2 : Int) (sy2 : Int) (na2 : Int) (vi2 : Int) (lf2 : Int) (pc2 : Int) (ec2 : Int), V_q = rV c0 c1 G_q A_q T ∧ o = .inl none ∧ Wk G_q A_q ∧ Fr [9, 10, 11, 12, 13, 14, 15, 16, 17, 18, 19, 28, 29, 31, 46] [6, 7, 8, 9, 10, 11, 12, 14, 15, 16, 17, 18, 19, 20, 21, 22, 23, 24, 28, 29, 30, 31] G A G_q A_q ∧ Pf nd A A_q ∧ Fx sr (sy) A A_q ∧ Fx [14] (vi) A A_q ∧ Fx [29, 30, 31] (pc0) A A_q ∧ G_q 9 = ln2 ∧ G_q 10 = at2 ∧ G_q 16 = fk2 ∧ G_q 31 = nd2 ∧ G_q 19 = sy2 ∧ G_q 28 = na2 ∧ G_q 29 = vi2 ∧ A_q 3 (ln2).toNat = lf2 ∧ G_q 46 = pc2 ∧ ecn A_q (G_q 31) = ec2 ∧ (sy2 ≤ na2 + 2) ∧ (vi2 ≤ sy2) ∧ (ln ≤ ln2) ∧ (ln2 ≤ li) ∧ (((1 ≤ fk2)) ∨ ((fk2 = 0) ∧ (ln < ln2) ∧ (at0 ≤ at2) ∧ (pc2 = pc0 + 1) ∧ (nd2 - nd ≤ 2 * at2 - (2 * at0 - tz tk0)) ∧ (at2 < lf2 ∨ li ≤ ln2) ∧ (vi2 = vi + 1) ∧ (sy < sy2) ∧ (wQ A_q (pc2).toNat (nd2) (sy2)) ∧ (SW (Vu Vs sy) (sy2) (vi2) A_q) ∧ (PQ (Vu Vs sy) (sy2) (pc2) (fun _ => 0) A_q) ∧ (VT (Vu Vs sy) A_q (sy2)) ∧ (nd2 - nd + 5 * (ec2 - ec) ≤ 2 * at2 - (2 * at0 - tz tk0)) ∧ (NdM A_q (nd) (nd2) (sy))))) := by
  have hF0 : Fr [9, 10, 11, 12, 13, 14, 15, 16, 17, 18, 19, 28, 29, 31, 46] [6, 7, 8, 9, 10, 11, 12, 14, 15, 16, 17, 18, 19, 20, 21, 22, 23, 24, 28, 29, 30, 31] G A G A := Fr_rf
  have hP0 : Pf nd A A := Pf_rf
  have hS0 : Fx sr (sy) A A := Fx_rf
  have hV0 : Fx [14] (vi) A A := Fx_rf
  have hK0 : Fx [29, 30, 31] (pc0) A A := Fx_rf
  have b_ln : (0 : Int) ≤ ln ∧ ln ≤ 3000 := e_ln ▸ hW.1 9
  have b_li : (0 : Int) ≤ li ∧ li ≤ 3000 := e_li ▸ hW.1 3
  have b_at0 : (0 : Int) ≤ at0 ∧ at0 ≤ 3002 := e_at0 ▸ hW.1 10
  have b_fk : (0 : Int) ≤ fk ∧ fk ≤ 6 := e_fk ▸ hW.1 16
  have b_nd : (0 : Int) ≤ nd ∧ nd ≤ 6999 := e_nd ▸ hW.1 31
  have b_sy : (0 : Int) ≤ sy ∧ sy ≤ 202 := e_sy ▸ hW.1 19
  have b_na : (0 : Int) ≤ na ∧ na ≤ 200 := e_na ▸ hW.1 28
  have b_vi : (0 : Int) ≤ vi ∧ vi ≤ 202 := e_vi ▸ hW.1 29
  have b_le : (0 : Int) ≤ le ∧ le ≤ 3000 := e_le ▸ hW.2 4 _
  have b_op0 : (-2147483648 : Int) ≤ op0 ∧ op0 ≤ 2147483647 := e_op0 ▸ hW.1 15
  have z_tk0 := tz_f tk0
  have b_tk0 : (0 : Int) ≤ tk0 ∧ tk0 ≤ 5 := e_tk0 ▸ hW.1 11
  have b_pc0 : (0 : Int) ≤ pc0 ∧ pc0 ≤ 24 := e_pc0 ▸ hW.1 46
  intro m
  induction m using Nat.strongRecOn with
  | ind m ih146 =>
    intro L Gx Ax p many more at1 tk1 fk1 sy1 na1 pp1 kp1 np1 hm gL_0 gL_1 gL_2 gL_3 hWx hFx hPx hSx hVx hKx ex_at1 ex_tk1 ex_fk1 ex_sy1 ex_na1 ex_pp1 ex_kp1 ex_np1 fx_9 fx_29 fx_46 fx_31 fx_900 rx_p rx_many rx_more iv_0 iv_1 iv_2 iv_3 iv_4 iv_5 iv_6 iv_7 iv_8 iv_9 iv_10 iv_11 iv_12 iv_13
    have b_at1 : (0 : Int) ≤ at1 ∧ at1 ≤ 3002 := ex_at1 ▸ hWx.1 10
    have z_tk1 := tz_f tk1
    have b_tk1 : (0 : Int) ≤ tk1 ∧ tk1 ≤ 5 := ex_tk1 ▸ hWx.1 11
    have b_fk1 : (0 : Int) ≤ fk1 ∧ fk1 ≤ 6 := ex_fk1 ▸ hWx.1 16
    have b_sy1 : (0 : Int) ≤ sy1 ∧ sy1 ≤ 202 := ex_sy1 ▸ hWx.1 19
    have b_na1 : (0 : Int) ≤ na1 ∧ na1 ≤ 200 := ex_na1 ▸ hWx.1 28
    refine jx_ld (pc_q := 147) (l_q := L) (st_q := [.ref 66]) rfl (jl_aloadn gL_0) ?_
    refine jx_vr (pc_q := 150) (as := []) (st := []) rfl rfl rfl rfl ⟨rfl, rfl, Nat.le_of_ble_eq_true rfl⟩ rfl rfl (c_bad (dd := d) (hd := by omega) (hW := hWx)  (fk := fk1) (e_fk := show Gx 16 = fk1 from (ex_fk1))    ) (fun o V_q hq => ?_)
    obtain ⟨r513, rfl, rfl, b514, q515⟩ := hq
    refine .inr ⟨_, rfl, ?_⟩
    rcases q515 with ⟨rfl, a516⟩ | ⟨rfl, a517⟩
    · have _q : True := trivial
      exfalso
      omega
    · have _q : True := trivial
      refine jx_if_ne (pc_q := 153) (tg := 212) rfl rfl rfl (by decide) (by decide) (fun h518 => ?_) (fun h518 => ?_)
      · have _q := h518
        exact absurd h518 (by omega)
      · have _q := h518
        refine jx_ld (pc_q := 154) (l_q := L) (st_q := [.int (i32 (more))]) rfl (jl_iloadn gL_3) ?_
        refine jx_if_eq (pc_q := 157) (tg := 212) rfl rfl rfl (Int.le_trans (by decide : (-2147483648 : Int) ≤ -2147483648) rx_more.1) (Int.le_trans rx_more.2 (by decide : (2147483647 : Int) ≤ 2147483647)) (fun h519 => ?_) (fun h519 => ?_)
        · have _q := h519
          refine jx_ld (pc_q := 213) (l_q := L) (st_q := [.ref 66]) rfl (jl_aloadn gL_0) ?_
          refine jr_get (pc_q := 216) (i := 48) (v := .ref 97) rfl rfl (by decide) rfl rfl ?_
          refine jx_ld (pc_q := 217) (l_q := L) (st_q := [.ref 66, .ref 97]) rfl (jl_aloadn gL_0) ?_
          refine jr_get (pc_q := 220) (i := 46) (v := .int (i32 (pc0))) rfl rfl (by decide) (rFv_eq (by decide) (show Gx 46 = pc0 from (fx_46))) rfl ?_
          refine jx_ld (pc_q := 221) (l_q := L) (st_q := [.int (i32 (many)), .int (i32 (pc0)), .ref 97]) rfl (jl_iloadn gL_2) ?_
          refine jr_st (pc_q := 222) (i := 30) (m := 25) (z := pc0) (y := many) rfl (by decide) rfl (by decide) (by omega) (by omega) rfl ?_
          have hW521 : Wk Gx (uA Ax 30 (pc0).toNat (many)) := Wk_a hWx (show (0 : Int) ≤ many by omega) (show many ≤ (6 : Int) by omega)
          have hF522 := Fr_a (z := many) (k := 30) (n := (pc0).toNat) hFx (by decide)
          obtain ⟨A520, eA520⟩ : ∃ q, q = uA Ax 30 (pc0).toNat (many) := ⟨_, rfl⟩
          rw [← eA520]
          rw [← eA520] at hW521 hF522
          have q523 : A520 30 (pc0).toNat = many := by rw [eA520]; exact uA_eq
          have hP524 : Pf nd A A520 := eA520 ▸ Pf_n hPx rfl
          have hS525 : Fx sr (sy) A A520 := eA520 ▸ Fx_n hSx rfl
          have hV526 : Fx [14] (vi) A A520 := eA520 ▸ Fx_n hVx rfl
          have hK527 : Fx [29, 30, 31] (pc0) A A520 := eA520 ▸ Fx_a hKx (z := pc0) (by omega) (by omega)
          have sf528 : wM A520 (sy + 1) (many) := wM_fx (Sg_ne (sb := sy + 1 + many) eA520 rfl) (by omega) (by omega) iv_8
          have ec529 : ecn A520 (Gx 31) = ec := (ecn_e ((congrFun eA520 15).trans (uA_ne (by decide)))).trans fx_900
          refine jx_ld (pc_q := 223) (l_q := L) (st_q := [.ref 66]) rfl (jl_aloadn gL_0) ?_
          refine jx_ld (pc_q := 224) (l_q := L) (st_q := [.ref 66, .ref 66]) rfl (jl_aloadn gL_0) ?_
          refine jx_ar (pc_q := 226) (st_q := [.int (i32 (41)), .ref 66, .ref 66]) rfl rfl rfl rfl ?_
          have b530 : (-2147483648 : Int) ≤ Gx 13 ∧ Gx 13 ≤ 2147483647 := hWx.1 13
          refine jx_vr (pc_q := 229) (as := [.int (i32 (41))]) (st := [.ref 66]) rfl rfl rfl rfl ⟨rfl, rfl, Nat.le_of_ble_eq_true rfl⟩ rfl rfl (c_is (dd := d) (hd := by omega) (hW := hW521) (k := 41) (tk := tk1) (e_tk := show Gx 11 = tk1 from (ex_tk1)) (tn := Gx 13) (e_tn := show Gx 13 = Gx 13 from rfl)  (h_k := ⟨(by decide), (by decide)⟩)  ) (fun o V_q hq => ?_)
          obtain ⟨r531, rfl, rfl, b532, q533⟩ := hq
          refine .inr ⟨_, rfl, ?_⟩
          rcases q533 with ⟨rfl, a534, a535, a536⟩ | rfl
          · have _q : True := trivial
            refine jx_vr (pc_q := 232) (as := [.int (i32 (1))]) (st := []) rfl rfl rfl rfl ⟨rfl, rfl, Nat.le_of_ble_eq_true rfl⟩ rfl rfl (c_need (dd := d) (hd := by omega) (hW := hW521) (g := 1) (ln := ln) (e_ln := show Gx 9 = ln from (fx_9)) (le := le) (e_le := show A520 4 (ln).toNat = le from (congrFun (((congrFun eA520 4).trans (uA_ne (by decide))).trans (hFx.2 4 rfl)) _).trans (e_le)) (at0 := at1) (e_at0 := show Gx 10 = at1 from (ex_at1)) (fk := fk1) (e_fk := show Gx 16 = fk1 from (ex_fk1)) (tk0 := tk1) (e_tk0 := show Gx 11 = tk1 from (ex_tk1))  (h_g := ⟨(by decide), (by decide)⟩)  (p_0 := by omega)) (fun o V_q hq => ?_)
            obtain ⟨G537, A538, at2_539, tk2_540, fk2_541, rfl, rfl, hW542, hF543, e544, e545, e546, p547, p548, q549⟩ := hq
            have hF550 := Fr_tr hF522 hF543 (Fr_sub (by decide)) (Fr_sub (by decide))
            have hP551 := Pf_f hP524 hF543 (by decide)
            have hS552 := Fx_f hS525 hF543 (by decide)
            have hV553 := Fx_f hV526 hF543 (by decide)
            have hK554 := Fx_f hK527 hF543 (by decide)
            have sf555 : wM A538 (sy + 1) (many) := wM_fx (Sg_fr (sb := sy + 1 + many) hF543 (by decide)) (by omega) (by omega) sf528
            have ec556 : ecn A538 (G537 31) = ec := (ecn_f (hF543.2 15 rfl) (hF543.1 31 rfl)).trans ec529
            have bat2_539 : (0 : Int) ≤ at2_539 ∧ at2_539 ≤ 3002 := e544 ▸ hW542.1 10
            have ztk2_540 := tz_b tk2_540
            have btk2_540 : (0 : Int) ≤ tk2_540 ∧ tk2_540 ≤ 5 := e545 ▸ hW542.1 11
            have bfk2_541 : (0 : Int) ≤ fk2_541 ∧ fk2_541 ≤ 6 := e546 ▸ hW542.1 16
            refine .inl ⟨rfl, ?_⟩
            rcases q549 with ⟨a557, a558, a559, a560⟩ | ⟨a561, a562, a563, a564⟩
            · have _q : True := trivial
              refine jx_ld (pc_q := 233) (l_q := L) (st_q := [.ref 66]) rfl (jl_aloadn gL_0) ?_
              refine jx_vr (pc_q := 236) (as := []) (st := []) rfl rfl rfl rfl ⟨rfl, rfl, Nat.le_of_ble_eq_true rfl⟩ rfl rfl (c_endLine (dd := d) (hd := by omega) (hW := hW542)  (ln := ln) (e_ln := show G537 9 = ln from ((hF543.1 9 rfl).trans (fx_9))) (li := li) (e_li := show G537 3 = li from ((hF543.1 3 rfl).trans ((hFx.1 3 rfl).trans (e_li)))) (fk := fk2_541) (e_fk := show G537 16 = fk2_541 from (e546)) (tk0 := tk2_540) (e_tk0 := show G537 11 = tk2_540 from (e545))    (p_0 := by omega)) (fun o V_q hq => ?_)
              obtain ⟨G565, A566, ln2_567, fk2_568, rfl, rfl, hW569, hF570, e571, e572, q573⟩ := hq
              have hF574 := Fr_tr hF550 hF570 (Fr_sub (by decide)) (Fr_sub (by decide))
              have hP575 := Pf_f hP551 hF570 (by decide)
              have hS576 := Fx_f hS552 hF570 (by decide)
              have hV577 := Fx_f hV553 hF570 (by decide)
              have hK578 := Fx_f hK554 hF570 (by decide)
              have sf579 : wM A566 (sy + 1) (many) := wM_fx (Sg_fr (sb := sy + 1 + many) hF570 (by decide)) (by omega) (by omega) sf555
              have ec580 : ecn A566 (G565 31) = ec := (ecn_f (hF570.2 15 rfl) (hF570.1 31 rfl)).trans ec556
              have bln2_567 : (0 : Int) ≤ ln2_567 ∧ ln2_567 ≤ 3000 := e571 ▸ hW569.1 9
              have bfk2_568 : (0 : Int) ≤ fk2_568 ∧ fk2_568 ≤ 6 := e572 ▸ hW569.1 16
              refine .inl ⟨rfl, ?_⟩
              rcases q573 with ⟨a581, a582, a583, a584, a585⟩ | ⟨a586, a587⟩
              · have _q : True := trivial
                exfalso
                omega
              · have _q : True := trivial
                refine jx_ld (pc_q := 237) (l_q := L) (st_q := [.ref 66]) rfl (jl_aloadn gL_0) ?_
                refine jx_vr (pc_q := 240) (as := []) (st := []) rfl rfl rfl rfl ⟨rfl, rfl, Nat.le_of_ble_eq_true rfl⟩ rfl rfl (c_bad (dd := d) (hd := by omega) (hW := hW569)  (fk := fk2_568) (e_fk := show G565 16 = fk2_568 from (e572))    ) (fun o V_q hq => ?_)
                obtain ⟨r588, rfl, rfl, b589, q590⟩ := hq
                refine .inr ⟨_, rfl, ?_⟩
                rcases q590 with ⟨rfl, a591⟩ | ⟨rfl, a592⟩
                · have _q : True := trivial
                  refine jx_if_eq (pc_q := 243) (tg := 244) rfl rfl rfl (by decide) (by decide) (fun h593 => ?_) (fun h593 => ?_)
                  · have _q := h593
                    exact absurd h593 (by omega)
                  · have _q := h593
                    refine jx_rt (v := none) rfl rfl rfl rfl rfl rfl ?_
                    exact ⟨_, _, ln2_567, at2_539, fk2_568, nd, sy1, na1, vi, A 3 (ln2_567).toNat, pc0, ec, rfl, rfl, hW569, hF574, hP575, hS576, hV577, hK578, (e571), ((hF570.1 10 rfl).trans (e544)), (e572), ((hF570.1 31 rfl).trans ((hF543.1 31 rfl).trans (fx_31))), ((hF570.1 19 rfl).trans ((hF543.1 19 rfl).trans (ex_sy1))), ((hF570.1 28 rfl).trans ((hF543.1 28 rfl).trans (ex_na1))), ((hF570.1 29 rfl).trans ((hF543.1 29 rfl).trans (fx_29))), (congrFun ((hF570.2 3 rfl).trans ((hF543.2 3 rfl).trans (((congrFun eA520 3).trans (uA_ne (by decide))).trans (hFx.2 3 rfl)))) _), ((hF570.1 46 rfl).trans ((hF543.1 46 rfl).trans (fx_46))), ec580, by omega, by omega, by omega, by omega, by first | exact Or.inl (by omega)⟩
                · have _q : True := trivial
                  exfalso
                  omega
            · have _q : True := trivial
              have pz594 : at1 + tz tk2_540 ≤ at2_539 := by omega
              refine jx_ld (pc_q := 233) (l_q := L) (st_q := [.ref 66]) rfl (jl_aloadn gL_0) ?_
              refine jx_vr (pc_q := 236) (as := []) (st := []) rfl rfl rfl rfl ⟨rfl, rfl, Nat.le_of_ble_eq_true rfl⟩ rfl rfl (c_endLine (dd := d) (hd := by omega) (hW := hW542)  (ln := ln) (e_ln := show G537 9 = ln from ((hF543.1 9 rfl).trans (fx_9))) (li := li) (e_li := show G537 3 = li from ((hF543.1 3 rfl).trans ((hFx.1 3 rfl).trans (e_li)))) (fk := fk2_541) (e_fk := show G537 16 = fk2_541 from (e546)) (tk0 := tk2_540) (e_tk0 := show G537 11 = tk2_540 from (e545))    (p_0 := by omega)) (fun o V_q hq => ?_)
              obtain ⟨G595, A596, ln2_597, fk2_598, rfl, rfl, hW599, hF600, e601, e602, q603⟩ := hq
              have hF604 := Fr_tr hF550 hF600 (Fr_sub (by decide)) (Fr_sub (by decide))
              have hP605 := Pf_f hP551 hF600 (by decide)
              have hS606 := Fx_f hS552 hF600 (by decide)
              have hV607 := Fx_f hV553 hF600 (by decide)
              have hK608 := Fx_f hK554 hF600 (by decide)
              have sf609 : wM A596 (sy + 1) (many) := wM_fx (Sg_fr (sb := sy + 1 + many) hF600 (by decide)) (by omega) (by omega) sf555
              have ec610 : ecn A596 (G595 31) = ec := (ecn_f (hF600.2 15 rfl) (hF600.1 31 rfl)).trans ec556
              have bln2_597 : (0 : Int) ≤ ln2_597 ∧ ln2_597 ≤ 3000 := e601 ▸ hW599.1 9
              have bfk2_598 : (0 : Int) ≤ fk2_598 ∧ fk2_598 ≤ 6 := e602 ▸ hW599.1 16
              refine .inl ⟨rfl, ?_⟩
              rcases q603 with ⟨a611, a612, a613, a614, a615⟩ | ⟨a616, a617⟩
              · have _q : True := trivial
                have b618 : (0 : Int) ≤ A 3 (ln2_597).toNat ∧ A 3 (ln2_597).toNat ≤ 3000 := hW.2 3 _
                have lt619 : ln2_597 < li → le < A 3 (ln2_597).toNat := fun hh => LT_nx (LT_ext (((hF600.1 3 rfl).trans ((hF543.1 3 rfl).trans (hFx.1 3 rfl)))) (((hF600.2 3 rfl).trans ((hF543.2 3 rfl).trans (((congrFun eA520 3).trans (uA_ne (by decide))).trans (hFx.2 3 rfl))))) (((hF600.2 4 rfl).trans ((hF543.2 4 rfl).trans (((congrFun eA520 4).trans (uA_ne (by decide))).trans (hFx.2 4 rfl))))) i_LT) (show G595 3 = li from ((hF600.1 3 rfl).trans ((hF543.1 3 rfl).trans ((hFx.1 3 rfl).trans (e_li))))) (show A596 4 (ln).toNat = le from (congrFun ((hF600.2 4 rfl).trans ((hF543.2 4 rfl).trans (((congrFun eA520 4).trans (uA_ne (by decide))).trans (hFx.2 4 rfl)))) _).trans (e_le)) (show A596 3 (ln2_597).toNat = A 3 (ln2_597).toNat from (congrFun ((hF600.2 3 rfl).trans ((hF543.2 3 rfl).trans (((congrFun eA520 3).trans (uA_ne (by decide))).trans (hFx.2 3 rfl)))) _)) (show ln2_597 = ln + 1 by omega) (by omega) hh
                refine jx_ld (pc_q := 237) (l_q := L) (st_q := [.ref 66]) rfl (jl_aloadn gL_0) ?_
                refine jx_vr (pc_q := 240) (as := []) (st := []) rfl rfl rfl rfl ⟨rfl, rfl, Nat.le_of_ble_eq_true rfl⟩ rfl rfl (c_bad (dd := d) (hd := by omega) (hW := hW599)  (fk := fk2_598) (e_fk := show G595 16 = fk2_598 from (e602))    ) (fun o V_q hq => ?_)
                obtain ⟨r620, rfl, rfl, b621, q622⟩ := hq
                refine .inr ⟨_, rfl, ?_⟩
                rcases q622 with ⟨rfl, a623⟩ | ⟨rfl, a624⟩
                · have _q : True := trivial
                  exfalso
                  omega
                · have _q : True := trivial
                  refine jx_if_eq (pc_q := 243) (tg := 244) rfl rfl rfl (by decide) (by decide) (fun h625 => ?_) (fun h625 => ?_)
                  · have _q := h625
                    refine jx_ld (pc_q := 245) (l_q := L) (st_q := [.ref 66]) rfl (jl_aloadn gL_0) ?_
                    refine jr_get (pc_q := 248) (i := 29) (v := .int (i32 (vi))) rfl rfl (by decide) (rFv_eq (by decide) (show G595 29 = vi from ((hF600.1 29 rfl).trans ((hF543.1 29 rfl).trans (fx_29))))) rfl ?_
                    refine jx_ld (pc_q := 250) (l_q := jSto1 L 4 (.int (i32 (vi)))) (st_q := []) rfl rfl ?_
                    obtain ⟨L626, eL626⟩ : ∃ q, q = jSto1 L 4 (.int (i32 (vi))) := ⟨_, rfl⟩
                    rw [← eL626]
                    have gL626_0 : jGet L626 0 = some (.ref 66) := eL626 ▸ jg_ne (by decide) gL_0 rfl
                    have gL626_1 : jGet L626 1 = some (.int (i32 (p))) := eL626 ▸ jg_ne (by decide) gL_1 rfl
                    have gL626_2 : jGet L626 2 = some (.int (i32 (many))) := eL626 ▸ jg_ne (by decide) gL_2 rfl
                    have gL626_3 : jGet L626 3 = some (.int (i32 (more))) := eL626 ▸ jg_ne (by decide) gL_3 rfl
                    have gL626_4 : jGet L626 4 = some (.int (i32 (vi))) := eL626 ▸ jg_eq
                    refine jx_ar (pc_q := 251) (st_q := [.int (i32 (0))]) rfl rfl rfl rfl ?_
                    refine jx_ld (pc_q := 253) (l_q := jSto1 L626 5 (.int (i32 (0)))) (st_q := []) rfl rfl ?_
                    obtain ⟨L627, eL627⟩ : ∃ q, q = jSto1 L626 5 (.int (i32 (0))) := ⟨_, rfl⟩
                    rw [← eL627]
                    have gL627_0 : jGet L627 0 = some (.ref 66) := eL627 ▸ jg_ne (by decide) gL626_0 rfl
                    have gL627_1 : jGet L627 1 = some (.int (i32 (p))) := eL627 ▸ jg_ne (by decide) gL626_1 rfl
                    have gL627_2 : jGet L627 2 = some (.int (i32 (many))) := eL627 ▸ jg_ne (by decide) gL626_2 rfl
                    have gL627_3 : jGet L627 3 = some (.int (i32 (more))) := eL627 ▸ jg_ne (by decide) gL626_3 rfl
                    have gL627_4 : jGet L627 4 = some (.int (i32 (vi))) := eL627 ▸ jg_ne (by decide) gL626_4 rfl
                    have gL627_5 : jGet L627 5 = some (.int (i32 (0))) := eL627 ▸ jg_eq
                    exact c_readProc_w_at_253 (X := X) (d := d) (Vs := Vs) (sb := sb) (pb := pb) (hvb := hvb) (c0 := c0) (c1 := c1) (G := G) (A := A) (T := T) (ln := ln) (li := li) (at0 := at0) (fk := fk) (nd := nd) (sy := sy) (na := na) (vi := vi) (le := le) (op0 := op0) (tk0 := tk0) (pc0 := pc0) (ec := ec) (hd := hd) (hW := hW) (e_ln := e_ln) (e_li := e_li) (e_at0 := e_at0) (e_fk := e_fk) (e_nd := e_nd) (e_sy := e_sy) (e_na := e_na) (e_vi := e_vi) (e_le := e_le) (e_op0 := e_op0) (e_tk0 := e_tk0) (e_pc0 := e_pc0) (e_ec := e_ec) (i_LT := i_LT) (i_SV := i_SV) (i_PQ := i_PQ) (p_0 := p_0) (p_1 := p_1) (p_2 := p_2) (p_3 := p_3) (p_4 := p_4) (p_5 := p_5) (p_6 := p_6) (p_7 := p_7) (p_8 := p_8) (p_9 := p_9) _ L627 G595 A596 (p) (many) (0) (ln2_597) (at2_539) (fk2_598) (sy1) (na1) (vi) (pp1) (many) (kp1) (np1) (A 3 (ln2_597).toNat) rfl gL627_0 gL627_4 gL627_1 gL627_2 gL627_5 hW599 hF604 hP605 hS606 hV607 hK608 ((e601)) (((hF600.1 10 rfl).trans (e544))) ((e602)) (((hF600.1 19 rfl).trans ((hF543.1 19 rfl).trans (ex_sy1)))) (((hF600.1 28 rfl).trans ((hF543.1 28 rfl).trans (ex_na1)))) (((hF600.1 29 rfl).trans ((hF543.1 29 rfl).trans (fx_29)))) ((congrFun ((hF600.2 29 rfl).trans ((hF543.2 29 rfl).trans ((congrFun eA520 29).trans (uA_ne (by decide))))) _).trans (ex_pp1)) ((congrFun ((hF600.2 30 rfl).trans (hF543.2 30 rfl)) _).trans (q523)) ((congrFun ((hF600.2 7 rfl).trans ((hF543.2 7 rfl).trans ((congrFun eA520 7).trans (uA_ne (by decide))))) _).trans (ex_kp1)) ((congrFun ((hF600.2 12 rfl).trans ((hF543.2 12 rfl).trans ((congrFun eA520 12).trans (uA_ne (by decide))))) _).trans (ex_np1)) ((congrFun ((hF600.2 3 rfl).trans ((hF543.2 3 rfl).trans (((congrFun eA520 3).trans (uA_ne (by decide))).trans (hFx.2 3 rfl)))) _)) (((hF600.1 46 rfl).trans ((hF543.1 46 rfl).trans (fx_46)))) (((hF600.1 31 rfl).trans ((hF543.1 31 rfl).trans (fx_31)))) (ec610) (by omega) (by omega) (by omega) (by omega) (by omega) (by omega) (by omega) (by omega) (by omega) (by omega) (by omega) (by omega) (by omega) (sf609) (DS_nil) (by omega) (by omega) (by omega) (by omega) (by omega)
                  · have _q := h625
                    exact absurd h625 (by omega)
              · have _q : True := trivial
                refine jx_ld (pc_q := 237) (l_q := L) (st_q := [.ref 66]) rfl (jl_aloadn gL_0) ?_
                refine jx_vr (pc_q := 240) (as := []) (st := []) rfl rfl rfl rfl ⟨rfl, rfl, Nat.le_of_ble_eq_true rfl⟩ rfl rfl (c_bad (dd := d) (hd := by omega) (hW := hW599)  (fk := fk2_598) (e_fk := show G595 16 = fk2_598 from (e602))    ) (fun o V_q hq => ?_)
                obtain ⟨r628, rfl, rfl, b629, q630⟩ := hq
                refine .inr ⟨_, rfl, ?_⟩
                rcases q630 with ⟨rfl, a631⟩ | ⟨rfl, a632⟩
                · have _q : True := trivial
                  refine jx_if_eq (pc_q := 243) (tg := 244) rfl rfl rfl (by decide) (by decide) (fun h633 => ?_) (fun h633 => ?_)
                  · have _q := h633
                    exact absurd h633 (by omega)
                  · have _q := h633
                    refine jx_rt (v := none) rfl rfl rfl rfl rfl rfl ?_
                    exact ⟨_, _, ln2_597, at2_539, fk2_598, nd, sy1, na1, vi, A 3 (ln2_597).toNat, pc0, ec, rfl, rfl, hW599, hF604, hP605, hS606, hV607, hK608, (e601), ((hF600.1 10 rfl).trans (e544)), (e602), ((hF600.1 31 rfl).trans ((hF543.1 31 rfl).trans (fx_31))), ((hF600.1 19 rfl).trans ((hF543.1 19 rfl).trans (ex_sy1))), ((hF600.1 28 rfl).trans ((hF543.1 28 rfl).trans (ex_na1))), ((hF600.1 29 rfl).trans ((hF543.1 29 rfl).trans (fx_29))), (congrFun ((hF600.2 3 rfl).trans ((hF543.2 3 rfl).trans (((congrFun eA520 3).trans (uA_ne (by decide))).trans (hFx.2 3 rfl)))) _), ((hF600.1 46 rfl).trans ((hF543.1 46 rfl).trans (fx_46))), ec610, by omega, by omega, by omega, by omega, by first | exact Or.inl (by omega)⟩
                · have _q : True := trivial
                  exfalso
                  omega
          · have _q : True := trivial
            refine jx_vr (pc_q := 232) (as := [.int (i32 (0))]) (st := []) rfl rfl rfl rfl ⟨rfl, rfl, Nat.le_of_ble_eq_true rfl⟩ rfl rfl (c_need (dd := d) (hd := by omega) (hW := hW521) (g := 0) (ln := ln) (e_ln := show Gx 9 = ln from (fx_9)) (le := le) (e_le := show A520 4 (ln).toNat = le from (congrFun (((congrFun eA520 4).trans (uA_ne (by decide))).trans (hFx.2 4 rfl)) _).trans (e_le)) (at0 := at1) (e_at0 := show Gx 10 = at1 from (ex_at1)) (fk := fk1) (e_fk := show Gx 16 = fk1 from (ex_fk1)) (tk0 := tk1) (e_tk0 := show Gx 11 = tk1 from (ex_tk1))  (h_g := ⟨(by decide), (by decide)⟩)  (p_0 := by omega)) (fun o V_q hq => ?_)
            obtain ⟨G634, A635, at2_636, tk2_637, fk2_638, rfl, rfl, hW639, hF640, e641, e642, e643, p644, p645, q646⟩ := hq
            have hF647 := Fr_tr hF522 hF640 (Fr_sub (by decide)) (Fr_sub (by decide))
            have hP648 := Pf_f hP524 hF640 (by decide)
            have hS649 := Fx_f hS525 hF640 (by decide)
            have hV650 := Fx_f hV526 hF640 (by decide)
            have hK651 := Fx_f hK527 hF640 (by decide)
            have sf652 : wM A635 (sy + 1) (many) := wM_fx (Sg_fr (sb := sy + 1 + many) hF640 (by decide)) (by omega) (by omega) sf528
            have ec653 : ecn A635 (G634 31) = ec := (ecn_f (hF640.2 15 rfl) (hF640.1 31 rfl)).trans ec529
            have bat2_636 : (0 : Int) ≤ at2_636 ∧ at2_636 ≤ 3002 := e641 ▸ hW639.1 10
            have ztk2_637 := tz_b tk2_637
            have btk2_637 : (0 : Int) ≤ tk2_637 ∧ tk2_637 ≤ 5 := e642 ▸ hW639.1 11
            have bfk2_638 : (0 : Int) ≤ fk2_638 ∧ fk2_638 ≤ 6 := e643 ▸ hW639.1 16
            refine .inl ⟨rfl, ?_⟩
            rcases q646 with ⟨a654, a655, a656, a657⟩ | ⟨a658, a659, a660, a661⟩
            · have _q : True := trivial
              refine jx_ld (pc_q := 233) (l_q := L) (st_q := [.ref 66]) rfl (jl_aloadn gL_0) ?_
              refine jx_vr (pc_q := 236) (as := []) (st := []) rfl rfl rfl rfl ⟨rfl, rfl, Nat.le_of_ble_eq_true rfl⟩ rfl rfl (c_endLine (dd := d) (hd := by omega) (hW := hW639)  (ln := ln) (e_ln := show G634 9 = ln from ((hF640.1 9 rfl).trans (fx_9))) (li := li) (e_li := show G634 3 = li from ((hF640.1 3 rfl).trans ((hFx.1 3 rfl).trans (e_li)))) (fk := fk2_638) (e_fk := show G634 16 = fk2_638 from (e643)) (tk0 := tk2_637) (e_tk0 := show G634 11 = tk2_637 from (e642))    (p_0 := by omega)) (fun o V_q hq => ?_)
              obtain ⟨G662, A663, ln2_664, fk2_665, rfl, rfl, hW666, hF667, e668, e669, q670⟩ := hq
              have hF671 := Fr_tr hF647 hF667 (Fr_sub (by decide)) (Fr_sub (by decide))
              have hP672 := Pf_f hP648 hF667 (by decide)
              have hS673 := Fx_f hS649 hF667 (by decide)
              have hV674 := Fx_f hV650 hF667 (by decide)
              have hK675 := Fx_f hK651 hF667 (by decide)
              have sf676 : wM A663 (sy + 1) (many) := wM_fx (Sg_fr (sb := sy + 1 + many) hF667 (by decide)) (by omega) (by omega) sf652
              have ec677 : ecn A663 (G662 31) = ec := (ecn_f (hF667.2 15 rfl) (hF667.1 31 rfl)).trans ec653
              have bln2_664 : (0 : Int) ≤ ln2_664 ∧ ln2_664 ≤ 3000 := e668 ▸ hW666.1 9
              have bfk2_665 : (0 : Int) ≤ fk2_665 ∧ fk2_665 ≤ 6 := e669 ▸ hW666.1 16
              refine .inl ⟨rfl, ?_⟩
              rcases q670 with ⟨a678, a679, a680, a681, a682⟩ | ⟨a683, a684⟩
              · have _q : True := trivial
                exfalso
                omega
              · have _q : True := trivial
                refine jx_ld (pc_q := 237) (l_q := L) (st_q := [.ref 66]) rfl (jl_aloadn gL_0) ?_
                refine jx_vr (pc_q := 240) (as := []) (st := []) rfl rfl rfl rfl ⟨rfl, rfl, Nat.le_of_ble_eq_true rfl⟩ rfl rfl (c_bad (dd := d) (hd := by omega) (hW := hW666)  (fk := fk2_665) (e_fk := show G662 16 = fk2_665 from (e669))    ) (fun o V_q hq => ?_)
                obtain ⟨r685, rfl, rfl, b686, q687⟩ := hq
                refine .inr ⟨_, rfl, ?_⟩
                rcases q687 with ⟨rfl, a688⟩ | ⟨rfl, a689⟩
                · have _q : True := trivial
                  refine jx_if_eq (pc_q := 243) (tg := 244) rfl rfl rfl (by decide) (by decide) (fun h690 => ?_) (fun h690 => ?_)
                  · have _q := h690
                    exact absurd h690 (by omega)
                  · have _q := h690
                    refine jx_rt (v := none) rfl rfl rfl rfl rfl rfl ?_
                    exact ⟨_, _, ln2_664, at2_636, fk2_665, nd, sy1, na1, vi, A 3 (ln2_664).toNat, pc0, ec, rfl, rfl, hW666, hF671, hP672, hS673, hV674, hK675, (e668), ((hF667.1 10 rfl).trans (e641)), (e669), ((hF667.1 31 rfl).trans ((hF640.1 31 rfl).trans (fx_31))), ((hF667.1 19 rfl).trans ((hF640.1 19 rfl).trans (ex_sy1))), ((hF667.1 28 rfl).trans ((hF640.1 28 rfl).trans (ex_na1))), ((hF667.1 29 rfl).trans ((hF640.1 29 rfl).trans (fx_29))), (congrFun ((hF667.2 3 rfl).trans ((hF640.2 3 rfl).trans (((congrFun eA520 3).trans (uA_ne (by decide))).trans (hFx.2 3 rfl)))) _), ((hF667.1 46 rfl).trans ((hF640.1 46 rfl).trans (fx_46))), ec677, by omega, by omega, by omega, by omega, by first | exact Or.inl (by omega)⟩
                · have _q : True := trivial
                  exfalso
                  omega
            · have _q : True := trivial
              exfalso
              omega
        · have _q := h519
          refine jx_ld (pc_q := 158) (l_q := L) (st_q := [.ref 66]) rfl (jl_aloadn gL_0) ?_
          refine jx_ld (pc_q := 159) (l_q := L) (st_q := [.ref 66, .ref 66]) rfl (jl_aloadn gL_0) ?_
          refine jr_get (pc_q := 162) (i := 47) (v := .ref 96) rfl rfl (by decide) rfl rfl ?_
          refine jx_ld (pc_q := 163) (l_q := L) (st_q := [.ref 66, .ref 96, .ref 66]) rfl (jl_aloadn gL_0) ?_
          refine jr_get (pc_q := 166) (i := 46) (v := .int (i32 (pc0))) rfl rfl (by decide) (rFv_eq (by decide) (show Gx 46 = pc0 from (fx_46))) rfl ?_
          refine jr_ldv (pc_q := 167) (i := 29) (m := 25) (z := pc0) (y := pp1) rfl (by decide) rfl (by decide) (Int.le_trans (by decide : (0 : Int) ≤ 0) b_pc0.1) (Int.lt_of_le_of_lt b_pc0.2 (by decide : (24 : Int) < ((25 : Nat) : Int))) rfl (show Ax 29 (pc0).toNat = pp1 from (ex_pp1)) ?_
          refine jx_vr (pc_q := 170) (as := [.int (i32 (pp1))]) (st := []) rfl rfl rfl rfl ⟨rfl, rfl, Nat.le_of_ble_eq_true rfl⟩ rfl rfl (c_readParameter (dd := d) (hd := by omega) (hW := hWx) (fr := pp1) (ln := ln) (e_ln := show Gx 9 = ln from (fx_9)) (le := le) (e_le := show Ax 4 (ln).toNat = le from (congrFun (hFx.2 4 rfl) _).trans (e_le)) (at0 := at1) (e_at0 := show Gx 10 = at1 from (ex_at1)) (fk := fk1) (e_fk := show Gx 16 = fk1 from (ex_fk1)) (tk0 := tk1) (e_tk0 := show Gx 11 = tk1 from (ex_tk1)) (sy := sy1) (e_sy := show Gx 19 = sy1 from (ex_sy1)) (na := na1) (e_na := show Gx 28 = na1 from (ex_na1))  (h_fr := ⟨(by omega), (by omega)⟩)  (p_0 := by omega) (p_1 := by omega) (p_2 := by omega) (p_3 := by omega)) (fun o V_q hq => ?_)
          obtain ⟨G691, A692, at2_693, fk2_694, sy2_695, na2_696, rfl, rfl, hW697, hF698, hQ699, e700, e701, e702, e703, p704, p705, p706, p707, q708⟩ := hq
          have hF709 := Fr_tr hFx hF698 (Fr_sub (by decide)) (Fr_sub (by decide))
          have hP710 := Pf_f hPx hF698 (by decide)
          have hS711 := Fx_tr hSx hQ699 (by omega)
          have hV712 := Fx_f hVx hF698 (by decide)
          have hK713 := Fx_f hKx hF698 (by decide)
          have k714 : A692 7 (sy).toNat = kp1 := (hQ699 7 _ rfl (by omega)).trans (show Ax 7 (sy).toNat = kp1 from (ex_kp1))
          have k715 : A692 12 (sy).toNat = np1 := (hQ699 12 _ rfl (by omega)).trans (show Ax 12 (sy).toNat = np1 from (ex_np1))
          have sf716 : wM A692 (sy + 1) (many) := wM_fx hQ699 (by omega) (by omega) iv_8
          have ec717 : ecn A692 (G691 31) = ec := (ecn_f (hF698.2 15 rfl) (hF698.1 31 rfl)).trans fx_900
          have bat2_693 : (0 : Int) ≤ at2_693 ∧ at2_693 ≤ 3002 := e700 ▸ hW697.1 10
          have bfk2_694 : (0 : Int) ≤ fk2_694 ∧ fk2_694 ≤ 6 := e701 ▸ hW697.1 16
          have bsy2_695 : (0 : Int) ≤ sy2_695 ∧ sy2_695 ≤ 202 := e702 ▸ hW697.1 19
          have bna2_696 : (0 : Int) ≤ na2_696 ∧ na2_696 ≤ 200 := e703 ▸ hW697.1 28
          refine .inl ⟨rfl, ?_⟩
          rcases q708 with a718 | ⟨a719, a720, a721⟩
          · have _q : True := trivial
            refine jx_inc (pc_q := 173) (l_q := jSto1 L 2 (.int (i32 ((many + (1)))))) (x := many) rfl gL_2 (by decide) rfl rfl ?_
            obtain ⟨L722, eL722⟩ : ∃ q, q = jSto1 L 2 (.int (i32 ((many + (1))))) := ⟨_, rfl⟩
            rw [← eL722]
            have gL722_0 : jGet L722 0 = some (.ref 66) := eL722 ▸ jg_ne (by decide) gL_0 rfl
            have gL722_1 : jGet L722 1 = some (.int (i32 (p))) := eL722 ▸ jg_ne (by decide) gL_1 rfl
            have gL722_3 : jGet L722 3 = some (.int (i32 (more))) := eL722 ▸ jg_ne (by decide) gL_3 rfl
            have gL722_2 : jGet L722 2 = some (.int (i32 ((many + (1))))) := eL722 ▸ jg_eq
            refine jx_ld (pc_q := 174) (l_q := L722) (st_q := [.ref 66]) rfl (jl_aloadn gL722_0) ?_
            refine jx_vr (pc_q := 177) (as := []) (st := []) rfl rfl rfl rfl ⟨rfl, rfl, Nat.le_of_ble_eq_true rfl⟩ rfl rfl (c_bad (dd := d) (hd := by omega) (hW := hW697)  (fk := fk2_694) (e_fk := show G691 16 = fk2_694 from (e701))    ) (fun o V_q hq => ?_)
            obtain ⟨r723, rfl, rfl, b724, q725⟩ := hq
            refine .inr ⟨_, rfl, ?_⟩
            rcases q725 with ⟨rfl, a726⟩ | ⟨rfl, a727⟩
            · have _q : True := trivial
              refine jx_if_ne (pc_q := 180) (tg := 199) rfl rfl rfl (by decide) (by decide) (fun h728 => ?_) (fun h728 => ?_)
              · have _q := h728
                refine jx_ar (pc_q := 200) (st_q := [.int (i32 (0))]) rfl rfl rfl rfl ?_
                refine jx_ld (pc_q := 201) (l_q := jSto1 L722 3 (.int (i32 (0)))) (st_q := []) rfl rfl ?_
                obtain ⟨L729, eL729⟩ : ∃ q, q = jSto1 L722 3 (.int (i32 (0))) := ⟨_, rfl⟩
                rw [← eL729]
                have gL729_0 : jGet L729 0 = some (.ref 66) := eL729 ▸ jg_ne (by decide) gL722_0 rfl
                have gL729_1 : jGet L729 1 = some (.int (i32 (p))) := eL729 ▸ jg_ne (by decide) gL722_1 rfl
                have gL729_2 : jGet L729 2 = some (.int (i32 ((many + (1))))) := eL729 ▸ jg_ne (by decide) gL722_2 rfl
                have gL729_3 : jGet L729 3 = some (.int (i32 (0))) := eL729 ▸ jg_eq
                refine jx_ld (pc_q := 202) (l_q := L729) (st_q := [.int (i32 (0))]) rfl (jl_iloadn gL729_3) ?_
                refine jx_if_eq (pc_q := 205) (tg := 146) rfl rfl rfl (by decide) (by decide) (fun h730 => ?_) (fun h730 => ?_)
                · have _q := h730
                  refine jx_ld (pc_q := 147) (l_q := L729) (st_q := [.ref 66]) rfl (jl_aloadn gL729_0) ?_
                  refine jx_vr (pc_q := 150) (as := []) (st := []) rfl rfl rfl rfl ⟨rfl, rfl, Nat.le_of_ble_eq_true rfl⟩ rfl rfl (c_bad (dd := d) (hd := by omega) (hW := hW697)  (fk := fk2_694) (e_fk := show G691 16 = fk2_694 from (e701))    ) (fun o V_q hq => ?_)
                  obtain ⟨r731, rfl, rfl, b732, q733⟩ := hq
                  refine .inr ⟨_, rfl, ?_⟩
                  rcases q733 with ⟨rfl, a734⟩ | ⟨rfl, a735⟩
                  · have _q : True := trivial
                    refine jx_if_ne (pc_q := 153) (tg := 212) rfl rfl rfl (by decide) (by decide) (fun h736 => ?_) (fun h736 => ?_)
                    · have _q := h736
                      exact c_readProc_w_at_212p (X := X) (d := d) (Vs := Vs) (sb := sb) (pb := pb) (hvb := hvb) (c0 := c0) (c1 := c1) (G := G) (A := A) (T := T) (ln := ln) (li := li) (at0 := at0) (fk := fk) (nd := nd) (sy := sy) (na := na) (vi := vi) (le := le) (op0 := op0) (tk0 := tk0) (pc0 := pc0) (ec := ec) (hd := hd) (hW := hW) (e_ln := e_ln) (e_li := e_li) (e_at0 := e_at0) (e_fk := e_fk) (e_nd := e_nd) (e_sy := e_sy) (e_na := e_na) (e_vi := e_vi) (e_le := e_le) (e_op0 := e_op0) (e_tk0 := e_tk0) (e_pc0 := e_pc0) (e_ec := e_ec) (i_LT := i_LT) (i_SV := i_SV) (i_PQ := i_PQ) (p_0 := p_0) (p_1 := p_1) (p_2 := p_2) (p_3 := p_3) (p_4 := p_4) (p_5 := p_5) (p_6 := p_6) (p_7 := p_7) (p_8 := p_8) (p_9 := p_9) L729 G691 A692 (p) ((many + (1))) (at2_693) (fk2_694) (sy2_695) (na2_696) gL729_0 gL729_1 gL729_2 hW697 hF709 hP710 hS711 hV712 hK713 ((e700)) ((e701)) ((e702)) ((e703)) (((hF698.1 9 rfl).trans (fx_9))) (((hF698.1 29 rfl).trans (fx_29))) (((hF698.1 46 rfl).trans (fx_46))) (((hF698.1 31 rfl).trans (fx_31))) (ec717) (by omega) (by omega) (by omega) (by omega) (by omega) (by omega) (by omega) (by omega) (by omega)
                    · have _q := h736
                      exact absurd h736 (by omega)
                  · have _q : True := trivial
                    exfalso
                    omega
                · have _q := h730
                  exact absurd h730 (by omega)
              · have _q := h728
                exact absurd h728 (by omega)
            · have _q : True := trivial
              exfalso
              omega
          · have _q : True := trivial
            refine jx_inc (pc_q := 173) (l_q := jSto1 L 2 (.int (i32 ((many + (1)))))) (x := many) rfl gL_2 (by decide) rfl rfl ?_
            obtain ⟨L737, eL737⟩ : ∃ q, q = jSto1 L 2 (.int (i32 ((many + (1))))) := ⟨_, rfl⟩
            rw [← eL737]
            have gL737_0 : jGet L737 0 = some (.ref 66) := eL737 ▸ jg_ne (by decide) gL_0 rfl
            have gL737_1 : jGet L737 1 = some (.int (i32 (p))) := eL737 ▸ jg_ne (by decide) gL_1 rfl
            have gL737_3 : jGet L737 3 = some (.int (i32 (more))) := eL737 ▸ jg_ne (by decide) gL_3 rfl
            have gL737_2 : jGet L737 2 = some (.int (i32 ((many + (1))))) := eL737 ▸ jg_eq
            refine jx_ld (pc_q := 174) (l_q := L737) (st_q := [.ref 66]) rfl (jl_aloadn gL737_0) ?_
            refine jx_vr (pc_q := 177) (as := []) (st := []) rfl rfl rfl rfl ⟨rfl, rfl, Nat.le_of_ble_eq_true rfl⟩ rfl rfl (c_bad (dd := d) (hd := by omega) (hW := hW697)  (fk := fk2_694) (e_fk := show G691 16 = fk2_694 from (e701))    ) (fun o V_q hq => ?_)
            obtain ⟨r738, rfl, rfl, b739, q740⟩ := hq
            refine .inr ⟨_, rfl, ?_⟩
            rcases q740 with ⟨rfl, a741⟩ | ⟨rfl, a742⟩
            · have _q : True := trivial
              exfalso
              omega
            · have _q : True := trivial
              refine jx_if_ne (pc_q := 180) (tg := 199) rfl rfl rfl (by decide) (by decide) (fun h743 => ?_) (fun h743 => ?_)
              · have _q := h743
                exact absurd h743 (by omega)
              · have _q := h743
                refine jx_ld (pc_q := 181) (l_q := L737) (st_q := [.ref 66]) rfl (jl_aloadn gL737_0) ?_
                refine jx_ar (pc_q := 183) (st_q := [.int (i32 (44)), .ref 66]) rfl rfl rfl rfl ?_
                have b744 : (0 : Int) ≤ G691 11 ∧ G691 11 ≤ 5 := hW697.1 11
                have b745 : (-2147483648 : Int) ≤ G691 13 ∧ G691 13 ≤ 2147483647 := hW697.1 13
                refine jx_vr (pc_q := 186) (as := [.int (i32 (44))]) (st := []) rfl rfl rfl rfl ⟨rfl, rfl, Nat.le_of_ble_eq_true rfl⟩ rfl rfl (c_is (dd := d) (hd := by omega) (hW := hW697) (k := 44) (tk := G691 11) (e_tk := show G691 11 = G691 11 from rfl) (tn := G691 13) (e_tn := show G691 13 = G691 13 from rfl)  (h_k := ⟨(by decide), (by decide)⟩)  ) (fun o V_q hq => ?_)
                obtain ⟨r746, rfl, rfl, b747, q748⟩ := hq
                refine .inr ⟨_, rfl, ?_⟩
                rcases q748 with ⟨rfl, a749, a750, a751⟩ | rfl
                · have _q : True := trivial
                  refine jx_if_eq (pc_q := 189) (tg := 199) rfl rfl rfl (by decide) (by decide) (fun h752 => ?_) (fun h752 => ?_)
                  · have _q := h752
                    exact absurd h752 (by omega)
                  · have _q := h752
                    refine jx_ld (pc_q := 190) (l_q := L737) (st_q := [.int (i32 ((many + (1))))]) rfl (jl_iloadn gL737_2) ?_
                    refine jx_ar (pc_q := 192) (st_q := [.int (i32 (6)), .int (i32 ((many + (1))))]) rfl rfl rfl rfl ?_
                    refine jx_icmp_ge (pc_q := 195) (tg := 199) rfl rfl rfl (by omega) (by omega) (by decide) (by decide) (fun h753 => ?_) (fun h753 => ?_)
                    · have _q := h753
                      refine jx_ar (pc_q := 200) (st_q := [.int (i32 (0))]) rfl rfl rfl rfl ?_
                      refine jx_ld (pc_q := 201) (l_q := jSto1 L737 3 (.int (i32 (0)))) (st_q := []) rfl rfl ?_
                      obtain ⟨L754, eL754⟩ : ∃ q, q = jSto1 L737 3 (.int (i32 (0))) := ⟨_, rfl⟩
                      rw [← eL754]
                      have gL754_0 : jGet L754 0 = some (.ref 66) := eL754 ▸ jg_ne (by decide) gL737_0 rfl
                      have gL754_1 : jGet L754 1 = some (.int (i32 (p))) := eL754 ▸ jg_ne (by decide) gL737_1 rfl
                      have gL754_2 : jGet L754 2 = some (.int (i32 ((many + (1))))) := eL754 ▸ jg_ne (by decide) gL737_2 rfl
                      have gL754_3 : jGet L754 3 = some (.int (i32 (0))) := eL754 ▸ jg_eq
                      refine jx_ld (pc_q := 202) (l_q := L754) (st_q := [.int (i32 (0))]) rfl (jl_iloadn gL754_3) ?_
                      refine jx_if_eq (pc_q := 205) (tg := 146) rfl rfl rfl (by decide) (by decide) (fun h755 => ?_) (fun h755 => ?_)
                      · have _q := h755
                        exact ih146 _ (by omega) L754 G691 A692 (p) ((many + (1))) (0) (at2_693) (G691 11) (fk2_694) (sy2_695) (na2_696) (pp1) (kp1) (np1) rfl gL754_0 gL754_1 gL754_2 gL754_3 hW697 hF709 hP710 hS711 hV712 hK713 ((e700)) (rfl) ((e701)) ((e702)) ((e703)) ((congrFun (hF698.2 29 rfl) _).trans (ex_pp1)) ((k714)) ((k715)) (((hF698.1 9 rfl).trans (fx_9))) (((hF698.1 29 rfl).trans (fx_29))) (((hF698.1 46 rfl).trans (fx_46))) (((hF698.1 31 rfl).trans (fx_31))) (ec717) (by omega) (by omega) (by omega) (by omega) (by omega) (by omega) (by omega) (by omega) (by omega) (by omega) (by omega) ((wM_add sf716 a721 (by omega) (by omega))) (by omega) (by omega) (by omega) (by omega) (by omega)
                      · have _q := h755
                        exact absurd h755 (by omega)
                    · have _q := h753
                      refine jx_ar (pc_q := 196) (st_q := [.int (i32 (1))]) rfl rfl rfl rfl ?_
                      refine jx_go (tg := 200) rfl rfl ?_
                      refine jx_ld (pc_q := 201) (l_q := jSto1 L737 3 (.int (i32 (1)))) (st_q := []) rfl rfl ?_
                      obtain ⟨L756, eL756⟩ : ∃ q, q = jSto1 L737 3 (.int (i32 (1))) := ⟨_, rfl⟩
                      rw [← eL756]
                      have gL756_0 : jGet L756 0 = some (.ref 66) := eL756 ▸ jg_ne (by decide) gL737_0 rfl
                      have gL756_1 : jGet L756 1 = some (.int (i32 (p))) := eL756 ▸ jg_ne (by decide) gL737_1 rfl
                      have gL756_2 : jGet L756 2 = some (.int (i32 ((many + (1))))) := eL756 ▸ jg_ne (by decide) gL737_2 rfl
                      have gL756_3 : jGet L756 3 = some (.int (i32 (1))) := eL756 ▸ jg_eq
                      refine jx_ld (pc_q := 202) (l_q := L756) (st_q := [.int (i32 (1))]) rfl (jl_iloadn gL756_3) ?_
                      refine jx_if_eq (pc_q := 205) (tg := 146) rfl rfl rfl (by decide) (by decide) (fun h757 => ?_) (fun h757 => ?_)
                      · have _q := h757
                        exact absurd h757 (by omega)
                      · have _q := h757
                        refine jx_ld (pc_q := 206) (l_q := L756) (st_q := [.ref 66]) rfl (jl_aloadn gL756_0) ?_
                        refine jx_vr (pc_q := 209) (as := []) (st := []) rfl rfl rfl rfl ⟨rfl, rfl, Nat.le_of_ble_eq_true rfl⟩ rfl rfl (c_next (dd := d) (hd := by omega) (hW := hW697)  (ln := ln) (e_ln := show G691 9 = ln from ((hF698.1 9 rfl).trans (fx_9))) (le := le) (e_le := show A692 4 (ln).toNat = le from (congrFun ((hF698.2 4 rfl).trans (hFx.2 4 rfl)) _).trans (e_le)) (at0 := at2_693) (e_at0 := show G691 10 = at2_693 from (e700))    (p_0 := by omega)) (fun o V_q hq => ?_)
                        obtain ⟨G758, A759, at2_760, tk2_761, rfl, rfl, hW762, hF763, e764, e765, p766, p767, p768, -⟩ := hq
                        have hF770 := Fr_tr hF709 hF763 (Fr_sub (by decide)) (Fr_sub (by decide))
                        have hP771 := Pf_f hP710 hF763 (by decide)
                        have hS772 := Fx_f hS711 hF763 (by decide)
                        have hV773 := Fx_f hV712 hF763 (by decide)
                        have hK774 := Fx_f hK713 hF763 (by decide)
                        have sf775 : wM A759 (sy + 1) (many) := wM_fx (Sg_fr (sb := sy + 1 + many) hF763 (by decide)) (by omega) (by omega) sf716
                        have sf776 : MP A759 (sy1) := MP_fx (Sg_fr (sb := sy1 + 1) hF763 (by decide)) (by omega) (by omega) a721
                        have ec777 : ecn A759 (G758 31) = ec := (ecn_f (hF763.2 15 rfl) (hF763.1 31 rfl)).trans ec717
                        have bat2_760 : (0 : Int) ≤ at2_760 ∧ at2_760 ≤ 3002 := e764 ▸ hW762.1 10
                        have ztk2_761 := tz_b tk2_761
                        have btk2_761 : (0 : Int) ≤ tk2_761 ∧ tk2_761 ≤ 5 := e765 ▸ hW762.1 11
                        refine .inl ⟨rfl, ?_⟩
                        have pz778 : at2_693 + tz tk2_761 ≤ at2_760 := by omega
                        refine jx_go (tg := 146) rfl rfl ?_
                        exact ih146 _ (by omega) L756 G758 A759 (p) ((many + (1))) (1) (at2_760) (tk2_761) (fk2_694) (sy2_695) (na2_696) (pp1) (kp1) (np1) rfl gL756_0 gL756_1 gL756_2 gL756_3 hW762 hF770 hP771 hS772 hV773 hK774 ((e764)) ((e765)) (((hF763.1 16 rfl).trans (e701))) (((hF763.1 19 rfl).trans (e702))) (((hF763.1 28 rfl).trans (e703))) ((congrFun ((hF763.2 29 rfl).trans (hF698.2 29 rfl)) _).trans (ex_pp1)) ((congrFun (hF763.2 7 rfl) _).trans (k714)) ((congrFun (hF763.2 12 rfl) _).trans (k715)) (((hF763.1 9 rfl).trans ((hF698.1 9 rfl).trans (fx_9)))) (((hF763.1 29 rfl).trans ((hF698.1 29 rfl).trans (fx_29)))) (((hF763.1 46 rfl).trans ((hF698.1 46 rfl).trans (fx_46)))) (((hF763.1 31 rfl).trans ((hF698.1 31 rfl).trans (fx_31)))) (ec777) (by omega) (by omega) (by omega) (by omega) (by omega) (by omega) (by omega) (by omega) (by omega) (by omega) (by omega) ((wM_add sf775 sf776 (by omega) (by omega))) (by omega) (by omega) (by omega) (by omega) (by omega)
                · have _q : True := trivial
                  refine jx_if_eq (pc_q := 189) (tg := 199) rfl rfl rfl (by decide) (by decide) (fun h779 => ?_) (fun h779 => ?_)
                  · have _q := h779
                    refine jx_ar (pc_q := 200) (st_q := [.int (i32 (0))]) rfl rfl rfl rfl ?_
                    refine jx_ld (pc_q := 201) (l_q := jSto1 L737 3 (.int (i32 (0)))) (st_q := []) rfl rfl ?_
                    obtain ⟨L780, eL780⟩ : ∃ q, q = jSto1 L737 3 (.int (i32 (0))) := ⟨_, rfl⟩
                    rw [← eL780]
                    have gL780_0 : jGet L780 0 = some (.ref 66) := eL780 ▸ jg_ne (by decide) gL737_0 rfl
                    have gL780_1 : jGet L780 1 = some (.int (i32 (p))) := eL780 ▸ jg_ne (by decide) gL737_1 rfl
                    have gL780_2 : jGet L780 2 = some (.int (i32 ((many + (1))))) := eL780 ▸ jg_ne (by decide) gL737_2 rfl
                    have gL780_3 : jGet L780 3 = some (.int (i32 (0))) := eL780 ▸ jg_eq
                    refine jx_ld (pc_q := 202) (l_q := L780) (st_q := [.int (i32 (0))]) rfl (jl_iloadn gL780_3) ?_
                    refine jx_if_eq (pc_q := 205) (tg := 146) rfl rfl rfl (by decide) (by decide) (fun h781 => ?_) (fun h781 => ?_)
                    · have _q := h781
                      exact ih146 _ (by omega) L780 G691 A692 (p) ((many + (1))) (0) (at2_693) (G691 11) (fk2_694) (sy2_695) (na2_696) (pp1) (kp1) (np1) rfl gL780_0 gL780_1 gL780_2 gL780_3 hW697 hF709 hP710 hS711 hV712 hK713 ((e700)) (rfl) ((e701)) ((e702)) ((e703)) ((congrFun (hF698.2 29 rfl) _).trans (ex_pp1)) ((k714)) ((k715)) (((hF698.1 9 rfl).trans (fx_9))) (((hF698.1 29 rfl).trans (fx_29))) (((hF698.1 46 rfl).trans (fx_46))) (((hF698.1 31 rfl).trans (fx_31))) (ec717) (by omega) (by omega) (by omega) (by omega) (by omega) (by omega) (by omega) (by omega) (by omega) (by omega) (by omega) ((wM_add sf716 a721 (by omega) (by omega))) (by omega) (by omega) (by omega) (by omega) (by omega)
                    · have _q := h781
                      exact absurd h781 (by omega)
                  · have _q := h779
                    exact absurd h779 (by omega)
set_option maxRecDepth 20000 in
set_option maxHeartbeats 4000000 in
theorem c_readProc_w {X : jX} {dd : Nat} {Vs : Nat → Prop} {sb pb : Int} (hvb : VB Vs sb) {c0 c1 : jC} {G : Nat → Int} {A : Nat → Nat → Int} {T : jH} {ln li at0 fk nd sy na vi le op0 tk0 pc0 ec : Int} (hd : 8 * 18 + 81 ≤ dd) (hW : Wk G A) (e_ln : G 9 = ln) (e_li : G 3 = li) (e_at0 : G 10 = at0) (e_fk : G 16 = fk) (e_nd : G 31 = nd) (e_sy : G 19 = sy) (e_na : G 28 = na) (e_vi : G 29 = vi) (e_le : A 4 (ln).toNat = le) (e_op0 : G 15 = op0) (e_tk0 : G 11 = tk0) (e_pc0 : G 46 = pc0) (e_ec : ecn A (G 31) = ec) (i_LT : LT G A) (i_SV : SV Vs sb G A) (i_PQ : PQ Vs sb pb G A) (p_0 : fk = 0) (p_1 : ln < li) (p_2 : at0 ≤ le) (p_3 : nd ≤ 2 * at0 - tz tk0 + 30) (p_4 : sy ≤ na + 2) (p_5 : vi ≤ sy) (p_6 : sb ≤ sy) (p_7 : pb = pc0) (p_8 : wQ A (pc0).toNat (nd) (sy)) (p_9 : VT (Vs) A (sy)) : wk X dd 308 [.ref 66] (rV c0 c1 G A T) (fun o V_q => ∃ (G_q : Nat → Int) (A_q : Nat → Nat → Int) (ln2 : Int) (at2 : Int) (fk2 : Int) (nd2 : Int) (sy2 : Int) (na2 : Int) (vi2 : Int) (lf2 : Int) (pc2 : Int) (ec2 : Int), V_q = rV c0 c1 G_q A_q T ∧ o = .inl none ∧ Wk G_q A_q ∧ Fr [9, 10, 11, 12, 13, 14, 15, 16, 17, 18, 19, 28, 29, 31, 46] [6, 7, 8, 9, 10, 11, 12, 14, 15, 16, 17, 18, 19, 20, 21, 22, 23, 24, 28, 29, 30, 31] G A G_q A_q ∧ Pf nd A A_q ∧ Fx sr (sy) A A_q ∧ Fx [14] (vi) A A_q ∧ Fx [29, 30, 31] (pc0) A A_q ∧ G_q 9 = ln2 ∧ G_q 10 = at2 ∧ G_q 16 = fk2 ∧ G_q 31 = nd2 ∧ G_q 19 = sy2 ∧ G_q 28 = na2 ∧ G_q 29 = vi2 ∧ A_q 3 (ln2).toNat = lf2 ∧ G_q 46 = pc2 ∧ ecn A_q (G_q 31) = ec2 ∧ (sy2 ≤ na2 + 2) ∧ (vi2 ≤ sy2) ∧ (ln ≤ ln2) ∧ (ln2 ≤ li) ∧ (((1 ≤ fk2)) ∨ ((fk2 = 0) ∧ (ln < ln2) ∧ (at0 ≤ at2) ∧ (pc2 = pc0 + 1) ∧ (nd2 - nd ≤ 2 * at2 - (2 * at0 - tz tk0)) ∧ (at2 < lf2 ∨ li ≤ ln2) ∧ (vi2 = vi + 1) ∧ (sy < sy2) ∧ (wQ A_q (pc2).toNat (nd2) (sy2)) ∧ (SW (Vu Vs sy) (sy2) (vi2) A_q) ∧ (PQ (Vu Vs sy) (sy2) (pc2) (fun _ => 0) A_q) ∧ (VT (Vu Vs sy) A_q (sy2)) ∧ (nd2 - nd + 5 * (ec2 - ec) ≤ 2 * at2 - (2 * at0 - tz tk0)) ∧ (NdM A_q (nd) (nd2) (sy))))) := by
  obtain ⟨d, rfl⟩ : ∃ d, dd = d + 1 := ⟨dd - 1, by omega⟩
  refine wk_of (e := jm308) rfl (Nat.le_of_ble_eq_true rfl) ?_
  show wj X d jm308 (0, [(0, .ref 66)], [], rV c0 c1 G A T) _
  have hF0 : Fr [9, 10, 11, 12, 13, 14, 15, 16, 17, 18, 19, 28, 29, 31, 46] [6, 7, 8, 9, 10, 11, 12, 14, 15, 16, 17, 18, 19, 20, 21, 22, 23, 24, 28, 29, 30, 31] G A G A := Fr_rf
  have hP0 : Pf nd A A := Pf_rf
  have hS0 : Fx sr (sy) A A := Fx_rf
  have hV0 : Fx [14] (vi) A A := Fx_rf
  have hK0 : Fx [29, 30, 31] (pc0) A A := Fx_rf
  have b_ln : (0 : Int) ≤ ln ∧ ln ≤ 3000 := e_ln ▸ hW.1 9
  have b_li : (0 : Int) ≤ li ∧ li ≤ 3000 := e_li ▸ hW.1 3
  have b_at0 : (0 : Int) ≤ at0 ∧ at0 ≤ 3002 := e_at0 ▸ hW.1 10
  have b_fk : (0 : Int) ≤ fk ∧ fk ≤ 6 := e_fk ▸ hW.1 16
  have b_nd : (0 : Int) ≤ nd ∧ nd ≤ 6999 := e_nd ▸ hW.1 31
  have b_sy : (0 : Int) ≤ sy ∧ sy ≤ 202 := e_sy ▸ hW.1 19
  have b_na : (0 : Int) ≤ na ∧ na ≤ 200 := e_na ▸ hW.1 28
  have b_vi : (0 : Int) ≤ vi ∧ vi ≤ 202 := e_vi ▸ hW.1 29
  have b_le : (0 : Int) ≤ le ∧ le ≤ 3000 := e_le ▸ hW.2 4 _
  have b_op0 : (-2147483648 : Int) ≤ op0 ∧ op0 ≤ 2147483647 := e_op0 ▸ hW.1 15
  have z_tk0 := tz_f tk0
  have b_tk0 : (0 : Int) ≤ tk0 ∧ tk0 ≤ 5 := e_tk0 ▸ hW.1 11
  have b_pc0 : (0 : Int) ≤ pc0 ∧ pc0 ≤ 24 := e_pc0 ▸ hW.1 46
  refine jx_ld (pc_q := 1) (l_q := [(0, .ref 66)]) (st_q := [.ref 66]) rfl (jl_aloadn rfl) ?_
  refine jx_vr (pc_q := 4) (as := []) (st := []) rfl rfl rfl rfl ⟨rfl, rfl, Nat.le_of_ble_eq_true rfl⟩ rfl rfl (c_next (dd := d) (hd := by omega) (hW := hW)  (ln := ln) (e_ln := show G 9 = ln from (e_ln)) (le := le) (e_le := show A 4 (ln).toNat = le from (e_le)) (at0 := at0) (e_at0 := show G 10 = at0 from (e_at0))    (p_0 := by omega)) (fun o V_q hq => ?_)
  obtain ⟨G782, A783, at2_784, tk2_785, rfl, rfl, hW786, hF787, e788, e789, p790, p791, p792, -⟩ := hq
  have hF794 := Fr_tr hF0 hF787 (Fr_sub (by decide)) (Fr_sub (by decide))
  have hP795 := Pf_f hP0 hF787 (by decide)
  have hS796 := Fx_f hS0 hF787 (by decide)
  have hV797 := Fx_f hV0 hF787 (by decide)
  have hK798 := Fx_f hK0 hF787 (by decide)
  have sf799 : wQ A783 (pc0).toNat (nd) (sy) := (show A783 = A from funext (fun k => hF787.2 k rfl)) ▸ p_8
  have sf800 : VT (Vs) A783 (sy) := (show A783 = A from funext (fun k => hF787.2 k rfl)) ▸ p_9
  have ec801 : ecn A783 (G782 31) = ec := (ecn_f (hF787.2 15 rfl) (hF787.1 31 rfl)).trans e_ec
  have bat2_784 : (0 : Int) ≤ at2_784 ∧ at2_784 ≤ 3002 := e788 ▸ hW786.1 10
  have ztk2_785 := tz_b tk2_785
  have btk2_785 : (0 : Int) ≤ tk2_785 ∧ tk2_785 ≤ 5 := e789 ▸ hW786.1 11
  refine .inl ⟨rfl, ?_⟩
  have pz802 : at0 + tz tk2_785 ≤ at2_784 := by omega
  refine jx_ld (pc_q := 5) (l_q := [(0, .ref 66)]) (st_q := [.ref 66]) rfl (jl_aloadn rfl) ?_
  have z803 := tz_f (tk2_785)
  refine jr_get (pc_q := 8) (i := 11) (v := .int (i32 (tk2_785))) rfl rfl (by decide) (rFv_eq (by decide) (show G782 11 = tk2_785 from (e789))) rfl ?_
  refine jx_ar (pc_q := 9) (st_q := [.int (i32 (1)), .int (i32 (tk2_785))]) rfl rfl rfl rfl ?_
  refine jx_icmp_eq (pc_q := 12) (tg := 22) rfl rfl rfl (Int.le_trans (by decide : (-2147483648 : Int) ≤ 0) btk2_785.1) (Int.le_trans btk2_785.2 (by decide : (5 : Int) ≤ 2147483647)) (by decide) (by decide) (fun h804 => ?_) (fun h804 => ?_)
  · have _q := h804
    refine jx_ld (pc_q := 23) (l_q := [(0, .ref 66)]) (st_q := [.ref 66]) rfl (jl_aloadn rfl) ?_
    refine jx_ld (pc_q := 24) (l_q := [(0, .ref 66)]) (st_q := [.ref 66, .ref 66]) rfl (jl_aloadn rfl) ?_
    refine jr_get (pc_q := 27) (i := 14) (v := .long (i64 (G782 14))) rfl rfl (by decide) rfl rfl ?_
    obtain ⟨y805, ey805⟩ : ∃ q : Int64, q = i64 (G782 14) := ⟨_, rfl⟩
    rw [← ey805]
    refine jx_vr (pc_q := 30) (as := [.long (y805)]) (st := []) rfl rfl rfl rfl ⟨rfl, rfl, Nat.le_of_ble_eq_true rfl⟩ rfl rfl (c_isTaken (dd := d) (hd := by omega) (hW := hW786) (nm := y805) (sy := sy) (e_sy := show G782 19 = sy from ((hF787.1 19 rfl).trans (e_sy)))    ) (fun o V_q hq => ?_)
    obtain ⟨r806, rfl, rfl, b807, -⟩ := hq
    refine .inr ⟨_, rfl, ?_⟩
    refine jx_if_eq (pc_q := 33) (tg := 42) rfl rfl rfl (Int.le_trans (by decide : (-2147483648 : Int) ≤ 0) b807.1) (Int.le_trans b807.2 (by decide : (1 : Int) ≤ 2147483647)) (fun h809 => ?_) (fun h809 => ?_)
    · have _q := h809
      refine jx_ld (pc_q := 43) (l_q := [(0, .ref 66)]) (st_q := [.ref 66]) rfl (jl_aloadn rfl) ?_
      refine jx_vr (pc_q := 46) (as := []) (st := []) rfl rfl rfl rfl ⟨rfl, rfl, Nat.le_of_ble_eq_true rfl⟩ rfl rfl (c_bad (dd := d) (hd := by omega) (hW := hW786)  (fk := fk) (e_fk := show G782 16 = fk from ((hF787.1 16 rfl).trans (e_fk)))    ) (fun o V_q hq => ?_)
      obtain ⟨r810, rfl, rfl, b811, q812⟩ := hq
      refine .inr ⟨_, rfl, ?_⟩
      rcases q812 with ⟨rfl, a813⟩ | ⟨rfl, a814⟩
      · have _q : True := trivial
        exfalso
        omega
      · have _q : True := trivial
        refine jx_if_ne (pc_q := 49) (tg := 68) rfl rfl rfl (by decide) (by decide) (fun h815 => ?_) (fun h815 => ?_)
        · have _q := h815
          exact absurd h815 (by omega)
        · have _q := h815
          refine jx_ld (pc_q := 50) (l_q := [(0, .ref 66)]) (st_q := [.ref 66]) rfl (jl_aloadn rfl) ?_
          refine jr_get (pc_q := 53) (i := 46) (v := .int (i32 (pc0))) rfl rfl (by decide) (rFv_eq (by decide) (show G782 46 = pc0 from ((hF787.1 46 rfl).trans (e_pc0)))) rfl ?_
          refine jx_ar (pc_q := 55) (st_q := [.int (i32 (24)), .int (i32 (pc0))]) rfl rfl rfl rfl ?_
          refine jx_icmp_ne (pc_q := 58) (tg := 68) rfl rfl rfl (Int.le_trans (by decide : (-2147483648 : Int) ≤ 0) b_pc0.1) (Int.le_trans b_pc0.2 (by decide : (24 : Int) ≤ 2147483647)) (by decide) (by decide) (fun h816 => ?_) (fun h816 => ?_)
          · have _q := h816
            refine jx_ld (pc_q := 69) (l_q := [(0, .ref 66)]) (st_q := [.ref 66]) rfl (jl_aloadn rfl) ?_
            refine jx_ar (pc_q := 71) (st_q := [.int (i32 (14)), .ref 66]) rfl rfl rfl rfl ?_
            refine jx_ar (pc_q := 72) (st_q := [.int (i32 (0)), .int (i32 (14)), .ref 66]) rfl rfl rfl rfl ?_
            refine jx_vr (pc_q := 75) (as := [.int (i32 (14)), .int (i32 (0))]) (st := []) rfl rfl rfl rfl ⟨rfl, rfl, Nat.le_of_ble_eq_true rfl⟩ rfl rfl (c_newName (dd := d) (hd := by omega) (hW := hW786) (kind := 14) (many := 0) (sy := sy) (e_sy := show G782 19 = sy from ((hF787.1 19 rfl).trans (e_sy))) (na := na) (e_na := show G782 28 = na from ((hF787.1 28 rfl).trans (e_na))) (fk := fk) (e_fk := show G782 16 = fk from ((hF787.1 16 rfl).trans (e_fk)))  (h_kind := ⟨(by decide), (by decide)⟩) (h_many := ⟨(by decide), (by decide)⟩)  (p_0 := by omega) (p_1 := by omega)) (fun o V_q hq => ?_)
            obtain ⟨G817, A818, r819, sy2_820, na2_821, fk2_822, yk2_823, rfl, rfl, hW824, hF825, hQ826, b827, e828, e829, e830, e831, q832⟩ := hq
            have hF833 := Fr_tr hF794 hF825 (Fr_sub (by decide)) (Fr_sub (by decide))
            have hP834 := Pf_f hP795 hF825 (by decide)
            have hS835 := Fx_tr hS796 hQ826 (by omega)
            have hV836 := Fx_f hV797 hF825 (by decide)
            have hK837 := Fx_f hK798 hF825 (by decide)
            have sf838 : wQ A818 (pc0).toNat (nd) (sy) := wQ_fx (Pf_f Pf_rf hF825 (by decide)) (Fx_su hQ826 (by omega)) (Fx_su (Fx_f (w := pc0) Fx_rf hF825 (by decide)) (by omega)) sf799
            have sf839 : VT (Vs) A818 (sy) := VT_fx hQ826 (by omega) sf800
            have ec840 : ecn A818 (G817 31) = ec := (ecn_f (hF825.2 15 rfl) (hF825.1 31 rfl)).trans ec801
            have bsy2_820 : (0 : Int) ≤ sy2_820 ∧ sy2_820 ≤ 202 := e828 ▸ hW824.1 19
            have bna2_821 : (0 : Int) ≤ na2_821 ∧ na2_821 ≤ 200 := e829 ▸ hW824.1 28
            have bfk2_822 : (0 : Int) ≤ fk2_822 ∧ fk2_822 ≤ 6 := e830 ▸ hW824.1 16
            have byk2_823 : (0 : Int) ≤ yk2_823 ∧ yk2_823 ≤ 14 := e831 ▸ hW824.2 7 _
            refine .inr ⟨_, rfl, ?_⟩
            rcases q832 with ⟨a847, a841, a842, a843, a844, a845, a846⟩ | ⟨rfl, a848, a849, a850⟩
            · have _q : True := trivial
              rw [a847]
              refine jx_ld (pc_q := 76) (l_q := jSto1 [(0, .ref 66)] 1 (.int (i32 (sy)))) (st_q := []) rfl rfl ?_
              obtain ⟨L851, eL851⟩ : ∃ q, q = jSto1 [(0, .ref 66)] 1 (.int (i32 (sy))) := ⟨_, rfl⟩
              rw [← eL851]
              have gL851_0 : jGet L851 0 = some (.ref 66) := eL851 ▸ jg_ne (by decide) (rfl : jGet [(0, .ref 66)] 0 = some (.ref 66)) rfl
              have gL851_1 : jGet L851 1 = some (.int (i32 (sy))) := eL851 ▸ jg_eq
              refine jx_ld (pc_q := 77) (l_q := L851) (st_q := [.ref 66]) rfl (jl_aloadn gL851_0) ?_
              refine jx_vr (pc_q := 80) (as := []) (st := []) rfl rfl rfl rfl ⟨rfl, rfl, Nat.le_of_ble_eq_true rfl⟩ rfl rfl (c_bad (dd := d) (hd := by omega) (hW := hW824)  (fk := fk2_822) (e_fk := show G817 16 = fk2_822 from (e830))    ) (fun o V_q hq => ?_)
              obtain ⟨r852, rfl, rfl, b853, q854⟩ := hq
              refine .inr ⟨_, rfl, ?_⟩
              rcases q854 with ⟨rfl, a855⟩ | ⟨rfl, a856⟩
              · have _q : True := trivial
                exfalso
                omega
              · have _q : True := trivial
                refine jx_if_eq (pc_q := 83) (tg := 84) rfl rfl rfl (by decide) (by decide) (fun h857 => ?_) (fun h857 => ?_)
                · have _q := h857
                  refine jx_ld (pc_q := 85) (l_q := L851) (st_q := [.ref 66]) rfl (jl_aloadn gL851_0) ?_
                  refine jr_get (pc_q := 88) (i := 26) (v := .ref 79) rfl rfl (by decide) rfl rfl ?_
                  refine jx_ld (pc_q := 89) (l_q := L851) (st_q := [.int (i32 (sy)), .ref 79]) rfl (jl_iloadn gL851_1) ?_
                  refine jx_ld (pc_q := 90) (l_q := L851) (st_q := [.ref 66, .int (i32 (sy)), .ref 79]) rfl (jl_aloadn gL851_0) ?_
                  refine jr_get (pc_q := 93) (i := 46) (v := .int (i32 (pc0))) rfl rfl (by decide) (rFv_eq (by decide) (show G817 46 = pc0 from ((hF825.1 46 rfl).trans ((hF787.1 46 rfl).trans (e_pc0))))) rfl ?_
                  refine jr_st (pc_q := 94) (i := 12) (m := 260) (z := sy) (y := pc0) rfl (by decide) rfl (by decide) (by omega) (by omega) rfl ?_
                  have hW859 : Wk G817 (uA A818 12 (sy).toNat (pc0)) := Wk_a hW824 (show (0 : Int) ≤ pc0 by omega) (show pc0 ≤ (24 : Int) by omega)
                  have hF860 := Fr_a (z := pc0) (k := 12) (n := (sy).toNat) hF833 (by decide)
                  obtain ⟨A858, eA858⟩ : ∃ q, q = uA A818 12 (sy).toNat (pc0) := ⟨_, rfl⟩
                  rw [← eA858]
                  rw [← eA858] at hW859 hF860
                  have q861 : A858 12 (sy).toNat = pc0 := by rw [eA858]; exact uA_eq
                  have hP862 : Pf nd A A858 := eA858 ▸ Pf_n hP834 rfl
                  have hS863 : Fx sr (sy) A A858 := eA858 ▸ Fx_a hS835 (z := sy) (by omega) (by omega)
                  have hV864 : Fx [14] (vi) A A858 := eA858 ▸ Fx_n hV836 rfl
                  have hK865 : Fx [29, 30, 31] (pc0) A A858 := eA858 ▸ Fx_n hK837 rfl
                  have ec866 : ecn A858 (G817 31) = ec := (ecn_e ((congrFun eA858 15).trans (uA_ne (by decide)))).trans ec840
                  refine jx_ld (pc_q := 95) (l_q := L851) (st_q := [.ref 66]) rfl (jl_aloadn gL851_0) ?_
                  refine jx_ar (pc_q := 96) (st_q := [.int (i32 (1)), .ref 66]) rfl rfl rfl rfl ?_
                  refine jx_vr (pc_q := 99) (as := [.int (i32 (1))]) (st := []) rfl rfl rfl rfl ⟨rfl, rfl, Nat.le_of_ble_eq_true rfl⟩ rfl rfl (c_need (dd := d) (hd := by omega) (hW := hW859) (g := 1) (ln := ln) (e_ln := show G817 9 = ln from ((hF825.1 9 rfl).trans ((hF787.1 9 rfl).trans (e_ln)))) (le := le) (e_le := show A858 4 (ln).toNat = le from (congrFun (((congrFun eA858 4).trans (uA_ne (by decide))).trans ((hF825.2 4 rfl).trans (hF787.2 4 rfl))) _).trans (e_le)) (at0 := at2_784) (e_at0 := show G817 10 = at2_784 from ((hF825.1 10 rfl).trans (e788))) (fk := fk2_822) (e_fk := show G817 16 = fk2_822 from (e830)) (tk0 := tk2_785) (e_tk0 := show G817 11 = tk2_785 from ((hF825.1 11 rfl).trans (e789)))  (h_g := ⟨(by decide), (by decide)⟩)  (p_0 := by omega)) (fun o V_q hq => ?_)
                  obtain ⟨G867, A868, at2_869, tk2_870, fk2_871, rfl, rfl, hW872, hF873, e874, e875, e876, p877, p878, q879⟩ := hq
                  have hF880 := Fr_tr hF860 hF873 (Fr_sub (by decide)) (Fr_sub (by decide))
                  have hP881 := Pf_f hP862 hF873 (by decide)
                  have hS882 := Fx_f hS863 hF873 (by decide)
                  have hV883 := Fx_f hV864 hF873 (by decide)
                  have hK884 := Fx_f hK865 hF873 (by decide)
                  have ec885 : ecn A868 (G867 31) = ec := (ecn_f (hF873.2 15 rfl) (hF873.1 31 rfl)).trans ec866
                  have bat2_869 : (0 : Int) ≤ at2_869 ∧ at2_869 ≤ 3002 := e874 ▸ hW872.1 10
                  have ztk2_870 := tz_b tk2_870
                  have btk2_870 : (0 : Int) ≤ tk2_870 ∧ tk2_870 ≤ 5 := e875 ▸ hW872.1 11
                  have bfk2_871 : (0 : Int) ≤ fk2_871 ∧ fk2_871 ≤ 6 := e876 ▸ hW872.1 16
                  refine .inl ⟨rfl, ?_⟩
                  rcases q879 with ⟨a886, a887, a888, a889⟩ | ⟨a890, a891, a892, a893⟩
                  · have _q : True := trivial
                    refine jx_ld (pc_q := 100) (l_q := L851) (st_q := [.ref 66]) rfl (jl_aloadn gL851_0) ?_
                    refine jx_ld (pc_q := 101) (l_q := L851) (st_q := [.ref 66, .ref 66]) rfl (jl_aloadn gL851_0) ?_
                    refine jx_ar (pc_q := 103) (st_q := [.int (i32 (40)), .ref 66, .ref 66]) rfl rfl rfl rfl ?_
                    have b894 : (-2147483648 : Int) ≤ G867 13 ∧ G867 13 ≤ 2147483647 := hW872.1 13
                    refine jx_vr (pc_q := 106) (as := [.int (i32 (40))]) (st := [.ref 66]) rfl rfl rfl rfl ⟨rfl, rfl, Nat.le_of_ble_eq_true rfl⟩ rfl rfl (c_is (dd := d) (hd := by omega) (hW := hW872) (k := 40) (tk := tk2_870) (e_tk := show G867 11 = tk2_870 from (e875)) (tn := G867 13) (e_tn := show G867 13 = G867 13 from rfl)  (h_k := ⟨(by decide), (by decide)⟩)  ) (fun o V_q hq => ?_)
                    obtain ⟨r895, rfl, rfl, b896, q897⟩ := hq
                    refine .inr ⟨_, rfl, ?_⟩
                    rcases q897 with ⟨rfl, a898, a899, a900⟩ | rfl
                    · have _q : True := trivial
                      refine jx_vr (pc_q := 109) (as := [.int (i32 (1))]) (st := []) rfl rfl rfl rfl ⟨rfl, rfl, Nat.le_of_ble_eq_true rfl⟩ rfl rfl (c_need (dd := d) (hd := by omega) (hW := hW872) (g := 1) (ln := ln) (e_ln := show G867 9 = ln from ((hF873.1 9 rfl).trans ((hF825.1 9 rfl).trans ((hF787.1 9 rfl).trans (e_ln))))) (le := le) (e_le := show A868 4 (ln).toNat = le from (congrFun ((hF873.2 4 rfl).trans (((congrFun eA858 4).trans (uA_ne (by decide))).trans ((hF825.2 4 rfl).trans (hF787.2 4 rfl)))) _).trans (e_le)) (at0 := at2_869) (e_at0 := show G867 10 = at2_869 from (e874)) (fk := fk2_871) (e_fk := show G867 16 = fk2_871 from (e876)) (tk0 := tk2_870) (e_tk0 := show G867 11 = tk2_870 from (e875))  (h_g := ⟨(by decide), (by decide)⟩)  (p_0 := by omega)) (fun o V_q hq => ?_)
                      obtain ⟨G901, A902, at2_903, tk2_904, fk2_905, rfl, rfl, hW906, hF907, e908, e909, e910, p911, p912, q913⟩ := hq
                      have hF914 := Fr_tr hF880 hF907 (Fr_sub (by decide)) (Fr_sub (by decide))
                      have hP915 := Pf_f hP881 hF907 (by decide)
                      have hS916 := Fx_f hS882 hF907 (by decide)
                      have hV917 := Fx_f hV883 hF907 (by decide)
                      have hK918 := Fx_f hK884 hF907 (by decide)
                      have ec919 : ecn A902 (G901 31) = ec := (ecn_f (hF907.2 15 rfl) (hF907.1 31 rfl)).trans ec885
                      have bat2_903 : (0 : Int) ≤ at2_903 ∧ at2_903 ≤ 3002 := e908 ▸ hW906.1 10
                      have ztk2_904 := tz_b tk2_904
                      have btk2_904 : (0 : Int) ≤ tk2_904 ∧ tk2_904 ≤ 5 := e909 ▸ hW906.1 11
                      have bfk2_905 : (0 : Int) ≤ fk2_905 ∧ fk2_905 ≤ 6 := e910 ▸ hW906.1 16
                      refine .inl ⟨rfl, ?_⟩
                      rcases q913 with ⟨a920, a921, a922, a923⟩ | ⟨a924, a925, a926, a927⟩
                      · have _q : True := trivial
                        refine jx_ld (pc_q := 110) (l_q := L851) (st_q := [.ref 66]) rfl (jl_aloadn gL851_0) ?_
                        refine jr_get (pc_q := 113) (i := 47) (v := .ref 96) rfl rfl (by decide) rfl rfl ?_
                        refine jx_ld (pc_q := 114) (l_q := L851) (st_q := [.ref 66, .ref 96]) rfl (jl_aloadn gL851_0) ?_
                        refine jr_get (pc_q := 117) (i := 46) (v := .int (i32 (pc0))) rfl rfl (by decide) (rFv_eq (by decide) (show G901 46 = pc0 from ((hF907.1 46 rfl).trans ((hF873.1 46 rfl).trans ((hF825.1 46 rfl).trans ((hF787.1 46 rfl).trans (e_pc0))))))) rfl ?_
                        refine jx_ld (pc_q := 118) (l_q := L851) (st_q := [.ref 66, .int (i32 (pc0)), .ref 96]) rfl (jl_aloadn gL851_0) ?_
                        refine jr_get (pc_q := 121) (i := 19) (v := .int (i32 (sy2_820))) rfl rfl (by decide) (rFv_eq (by decide) (show G901 19 = sy2_820 from ((hF907.1 19 rfl).trans ((hF873.1 19 rfl).trans (e828))))) rfl ?_
                        refine jr_st (pc_q := 122) (i := 29) (m := 25) (z := pc0) (y := sy2_820) rfl (by decide) rfl (by decide) (by omega) (by omega) rfl ?_
                        have hW929 : Wk G901 (uA A902 29 (pc0).toNat (sy2_820)) := Wk_a hW906 (show (0 : Int) ≤ sy2_820 by omega) (show sy2_820 ≤ (202 : Int) by omega)
                        have hF930 := Fr_a (z := sy2_820) (k := 29) (n := (pc0).toNat) hF914 (by decide)
                        obtain ⟨A928, eA928⟩ : ∃ q, q = uA A902 29 (pc0).toNat (sy2_820) := ⟨_, rfl⟩
                        rw [← eA928]
                        rw [← eA928] at hW929 hF930
                        have q931 : A928 29 (pc0).toNat = sy2_820 := by rw [eA928]; exact uA_eq
                        have hP932 : Pf nd A A928 := eA928 ▸ Pf_n hP915 rfl
                        have hS933 : Fx sr (sy) A A928 := eA928 ▸ Fx_n hS916 rfl
                        have hV934 : Fx [14] (vi) A A928 := eA928 ▸ Fx_n hV917 rfl
                        have hK935 : Fx [29, 30, 31] (pc0) A A928 := eA928 ▸ Fx_a hK918 (z := pc0) (by omega) (by omega)
                        have ec936 : ecn A928 (G901 31) = ec := (ecn_e ((congrFun eA928 15).trans (uA_ne (by decide)))).trans ec919
                        refine jx_ar (pc_q := 123) (st_q := [.int (i32 (0))]) rfl rfl rfl rfl ?_
                        refine jx_ld (pc_q := 124) (l_q := jSto1 L851 2 (.int (i32 (0)))) (st_q := []) rfl rfl ?_
                        obtain ⟨L937, eL937⟩ : ∃ q, q = jSto1 L851 2 (.int (i32 (0))) := ⟨_, rfl⟩
                        rw [← eL937]
                        have gL937_0 : jGet L937 0 = some (.ref 66) := eL937 ▸ jg_ne (by decide) gL851_0 rfl
                        have gL937_1 : jGet L937 1 = some (.int (i32 (sy))) := eL937 ▸ jg_ne (by decide) gL851_1 rfl
                        have gL937_2 : jGet L937 2 = some (.int (i32 (0))) := eL937 ▸ jg_eq
                        refine jx_ld (pc_q := 125) (l_q := L937) (st_q := [.ref 66]) rfl (jl_aloadn gL937_0) ?_
                        refine jx_vr (pc_q := 128) (as := []) (st := []) rfl rfl rfl rfl ⟨rfl, rfl, Nat.le_of_ble_eq_true rfl⟩ rfl rfl (c_bad (dd := d) (hd := by omega) (hW := hW929)  (fk := fk2_905) (e_fk := show G901 16 = fk2_905 from (e910))    ) (fun o V_q hq => ?_)
                        obtain ⟨r938, rfl, rfl, b939, q940⟩ := hq
                        refine .inr ⟨_, rfl, ?_⟩
                        rcases q940 with ⟨rfl, a941⟩ | ⟨rfl, a942⟩
                        · have _q : True := trivial
                          refine jx_if_ne (pc_q := 131) (tg := 144) rfl rfl rfl (by decide) (by decide) (fun h943 => ?_) (fun h943 => ?_)
                          · have _q := h943
                            refine jx_ar (pc_q := 145) (st_q := [.int (i32 (0))]) rfl rfl rfl rfl ?_
                            refine jx_ld (pc_q := 146) (l_q := jSto1 L937 3 (.int (i32 (0)))) (st_q := []) rfl rfl ?_
                            obtain ⟨L944, eL944⟩ : ∃ q, q = jSto1 L937 3 (.int (i32 (0))) := ⟨_, rfl⟩
                            rw [← eL944]
                            have gL944_0 : jGet L944 0 = some (.ref 66) := eL944 ▸ jg_ne (by decide) gL937_0 rfl
                            have gL944_1 : jGet L944 1 = some (.int (i32 (sy))) := eL944 ▸ jg_ne (by decide) gL937_1 rfl
                            have gL944_2 : jGet L944 2 = some (.int (i32 (0))) := eL944 ▸ jg_ne (by decide) gL937_2 rfl
                            have gL944_3 : jGet L944 3 = some (.int (i32 (0))) := eL944 ▸ jg_eq
                            refine jx_ld (pc_q := 147) (l_q := L944) (st_q := [.ref 66]) rfl (jl_aloadn gL944_0) ?_
                            refine jx_vr (pc_q := 150) (as := []) (st := []) rfl rfl rfl rfl ⟨rfl, rfl, Nat.le_of_ble_eq_true rfl⟩ rfl rfl (c_bad (dd := d) (hd := by omega) (hW := hW929)  (fk := fk2_905) (e_fk := show G901 16 = fk2_905 from (e910))    ) (fun o V_q hq => ?_)
                            obtain ⟨r945, rfl, rfl, b946, q947⟩ := hq
                            refine .inr ⟨_, rfl, ?_⟩
                            rcases q947 with ⟨rfl, a948⟩ | ⟨rfl, a949⟩
                            · have _q : True := trivial
                              refine jx_if_ne (pc_q := 153) (tg := 212) rfl rfl rfl (by decide) (by decide) (fun h950 => ?_) (fun h950 => ?_)
                              · have _q := h950
                                exact c_readProc_w_at_212p (X := X) (d := d) (Vs := Vs) (sb := sb) (pb := pb) (hvb := hvb) (c0 := c0) (c1 := c1) (G := G) (A := A) (T := T) (ln := ln) (li := li) (at0 := at0) (fk := fk) (nd := nd) (sy := sy) (na := na) (vi := vi) (le := le) (op0 := op0) (tk0 := tk0) (pc0 := pc0) (ec := ec) (hd := hd) (hW := hW) (e_ln := e_ln) (e_li := e_li) (e_at0 := e_at0) (e_fk := e_fk) (e_nd := e_nd) (e_sy := e_sy) (e_na := e_na) (e_vi := e_vi) (e_le := e_le) (e_op0 := e_op0) (e_tk0 := e_tk0) (e_pc0 := e_pc0) (e_ec := e_ec) (i_LT := i_LT) (i_SV := i_SV) (i_PQ := i_PQ) (p_0 := p_0) (p_1 := p_1) (p_2 := p_2) (p_3 := p_3) (p_4 := p_4) (p_5 := p_5) (p_6 := p_6) (p_7 := p_7) (p_8 := p_8) (p_9 := p_9) L944 G901 A928 (sy) (0) (at2_903) (fk2_905) (sy2_820) (na2_821) gL944_0 gL944_1 gL944_2 hW929 hF930 hP932 hS933 hV934 hK935 ((e908)) ((e910)) (((hF907.1 19 rfl).trans ((hF873.1 19 rfl).trans (e828)))) (((hF907.1 28 rfl).trans ((hF873.1 28 rfl).trans (e829)))) (((hF907.1 9 rfl).trans ((hF873.1 9 rfl).trans ((hF825.1 9 rfl).trans ((hF787.1 9 rfl).trans (e_ln)))))) (((hF907.1 29 rfl).trans ((hF873.1 29 rfl).trans ((hF825.1 29 rfl).trans ((hF787.1 29 rfl).trans (e_vi)))))) (((hF907.1 46 rfl).trans ((hF873.1 46 rfl).trans ((hF825.1 46 rfl).trans ((hF787.1 46 rfl).trans (e_pc0)))))) (((hF907.1 31 rfl).trans ((hF873.1 31 rfl).trans ((hF825.1 31 rfl).trans ((hF787.1 31 rfl).trans (e_nd)))))) (ec936) (by omega) (by omega) (by omega) (by omega) (by omega) (by omega) (by omega) (by omega) (by omega)
                              · have _q := h950
                                exact absurd h950 (by omega)
                            · have _q : True := trivial
                              exfalso
                              omega
                          · have _q := h943
                            exact absurd h943 (by omega)
                        · have _q : True := trivial
                          exfalso
                          omega
                      · have _q : True := trivial
                        exfalso
                        omega
                    · have _q : True := trivial
                      refine jx_vr (pc_q := 109) (as := [.int (i32 (0))]) (st := []) rfl rfl rfl rfl ⟨rfl, rfl, Nat.le_of_ble_eq_true rfl⟩ rfl rfl (c_need (dd := d) (hd := by omega) (hW := hW872) (g := 0) (ln := ln) (e_ln := show G867 9 = ln from ((hF873.1 9 rfl).trans ((hF825.1 9 rfl).trans ((hF787.1 9 rfl).trans (e_ln))))) (le := le) (e_le := show A868 4 (ln).toNat = le from (congrFun ((hF873.2 4 rfl).trans (((congrFun eA858 4).trans (uA_ne (by decide))).trans ((hF825.2 4 rfl).trans (hF787.2 4 rfl)))) _).trans (e_le)) (at0 := at2_869) (e_at0 := show G867 10 = at2_869 from (e874)) (fk := fk2_871) (e_fk := show G867 16 = fk2_871 from (e876)) (tk0 := tk2_870) (e_tk0 := show G867 11 = tk2_870 from (e875))  (h_g := ⟨(by decide), (by decide)⟩)  (p_0 := by omega)) (fun o V_q hq => ?_)
                      obtain ⟨G951, A952, at2_953, tk2_954, fk2_955, rfl, rfl, hW956, hF957, e958, e959, e960, p961, p962, q963⟩ := hq
                      have hF964 := Fr_tr hF880 hF957 (Fr_sub (by decide)) (Fr_sub (by decide))
                      have hP965 := Pf_f hP881 hF957 (by decide)
                      have hS966 := Fx_f hS882 hF957 (by decide)
                      have hV967 := Fx_f hV883 hF957 (by decide)
                      have hK968 := Fx_f hK884 hF957 (by decide)
                      have ec969 : ecn A952 (G951 31) = ec := (ecn_f (hF957.2 15 rfl) (hF957.1 31 rfl)).trans ec885
                      have bat2_953 : (0 : Int) ≤ at2_953 ∧ at2_953 ≤ 3002 := e958 ▸ hW956.1 10
                      have ztk2_954 := tz_b tk2_954
                      have btk2_954 : (0 : Int) ≤ tk2_954 ∧ tk2_954 ≤ 5 := e959 ▸ hW956.1 11
                      have bfk2_955 : (0 : Int) ≤ fk2_955 ∧ fk2_955 ≤ 6 := e960 ▸ hW956.1 16
                      refine .inl ⟨rfl, ?_⟩
                      rcases q963 with ⟨a970, a971, a972, a973⟩ | ⟨a974, a975, a976, a977⟩
                      · have _q : True := trivial
                        refine jx_ld (pc_q := 110) (l_q := L851) (st_q := [.ref 66]) rfl (jl_aloadn gL851_0) ?_
                        refine jr_get (pc_q := 113) (i := 47) (v := .ref 96) rfl rfl (by decide) rfl rfl ?_
                        refine jx_ld (pc_q := 114) (l_q := L851) (st_q := [.ref 66, .ref 96]) rfl (jl_aloadn gL851_0) ?_
                        refine jr_get (pc_q := 117) (i := 46) (v := .int (i32 (pc0))) rfl rfl (by decide) (rFv_eq (by decide) (show G951 46 = pc0 from ((hF957.1 46 rfl).trans ((hF873.1 46 rfl).trans ((hF825.1 46 rfl).trans ((hF787.1 46 rfl).trans (e_pc0))))))) rfl ?_
                        refine jx_ld (pc_q := 118) (l_q := L851) (st_q := [.ref 66, .int (i32 (pc0)), .ref 96]) rfl (jl_aloadn gL851_0) ?_
                        refine jr_get (pc_q := 121) (i := 19) (v := .int (i32 (sy2_820))) rfl rfl (by decide) (rFv_eq (by decide) (show G951 19 = sy2_820 from ((hF957.1 19 rfl).trans ((hF873.1 19 rfl).trans (e828))))) rfl ?_
                        refine jr_st (pc_q := 122) (i := 29) (m := 25) (z := pc0) (y := sy2_820) rfl (by decide) rfl (by decide) (by omega) (by omega) rfl ?_
                        have hW979 : Wk G951 (uA A952 29 (pc0).toNat (sy2_820)) := Wk_a hW956 (show (0 : Int) ≤ sy2_820 by omega) (show sy2_820 ≤ (202 : Int) by omega)
                        have hF980 := Fr_a (z := sy2_820) (k := 29) (n := (pc0).toNat) hF964 (by decide)
                        obtain ⟨A978, eA978⟩ : ∃ q, q = uA A952 29 (pc0).toNat (sy2_820) := ⟨_, rfl⟩
                        rw [← eA978]
                        rw [← eA978] at hW979 hF980
                        have q981 : A978 29 (pc0).toNat = sy2_820 := by rw [eA978]; exact uA_eq
                        have hP982 : Pf nd A A978 := eA978 ▸ Pf_n hP965 rfl
                        have hS983 : Fx sr (sy) A A978 := eA978 ▸ Fx_n hS966 rfl
                        have hV984 : Fx [14] (vi) A A978 := eA978 ▸ Fx_n hV967 rfl
                        have hK985 : Fx [29, 30, 31] (pc0) A A978 := eA978 ▸ Fx_a hK968 (z := pc0) (by omega) (by omega)
                        have ec986 : ecn A978 (G951 31) = ec := (ecn_e ((congrFun eA978 15).trans (uA_ne (by decide)))).trans ec969
                        refine jx_ar (pc_q := 123) (st_q := [.int (i32 (0))]) rfl rfl rfl rfl ?_
                        refine jx_ld (pc_q := 124) (l_q := jSto1 L851 2 (.int (i32 (0)))) (st_q := []) rfl rfl ?_
                        obtain ⟨L987, eL987⟩ : ∃ q, q = jSto1 L851 2 (.int (i32 (0))) := ⟨_, rfl⟩
                        rw [← eL987]
                        have gL987_0 : jGet L987 0 = some (.ref 66) := eL987 ▸ jg_ne (by decide) gL851_0 rfl
                        have gL987_1 : jGet L987 1 = some (.int (i32 (sy))) := eL987 ▸ jg_ne (by decide) gL851_1 rfl
                        have gL987_2 : jGet L987 2 = some (.int (i32 (0))) := eL987 ▸ jg_eq
                        refine jx_ld (pc_q := 125) (l_q := L987) (st_q := [.ref 66]) rfl (jl_aloadn gL987_0) ?_
                        refine jx_vr (pc_q := 128) (as := []) (st := []) rfl rfl rfl rfl ⟨rfl, rfl, Nat.le_of_ble_eq_true rfl⟩ rfl rfl (c_bad (dd := d) (hd := by omega) (hW := hW979)  (fk := fk2_955) (e_fk := show G951 16 = fk2_955 from (e960))    ) (fun o V_q hq => ?_)
                        obtain ⟨r988, rfl, rfl, b989, q990⟩ := hq
                        refine .inr ⟨_, rfl, ?_⟩
                        rcases q990 with ⟨rfl, a991⟩ | ⟨rfl, a992⟩
                        · have _q : True := trivial
                          refine jx_if_ne (pc_q := 131) (tg := 144) rfl rfl rfl (by decide) (by decide) (fun h993 => ?_) (fun h993 => ?_)
                          · have _q := h993
                            refine jx_ar (pc_q := 145) (st_q := [.int (i32 (0))]) rfl rfl rfl rfl ?_
                            refine jx_ld (pc_q := 146) (l_q := jSto1 L987 3 (.int (i32 (0)))) (st_q := []) rfl rfl ?_
                            obtain ⟨L994, eL994⟩ : ∃ q, q = jSto1 L987 3 (.int (i32 (0))) := ⟨_, rfl⟩
                            rw [← eL994]
                            have gL994_0 : jGet L994 0 = some (.ref 66) := eL994 ▸ jg_ne (by decide) gL987_0 rfl
                            have gL994_1 : jGet L994 1 = some (.int (i32 (sy))) := eL994 ▸ jg_ne (by decide) gL987_1 rfl
                            have gL994_2 : jGet L994 2 = some (.int (i32 (0))) := eL994 ▸ jg_ne (by decide) gL987_2 rfl
                            have gL994_3 : jGet L994 3 = some (.int (i32 (0))) := eL994 ▸ jg_eq
                            refine jx_ld (pc_q := 147) (l_q := L994) (st_q := [.ref 66]) rfl (jl_aloadn gL994_0) ?_
                            refine jx_vr (pc_q := 150) (as := []) (st := []) rfl rfl rfl rfl ⟨rfl, rfl, Nat.le_of_ble_eq_true rfl⟩ rfl rfl (c_bad (dd := d) (hd := by omega) (hW := hW979)  (fk := fk2_955) (e_fk := show G951 16 = fk2_955 from (e960))    ) (fun o V_q hq => ?_)
                            obtain ⟨r995, rfl, rfl, b996, q997⟩ := hq
                            refine .inr ⟨_, rfl, ?_⟩
                            rcases q997 with ⟨rfl, a998⟩ | ⟨rfl, a999⟩
                            · have _q : True := trivial
                              refine jx_if_ne (pc_q := 153) (tg := 212) rfl rfl rfl (by decide) (by decide) (fun h1000 => ?_) (fun h1000 => ?_)
                              · have _q := h1000
                                exact c_readProc_w_at_212p (X := X) (d := d) (Vs := Vs) (sb := sb) (pb := pb) (hvb := hvb) (c0 := c0) (c1 := c1) (G := G) (A := A) (T := T) (ln := ln) (li := li) (at0 := at0) (fk := fk) (nd := nd) (sy := sy) (na := na) (vi := vi) (le := le) (op0 := op0) (tk0 := tk0) (pc0 := pc0) (ec := ec) (hd := hd) (hW := hW) (e_ln := e_ln) (e_li := e_li) (e_at0 := e_at0) (e_fk := e_fk) (e_nd := e_nd) (e_sy := e_sy) (e_na := e_na) (e_vi := e_vi) (e_le := e_le) (e_op0 := e_op0) (e_tk0 := e_tk0) (e_pc0 := e_pc0) (e_ec := e_ec) (i_LT := i_LT) (i_SV := i_SV) (i_PQ := i_PQ) (p_0 := p_0) (p_1 := p_1) (p_2 := p_2) (p_3 := p_3) (p_4 := p_4) (p_5 := p_5) (p_6 := p_6) (p_7 := p_7) (p_8 := p_8) (p_9 := p_9) L994 G951 A978 (sy) (0) (at2_953) (fk2_955) (sy2_820) (na2_821) gL994_0 gL994_1 gL994_2 hW979 hF980 hP982 hS983 hV984 hK985 ((e958)) ((e960)) (((hF957.1 19 rfl).trans ((hF873.1 19 rfl).trans (e828)))) (((hF957.1 28 rfl).trans ((hF873.1 28 rfl).trans (e829)))) (((hF957.1 9 rfl).trans ((hF873.1 9 rfl).trans ((hF825.1 9 rfl).trans ((hF787.1 9 rfl).trans (e_ln)))))) (((hF957.1 29 rfl).trans ((hF873.1 29 rfl).trans ((hF825.1 29 rfl).trans ((hF787.1 29 rfl).trans (e_vi)))))) (((hF957.1 46 rfl).trans ((hF873.1 46 rfl).trans ((hF825.1 46 rfl).trans ((hF787.1 46 rfl).trans (e_pc0)))))) (((hF957.1 31 rfl).trans ((hF873.1 31 rfl).trans ((hF825.1 31 rfl).trans ((hF787.1 31 rfl).trans (e_nd)))))) (ec986) (by omega) (by omega) (by omega) (by omega) (by omega) (by omega) (by omega) (by omega) (by omega)
                              · have _q := h1000
                                exact absurd h1000 (by omega)
                            · have _q : True := trivial
                              exfalso
                              omega
                          · have _q := h993
                            exact absurd h993 (by omega)
                        · have _q : True := trivial
                          exfalso
                          omega
                      · have _q : True := trivial
                        exfalso
                        omega
                  · have _q : True := trivial
                    have pz1001 : at2_784 + tz tk2_870 ≤ at2_869 := by omega
                    refine jx_ld (pc_q := 100) (l_q := L851) (st_q := [.ref 66]) rfl (jl_aloadn gL851_0) ?_
                    refine jx_ld (pc_q := 101) (l_q := L851) (st_q := [.ref 66, .ref 66]) rfl (jl_aloadn gL851_0) ?_
                    refine jx_ar (pc_q := 103) (st_q := [.int (i32 (40)), .ref 66, .ref 66]) rfl rfl rfl rfl ?_
                    have b1002 : (-2147483648 : Int) ≤ G867 13 ∧ G867 13 ≤ 2147483647 := hW872.1 13
                    refine jx_vr (pc_q := 106) (as := [.int (i32 (40))]) (st := [.ref 66]) rfl rfl rfl rfl ⟨rfl, rfl, Nat.le_of_ble_eq_true rfl⟩ rfl rfl (c_is (dd := d) (hd := by omega) (hW := hW872) (k := 40) (tk := tk2_870) (e_tk := show G867 11 = tk2_870 from (e875)) (tn := G867 13) (e_tn := show G867 13 = G867 13 from rfl)  (h_k := ⟨(by decide), (by decide)⟩)  ) (fun o V_q hq => ?_)
                    obtain ⟨r1003, rfl, rfl, b1004, q1005⟩ := hq
                    refine .inr ⟨_, rfl, ?_⟩
                    rcases q1005 with ⟨rfl, a1006, a1007, a1008⟩ | rfl
                    · have _q : True := trivial
                      refine jx_vr (pc_q := 109) (as := [.int (i32 (1))]) (st := []) rfl rfl rfl rfl ⟨rfl, rfl, Nat.le_of_ble_eq_true rfl⟩ rfl rfl (c_need (dd := d) (hd := by omega) (hW := hW872) (g := 1) (ln := ln) (e_ln := show G867 9 = ln from ((hF873.1 9 rfl).trans ((hF825.1 9 rfl).trans ((hF787.1 9 rfl).trans (e_ln))))) (le := le) (e_le := show A868 4 (ln).toNat = le from (congrFun ((hF873.2 4 rfl).trans (((congrFun eA858 4).trans (uA_ne (by decide))).trans ((hF825.2 4 rfl).trans (hF787.2 4 rfl)))) _).trans (e_le)) (at0 := at2_869) (e_at0 := show G867 10 = at2_869 from (e874)) (fk := fk2_871) (e_fk := show G867 16 = fk2_871 from (e876)) (tk0 := tk2_870) (e_tk0 := show G867 11 = tk2_870 from (e875))  (h_g := ⟨(by decide), (by decide)⟩)  (p_0 := by omega)) (fun o V_q hq => ?_)
                      obtain ⟨G1009, A1010, at2_1011, tk2_1012, fk2_1013, rfl, rfl, hW1014, hF1015, e1016, e1017, e1018, p1019, p1020, q1021⟩ := hq
                      have hF1022 := Fr_tr hF880 hF1015 (Fr_sub (by decide)) (Fr_sub (by decide))
                      have hP1023 := Pf_f hP881 hF1015 (by decide)
                      have hS1024 := Fx_f hS882 hF1015 (by decide)
                      have hV1025 := Fx_f hV883 hF1015 (by decide)
                      have hK1026 := Fx_f hK884 hF1015 (by decide)
                      have ec1027 : ecn A1010 (G1009 31) = ec := (ecn_f (hF1015.2 15 rfl) (hF1015.1 31 rfl)).trans ec885
                      have bat2_1011 : (0 : Int) ≤ at2_1011 ∧ at2_1011 ≤ 3002 := e1016 ▸ hW1014.1 10
                      have ztk2_1012 := tz_b tk2_1012
                      have btk2_1012 : (0 : Int) ≤ tk2_1012 ∧ tk2_1012 ≤ 5 := e1017 ▸ hW1014.1 11
                      have bfk2_1013 : (0 : Int) ≤ fk2_1013 ∧ fk2_1013 ≤ 6 := e1018 ▸ hW1014.1 16
                      refine .inl ⟨rfl, ?_⟩
                      rcases q1021 with ⟨a1028, a1029, a1030, a1031⟩ | ⟨a1032, a1033, a1034, a1035⟩
                      · have _q : True := trivial
                        refine jx_ld (pc_q := 110) (l_q := L851) (st_q := [.ref 66]) rfl (jl_aloadn gL851_0) ?_
                        refine jr_get (pc_q := 113) (i := 47) (v := .ref 96) rfl rfl (by decide) rfl rfl ?_
                        refine jx_ld (pc_q := 114) (l_q := L851) (st_q := [.ref 66, .ref 96]) rfl (jl_aloadn gL851_0) ?_
                        refine jr_get (pc_q := 117) (i := 46) (v := .int (i32 (pc0))) rfl rfl (by decide) (rFv_eq (by decide) (show G1009 46 = pc0 from ((hF1015.1 46 rfl).trans ((hF873.1 46 rfl).trans ((hF825.1 46 rfl).trans ((hF787.1 46 rfl).trans (e_pc0))))))) rfl ?_
                        refine jx_ld (pc_q := 118) (l_q := L851) (st_q := [.ref 66, .int (i32 (pc0)), .ref 96]) rfl (jl_aloadn gL851_0) ?_
                        refine jr_get (pc_q := 121) (i := 19) (v := .int (i32 (sy2_820))) rfl rfl (by decide) (rFv_eq (by decide) (show G1009 19 = sy2_820 from ((hF1015.1 19 rfl).trans ((hF873.1 19 rfl).trans (e828))))) rfl ?_
                        refine jr_st (pc_q := 122) (i := 29) (m := 25) (z := pc0) (y := sy2_820) rfl (by decide) rfl (by decide) (by omega) (by omega) rfl ?_
                        have hW1037 : Wk G1009 (uA A1010 29 (pc0).toNat (sy2_820)) := Wk_a hW1014 (show (0 : Int) ≤ sy2_820 by omega) (show sy2_820 ≤ (202 : Int) by omega)
                        have hF1038 := Fr_a (z := sy2_820) (k := 29) (n := (pc0).toNat) hF1022 (by decide)
                        obtain ⟨A1036, eA1036⟩ : ∃ q, q = uA A1010 29 (pc0).toNat (sy2_820) := ⟨_, rfl⟩
                        rw [← eA1036]
                        rw [← eA1036] at hW1037 hF1038
                        have q1039 : A1036 29 (pc0).toNat = sy2_820 := by rw [eA1036]; exact uA_eq
                        have hP1040 : Pf nd A A1036 := eA1036 ▸ Pf_n hP1023 rfl
                        have hS1041 : Fx sr (sy) A A1036 := eA1036 ▸ Fx_n hS1024 rfl
                        have hV1042 : Fx [14] (vi) A A1036 := eA1036 ▸ Fx_n hV1025 rfl
                        have hK1043 : Fx [29, 30, 31] (pc0) A A1036 := eA1036 ▸ Fx_a hK1026 (z := pc0) (by omega) (by omega)
                        have ec1044 : ecn A1036 (G1009 31) = ec := (ecn_e ((congrFun eA1036 15).trans (uA_ne (by decide)))).trans ec1027
                        refine jx_ar (pc_q := 123) (st_q := [.int (i32 (0))]) rfl rfl rfl rfl ?_
                        refine jx_ld (pc_q := 124) (l_q := jSto1 L851 2 (.int (i32 (0)))) (st_q := []) rfl rfl ?_
                        obtain ⟨L1045, eL1045⟩ : ∃ q, q = jSto1 L851 2 (.int (i32 (0))) := ⟨_, rfl⟩
                        rw [← eL1045]
                        have gL1045_0 : jGet L1045 0 = some (.ref 66) := eL1045 ▸ jg_ne (by decide) gL851_0 rfl
                        have gL1045_1 : jGet L1045 1 = some (.int (i32 (sy))) := eL1045 ▸ jg_ne (by decide) gL851_1 rfl
                        have gL1045_2 : jGet L1045 2 = some (.int (i32 (0))) := eL1045 ▸ jg_eq
                        refine jx_ld (pc_q := 125) (l_q := L1045) (st_q := [.ref 66]) rfl (jl_aloadn gL1045_0) ?_
                        refine jx_vr (pc_q := 128) (as := []) (st := []) rfl rfl rfl rfl ⟨rfl, rfl, Nat.le_of_ble_eq_true rfl⟩ rfl rfl (c_bad (dd := d) (hd := by omega) (hW := hW1037)  (fk := fk2_1013) (e_fk := show G1009 16 = fk2_1013 from (e1018))    ) (fun o V_q hq => ?_)
                        obtain ⟨r1046, rfl, rfl, b1047, q1048⟩ := hq
                        refine .inr ⟨_, rfl, ?_⟩
                        rcases q1048 with ⟨rfl, a1049⟩ | ⟨rfl, a1050⟩
                        · have _q : True := trivial
                          refine jx_if_ne (pc_q := 131) (tg := 144) rfl rfl rfl (by decide) (by decide) (fun h1051 => ?_) (fun h1051 => ?_)
                          · have _q := h1051
                            refine jx_ar (pc_q := 145) (st_q := [.int (i32 (0))]) rfl rfl rfl rfl ?_
                            refine jx_ld (pc_q := 146) (l_q := jSto1 L1045 3 (.int (i32 (0)))) (st_q := []) rfl rfl ?_
                            obtain ⟨L1052, eL1052⟩ : ∃ q, q = jSto1 L1045 3 (.int (i32 (0))) := ⟨_, rfl⟩
                            rw [← eL1052]
                            have gL1052_0 : jGet L1052 0 = some (.ref 66) := eL1052 ▸ jg_ne (by decide) gL1045_0 rfl
                            have gL1052_1 : jGet L1052 1 = some (.int (i32 (sy))) := eL1052 ▸ jg_ne (by decide) gL1045_1 rfl
                            have gL1052_2 : jGet L1052 2 = some (.int (i32 (0))) := eL1052 ▸ jg_ne (by decide) gL1045_2 rfl
                            have gL1052_3 : jGet L1052 3 = some (.int (i32 (0))) := eL1052 ▸ jg_eq
                            refine jx_ld (pc_q := 147) (l_q := L1052) (st_q := [.ref 66]) rfl (jl_aloadn gL1052_0) ?_
                            refine jx_vr (pc_q := 150) (as := []) (st := []) rfl rfl rfl rfl ⟨rfl, rfl, Nat.le_of_ble_eq_true rfl⟩ rfl rfl (c_bad (dd := d) (hd := by omega) (hW := hW1037)  (fk := fk2_1013) (e_fk := show G1009 16 = fk2_1013 from (e1018))    ) (fun o V_q hq => ?_)
                            obtain ⟨r1053, rfl, rfl, b1054, q1055⟩ := hq
                            refine .inr ⟨_, rfl, ?_⟩
                            rcases q1055 with ⟨rfl, a1056⟩ | ⟨rfl, a1057⟩
                            · have _q : True := trivial
                              refine jx_if_ne (pc_q := 153) (tg := 212) rfl rfl rfl (by decide) (by decide) (fun h1058 => ?_) (fun h1058 => ?_)
                              · have _q := h1058
                                exact c_readProc_w_at_212p (X := X) (d := d) (Vs := Vs) (sb := sb) (pb := pb) (hvb := hvb) (c0 := c0) (c1 := c1) (G := G) (A := A) (T := T) (ln := ln) (li := li) (at0 := at0) (fk := fk) (nd := nd) (sy := sy) (na := na) (vi := vi) (le := le) (op0 := op0) (tk0 := tk0) (pc0 := pc0) (ec := ec) (hd := hd) (hW := hW) (e_ln := e_ln) (e_li := e_li) (e_at0 := e_at0) (e_fk := e_fk) (e_nd := e_nd) (e_sy := e_sy) (e_na := e_na) (e_vi := e_vi) (e_le := e_le) (e_op0 := e_op0) (e_tk0 := e_tk0) (e_pc0 := e_pc0) (e_ec := e_ec) (i_LT := i_LT) (i_SV := i_SV) (i_PQ := i_PQ) (p_0 := p_0) (p_1 := p_1) (p_2 := p_2) (p_3 := p_3) (p_4 := p_4) (p_5 := p_5) (p_6 := p_6) (p_7 := p_7) (p_8 := p_8) (p_9 := p_9) L1052 G1009 A1036 (sy) (0) (at2_1011) (fk2_1013) (sy2_820) (na2_821) gL1052_0 gL1052_1 gL1052_2 hW1037 hF1038 hP1040 hS1041 hV1042 hK1043 ((e1016)) ((e1018)) (((hF1015.1 19 rfl).trans ((hF873.1 19 rfl).trans (e828)))) (((hF1015.1 28 rfl).trans ((hF873.1 28 rfl).trans (e829)))) (((hF1015.1 9 rfl).trans ((hF873.1 9 rfl).trans ((hF825.1 9 rfl).trans ((hF787.1 9 rfl).trans (e_ln)))))) (((hF1015.1 29 rfl).trans ((hF873.1 29 rfl).trans ((hF825.1 29 rfl).trans ((hF787.1 29 rfl).trans (e_vi)))))) (((hF1015.1 46 rfl).trans ((hF873.1 46 rfl).trans ((hF825.1 46 rfl).trans ((hF787.1 46 rfl).trans (e_pc0)))))) (((hF1015.1 31 rfl).trans ((hF873.1 31 rfl).trans ((hF825.1 31 rfl).trans ((hF787.1 31 rfl).trans (e_nd)))))) (ec1044) (by omega) (by omega) (by omega) (by omega) (by omega) (by omega) (by omega) (by omega) (by omega)
                              · have _q := h1058
                                exact absurd h1058 (by omega)
                            · have _q : True := trivial
                              exfalso
                              omega
                          · have _q := h1051
                            exact absurd h1051 (by omega)
                        · have _q : True := trivial
                          exfalso
                          omega
                      · have _q : True := trivial
                        have pz1059 : at2_869 + tz tk2_1012 ≤ at2_1011 := by omega
                        refine jx_ld (pc_q := 110) (l_q := L851) (st_q := [.ref 66]) rfl (jl_aloadn gL851_0) ?_
                        refine jr_get (pc_q := 113) (i := 47) (v := .ref 96) rfl rfl (by decide) rfl rfl ?_
                        refine jx_ld (pc_q := 114) (l_q := L851) (st_q := [.ref 66, .ref 96]) rfl (jl_aloadn gL851_0) ?_
                        refine jr_get (pc_q := 117) (i := 46) (v := .int (i32 (pc0))) rfl rfl (by decide) (rFv_eq (by decide) (show G1009 46 = pc0 from ((hF1015.1 46 rfl).trans ((hF873.1 46 rfl).trans ((hF825.1 46 rfl).trans ((hF787.1 46 rfl).trans (e_pc0))))))) rfl ?_
                        refine jx_ld (pc_q := 118) (l_q := L851) (st_q := [.ref 66, .int (i32 (pc0)), .ref 96]) rfl (jl_aloadn gL851_0) ?_
                        refine jr_get (pc_q := 121) (i := 19) (v := .int (i32 (sy2_820))) rfl rfl (by decide) (rFv_eq (by decide) (show G1009 19 = sy2_820 from ((hF1015.1 19 rfl).trans ((hF873.1 19 rfl).trans (e828))))) rfl ?_
                        refine jr_st (pc_q := 122) (i := 29) (m := 25) (z := pc0) (y := sy2_820) rfl (by decide) rfl (by decide) (by omega) (by omega) rfl ?_
                        have hW1061 : Wk G1009 (uA A1010 29 (pc0).toNat (sy2_820)) := Wk_a hW1014 (show (0 : Int) ≤ sy2_820 by omega) (show sy2_820 ≤ (202 : Int) by omega)
                        have hF1062 := Fr_a (z := sy2_820) (k := 29) (n := (pc0).toNat) hF1022 (by decide)
                        obtain ⟨A1060, eA1060⟩ : ∃ q, q = uA A1010 29 (pc0).toNat (sy2_820) := ⟨_, rfl⟩
                        rw [← eA1060]
                        rw [← eA1060] at hW1061 hF1062
                        have q1063 : A1060 29 (pc0).toNat = sy2_820 := by rw [eA1060]; exact uA_eq
                        have hP1064 : Pf nd A A1060 := eA1060 ▸ Pf_n hP1023 rfl
                        have hS1065 : Fx sr (sy) A A1060 := eA1060 ▸ Fx_n hS1024 rfl
                        have hV1066 : Fx [14] (vi) A A1060 := eA1060 ▸ Fx_n hV1025 rfl
                        have hK1067 : Fx [29, 30, 31] (pc0) A A1060 := eA1060 ▸ Fx_a hK1026 (z := pc0) (by omega) (by omega)
                        have ec1068 : ecn A1060 (G1009 31) = ec := (ecn_e ((congrFun eA1060 15).trans (uA_ne (by decide)))).trans ec1027
                        refine jx_ar (pc_q := 123) (st_q := [.int (i32 (0))]) rfl rfl rfl rfl ?_
                        refine jx_ld (pc_q := 124) (l_q := jSto1 L851 2 (.int (i32 (0)))) (st_q := []) rfl rfl ?_
                        obtain ⟨L1069, eL1069⟩ : ∃ q, q = jSto1 L851 2 (.int (i32 (0))) := ⟨_, rfl⟩
                        rw [← eL1069]
                        have gL1069_0 : jGet L1069 0 = some (.ref 66) := eL1069 ▸ jg_ne (by decide) gL851_0 rfl
                        have gL1069_1 : jGet L1069 1 = some (.int (i32 (sy))) := eL1069 ▸ jg_ne (by decide) gL851_1 rfl
                        have gL1069_2 : jGet L1069 2 = some (.int (i32 (0))) := eL1069 ▸ jg_eq
                        refine jx_ld (pc_q := 125) (l_q := L1069) (st_q := [.ref 66]) rfl (jl_aloadn gL1069_0) ?_
                        refine jx_vr (pc_q := 128) (as := []) (st := []) rfl rfl rfl rfl ⟨rfl, rfl, Nat.le_of_ble_eq_true rfl⟩ rfl rfl (c_bad (dd := d) (hd := by omega) (hW := hW1061)  (fk := fk2_1013) (e_fk := show G1009 16 = fk2_1013 from (e1018))    ) (fun o V_q hq => ?_)
                        obtain ⟨r1070, rfl, rfl, b1071, q1072⟩ := hq
                        refine .inr ⟨_, rfl, ?_⟩
                        rcases q1072 with ⟨rfl, a1073⟩ | ⟨rfl, a1074⟩
                        · have _q : True := trivial
                          exfalso
                          omega
                        · have _q : True := trivial
                          refine jx_if_ne (pc_q := 131) (tg := 144) rfl rfl rfl (by decide) (by decide) (fun h1075 => ?_) (fun h1075 => ?_)
                          · have _q := h1075
                            exact absurd h1075 (by omega)
                          · have _q := h1075
                            refine jx_ld (pc_q := 132) (l_q := L1069) (st_q := [.ref 66]) rfl (jl_aloadn gL1069_0) ?_
                            refine jx_ar (pc_q := 134) (st_q := [.int (i32 (41)), .ref 66]) rfl rfl rfl rfl ?_
                            have b1076 : (-2147483648 : Int) ≤ G1009 13 ∧ G1009 13 ≤ 2147483647 := hW1014.1 13
                            refine jx_vr (pc_q := 137) (as := [.int (i32 (41))]) (st := []) rfl rfl rfl rfl ⟨rfl, rfl, Nat.le_of_ble_eq_true rfl⟩ rfl rfl (c_is (dd := d) (hd := by omega) (hW := hW1061) (k := 41) (tk := tk2_1012) (e_tk := show G1009 11 = tk2_1012 from (e1017)) (tn := G1009 13) (e_tn := show G1009 13 = G1009 13 from rfl)  (h_k := ⟨(by decide), (by decide)⟩)  ) (fun o V_q hq => ?_)
                            obtain ⟨r1077, rfl, rfl, b1078, q1079⟩ := hq
                            refine .inr ⟨_, rfl, ?_⟩
                            rcases q1079 with ⟨rfl, a1080, a1081, a1082⟩ | rfl
                            · have _q : True := trivial
                              refine jx_if_ne (pc_q := 140) (tg := 144) rfl rfl rfl (by decide) (by decide) (fun h1083 => ?_) (fun h1083 => ?_)
                              · have _q := h1083
                                refine jx_ar (pc_q := 145) (st_q := [.int (i32 (0))]) rfl rfl rfl rfl ?_
                                refine jx_ld (pc_q := 146) (l_q := jSto1 L1069 3 (.int (i32 (0)))) (st_q := []) rfl rfl ?_
                                obtain ⟨L1084, eL1084⟩ : ∃ q, q = jSto1 L1069 3 (.int (i32 (0))) := ⟨_, rfl⟩
                                rw [← eL1084]
                                have gL1084_0 : jGet L1084 0 = some (.ref 66) := eL1084 ▸ jg_ne (by decide) gL1069_0 rfl
                                have gL1084_1 : jGet L1084 1 = some (.int (i32 (sy))) := eL1084 ▸ jg_ne (by decide) gL1069_1 rfl
                                have gL1084_2 : jGet L1084 2 = some (.int (i32 (0))) := eL1084 ▸ jg_ne (by decide) gL1069_2 rfl
                                have gL1084_3 : jGet L1084 3 = some (.int (i32 (0))) := eL1084 ▸ jg_eq
                                exact c_readProc_w_at_146 (X := X) (d := d) (Vs := Vs) (sb := sb) (pb := pb) (hvb := hvb) (c0 := c0) (c1 := c1) (G := G) (A := A) (T := T) (ln := ln) (li := li) (at0 := at0) (fk := fk) (nd := nd) (sy := sy) (na := na) (vi := vi) (le := le) (op0 := op0) (tk0 := tk0) (pc0 := pc0) (ec := ec) (hd := hd) (hW := hW) (e_ln := e_ln) (e_li := e_li) (e_at0 := e_at0) (e_fk := e_fk) (e_nd := e_nd) (e_sy := e_sy) (e_na := e_na) (e_vi := e_vi) (e_le := e_le) (e_op0 := e_op0) (e_tk0 := e_tk0) (e_pc0 := e_pc0) (e_ec := e_ec) (i_LT := i_LT) (i_SV := i_SV) (i_PQ := i_PQ) (p_0 := p_0) (p_1 := p_1) (p_2 := p_2) (p_3 := p_3) (p_4 := p_4) (p_5 := p_5) (p_6 := p_6) (p_7 := p_7) (p_8 := p_8) (p_9 := p_9) _ L1084 G1009 A1060 (sy) (0) (0) (at2_1011) (tk2_1012) (fk2_1013) (sy2_820) (na2_821) (sy2_820) (yk2_823) (pc0) rfl gL1084_0 gL1084_1 gL1084_2 gL1084_3 hW1061 hF1062 hP1064 hS1065 hV1066 hK1067 ((e1016)) ((e1017)) ((e1018)) (((hF1015.1 19 rfl).trans ((hF873.1 19 rfl).trans (e828)))) (((hF1015.1 28 rfl).trans ((hF873.1 28 rfl).trans (e829)))) ((q1063)) ((congrFun (((congrFun eA1060 7).trans (uA_ne (by decide))).trans ((hF1015.2 7 rfl).trans ((hF873.2 7 rfl).trans ((congrFun eA858 7).trans (uA_ne (by decide)))))) _).trans (e831)) ((congrFun (((congrFun eA1060 12).trans (uA_ne (by decide))).trans ((hF1015.2 12 rfl).trans (hF873.2 12 rfl))) _).trans (q861)) (((hF1015.1 9 rfl).trans ((hF873.1 9 rfl).trans ((hF825.1 9 rfl).trans ((hF787.1 9 rfl).trans (e_ln)))))) (((hF1015.1 29 rfl).trans ((hF873.1 29 rfl).trans ((hF825.1 29 rfl).trans ((hF787.1 29 rfl).trans (e_vi)))))) (((hF1015.1 46 rfl).trans ((hF873.1 46 rfl).trans ((hF825.1 46 rfl).trans ((hF787.1 46 rfl).trans (e_pc0)))))) (((hF1015.1 31 rfl).trans ((hF873.1 31 rfl).trans ((hF825.1 31 rfl).trans ((hF787.1 31 rfl).trans (e_nd)))))) (ec1068) (by omega) (by omega) (by omega) (by omega) (by omega) (by omega) (by omega) (by omega) (by omega) (by omega) (by omega) (wM_nil) (by omega) (by omega) (by omega) (by omega) (by omega)
                              · have _q := h1083
                                exact absurd h1083 (by omega)
                            · have _q : True := trivial
                              refine jx_if_ne (pc_q := 140) (tg := 144) rfl rfl rfl (by decide) (by decide) (fun h1085 => ?_) (fun h1085 => ?_)
                              · have _q := h1085
                                exact absurd h1085 (by omega)
                              · have _q := h1085
                                refine jx_ar (pc_q := 141) (st_q := [.int (i32 (1))]) rfl rfl rfl rfl ?_
                                refine jx_go (tg := 145) rfl rfl ?_
                                refine jx_ld (pc_q := 146) (l_q := jSto1 L1069 3 (.int (i32 (1)))) (st_q := []) rfl rfl ?_
                                obtain ⟨L1086, eL1086⟩ : ∃ q, q = jSto1 L1069 3 (.int (i32 (1))) := ⟨_, rfl⟩
                                rw [← eL1086]
                                have gL1086_0 : jGet L1086 0 = some (.ref 66) := eL1086 ▸ jg_ne (by decide) gL1069_0 rfl
                                have gL1086_1 : jGet L1086 1 = some (.int (i32 (sy))) := eL1086 ▸ jg_ne (by decide) gL1069_1 rfl
                                have gL1086_2 : jGet L1086 2 = some (.int (i32 (0))) := eL1086 ▸ jg_ne (by decide) gL1069_2 rfl
                                have gL1086_3 : jGet L1086 3 = some (.int (i32 (1))) := eL1086 ▸ jg_eq
                                exact c_readProc_w_at_146 (X := X) (d := d) (Vs := Vs) (sb := sb) (pb := pb) (hvb := hvb) (c0 := c0) (c1 := c1) (G := G) (A := A) (T := T) (ln := ln) (li := li) (at0 := at0) (fk := fk) (nd := nd) (sy := sy) (na := na) (vi := vi) (le := le) (op0 := op0) (tk0 := tk0) (pc0 := pc0) (ec := ec) (hd := hd) (hW := hW) (e_ln := e_ln) (e_li := e_li) (e_at0 := e_at0) (e_fk := e_fk) (e_nd := e_nd) (e_sy := e_sy) (e_na := e_na) (e_vi := e_vi) (e_le := e_le) (e_op0 := e_op0) (e_tk0 := e_tk0) (e_pc0 := e_pc0) (e_ec := e_ec) (i_LT := i_LT) (i_SV := i_SV) (i_PQ := i_PQ) (p_0 := p_0) (p_1 := p_1) (p_2 := p_2) (p_3 := p_3) (p_4 := p_4) (p_5 := p_5) (p_6 := p_6) (p_7 := p_7) (p_8 := p_8) (p_9 := p_9) _ L1086 G1009 A1060 (sy) (0) (1) (at2_1011) (tk2_1012) (fk2_1013) (sy2_820) (na2_821) (sy2_820) (yk2_823) (pc0) rfl gL1086_0 gL1086_1 gL1086_2 gL1086_3 hW1061 hF1062 hP1064 hS1065 hV1066 hK1067 ((e1016)) ((e1017)) ((e1018)) (((hF1015.1 19 rfl).trans ((hF873.1 19 rfl).trans (e828)))) (((hF1015.1 28 rfl).trans ((hF873.1 28 rfl).trans (e829)))) ((q1063)) ((congrFun (((congrFun eA1060 7).trans (uA_ne (by decide))).trans ((hF1015.2 7 rfl).trans ((hF873.2 7 rfl).trans ((congrFun eA858 7).trans (uA_ne (by decide)))))) _).trans (e831)) ((congrFun (((congrFun eA1060 12).trans (uA_ne (by decide))).trans ((hF1015.2 12 rfl).trans (hF873.2 12 rfl))) _).trans (q861)) (((hF1015.1 9 rfl).trans ((hF873.1 9 rfl).trans ((hF825.1 9 rfl).trans ((hF787.1 9 rfl).trans (e_ln)))))) (((hF1015.1 29 rfl).trans ((hF873.1 29 rfl).trans ((hF825.1 29 rfl).trans ((hF787.1 29 rfl).trans (e_vi)))))) (((hF1015.1 46 rfl).trans ((hF873.1 46 rfl).trans ((hF825.1 46 rfl).trans ((hF787.1 46 rfl).trans (e_pc0)))))) (((hF1015.1 31 rfl).trans ((hF873.1 31 rfl).trans ((hF825.1 31 rfl).trans ((hF787.1 31 rfl).trans (e_nd)))))) (ec1068) (by omega) (by omega) (by omega) (by omega) (by omega) (by omega) (by omega) (by omega) (by omega) (by omega) (by omega) (wM_nil) (by omega) (by omega) (by omega) (by omega) (by omega)
                    · have _q : True := trivial
                      refine jx_vr (pc_q := 109) (as := [.int (i32 (0))]) (st := []) rfl rfl rfl rfl ⟨rfl, rfl, Nat.le_of_ble_eq_true rfl⟩ rfl rfl (c_need (dd := d) (hd := by omega) (hW := hW872) (g := 0) (ln := ln) (e_ln := show G867 9 = ln from ((hF873.1 9 rfl).trans ((hF825.1 9 rfl).trans ((hF787.1 9 rfl).trans (e_ln))))) (le := le) (e_le := show A868 4 (ln).toNat = le from (congrFun ((hF873.2 4 rfl).trans (((congrFun eA858 4).trans (uA_ne (by decide))).trans ((hF825.2 4 rfl).trans (hF787.2 4 rfl)))) _).trans (e_le)) (at0 := at2_869) (e_at0 := show G867 10 = at2_869 from (e874)) (fk := fk2_871) (e_fk := show G867 16 = fk2_871 from (e876)) (tk0 := tk2_870) (e_tk0 := show G867 11 = tk2_870 from (e875))  (h_g := ⟨(by decide), (by decide)⟩)  (p_0 := by omega)) (fun o V_q hq => ?_)
                      obtain ⟨G1087, A1088, at2_1089, tk2_1090, fk2_1091, rfl, rfl, hW1092, hF1093, e1094, e1095, e1096, p1097, p1098, q1099⟩ := hq
                      have hF1100 := Fr_tr hF880 hF1093 (Fr_sub (by decide)) (Fr_sub (by decide))
                      have hP1101 := Pf_f hP881 hF1093 (by decide)
                      have hS1102 := Fx_f hS882 hF1093 (by decide)
                      have hV1103 := Fx_f hV883 hF1093 (by decide)
                      have hK1104 := Fx_f hK884 hF1093 (by decide)
                      have ec1105 : ecn A1088 (G1087 31) = ec := (ecn_f (hF1093.2 15 rfl) (hF1093.1 31 rfl)).trans ec885
                      have bat2_1089 : (0 : Int) ≤ at2_1089 ∧ at2_1089 ≤ 3002 := e1094 ▸ hW1092.1 10
                      have ztk2_1090 := tz_b tk2_1090
                      have btk2_1090 : (0 : Int) ≤ tk2_1090 ∧ tk2_1090 ≤ 5 := e1095 ▸ hW1092.1 11
                      have bfk2_1091 : (0 : Int) ≤ fk2_1091 ∧ fk2_1091 ≤ 6 := e1096 ▸ hW1092.1 16
                      refine .inl ⟨rfl, ?_⟩
                      rcases q1099 with ⟨a1106, a1107, a1108, a1109⟩ | ⟨a1110, a1111, a1112, a1113⟩
                      · have _q : True := trivial
                        refine jx_ld (pc_q := 110) (l_q := L851) (st_q := [.ref 66]) rfl (jl_aloadn gL851_0) ?_
                        refine jr_get (pc_q := 113) (i := 47) (v := .ref 96) rfl rfl (by decide) rfl rfl ?_
                        refine jx_ld (pc_q := 114) (l_q := L851) (st_q := [.ref 66, .ref 96]) rfl (jl_aloadn gL851_0) ?_
                        refine jr_get (pc_q := 117) (i := 46) (v := .int (i32 (pc0))) rfl rfl (by decide) (rFv_eq (by decide) (show G1087 46 = pc0 from ((hF1093.1 46 rfl).trans ((hF873.1 46 rfl).trans ((hF825.1 46 rfl).trans ((hF787.1 46 rfl).trans (e_pc0))))))) rfl ?_
                        refine jx_ld (pc_q := 118) (l_q := L851) (st_q := [.ref 66, .int (i32 (pc0)), .ref 96]) rfl (jl_aloadn gL851_0) ?_
                        refine jr_get (pc_q := 121) (i := 19) (v := .int (i32 (sy2_820))) rfl rfl (by decide) (rFv_eq (by decide) (show G1087 19 = sy2_820 from ((hF1093.1 19 rfl).trans ((hF873.1 19 rfl).trans (e828))))) rfl ?_
                        refine jr_st (pc_q := 122) (i := 29) (m := 25) (z := pc0) (y := sy2_820) rfl (by decide) rfl (by decide) (by omega) (by omega) rfl ?_
                        have hW1115 : Wk G1087 (uA A1088 29 (pc0).toNat (sy2_820)) := Wk_a hW1092 (show (0 : Int) ≤ sy2_820 by omega) (show sy2_820 ≤ (202 : Int) by omega)
                        have hF1116 := Fr_a (z := sy2_820) (k := 29) (n := (pc0).toNat) hF1100 (by decide)
                        obtain ⟨A1114, eA1114⟩ : ∃ q, q = uA A1088 29 (pc0).toNat (sy2_820) := ⟨_, rfl⟩
                        rw [← eA1114]
                        rw [← eA1114] at hW1115 hF1116
                        have q1117 : A1114 29 (pc0).toNat = sy2_820 := by rw [eA1114]; exact uA_eq
                        have hP1118 : Pf nd A A1114 := eA1114 ▸ Pf_n hP1101 rfl
                        have hS1119 : Fx sr (sy) A A1114 := eA1114 ▸ Fx_n hS1102 rfl
                        have hV1120 : Fx [14] (vi) A A1114 := eA1114 ▸ Fx_n hV1103 rfl
                        have hK1121 : Fx [29, 30, 31] (pc0) A A1114 := eA1114 ▸ Fx_a hK1104 (z := pc0) (by omega) (by omega)
                        have ec1122 : ecn A1114 (G1087 31) = ec := (ecn_e ((congrFun eA1114 15).trans (uA_ne (by decide)))).trans ec1105
                        refine jx_ar (pc_q := 123) (st_q := [.int (i32 (0))]) rfl rfl rfl rfl ?_
                        refine jx_ld (pc_q := 124) (l_q := jSto1 L851 2 (.int (i32 (0)))) (st_q := []) rfl rfl ?_
                        obtain ⟨L1123, eL1123⟩ : ∃ q, q = jSto1 L851 2 (.int (i32 (0))) := ⟨_, rfl⟩
                        rw [← eL1123]
                        have gL1123_0 : jGet L1123 0 = some (.ref 66) := eL1123 ▸ jg_ne (by decide) gL851_0 rfl
                        have gL1123_1 : jGet L1123 1 = some (.int (i32 (sy))) := eL1123 ▸ jg_ne (by decide) gL851_1 rfl
                        have gL1123_2 : jGet L1123 2 = some (.int (i32 (0))) := eL1123 ▸ jg_eq
                        refine jx_ld (pc_q := 125) (l_q := L1123) (st_q := [.ref 66]) rfl (jl_aloadn gL1123_0) ?_
                        refine jx_vr (pc_q := 128) (as := []) (st := []) rfl rfl rfl rfl ⟨rfl, rfl, Nat.le_of_ble_eq_true rfl⟩ rfl rfl (c_bad (dd := d) (hd := by omega) (hW := hW1115)  (fk := fk2_1091) (e_fk := show G1087 16 = fk2_1091 from (e1096))    ) (fun o V_q hq => ?_)
                        obtain ⟨r1124, rfl, rfl, b1125, q1126⟩ := hq
                        refine .inr ⟨_, rfl, ?_⟩
                        rcases q1126 with ⟨rfl, a1127⟩ | ⟨rfl, a1128⟩
                        · have _q : True := trivial
                          refine jx_if_ne (pc_q := 131) (tg := 144) rfl rfl rfl (by decide) (by decide) (fun h1129 => ?_) (fun h1129 => ?_)
                          · have _q := h1129
                            refine jx_ar (pc_q := 145) (st_q := [.int (i32 (0))]) rfl rfl rfl rfl ?_
                            refine jx_ld (pc_q := 146) (l_q := jSto1 L1123 3 (.int (i32 (0)))) (st_q := []) rfl rfl ?_
                            obtain ⟨L1130, eL1130⟩ : ∃ q, q = jSto1 L1123 3 (.int (i32 (0))) := ⟨_, rfl⟩
                            rw [← eL1130]
                            have gL1130_0 : jGet L1130 0 = some (.ref 66) := eL1130 ▸ jg_ne (by decide) gL1123_0 rfl
                            have gL1130_1 : jGet L1130 1 = some (.int (i32 (sy))) := eL1130 ▸ jg_ne (by decide) gL1123_1 rfl
                            have gL1130_2 : jGet L1130 2 = some (.int (i32 (0))) := eL1130 ▸ jg_ne (by decide) gL1123_2 rfl
                            have gL1130_3 : jGet L1130 3 = some (.int (i32 (0))) := eL1130 ▸ jg_eq
                            refine jx_ld (pc_q := 147) (l_q := L1130) (st_q := [.ref 66]) rfl (jl_aloadn gL1130_0) ?_
                            refine jx_vr (pc_q := 150) (as := []) (st := []) rfl rfl rfl rfl ⟨rfl, rfl, Nat.le_of_ble_eq_true rfl⟩ rfl rfl (c_bad (dd := d) (hd := by omega) (hW := hW1115)  (fk := fk2_1091) (e_fk := show G1087 16 = fk2_1091 from (e1096))    ) (fun o V_q hq => ?_)
                            obtain ⟨r1131, rfl, rfl, b1132, q1133⟩ := hq
                            refine .inr ⟨_, rfl, ?_⟩
                            rcases q1133 with ⟨rfl, a1134⟩ | ⟨rfl, a1135⟩
                            · have _q : True := trivial
                              refine jx_if_ne (pc_q := 153) (tg := 212) rfl rfl rfl (by decide) (by decide) (fun h1136 => ?_) (fun h1136 => ?_)
                              · have _q := h1136
                                exact c_readProc_w_at_212p (X := X) (d := d) (Vs := Vs) (sb := sb) (pb := pb) (hvb := hvb) (c0 := c0) (c1 := c1) (G := G) (A := A) (T := T) (ln := ln) (li := li) (at0 := at0) (fk := fk) (nd := nd) (sy := sy) (na := na) (vi := vi) (le := le) (op0 := op0) (tk0 := tk0) (pc0 := pc0) (ec := ec) (hd := hd) (hW := hW) (e_ln := e_ln) (e_li := e_li) (e_at0 := e_at0) (e_fk := e_fk) (e_nd := e_nd) (e_sy := e_sy) (e_na := e_na) (e_vi := e_vi) (e_le := e_le) (e_op0 := e_op0) (e_tk0 := e_tk0) (e_pc0 := e_pc0) (e_ec := e_ec) (i_LT := i_LT) (i_SV := i_SV) (i_PQ := i_PQ) (p_0 := p_0) (p_1 := p_1) (p_2 := p_2) (p_3 := p_3) (p_4 := p_4) (p_5 := p_5) (p_6 := p_6) (p_7 := p_7) (p_8 := p_8) (p_9 := p_9) L1130 G1087 A1114 (sy) (0) (at2_1089) (fk2_1091) (sy2_820) (na2_821) gL1130_0 gL1130_1 gL1130_2 hW1115 hF1116 hP1118 hS1119 hV1120 hK1121 ((e1094)) ((e1096)) (((hF1093.1 19 rfl).trans ((hF873.1 19 rfl).trans (e828)))) (((hF1093.1 28 rfl).trans ((hF873.1 28 rfl).trans (e829)))) (((hF1093.1 9 rfl).trans ((hF873.1 9 rfl).trans ((hF825.1 9 rfl).trans ((hF787.1 9 rfl).trans (e_ln)))))) (((hF1093.1 29 rfl).trans ((hF873.1 29 rfl).trans ((hF825.1 29 rfl).trans ((hF787.1 29 rfl).trans (e_vi)))))) (((hF1093.1 46 rfl).trans ((hF873.1 46 rfl).trans ((hF825.1 46 rfl).trans ((hF787.1 46 rfl).trans (e_pc0)))))) (((hF1093.1 31 rfl).trans ((hF873.1 31 rfl).trans ((hF825.1 31 rfl).trans ((hF787.1 31 rfl).trans (e_nd)))))) (ec1122) (by omega) (by omega) (by omega) (by omega) (by omega) (by omega) (by omega) (by omega) (by omega)
                              · have _q := h1136
                                exact absurd h1136 (by omega)
                            · have _q : True := trivial
                              exfalso
                              omega
                          · have _q := h1129
                            exact absurd h1129 (by omega)
                        · have _q : True := trivial
                          exfalso
                          omega
                      · have _q : True := trivial
                        exfalso
                        omega
                · have _q := h857
                  exact absurd h857 (by omega)
            · have _q : True := trivial
              refine jx_ld (pc_q := 76) (l_q := jSto1 [(0, .ref 66)] 1 (.int (i32 (0)))) (st_q := []) rfl rfl ?_
              obtain ⟨L1137, eL1137⟩ : ∃ q, q = jSto1 [(0, .ref 66)] 1 (.int (i32 (0))) := ⟨_, rfl⟩
              rw [← eL1137]
              have gL1137_0 : jGet L1137 0 = some (.ref 66) := eL1137 ▸ jg_ne (by decide) (rfl : jGet [(0, .ref 66)] 0 = some (.ref 66)) rfl
              have gL1137_1 : jGet L1137 1 = some (.int (i32 (0))) := eL1137 ▸ jg_eq
              refine jx_ld (pc_q := 77) (l_q := L1137) (st_q := [.ref 66]) rfl (jl_aloadn gL1137_0) ?_
              refine jx_vr (pc_q := 80) (as := []) (st := []) rfl rfl rfl rfl ⟨rfl, rfl, Nat.le_of_ble_eq_true rfl⟩ rfl rfl (c_bad (dd := d) (hd := by omega) (hW := hW824)  (fk := fk2_822) (e_fk := show G817 16 = fk2_822 from (e830))    ) (fun o V_q hq => ?_)
              obtain ⟨r1138, rfl, rfl, b1139, q1140⟩ := hq
              refine .inr ⟨_, rfl, ?_⟩
              rcases q1140 with ⟨rfl, a1141⟩ | ⟨rfl, a1142⟩
              · have _q : True := trivial
                refine jx_if_eq (pc_q := 83) (tg := 84) rfl rfl rfl (by decide) (by decide) (fun h1143 => ?_) (fun h1143 => ?_)
                · have _q := h1143
                  exact absurd h1143 (by omega)
                · have _q := h1143
                  refine jx_rt (v := none) rfl rfl rfl rfl rfl rfl ?_
                  exact ⟨_, _, ln, at2_784, fk2_822, nd, sy2_820, na2_821, vi, A 3 (ln).toNat, pc0, ec, rfl, rfl, hW824, hF833, hP834, hS835, hV836, hK837, ((hF825.1 9 rfl).trans ((hF787.1 9 rfl).trans (e_ln))), ((hF825.1 10 rfl).trans (e788)), (e830), ((hF825.1 31 rfl).trans ((hF787.1 31 rfl).trans (e_nd))), (e828), (e829), ((hF825.1 29 rfl).trans ((hF787.1 29 rfl).trans (e_vi))), (congrFun ((hF825.2 3 rfl).trans (hF787.2 3 rfl)) _), ((hF825.1 46 rfl).trans ((hF787.1 46 rfl).trans (e_pc0))), ec840, by omega, by omega, by omega, by omega, by first | exact Or.inl (by omega)⟩
              · have _q : True := trivial
                exfalso
                omega
          · have _q := h816
            refine jx_ld (pc_q := 59) (l_q := [(0, .ref 66)]) (st_q := [.ref 66]) rfl (jl_aloadn rfl) ?_
            refine jx_ar (pc_q := 61) (st_q := [.int (i32 (6)), .ref 66]) rfl rfl rfl rfl ?_
            refine jx_ld (pc_q := 62) (l_q := [(0, .ref 66)]) (st_q := [.ref 66, .int (i32 (6)), .ref 66]) rfl (jl_aloadn rfl) ?_
            have b1144 : (-3000 : Int) ≤ G782 12 ∧ G782 12 ≤ 3002 := hW786.1 12
            refine jr_get (pc_q := 65) (i := 12) (v := .int (i32 (G782 12))) rfl rfl (by decide) rfl rfl ?_
            refine jx_vr (pc_q := 68) (as := [.int (i32 (6)), .int (i32 (G782 12))]) (st := []) rfl rfl rfl rfl ⟨rfl, rfl, Nat.le_of_ble_eq_true rfl⟩ rfl rfl (c_fail (dd := d) (hd := by omega) (hW := hW786) (kind := 6) (place := G782 12) (fk := fk) (e_fk := show G782 16 = fk from ((hF787.1 16 rfl).trans (e_fk)))  (h_kind := ⟨(by decide), (by decide)⟩) (h_place := ⟨(Int.le_trans (by decide : (-2147483648 : Int) ≤ -3000) b1144.1), (Int.le_trans b1144.2 (by decide : (3002 : Int) ≤ 2147483647))⟩)  (p_0 := by omega) (p_1 := by omega)) (fun o V_q hq => ?_)
            obtain ⟨G1145, A1146, fk2_1147, rfl, rfl, hW1148, hF1149, e1150, p1151, -⟩ := hq
            have hF1153 := Fr_tr hF794 hF1149 (Fr_sub (by decide)) (Fr_sub (by decide))
            have hP1154 := Pf_f hP795 hF1149 (by decide)
            have hS1155 := Fx_f hS796 hF1149 (by decide)
            have hV1156 := Fx_f hV797 hF1149 (by decide)
            have hK1157 := Fx_f hK798 hF1149 (by decide)
            have sf1158 : wQ A1146 (pc0).toNat (nd) (sy) := (show A1146 = A783 from funext (fun k => hF1149.2 k rfl)) ▸ sf799
            have sf1159 : VT (Vs) A1146 (sy) := (show A1146 = A783 from funext (fun k => hF1149.2 k rfl)) ▸ sf800
            have ec1160 : ecn A1146 (G1145 31) = ec := (ecn_f (hF1149.2 15 rfl) (hF1149.1 31 rfl)).trans ec801
            have bfk2_1147 : (0 : Int) ≤ fk2_1147 ∧ fk2_1147 ≤ 6 := e1150 ▸ hW1148.1 16
            refine .inl ⟨rfl, ?_⟩
            refine jx_ld (pc_q := 69) (l_q := [(0, .ref 66)]) (st_q := [.ref 66]) rfl (jl_aloadn rfl) ?_
            refine jx_ar (pc_q := 71) (st_q := [.int (i32 (14)), .ref 66]) rfl rfl rfl rfl ?_
            refine jx_ar (pc_q := 72) (st_q := [.int (i32 (0)), .int (i32 (14)), .ref 66]) rfl rfl rfl rfl ?_
            refine jx_vr (pc_q := 75) (as := [.int (i32 (14)), .int (i32 (0))]) (st := []) rfl rfl rfl rfl ⟨rfl, rfl, Nat.le_of_ble_eq_true rfl⟩ rfl rfl (c_newName (dd := d) (hd := by omega) (hW := hW1148) (kind := 14) (many := 0) (sy := sy) (e_sy := show G1145 19 = sy from ((hF1149.1 19 rfl).trans ((hF787.1 19 rfl).trans (e_sy)))) (na := na) (e_na := show G1145 28 = na from ((hF1149.1 28 rfl).trans ((hF787.1 28 rfl).trans (e_na)))) (fk := fk2_1147) (e_fk := show G1145 16 = fk2_1147 from (e1150))  (h_kind := ⟨(by decide), (by decide)⟩) (h_many := ⟨(by decide), (by decide)⟩)  (p_0 := by omega) (p_1 := by omega)) (fun o V_q hq => ?_)
            obtain ⟨G1161, A1162, r1163, sy2_1164, na2_1165, fk2_1166, yk2_1167, rfl, rfl, hW1168, hF1169, hQ1170, b1171, e1172, e1173, e1174, e1175, q1176⟩ := hq
            have hF1177 := Fr_tr hF1153 hF1169 (Fr_sub (by decide)) (Fr_sub (by decide))
            have hP1178 := Pf_f hP1154 hF1169 (by decide)
            have hS1179 := Fx_tr hS1155 hQ1170 (by omega)
            have hV1180 := Fx_f hV1156 hF1169 (by decide)
            have hK1181 := Fx_f hK1157 hF1169 (by decide)
            have sf1182 : wQ A1162 (pc0).toNat (nd) (sy) := wQ_fx (Pf_f Pf_rf hF1169 (by decide)) (Fx_su hQ1170 (by omega)) (Fx_su (Fx_f (w := pc0) Fx_rf hF1169 (by decide)) (by omega)) sf1158
            have sf1183 : VT (Vs) A1162 (sy) := VT_fx hQ1170 (by omega) sf1159
            have ec1184 : ecn A1162 (G1161 31) = ec := (ecn_f (hF1169.2 15 rfl) (hF1169.1 31 rfl)).trans ec1160
            have bsy2_1164 : (0 : Int) ≤ sy2_1164 ∧ sy2_1164 ≤ 202 := e1172 ▸ hW1168.1 19
            have bna2_1165 : (0 : Int) ≤ na2_1165 ∧ na2_1165 ≤ 200 := e1173 ▸ hW1168.1 28
            have bfk2_1166 : (0 : Int) ≤ fk2_1166 ∧ fk2_1166 ≤ 6 := e1174 ▸ hW1168.1 16
            have byk2_1167 : (0 : Int) ≤ yk2_1167 ∧ yk2_1167 ≤ 14 := e1175 ▸ hW1168.2 7 _
            refine .inr ⟨_, rfl, ?_⟩
            rcases q1176 with ⟨a1191, a1185, a1186, a1187, a1188, a1189, a1190⟩ | ⟨rfl, a1192, a1193, a1194⟩
            · have _q : True := trivial
              rw [a1191]
              exfalso
              omega
            · have _q : True := trivial
              refine jx_ld (pc_q := 76) (l_q := jSto1 [(0, .ref 66)] 1 (.int (i32 (0)))) (st_q := []) rfl rfl ?_
              obtain ⟨L1195, eL1195⟩ : ∃ q, q = jSto1 [(0, .ref 66)] 1 (.int (i32 (0))) := ⟨_, rfl⟩
              rw [← eL1195]
              have gL1195_0 : jGet L1195 0 = some (.ref 66) := eL1195 ▸ jg_ne (by decide) (rfl : jGet [(0, .ref 66)] 0 = some (.ref 66)) rfl
              have gL1195_1 : jGet L1195 1 = some (.int (i32 (0))) := eL1195 ▸ jg_eq
              refine jx_ld (pc_q := 77) (l_q := L1195) (st_q := [.ref 66]) rfl (jl_aloadn gL1195_0) ?_
              refine jx_vr (pc_q := 80) (as := []) (st := []) rfl rfl rfl rfl ⟨rfl, rfl, Nat.le_of_ble_eq_true rfl⟩ rfl rfl (c_bad (dd := d) (hd := by omega) (hW := hW1168)  (fk := fk2_1166) (e_fk := show G1161 16 = fk2_1166 from (e1174))    ) (fun o V_q hq => ?_)
              obtain ⟨r1196, rfl, rfl, b1197, q1198⟩ := hq
              refine .inr ⟨_, rfl, ?_⟩
              rcases q1198 with ⟨rfl, a1199⟩ | ⟨rfl, a1200⟩
              · have _q : True := trivial
                refine jx_if_eq (pc_q := 83) (tg := 84) rfl rfl rfl (by decide) (by decide) (fun h1201 => ?_) (fun h1201 => ?_)
                · have _q := h1201
                  exact absurd h1201 (by omega)
                · have _q := h1201
                  refine jx_rt (v := none) rfl rfl rfl rfl rfl rfl ?_
                  exact ⟨_, _, ln, at2_784, fk2_1166, nd, sy2_1164, na2_1165, vi, A 3 (ln).toNat, pc0, ec, rfl, rfl, hW1168, hF1177, hP1178, hS1179, hV1180, hK1181, ((hF1169.1 9 rfl).trans ((hF1149.1 9 rfl).trans ((hF787.1 9 rfl).trans (e_ln)))), ((hF1169.1 10 rfl).trans ((hF1149.1 10 rfl).trans (e788))), (e1174), ((hF1169.1 31 rfl).trans ((hF1149.1 31 rfl).trans ((hF787.1 31 rfl).trans (e_nd)))), (e1172), (e1173), ((hF1169.1 29 rfl).trans ((hF1149.1 29 rfl).trans ((hF787.1 29 rfl).trans (e_vi)))), (congrFun ((hF1169.2 3 rfl).trans ((hF1149.2 3 rfl).trans (hF787.2 3 rfl))) _), ((hF1169.1 46 rfl).trans ((hF1149.1 46 rfl).trans ((hF787.1 46 rfl).trans (e_pc0)))), ec1184, by omega, by omega, by omega, by omega, by first | exact Or.inl (by omega)⟩
              · have _q : True := trivial
                exfalso
                omega
    · have _q := h809
      refine jx_ld (pc_q := 34) (l_q := [(0, .ref 66)]) (st_q := [.ref 66]) rfl (jl_aloadn rfl) ?_
      refine jx_ar (pc_q := 35) (st_q := [.int (i32 (2)), .ref 66]) rfl rfl rfl rfl ?_
      refine jx_ld (pc_q := 36) (l_q := [(0, .ref 66)]) (st_q := [.ref 66, .int (i32 (2)), .ref 66]) rfl (jl_aloadn rfl) ?_
      have b1202 : (-3000 : Int) ≤ G782 12 ∧ G782 12 ≤ 3002 := hW786.1 12
      refine jr_get (pc_q := 39) (i := 12) (v := .int (i32 (G782 12))) rfl rfl (by decide) rfl rfl ?_
      refine jx_vr (pc_q := 42) (as := [.int (i32 (2)), .int (i32 (G782 12))]) (st := []) rfl rfl rfl rfl ⟨rfl, rfl, Nat.le_of_ble_eq_true rfl⟩ rfl rfl (c_fail (dd := d) (hd := by omega) (hW := hW786) (kind := 2) (place := G782 12) (fk := fk) (e_fk := show G782 16 = fk from ((hF787.1 16 rfl).trans (e_fk)))  (h_kind := ⟨(by decide), (by decide)⟩) (h_place := ⟨(Int.le_trans (by decide : (-2147483648 : Int) ≤ -3000) b1202.1), (Int.le_trans b1202.2 (by decide : (3002 : Int) ≤ 2147483647))⟩)  (p_0 := by omega) (p_1 := by omega)) (fun o V_q hq => ?_)
      obtain ⟨G1203, A1204, fk2_1205, rfl, rfl, hW1206, hF1207, e1208, p1209, -⟩ := hq
      have hF1211 := Fr_tr hF794 hF1207 (Fr_sub (by decide)) (Fr_sub (by decide))
      have hP1212 := Pf_f hP795 hF1207 (by decide)
      have hS1213 := Fx_f hS796 hF1207 (by decide)
      have hV1214 := Fx_f hV797 hF1207 (by decide)
      have hK1215 := Fx_f hK798 hF1207 (by decide)
      have sf1216 : wQ A1204 (pc0).toNat (nd) (sy) := (show A1204 = A783 from funext (fun k => hF1207.2 k rfl)) ▸ sf799
      have sf1217 : VT (Vs) A1204 (sy) := (show A1204 = A783 from funext (fun k => hF1207.2 k rfl)) ▸ sf800
      have ec1218 : ecn A1204 (G1203 31) = ec := (ecn_f (hF1207.2 15 rfl) (hF1207.1 31 rfl)).trans ec801
      have bfk2_1205 : (0 : Int) ≤ fk2_1205 ∧ fk2_1205 ≤ 6 := e1208 ▸ hW1206.1 16
      refine .inl ⟨rfl, ?_⟩
      refine jx_ld (pc_q := 43) (l_q := [(0, .ref 66)]) (st_q := [.ref 66]) rfl (jl_aloadn rfl) ?_
      refine jx_vr (pc_q := 46) (as := []) (st := []) rfl rfl rfl rfl ⟨rfl, rfl, Nat.le_of_ble_eq_true rfl⟩ rfl rfl (c_bad (dd := d) (hd := by omega) (hW := hW1206)  (fk := fk2_1205) (e_fk := show G1203 16 = fk2_1205 from (e1208))    ) (fun o V_q hq => ?_)
      obtain ⟨r1219, rfl, rfl, b1220, q1221⟩ := hq
      refine .inr ⟨_, rfl, ?_⟩
      rcases q1221 with ⟨rfl, a1222⟩ | ⟨rfl, a1223⟩
      · have _q : True := trivial
        refine jx_if_ne (pc_q := 49) (tg := 68) rfl rfl rfl (by decide) (by decide) (fun h1224 => ?_) (fun h1224 => ?_)
        · have _q := h1224
          refine jx_ld (pc_q := 69) (l_q := [(0, .ref 66)]) (st_q := [.ref 66]) rfl (jl_aloadn rfl) ?_
          refine jx_ar (pc_q := 71) (st_q := [.int (i32 (14)), .ref 66]) rfl rfl rfl rfl ?_
          refine jx_ar (pc_q := 72) (st_q := [.int (i32 (0)), .int (i32 (14)), .ref 66]) rfl rfl rfl rfl ?_
          refine jx_vr (pc_q := 75) (as := [.int (i32 (14)), .int (i32 (0))]) (st := []) rfl rfl rfl rfl ⟨rfl, rfl, Nat.le_of_ble_eq_true rfl⟩ rfl rfl (c_newName (dd := d) (hd := by omega) (hW := hW1206) (kind := 14) (many := 0) (sy := sy) (e_sy := show G1203 19 = sy from ((hF1207.1 19 rfl).trans ((hF787.1 19 rfl).trans (e_sy)))) (na := na) (e_na := show G1203 28 = na from ((hF1207.1 28 rfl).trans ((hF787.1 28 rfl).trans (e_na)))) (fk := fk2_1205) (e_fk := show G1203 16 = fk2_1205 from (e1208))  (h_kind := ⟨(by decide), (by decide)⟩) (h_many := ⟨(by decide), (by decide)⟩)  (p_0 := by omega) (p_1 := by omega)) (fun o V_q hq => ?_)
          obtain ⟨G1225, A1226, r1227, sy2_1228, na2_1229, fk2_1230, yk2_1231, rfl, rfl, hW1232, hF1233, hQ1234, b1235, e1236, e1237, e1238, e1239, q1240⟩ := hq
          have hF1241 := Fr_tr hF1211 hF1233 (Fr_sub (by decide)) (Fr_sub (by decide))
          have hP1242 := Pf_f hP1212 hF1233 (by decide)
          have hS1243 := Fx_tr hS1213 hQ1234 (by omega)
          have hV1244 := Fx_f hV1214 hF1233 (by decide)
          have hK1245 := Fx_f hK1215 hF1233 (by decide)
          have sf1246 : wQ A1226 (pc0).toNat (nd) (sy) := wQ_fx (Pf_f Pf_rf hF1233 (by decide)) (Fx_su hQ1234 (by omega)) (Fx_su (Fx_f (w := pc0) Fx_rf hF1233 (by decide)) (by omega)) sf1216
          have sf1247 : VT (Vs) A1226 (sy) := VT_fx hQ1234 (by omega) sf1217
          have ec1248 : ecn A1226 (G1225 31) = ec := (ecn_f (hF1233.2 15 rfl) (hF1233.1 31 rfl)).trans ec1218
          have bsy2_1228 : (0 : Int) ≤ sy2_1228 ∧ sy2_1228 ≤ 202 := e1236 ▸ hW1232.1 19
          have bna2_1229 : (0 : Int) ≤ na2_1229 ∧ na2_1229 ≤ 200 := e1237 ▸ hW1232.1 28
          have bfk2_1230 : (0 : Int) ≤ fk2_1230 ∧ fk2_1230 ≤ 6 := e1238 ▸ hW1232.1 16
          have byk2_1231 : (0 : Int) ≤ yk2_1231 ∧ yk2_1231 ≤ 14 := e1239 ▸ hW1232.2 7 _
          refine .inr ⟨_, rfl, ?_⟩
          rcases q1240 with ⟨a1255, a1249, a1250, a1251, a1252, a1253, a1254⟩ | ⟨rfl, a1256, a1257, a1258⟩
          · have _q : True := trivial
            rw [a1255]
            exfalso
            omega
          · have _q : True := trivial
            refine jx_ld (pc_q := 76) (l_q := jSto1 [(0, .ref 66)] 1 (.int (i32 (0)))) (st_q := []) rfl rfl ?_
            obtain ⟨L1259, eL1259⟩ : ∃ q, q = jSto1 [(0, .ref 66)] 1 (.int (i32 (0))) := ⟨_, rfl⟩
            rw [← eL1259]
            have gL1259_0 : jGet L1259 0 = some (.ref 66) := eL1259 ▸ jg_ne (by decide) (rfl : jGet [(0, .ref 66)] 0 = some (.ref 66)) rfl
            have gL1259_1 : jGet L1259 1 = some (.int (i32 (0))) := eL1259 ▸ jg_eq
            refine jx_ld (pc_q := 77) (l_q := L1259) (st_q := [.ref 66]) rfl (jl_aloadn gL1259_0) ?_
            refine jx_vr (pc_q := 80) (as := []) (st := []) rfl rfl rfl rfl ⟨rfl, rfl, Nat.le_of_ble_eq_true rfl⟩ rfl rfl (c_bad (dd := d) (hd := by omega) (hW := hW1232)  (fk := fk2_1230) (e_fk := show G1225 16 = fk2_1230 from (e1238))    ) (fun o V_q hq => ?_)
            obtain ⟨r1260, rfl, rfl, b1261, q1262⟩ := hq
            refine .inr ⟨_, rfl, ?_⟩
            rcases q1262 with ⟨rfl, a1263⟩ | ⟨rfl, a1264⟩
            · have _q : True := trivial
              refine jx_if_eq (pc_q := 83) (tg := 84) rfl rfl rfl (by decide) (by decide) (fun h1265 => ?_) (fun h1265 => ?_)
              · have _q := h1265
                exact absurd h1265 (by omega)
              · have _q := h1265
                refine jx_rt (v := none) rfl rfl rfl rfl rfl rfl ?_
                exact ⟨_, _, ln, at2_784, fk2_1230, nd, sy2_1228, na2_1229, vi, A 3 (ln).toNat, pc0, ec, rfl, rfl, hW1232, hF1241, hP1242, hS1243, hV1244, hK1245, ((hF1233.1 9 rfl).trans ((hF1207.1 9 rfl).trans ((hF787.1 9 rfl).trans (e_ln)))), ((hF1233.1 10 rfl).trans ((hF1207.1 10 rfl).trans (e788))), (e1238), ((hF1233.1 31 rfl).trans ((hF1207.1 31 rfl).trans ((hF787.1 31 rfl).trans (e_nd)))), (e1236), (e1237), ((hF1233.1 29 rfl).trans ((hF1207.1 29 rfl).trans ((hF787.1 29 rfl).trans (e_vi)))), (congrFun ((hF1233.2 3 rfl).trans ((hF1207.2 3 rfl).trans (hF787.2 3 rfl))) _), ((hF1233.1 46 rfl).trans ((hF1207.1 46 rfl).trans ((hF787.1 46 rfl).trans (e_pc0)))), ec1248, by omega, by omega, by omega, by omega, by first | exact Or.inl (by omega)⟩
            · have _q : True := trivial
              exfalso
              omega
        · have _q := h1224
          exact absurd h1224 (by omega)
      · have _q : True := trivial
        exfalso
        omega
  · have _q := h804
    refine jx_ld (pc_q := 13) (l_q := [(0, .ref 66)]) (st_q := [.ref 66]) rfl (jl_aloadn rfl) ?_
    refine jx_ar (pc_q := 14) (st_q := [.int (i32 (1)), .ref 66]) rfl rfl rfl rfl ?_
    refine jx_ld (pc_q := 15) (l_q := [(0, .ref 66)]) (st_q := [.ref 66, .int (i32 (1)), .ref 66]) rfl (jl_aloadn rfl) ?_
    have b1266 : (-3000 : Int) ≤ G782 12 ∧ G782 12 ≤ 3002 := hW786.1 12
    refine jr_get (pc_q := 18) (i := 12) (v := .int (i32 (G782 12))) rfl rfl (by decide) rfl rfl ?_
    refine jx_vr (pc_q := 21) (as := [.int (i32 (1)), .int (i32 (G782 12))]) (st := []) rfl rfl rfl rfl ⟨rfl, rfl, Nat.le_of_ble_eq_true rfl⟩ rfl rfl (c_fail (dd := d) (hd := by omega) (hW := hW786) (kind := 1) (place := G782 12) (fk := fk) (e_fk := show G782 16 = fk from ((hF787.1 16 rfl).trans (e_fk)))  (h_kind := ⟨(by decide), (by decide)⟩) (h_place := ⟨(Int.le_trans (by decide : (-2147483648 : Int) ≤ -3000) b1266.1), (Int.le_trans b1266.2 (by decide : (3002 : Int) ≤ 2147483647))⟩)  (p_0 := by omega) (p_1 := by omega)) (fun o V_q hq => ?_)
    obtain ⟨G1267, A1268, fk2_1269, rfl, rfl, hW1270, hF1271, e1272, p1273, -⟩ := hq
    have hF1275 := Fr_tr hF794 hF1271 (Fr_sub (by decide)) (Fr_sub (by decide))
    have hP1276 := Pf_f hP795 hF1271 (by decide)
    have hS1277 := Fx_f hS796 hF1271 (by decide)
    have hV1278 := Fx_f hV797 hF1271 (by decide)
    have hK1279 := Fx_f hK798 hF1271 (by decide)
    have sf1280 : wQ A1268 (pc0).toNat (nd) (sy) := (show A1268 = A783 from funext (fun k => hF1271.2 k rfl)) ▸ sf799
    have sf1281 : VT (Vs) A1268 (sy) := (show A1268 = A783 from funext (fun k => hF1271.2 k rfl)) ▸ sf800
    have ec1282 : ecn A1268 (G1267 31) = ec := (ecn_f (hF1271.2 15 rfl) (hF1271.1 31 rfl)).trans ec801
    have bfk2_1269 : (0 : Int) ≤ fk2_1269 ∧ fk2_1269 ≤ 6 := e1272 ▸ hW1270.1 16
    refine .inl ⟨rfl, ?_⟩
    refine jx_rt (v := none) rfl rfl rfl rfl rfl rfl ?_
    exact ⟨_, _, ln, at2_784, fk2_1269, nd, sy, na, vi, A 3 (ln).toNat, pc0, ec, rfl, rfl, hW1270, hF1275, hP1276, hS1277, hV1278, hK1279, ((hF1271.1 9 rfl).trans ((hF787.1 9 rfl).trans (e_ln))), ((hF1271.1 10 rfl).trans (e788)), (e1272), ((hF1271.1 31 rfl).trans ((hF787.1 31 rfl).trans (e_nd))), ((hF1271.1 19 rfl).trans ((hF787.1 19 rfl).trans (e_sy))), ((hF1271.1 28 rfl).trans ((hF787.1 28 rfl).trans (e_na))), ((hF1271.1 29 rfl).trans ((hF787.1 29 rfl).trans (e_vi))), (congrFun ((hF1271.2 3 rfl).trans (hF787.2 3 rfl)) _), ((hF1271.1 46 rfl).trans ((hF787.1 46 rfl).trans (e_pc0))), ec1282, by omega, by omega, by omega, by omega, by first | exact Or.inl (by omega)⟩
