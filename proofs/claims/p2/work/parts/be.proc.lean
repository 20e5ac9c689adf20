set_option maxRecDepth 20000 in
set_option maxHeartbeats 4000000 in
theorem c_readProc_w_at_327p {X : jX} {d : Nat} {Vs : Nat → Prop} {sb pb : Int} (hvb : VB Vs sb) {c0 c1 : jC} {G : Nat → Int} {A : Nat → Nat → Int} {T : jH} {ln li at0 fk nd sy na vi le op0 tk0 pc0 ec : Int} (hd : 8 * 18 + 81 ≤ d + 1) (hW : Wk G A) (e_ln : G 9 = ln) (e_li : G 3 = li) (e_at0 : G 10 = at0) (e_fk : G 16 = fk) (e_nd : G 31 = nd) (e_sy : G 19 = sy) (e_na : G 28 = na) (e_vi : G 29 = vi) (e_le : A 4 (ln).toNat = le) (e_op0 : G 15 = op0) (e_tk0 : G 11 = tk0) (e_pc0 : G 46 = pc0) (e_ec : ecn A (G 31) = ec) (i_LT : LT G A) (i_SV : SV Vs sb G A) (i_PQ : PQ Vs sb pb G A) (p_0 : fk = 0) (p_1 : ln < li) (p_2 : at0 ≤ le) (p_3 : nd ≤ 2 * at0 - tz tk0 + 30) (p_4 : sy ≤ na + 2) (p_5 : vi ≤ sy) (p_6 : sb ≤ sy) (p_7 : pb = pc0) (p_8 : wQ A (pc0).toNat (nd) (sy)) (p_9 : VT (Vs) A (sy)) : ∀ (L : jL) (Gx : Nat → Int) (Ax : Nat → Nat → Int) (p ln1 fk1 sy1 na1 ec1 : Int), jGet L 0 = some (.ref 66) → jGet L 1 = some (.int (i32 p)) → Wk Gx Ax → Fr [9, 10, 11, 12, 13, 14, 15, 16, 17, 18, 19, 28, 29, 31, 46] [6, 7, 8, 9, 10, 11, 12, 14, 15, 16, 17, 18, 19, 20, 21, 22, 23, 24, 28, 29, 30, 31] G A Gx Ax → Pf nd A Ax → Fx sr (sy) A Ax → Fx [14] (vi) A Ax → Fx [29, 30, 31] (pc0) A Ax → Gx 9 = ln1 → Gx 16 = fk1 → Gx 19 = sy1 → Gx 28 = na1 → ecn Ax (Gx 31) = ec1 → Gx 29 = vi → Gx 46 = pc0 → ((-2147483648 : Int) ≤ p ∧ p ≤ 2147483647) → (1 ≤ fk1) → (ln ≤ ln1) → (ln1 ≤ li) → (sy + 1 ≤ sy1) → (sy1 ≤ na1 + 2) → (p = sy) → (pc0 ≤ 23) → wj X d jm308 (327, L, [], rV c0 c1 Gx Ax T) (fun o V' => ∃ (G' : Nat → Int) (A' : Nat → Nat → Int) (ln2 : Int) (at2 : Int) (fk2 : Int) (nd2 : Int) (sy2 : Int) (na2 : Int) (vi2 : Int) (lf2 : Int) (pc2 : Int) (ec2 : Int), V' = rV c0 c1 G' A' T ∧ o = .inl none ∧ Wk G' A' ∧ Fr [9, 10, 11, 12, 13, 14, 15, 16, 17, 18, 19, 28, 29, 31, 46] [6, 7, 8, 9, 10, 11, 12, 14, 15, 16, 17, 18, 19, 20, 21, 22, 23, 24, 28, 29, 30, 31] G A G' A' ∧ Pf nd A A' ∧ Fx sr (sy) A A' ∧ Fx [14] (vi) A A' ∧ Fx [29, 30, 31] (pc0) A A' ∧ G' 9 = ln2 ∧ G' 10 = at2 ∧ G' 16 = fk2 ∧ G' 31 = nd2 ∧ G' 19 = sy2 ∧ G' 28 = na2 ∧ G' 29 = vi2 ∧ A' 3 (ln2).toNat = lf2 ∧ G' 46 = pc2 ∧ ecn A' (G' 31) = ec2 ∧ (sy2 ≤ na2 + 2) ∧ (vi2 ≤ sy2) ∧ (ln ≤ ln2) ∧ (ln2 ≤ li) ∧ (((1 ≤ fk2)) ∨ ((fk2 = 0) ∧ (ln < ln2) ∧ (at0 ≤ at2) ∧ (pc2 = pc0 + 1) ∧ (nd2 - nd ≤ 2 * at2 - (2 * at0 - tz tk0)) ∧ (at2 < lf2 ∨ li ≤ ln2) ∧ (vi2 = vi + 1) ∧ (sy < sy2) ∧ (wQ A' (pc2).toNat (nd2) (sy2)) ∧ (SW (Vu Vs sy) (sy2) (vi2) A') ∧ (PQ (Vu Vs sy) (sy2) (pc2) (fun _ => 0) A') ∧ (VT (Vu Vs sy) A' (sy2)) ∧ (nd2 - nd + 5 * (ec2 - ec) ≤ 2 * at2 - (2 * at0 - tz tk0))))) := by
  have hF0 : Fr [9, 10, 11, 12, 13, 14, 15, 16, 17, 18, 19, 28, 29, 31, 46] [6, 7, 8, 9, 10, 11, 12, 14, 15, 16, 17, 18, 19, 20, 21, 22, 23, 24, 28, 29, 30, 31] G A G A := Fr_rf
  have hP0 : Pf nd A A := Pf_rf
  have hS0 : Fx sr (sy) A A := Fx_rf
  have hV0 : Fx [14] (vi) A A := Fx_rf
  have hK0 : Fx [29, 30, 31] (pc0) A A := Fx_rf
  have b_ln : (0 : Int) ≤ ln ∧ ln ≤ 3000 := e_ln ▸ hW.1 9
  have b_li : (0 : Int) ≤ li ∧ li ≤ 3000 := e_li ▸ hW.1 3
  have b_at0 : (0 : Int) ≤ at0 ∧ at0 ≤ 3002 := e_at0 ▸ hW.1 10
  have b_fk : (0 : Int) ≤ fk ∧ fk ≤ 6 := e_fk ▸ hW.1 16
  have b_nd : (0 : Int) ≤ nd ∧ nd ≤ 6999 := e_nd ▸ hW.1 31
  have b_sy : (0 : Int) ≤ sy ∧ sy ≤ 202 := e_sy ▸ hW.1 19
  have b_na : (0 : Int) ≤ na ∧ na ≤ 200 := e_na ▸ hW.1 28
  have b_vi : (0 : Int) ≤ vi ∧ vi ≤ 202 := e_vi ▸ hW.1 29
  have b_le : (0 : Int) ≤ le ∧ le ≤ 3000 := e_le ▸ hW.2 4 _
  have b_op0 : (-2147483648 : Int) ≤ op0 ∧ op0 ≤ 2147483647 := e_op0 ▸ hW.1 15
  have z_tk0 := tz_f tk0
  have b_tk0 : (0 : Int) ≤ tk0 ∧ tk0 ≤ 5 := e_tk0 ▸ hW.1 11
  have b_pc0 : (0 : Int) ≤ pc0 ∧ pc0 ≤ 24 := e_pc0 ▸ hW.1 46
  intro L Gx Ax p ln1 fk1 sy1 na1 ec1 gL_0 gL_1 hWx hFx hPx hSx hVx hKx ex_ln1 ex_fk1 ex_sy1 ex_na1 ex_ec1 fx_29 fx_46 rx_p iv_0 iv_1 iv_2 iv_3 iv_4 iv_5 iv_6
  have b_ln1 : (0 : Int) ≤ ln1 ∧ ln1 ≤ 3000 := ex_ln1 ▸ hWx.1 9
  have b_fk1 : (0 : Int) ≤ fk1 ∧ fk1 ≤ 6 := ex_fk1 ▸ hWx.1 16
  have b_sy1 : (0 : Int) ≤ sy1 ∧ sy1 ≤ 202 := ex_sy1 ▸ hWx.1 19
  have b_na1 : (0 : Int) ≤ na1 ∧ na1 ≤ 200 := ex_na1 ▸ hWx.1 28
  refine jx_ld (pc' := 328) (l' := L) (st' := [.ref 66]) rfl (jl_aloadn gL_0) ?_
  refine jx_ld (pc' := 329) (l' := L) (st' := [.int (i32 (p)), .ref 66]) rfl (jl_iloadn gL_1) ?_
  refine jx_vr (pc' := 332) (as := [.int (i32 (p))]) (st := []) rfl rfl rfl rfl ⟨rfl, rfl, Nat.le_of_ble_eq_true rfl⟩ rfl rfl (c_show (dd := d) (hd := by omega) (hW := hWx) (s := p) (vi := vi) (e_vi := show Gx 29 = vi from (fx_29))  (h_s := ⟨(Int.le_trans (by decide : (-2147483648 : Int) ≤ -2147483648) rx_p.1), (Int.le_trans rx_p.2 (by decide : (2147483647 : Int) ≤ 2147483647))⟩)  (p_0 := by omega) (p_1 := by omega)) (fun o V' hq => ?_)
  obtain ⟨G1, A2, vi2_3, sv2_4, rfl, rfl, hW5, hF6, hQ7, e8, e9, p10, p11, -⟩ := hq
  have hF13 := Fr_tr hFx hF6 (Fr_sub (by decide)) (Fr_sub (by decide))
  have hP14 := Pf_f hPx hF6 (by decide)
  have hS15 := Fx_f hSx hF6 (by decide)
  have hV16 := Fx_tr hVx hQ7 (by omega)
  have hK17 := Fx_f hKx hF6 (by decide)
  have ec18 : ecn A2 (G1 31) = ec1 := (ecn_f (hF6.2 15 rfl) (hF6.1 31 rfl)).trans ex_ec1
  have bvi2_3 : (0 : Int) ≤ vi2_3 ∧ vi2_3 ≤ 202 := e8 ▸ hW5.1 29
  have bsv2_4 : (0 : Int) ≤ sv2_4 ∧ sv2_4 ≤ 201 := e9 ▸ hW5.2 14 _
  refine .inl ⟨rfl, ?_⟩
  refine jx_ld (pc' := 333) (l' := L) (st' := [.ref 66]) rfl (jl_aloadn gL_0) ?_
  refine jx_ar (pc' := 334) (st' := [.ref 66, .ref 66]) rfl rfl rfl rfl ?_
  refine jr_get (pc' := 337) (i := 46) (v := .int (i32 (pc0))) rfl rfl (by decide) (rFv_eq (by decide) (show G1 46 = pc0 from ((hF6.1 46 rfl).trans (fx_46)))) rfl ?_
  refine jx_ar (pc' := 338) (st' := [.int (i32 (1)), .int (i32 (pc0)), .ref 66]) rfl rfl rfl rfl ?_
  refine jx_add (pc' := 339) rfl rfl ?_
  refine jr_put (pc' := 342) (i := 46) (z := (pc0 + 1)) rfl rfl (by decide) rfl rfl rfl rfl rfl rfl ?_
  have hW19 : Wk (uG G1 46 ((pc0 + 1))) A2 := Wk_g hW5 (show (0 : Int) ≤ (pc0 + 1) by omega) (show (pc0 + 1) ≤ (24 : Int) by omega)
  have hF20 := Fr_g (z := (pc0 + 1)) (i := 46) hF13 (by decide)
  have ec21 : ecn A2 ((uG G1 46 ((pc0 + 1))) 31) = ec1 := ec18
  refine jx_rt (v := none) rfl rfl rfl rfl rfl rfl ?_
  exact ⟨_, _, ln1, Gx 10, fk1, Gx 31, sy1, na1, vi2_3, A 3 (ln1).toNat, (pc0 + 1), ec1, rfl, rfl, hW19, hF20, hP14, hS15, hV16, hK17, ((hF6.1 9 rfl).trans (ex_ln1)), (hF6.1 10 rfl), ((hF6.1 16 rfl).trans (ex_fk1)), (hF6.1 31 rfl), ((hF6.1 19 rfl).trans (ex_sy1)), ((hF6.1 28 rfl).trans (ex_na1)), (e8), (congrFun ((hF6.2 3 rfl).trans (hFx.2 3 rfl)) _), rfl, ec21, by omega, by omega, by omega, by omega, by first | exact Or.inl (by omega)⟩
set_option maxRecDepth 20000 in
set_option maxHeartbeats 4000000 in
theorem c_readProc_w_at_253 {X : jX} {d : Nat} {Vs : Nat → Prop} {sb pb : Int} (hvb : VB Vs sb) {c0 c1 : jC} {G : Nat → Int} {A : Nat → Nat → Int} {T : jH} {ln li at0 fk nd sy na vi le op0 tk0 pc0 ec : Int} (hd : 8 * 18 + 81 ≤ d + 1) (hW : Wk G A) (e_ln : G 9 = ln) (e_li : G 3 = li) (e_at0 : G 10 = at0) (e_fk : G 16 = fk) (e_nd : G 31 = nd) (e_sy : G 19 = sy) (e_na : G 28 = na) (e_vi : G 29 = vi) (e_le : A 4 (ln).toNat = le) (e_op0 : G 15 = op0) (e_tk0 : G 11 = tk0) (e_pc0 : G 46 = pc0) (e_ec : ecn A (G 31) = ec) (i_LT : LT G A) (i_SV : SV Vs sb G A) (i_PQ : PQ Vs sb pb G A) (p_0 : fk = 0) (p_1 : ln < li) (p_2 : at0 ≤ le) (p_3 : nd ≤ 2 * at0 - tz tk0 + 30) (p_4 : sy ≤ na + 2) (p_5 : vi ≤ sy) (p_6 : sb ≤ sy) (p_7 : pb = pc0) (p_8 : wQ A (pc0).toNat (nd) (sy)) (p_9 : VT (Vs) A (sy)) : ∀ (m : Nat) (L : jL) (Gx : Nat → Int) (Ax : Nat → Nat → Int) (p many kk ln1 at1 fk1 sy1 na1 vi1 pp1 mp1 kp1 np1 lf1 : Int), (many - kk).toNat = m → jGet L 0 = some (.ref 66) → jGet L 4 = some (.int (i32 (vi))) → jGet L 1 = some (.int (i32 p)) → jGet L 2 = some (.int (i32 many)) → jGet L 5 = some (.int (i32 kk)) → Wk Gx Ax → Fr [9, 10, 11, 12, 13, 14, 15, 16, 17, 18, 19, 28, 29, 31, 46] [6, 7, 8, 9, 10, 11, 12, 14, 15, 16, 17, 18, 19, 20, 21, 22, 23, 24, 28, 29, 30, 31] G A Gx Ax → Pf nd A Ax → Fx sr (sy) A Ax → Fx [14] (vi) A Ax → Fx [29, 30, 31] (pc0) A Ax → Gx 9 = ln1 → Gx 10 = at1 → Gx 16 = fk1 → Gx 19 = sy1 → Gx 28 = na1 → Gx 29 = vi1 → Ax 29 (pc0).toNat = pp1 → Ax 30 (pc0).toNat = mp1 → Ax 7 (sy).toNat = kp1 → Ax 12 (sy).toNat = np1 → Ax 3 (ln1).toNat = lf1 → Gx 46 = pc0 → Gx 31 = nd → ecn Ax (Gx 31) = ec → ((-2147483648 : Int) ≤ p ∧ p ≤ 2147483647) → ((-2147483648 : Int) ≤ many ∧ many ≤ 2147483647) → ((-2147483648 : Int) ≤ kk ∧ kk ≤ 2147483647) → (fk1 = 0) → (ln1 = ln + 1) → (at0 ≤ at1) → (at1 < lf1 ∨ li ≤ ln1) → (sy1 = sy + 1 + many) → (sy1 ≤ na1 + 2) → (vi1 = vi + kk) → (0 ≤ kk ∧ kk ≤ many) → (many ≤ 6) → (mp1 = many) → (wM Ax (sy + 1) (many)) → (DS Ax (vi) (vi1) (sy + 1) (sy1)) → (kp1 = 14) → (np1 = pc0) → (pp1 = sy + 1) → (p = sy) → (pc0 ≤ 23) → wj X d jm308 (253, L, [], rV c0 c1 Gx Ax T) (fun o V' => ∃ (G' : Nat → Int) (A' : Nat → Nat → Int) (ln2 : Int) (at2 : Int) (fk2 : Int) (nd2 : Int) (sy2 : Int) (na2 : Int) (vi2 : Int) (lf2 : Int) (pc2 : Int) (ec2 : Int), V' = rV c0 c1 G' A' T ∧ o = .inl none ∧ Wk G' A' ∧ Fr [9, 10, 11, 12, 13, 14, 15, 16, 17, 18, 19, 28, 29, 31, 46] [6, 7, 8, 9, 10, 11, 12, 14, 15, 16, 17, 18, 19, 20, 21, 22, 23, 24, 28, 29, 30, 31] G A G' A' ∧ Pf nd A A' ∧ Fx sr (sy) A A' ∧ Fx [14] (vi) A A' ∧ Fx [29, 30, 31] (pc0) A A' ∧ G' 9 = ln2 ∧ G' 10 = at2 ∧ G' 16 = fk2 ∧ G' 31 = nd2 ∧ G' 19 = sy2 ∧ G' 28 = na2 ∧ G' 29 = vi2 ∧ A' 3 (ln2).toNat = lf2 ∧ G' 46 = pc2 ∧ ecn A' (G' 31) = ec2 ∧ (sy2 ≤ na2 + 2) ∧ (vi2 ≤ sy2) ∧ (ln ≤ ln2) ∧ (ln2 ≤ li) ∧ (((1 ≤ fk2)) ∨ ((fk2 = 0) ∧ (ln < ln2) ∧ (at0 ≤ at2) ∧ (pc2 = pc0 + 1) ∧ (nd2 - nd ≤ 2 * at2 - (2 * at0 - tz tk0)) ∧ (at2 < lf2 ∨ li ≤ ln2) ∧ (vi2 = vi + 1) ∧ (sy < sy2) ∧ (wQ A' (pc2).toNat (nd2) (sy2)) ∧ (SW (Vu Vs sy) (sy2) (vi2) A') ∧ (PQ (Vu Vs sy) (sy2) (pc2) (fun _ => 0) A') ∧ (VT (Vu Vs sy) A' (sy2)) ∧ (nd2 - nd + 5 * (ec2 - ec) ≤ 2 * at2 - (2 * at0 - tz tk0))))) := by
  have hF0 : Fr [9, 10, 11, 12, 13, 14, 15, 16, 17, 18, 19, 28, 29, 31, 46] [6, 7, 8, 9, 10, 11, 12, 14, 15, 16, 17, 18, 19, 20, 21, 22, 23, 24, 28, 29, 30, 31] G A G A := Fr_rf
  have hP0 : Pf nd A A := Pf_rf
  have hS0 : Fx sr (sy) A A := Fx_rf
  have hV0 : Fx [14] (vi) A A := Fx_rf
  have hK0 : Fx [29, 30, 31] (pc0) A A := Fx_rf
  have b_ln : (0 : Int) ≤ ln ∧ ln ≤ 3000 := e_ln ▸ hW.1 9
  have b_li : (0 : Int) ≤ li ∧ li ≤ 3000 := e_li ▸ hW.1 3
  have b_at0 : (0 : Int) ≤ at0 ∧ at0 ≤ 3002 := e_at0 ▸ hW.1 10
  have b_fk : (0 : Int) ≤ fk ∧ fk ≤ 6 := e_fk ▸ hW.1 16
  have b_nd : (0 : Int) ≤ nd ∧ nd ≤ 6999 := e_nd ▸ hW.1 31
  have b_sy : (0 : Int) ≤ sy ∧ sy ≤ 202 := e_sy ▸ hW.1 19
  have b_na : (0 : Int) ≤ na ∧ na ≤ 200 := e_na ▸ hW.1 28
  have b_vi : (0 : Int) ≤ vi ∧ vi ≤ 202 := e_vi ▸ hW.1 29
  have b_le : (0 : Int) ≤ le ∧ le ≤ 3000 := e_le ▸ hW.2 4 _
  have b_op0 : (-2147483648 : Int) ≤ op0 ∧ op0 ≤ 2147483647 := e_op0 ▸ hW.1 15
  have z_tk0 := tz_f tk0
  have b_tk0 : (0 : Int) ≤ tk0 ∧ tk0 ≤ 5 := e_tk0 ▸ hW.1 11
  have b_pc0 : (0 : Int) ≤ pc0 ∧ pc0 ≤ 24 := e_pc0 ▸ hW.1 46
  intro m
  induction m using Nat.strongRecOn with
  | ind m ih253 =>
    intro L Gx Ax p many kk ln1 at1 fk1 sy1 na1 vi1 pp1 mp1 kp1 np1 lf1 hm gL_0 gL_4 gL_1 gL_2 gL_5 hWx hFx hPx hSx hVx hKx ex_ln1 ex_at1 ex_fk1 ex_sy1 ex_na1 ex_vi1 ex_pp1 ex_mp1 ex_kp1 ex_np1 ex_lf1 fx_46 fx_31 fx_900 rx_p rx_many rx_kk iv_0 iv_1 iv_2 iv_3 iv_4 iv_5 iv_6 iv_7 iv_8 iv_9 iv_10 iv_11 iv_12 iv_13 iv_14 iv_15 iv_16
    have b_ln1 : (0 : Int) ≤ ln1 ∧ ln1 ≤ 3000 := ex_ln1 ▸ hWx.1 9
    have b_at1 : (0 : Int) ≤ at1 ∧ at1 ≤ 3002 := ex_at1 ▸ hWx.1 10
    have b_fk1 : (0 : Int) ≤ fk1 ∧ fk1 ≤ 6 := ex_fk1 ▸ hWx.1 16
    have b_sy1 : (0 : Int) ≤ sy1 ∧ sy1 ≤ 202 := ex_sy1 ▸ hWx.1 19
    have b_na1 : (0 : Int) ≤ na1 ∧ na1 ≤ 200 := ex_na1 ▸ hWx.1 28
    have b_vi1 : (0 : Int) ≤ vi1 ∧ vi1 ≤ 202 := ex_vi1 ▸ hWx.1 29
    refine jx_ld (pc' := 255) (l' := L) (st' := [.int (i32 (kk))]) rfl (jl_iload gL_5) ?_
    refine jx_ld (pc' := 256) (l' := L) (st' := [.int (i32 (many)), .int (i32 (kk))]) rfl (jl_iloadn gL_2) ?_
    refine jx_icmp_ge (pc' := 259) (tg := 281) rfl rfl rfl (Int.le_trans (by decide : (-2147483648 : Int) ≤ -2147483648) rx_kk.1) (Int.le_trans rx_kk.2 (by decide : (2147483647 : Int) ≤ 2147483647)) (Int.le_trans (by decide : (-2147483648 : Int) ≤ -2147483648) rx_many.1) (Int.le_trans rx_many.2 (by decide : (2147483647 : Int) ≤ 2147483647)) (fun h22 => ?_) (fun h22 => ?_)
    · have _q := h22
      refine jx_ld (pc' := 282) (l' := L) (st' := [.ref 66]) rfl (jl_aloadn gL_0) ?_
      refine jr_get (pc' := 285) (i := 49) (v := .ref 98) rfl rfl (by decide) rfl rfl ?_
      refine jx_ld (pc' := 286) (l' := L) (st' := [.ref 66, .ref 98]) rfl (jl_aloadn gL_0) ?_
      refine jr_get (pc' := 289) (i := 46) (v := .int (i32 (pc0))) rfl rfl (by decide) (rFv_eq (by decide) (show Gx 46 = pc0 from (fx_46))) rfl ?_
      refine jx_ld (pc' := 290) (l' := L) (st' := [.ref 66, .int (i32 (pc0)), .ref 98]) rfl (jl_aloadn gL_0) ?_
      refine jx_ar (pc' := 291) (st' := [.int (i32 (1)), .ref 66, .int (i32 (pc0)), .ref 98]) rfl rfl rfl rfl ?_
      refine jx_vr (pc' := 294) (as := [.int (i32 (1))]) (st := [.int (i32 (pc0)), .ref 98]) rfl rfl rfl rfl ⟨rfl, rfl, Nat.le_of_ble_eq_true rfl⟩ rfl rfl (RPw_all X 18 (dd := d) (hd := by omega) (hW := hWx) (lv := 1) (at0 := at1) (ln := ln1) (e_ln := show Gx 9 = ln1 from (ex_ln1)) (li := li) (e_li := show Gx 3 = li from ((hFx.1 3 rfl).trans (e_li))) (fk := fk1) (e_fk := show Gx 16 = fk1 from (ex_fk1)) (nd := nd) (e_nd := show Gx 31 = nd from (fx_31)) (sy := sy1) (e_sy := show Gx 19 = sy1 from (ex_sy1)) (na := na1) (e_na := show Gx 28 = na1 from (ex_na1)) (vi := vi1) (e_vi := show Gx 29 = vi1 from (ex_vi1)) (lf := lf1) (e_lf := show Ax 3 (ln1).toNat = lf1 from (ex_lf1)) (ac := at1) (e_ac := show Gx 10 = at1 from (ex_at1)) (ec := ec) (e_ec := show ecn Ax (Gx 31) = ec from fx_900) (i_LT := (LT_ext ((hFx.1 3 rfl)) ((hFx.2 3 rfl)) ((hFx.2 4 rfl)) i_LT)) (i_SV := (SV_dec (s0 := (sy + 1)) (s1 := sy1) i_SV e_vi (show Gx 29 = vi1 from (ex_vi1)) (by omega) hVx iv_11 (by omega))) (i_PQ := (PQ_par (s0 := (sy + 1)) (s1 := sy1) i_PQ hSx (by omega) (by omega) (Fx_su hKx (by omega)) (by omega) (wM_m iv_10 (by omega)) hvb)) (hvb := (VB_d (s0 := (sy + 1)) (s1 := sy1) hvb (by omega))) (h_lv := ⟨(by decide), (by decide)⟩)  (p_0 := by omega) (p_1 := by omega) (p_2 := by omega) (p_3 := by omega) (p_4 := by omega) (p_5 := by omega) (p_6 := by omega) (p_7 := by omega) (p_8 := by omega) (p_9 := by omega) (p_10 := by omega)) (fun o V' hq => ?_)
      obtain ⟨G23, A24, r25, ln2_26, at2_27, fk2_28, nd2_29, sy2_30, na2_31, vi2_32, lf2_33, ec2_34, rfl, rfl, hW35, hF36, hQ37, hQ38, hQ39, b40, e41, e42, e43, e44, e45, e46, e47, e48, e49, p50, p51, p52, p53, p54, p55, p56, p57, p58, q59⟩ := hq
      have hF60 := Fr_tr hFx hF36 (Fr_sub (by decide)) (Fr_sub (by decide))
      have hP61 := Pf_tr hPx hQ37 (by omega)
      have hS62 := Fx_tr hSx hQ38 (by omega)
      have hV63 := Fx_tr hVx hQ39 (by omega)
      have hK64 := Fx_f hKx hF36 (by decide)
      have k65 : A24 7 (sy).toNat = kp1 := (hQ38 7 _ rfl (by omega)).trans (show Ax 7 (sy).toNat = kp1 from (ex_kp1))
      have k66 : A24 12 (sy).toNat = np1 := (hQ38 12 _ rfl (by omega)).trans (show Ax 12 (sy).toNat = np1 from (ex_np1))
      have sf67 : wM A24 (sy + 1) (many) := wM_fx hQ38 (by omega) (by omega) iv_10
      have sf68 : DS A24 (vi) (vi1) (sy + 1) (sy1) := DS_fx hQ39 (by omega) iv_11
      have bln2_26 : (0 : Int) ≤ ln2_26 ∧ ln2_26 ≤ 3000 := e41 ▸ hW35.1 9
      have bat2_27 : (0 : Int) ≤ at2_27 ∧ at2_27 ≤ 3002 := e42 ▸ hW35.1 10
      have bfk2_28 : (0 : Int) ≤ fk2_28 ∧ fk2_28 ≤ 6 := e43 ▸ hW35.1 16
      have bnd2_29 : (0 : Int) ≤ nd2_29 ∧ nd2_29 ≤ 6999 := e44 ▸ hW35.1 31
      have bsy2_30 : (0 : Int) ≤ sy2_30 ∧ sy2_30 ≤ 202 := e45 ▸ hW35.1 19
      have bna2_31 : (0 : Int) ≤ na2_31 ∧ na2_31 ≤ 200 := e46 ▸ hW35.1 28
      have bvi2_32 : (0 : Int) ≤ vi2_32 ∧ vi2_32 ≤ 202 := e47 ▸ hW35.1 29
      have blf2_33 : (0 : Int) ≤ lf2_33 ∧ lf2_33 ≤ 3000 := e48 ▸ hW35.2 3 _
      refine .inr ⟨_, rfl, ?_⟩
      rcases q59 with ⟨a69, a70⟩ | ⟨a71, a72, a73, a74, a75, a76, a77, a78, a79⟩
      · have _q : True := trivial
        refine jr_st (pc' := 295) (i := 31) (m := 25) (z := pc0) (y := r25) rfl (by decide) rfl (by decide) (by omega) (by omega) rfl ?_
        have hW81 : Wk G23 (uA A24 31 (pc0).toNat (r25)) := Wk_a hW35 (show (-2147483648 : Int) ≤ r25 by omega) (show r25 ≤ (2147483647 : Int) by omega)
        have hF82 := Fr_a (z := r25) (k := 31) (n := (pc0).toNat) hF60 (by decide)
        obtain ⟨A80, eA80⟩ : ∃ q, q = uA A24 31 (pc0).toNat (r25) := ⟨_, rfl⟩
        rw [← eA80]
        rw [← eA80] at hW81 hF82
        have q83 : A80 31 (pc0).toNat = r25 := by rw [eA80]; exact uA_eq
        have hP84 : Pf nd A A80 := eA80 ▸ Pf_n hP61 rfl
        have hS85 : Fx sr (sy) A A80 := eA80 ▸ Fx_n hS62 rfl
        have hV86 : Fx [14] (vi) A A80 := eA80 ▸ Fx_n hV63 rfl
        have hK87 : Fx [29, 30, 31] (pc0) A A80 := eA80 ▸ Fx_a hK64 (z := pc0) (by omega) (by omega)
        have sf88 : wM A80 (sy + 1) (many) := wM_fx (Sg_ne (sb := sy + 1 + many) eA80 rfl) (by omega) (by omega) sf67
        have sf89 : DS A80 (vi) (vi1) (sy + 1) (sy1) := DS_ext ((congrFun eA80 14).trans (uA_ne (by decide))) sf68
        have ec90 : ecn A80 (G23 31) = ec2_34 := (ecn_e ((congrFun eA80 15).trans (uA_ne (by decide)))).trans e49
        refine jx_ld (pc' := 296) (l' := L) (st' := [.ref 66]) rfl (jl_aloadn gL_0) ?_
        refine jx_ld (pc' := 298) (l' := L) (st' := [.int (i32 (vi)), .ref 66]) rfl (jl_iload gL_4) ?_
        refine jr_put (pc' := 301) (i := 29) (z := vi) rfl rfl (by decide) rfl rfl rfl rfl rfl rfl ?_
        have hW91 : Wk (uG G23 29 (vi)) A80 := Wk_g hW81 (show (0 : Int) ≤ vi by omega) (show vi ≤ (202 : Int) by omega)
        have hF92 := Fr_g (z := vi) (i := 29) hF82 (by decide)
        have ec93 : ecn A80 ((uG G23 29 (vi)) 31) = ec2_34 := ec90
        have _q : True := trivial
        refine jx_ld (pc' := 302) (l' := L) (st' := [.ref 66]) rfl (jl_aloadn gL_0) ?_
        refine jx_ar (pc' := 303) (st' := [.int (i32 (0)), .ref 66]) rfl rfl rfl rfl ?_
        have b94 : (-1 : Int) ≤ A 5 (ln2_26).toNat ∧ A 5 (ln2_26).toNat ≤ 15 := hW.2 5 _
        refine jx_vr (pc' := 306) (as := [.int (i32 (0))]) (st := []) rfl rfl rfl rfl ⟨rfl, rfl, Nat.le_of_ble_eq_true rfl⟩ rfl rfl (c_needLevel (dd := d) (hd := by omega) (hW := hW91) (lv := 0) (ln := ln2_26) (e_ln := show (uG G23 29 (vi)) 9 = ln2_26 from (e41)) (li := li) (e_li := show (uG G23 29 (vi)) 3 = li from ((hF36.1 3 rfl).trans ((hFx.1 3 rfl).trans (e_li)))) (fk := fk2_28) (e_fk := show (uG G23 29 (vi)) 16 = fk2_28 from (e43)) (ll := A 5 (ln2_26).toNat) (e_ll := show A80 5 (ln2_26).toNat = A 5 (ln2_26).toNat from (congrFun (((congrFun eA80 5).trans (uA_ne (by decide))).trans ((hF36.2 5 rfl).trans (hFx.2 5 rfl))) _))  (h_lv := ⟨(by decide), (by decide)⟩)  ) (fun o V' hq => ?_)
        obtain ⟨G95, A96, r97, fk2_98, rfl, rfl, hW99, hF100, b101, e102, q103⟩ := hq
        have hF104 := Fr_tr hF92 hF100 (Fr_sub (by decide)) (Fr_sub (by decide))
        have hP105 := Pf_f hP84 hF100 (by decide)
        have hS106 := Fx_f hS85 hF100 (by decide)
        have hV107 := Fx_f hV86 hF100 (by decide)
        have hK108 := Fx_f hK87 hF100 (by decide)
        have sf109 : wM A96 (sy + 1) (many) := wM_fx (Sg_fr (sb := sy + 1 + many) hF100 (by decide)) (by omega) (by omega) sf88
        have ec110 : ecn A96 (G95 31) = ec2_34 := (ecn_f (hF100.2 15 rfl) (hF100.1 31 rfl)).trans ec93
        have bfk2_98 : (0 : Int) ≤ fk2_98 ∧ fk2_98 ≤ 6 := e102 ▸ hW99.1 16
        refine .inr ⟨_, rfl, ?_⟩
        rcases q103 with ⟨rfl, a111, a112, a113, a114⟩ | ⟨rfl, a115⟩
        · have _q : True := trivial
          exfalso
          omega
        · have _q : True := trivial
          refine jx_if_eq (pc' := 309) (tg := 327) rfl rfl rfl (by decide) (by decide) (fun h116 => ?_) (fun h116 => ?_)
          · have _q := h116
            exact c_readProc_w_at_327p (X := X) (d := d) (Vs := Vs) (sb := sb) (pb := pb) (hvb := hvb) (c0 := c0) (c1 := c1) (G := G) (A := A) (T := T) (ln := ln) (li := li) (at0 := at0) (fk := fk) (nd := nd) (sy := sy) (na := na) (vi := vi) (le := le) (op0 := op0) (tk0 := tk0) (pc0 := pc0) (ec := ec) (hd := hd) (hW := hW) (e_ln := e_ln) (e_li := e_li) (e_at0 := e_at0) (e_fk := e_fk) (e_nd := e_nd) (e_sy := e_sy) (e_na := e_na) (e_vi := e_vi) (e_le := e_le) (e_op0 := e_op0) (e_tk0 := e_tk0) (e_pc0 := e_pc0) (e_ec := e_ec) (i_LT := i_LT) (i_SV := i_SV) (i_PQ := i_PQ) (p_0 := p_0) (p_1 := p_1) (p_2 := p_2) (p_3 := p_3) (p_4 := p_4) (p_5 := p_5) (p_6 := p_6) (p_7 := p_7) (p_8 := p_8) (p_9 := p_9) L G95 A96 (p) (ln2_26) (fk2_98) (sy2_30) (na2_31) (ec2_34) gL_0 gL_1 hW99 hF104 hP105 hS106 hV107 hK108 (((hF100.1 9 rfl).trans (e41))) ((e102)) (((hF100.1 19 rfl).trans (e45))) (((hF100.1 28 rfl).trans (e46))) (ec110) ((hF100.1 29 rfl)) (((hF100.1 46 rfl).trans ((hF36.1 46 rfl).trans (fx_46)))) (by omega) (by omega) (by omega) (by omega) (by omega) (by omega) (by omega) (by omega)
          · have _q := h116
            exact absurd h116 (by omega)
      · have _q : True := trivial
        refine jr_st (pc' := 295) (i := 31) (m := 25) (z := pc0) (y := r25) rfl (by decide) rfl (by decide) (by omega) (by omega) rfl ?_
        have hW118 : Wk G23 (uA A24 31 (pc0).toNat (r25)) := Wk_a hW35 (show (-2147483648 : Int) ≤ r25 by omega) (show r25 ≤ (2147483647 : Int) by omega)
        have hF119 := Fr_a (z := r25) (k := 31) (n := (pc0).toNat) hF60 (by decide)
        obtain ⟨A117, eA117⟩ : ∃ q, q = uA A24 31 (pc0).toNat (r25) := ⟨_, rfl⟩
        rw [← eA117]
        rw [← eA117] at hW118 hF119
        have q120 : A117 31 (pc0).toNat = r25 := by rw [eA117]; exact uA_eq
        have hP121 : Pf nd A A117 := eA117 ▸ Pf_n hP61 rfl
        have hS122 : Fx sr (sy) A A117 := eA117 ▸ Fx_n hS62 rfl
        have hV123 : Fx [14] (vi) A A117 := eA117 ▸ Fx_n hV63 rfl
        have hK124 : Fx [29, 30, 31] (pc0) A A117 := eA117 ▸ Fx_a hK64 (z := pc0) (by omega) (by omega)
        have sf125 : wM A117 (sy + 1) (many) := wM_fx (Sg_ne (sb := sy + 1 + many) eA117 rfl) (by omega) (by omega) sf67
        have sf126 : DS A117 (vi) (vi1) (sy + 1) (sy1) := DS_ext ((congrFun eA117 14).trans (uA_ne (by decide))) sf68
        have sf127 : wP A117 (sy2_30) pb (18) (Vd Vs (sy + 1) sy1) (r25) (nd) (nd2_29) (sy1) (sy2_30) := wP_ag (Sg_ne eA117 rfl) (Qg_ne eA117 rfl) (by omega) (by omega) (Ax_ag (Ag_ne eA117 rfl)) a77
        have sf128 : NX A117 (r25) := NX_r eA117 (by decide) a78
        have ec129 : ecn A117 (G23 31) = ec2_34 := (ecn_e ((congrFun eA117 15).trans (uA_ne (by decide)))).trans e49
        refine jx_ld (pc' := 296) (l' := L) (st' := [.ref 66]) rfl (jl_aloadn gL_0) ?_
        refine jx_ld (pc' := 298) (l' := L) (st' := [.int (i32 (vi)), .ref 66]) rfl (jl_iload gL_4) ?_
        refine jr_put (pc' := 301) (i := 29) (z := vi) rfl rfl (by decide) rfl rfl rfl rfl rfl rfl ?_
        have hW130 : Wk (uG G23 29 (vi)) A117 := Wk_g hW118 (show (0 : Int) ≤ vi by omega) (show vi ≤ (202 : Int) by omega)
        have hF131 := Fr_g (z := vi) (i := 29) hF119 (by decide)
        have ec132 : ecn A117 ((uG G23 29 (vi)) 31) = ec2_34 := ec129
        have _q : True := trivial
        refine jx_ld (pc' := 302) (l' := L) (st' := [.ref 66]) rfl (jl_aloadn gL_0) ?_
        refine jx_ar (pc' := 303) (st' := [.int (i32 (0)), .ref 66]) rfl rfl rfl rfl ?_
        have b133 : (-1 : Int) ≤ A 5 (ln2_26).toNat ∧ A 5 (ln2_26).toNat ≤ 15 := hW.2 5 _
        refine jx_vr (pc' := 306) (as := [.int (i32 (0))]) (st := []) rfl rfl rfl rfl ⟨rfl, rfl, Nat.le_of_ble_eq_true rfl⟩ rfl rfl (c_needLevel (dd := d) (hd := by omega) (hW := hW130) (lv := 0) (ln := ln2_26) (e_ln := show (uG G23 29 (vi)) 9 = ln2_26 from (e41)) (li := li) (e_li := show (uG G23 29 (vi)) 3 = li from ((hF36.1 3 rfl).trans ((hFx.1 3 rfl).trans (e_li)))) (fk := fk2_28) (e_fk := show (uG G23 29 (vi)) 16 = fk2_28 from (e43)) (ll := A 5 (ln2_26).toNat) (e_ll := show A117 5 (ln2_26).toNat = A 5 (ln2_26).toNat from (congrFun (((congrFun eA117 5).trans (uA_ne (by decide))).trans ((hF36.2 5 rfl).trans (hFx.2 5 rfl))) _))  (h_lv := ⟨(by decide), (by decide)⟩)  ) (fun o V' hq => ?_)
        obtain ⟨G134, A135, r136, fk2_137, rfl, rfl, hW138, hF139, b140, e141, q142⟩ := hq
        have hF143 := Fr_tr hF131 hF139 (Fr_sub (by decide)) (Fr_sub (by decide))
        have hP144 := Pf_f hP121 hF139 (by decide)
        have hS145 := Fx_f hS122 hF139 (by decide)
        have hV146 := Fx_f hV123 hF139 (by decide)
        have hK147 := Fx_f hK124 hF139 (by decide)
        have sf148 : wM A135 (sy + 1) (many) := wM_fx (Sg_fr (sb := sy + 1 + many) hF139 (by decide)) (by omega) (by omega) sf125
        have sf149 : wP A135 (sy2_30) pb (18) (Vd Vs (sy + 1) sy1) (r25) (nd) (nd2_29) (sy1) (sy2_30) := wP_ag (Sg_fr hF139 (by decide)) (Qg_fr hF139 (by decide)) (by omega) (by omega) (Ax_ag (Ag_fr hF139 (by decide))) sf127
        have sf150 : NX A135 (r25) := NX_ag (by omega) (Ag_fr hF139 (by decide)) sf128
        have ec151 : ecn A135 (G134 31) = ec2_34 := (ecn_f (hF139.2 15 rfl) (hF139.1 31 rfl)).trans ec132
        have bfk2_137 : (0 : Int) ≤ fk2_137 ∧ fk2_137 ≤ 6 := e141 ▸ hW138.1 16
        refine .inr ⟨_, rfl, ?_⟩
        rcases q142 with ⟨rfl, a152, a153, a154, a155⟩ | ⟨rfl, a156⟩
        · have _q : True := trivial
          have b157 : (0 : Int) ≤ A 4 (ln2_26).toNat ∧ A 4 (ln2_26).toNat ≤ 3000 := hW.2 4 _
          have lt158 : lf2_33 < A 4 (ln2_26).toNat := LT_at (LT_ext (((hF139.1 3 rfl).trans ((hF36.1 3 rfl).trans (hFx.1 3 rfl)))) (((hF139.2 3 rfl).trans (((congrFun eA117 3).trans (uA_ne (by decide))).trans ((hF36.2 3 rfl).trans (hFx.2 3 rfl))))) (((hF139.2 4 rfl).trans (((congrFun eA117 4).trans (uA_ne (by decide))).trans ((hF36.2 4 rfl).trans (hFx.2 4 rfl))))) i_LT) (show G134 3 = li from ((hF139.1 3 rfl).trans ((hF36.1 3 rfl).trans ((hFx.1 3 rfl).trans (e_li))))) (show A135 3 (ln2_26).toNat = lf2_33 from (congrFun ((hF139.2 3 rfl).trans ((congrFun eA117 3).trans (uA_ne (by decide)))) _).trans (e48)) (show A135 4 (ln2_26).toNat = A 4 (ln2_26).toNat from (congrFun ((hF139.2 4 rfl).trans (((congrFun eA117 4).trans (uA_ne (by decide))).trans ((hF36.2 4 rfl).trans (hFx.2 4 rfl)))) _)) (by omega) (by omega)
          refine jx_if_eq (pc' := 309) (tg := 327) rfl rfl rfl (by decide) (by decide) (fun h159 => ?_) (fun h159 => ?_)
          · have _q := h159
            exact absurd h159 (by omega)
          · have _q := h159
            refine jx_ld (pc' := 310) (l' := L) (st' := [.ref 66]) rfl (jl_aloadn gL_0) ?_
            refine jx_vr (pc' := 313) (as := []) (st := []) rfl rfl rfl rfl ⟨rfl, rfl, Nat.le_of_ble_eq_true rfl⟩ rfl rfl (c_openLine (dd := d) (hd := by omega) (hW := hW138)  (ln := ln2_26) (e_ln := show G134 9 = ln2_26 from ((hF139.1 9 rfl).trans (e41))) (le := A 4 (ln2_26).toNat) (e_le := show A135 4 (ln2_26).toNat = A 4 (ln2_26).toNat from (congrFun ((hF139.2 4 rfl).trans (((congrFun eA117 4).trans (uA_ne (by decide))).trans ((hF36.2 4 rfl).trans (hFx.2 4 rfl)))) _)) (lf := lf2_33) (e_lf := show A135 3 (ln2_26).toNat = lf2_33 from (congrFun ((hF139.2 3 rfl).trans ((congrFun eA117 3).trans (uA_ne (by decide)))) _).trans (e48))    (p_0 := by omega)) (fun o V' hq => ?_)
            obtain ⟨G160, A161, at2_162, tk2_163, op2_164, rfl, rfl, hW165, hF166, e167, e168, e169, p170, p171, p172, p173, -⟩ := hq
            have hF175 := Fr_tr hF143 hF166 (Fr_sub (by decide)) (Fr_sub (by decide))
            have hP176 := Pf_f hP144 hF166 (by decide)
            have hS177 := Fx_f hS145 hF166 (by decide)
            have hV178 := Fx_f hV146 hF166 (by decide)
            have hK179 := Fx_f hK147 hF166 (by decide)
            have sf180 : wM A161 (sy + 1) (many) := wM_fx (Sg_fr (sb := sy + 1 + many) hF166 (by decide)) (by omega) (by omega) sf148
            have sf181 : wP A161 (sy2_30) pb (18) (Vd Vs (sy + 1) sy1) (r25) (nd) (nd2_29) (sy1) (sy2_30) := wP_ag (Sg_fr hF166 (by decide)) (Qg_fr hF166 (by decide)) (by omega) (by omega) (Ax_ag (Ag_fr hF166 (by decide))) sf149
            have sf182 : NX A161 (r25) := NX_ag (by omega) (Ag_fr hF166 (by decide)) sf150
            have ec183 : ecn A161 (G160 31) = ec2_34 := (ecn_f (hF166.2 15 rfl) (hF166.1 31 rfl)).trans ec151
            have bat2_162 : (0 : Int) ≤ at2_162 ∧ at2_162 ≤ 3002 := e167 ▸ hW165.1 10
            have ztk2_163 := tz_b tk2_163
            have btk2_163 : (0 : Int) ≤ tk2_163 ∧ tk2_163 ≤ 5 := e168 ▸ hW165.1 11
            have bop2_164 : (-2147483648 : Int) ≤ op2_164 ∧ op2_164 ≤ 2147483647 := e169 ▸ hW165.1 15
            refine .inl ⟨rfl, ?_⟩
            have pz184 : lf2_33 + tz tk2_163 ≤ at2_162 := by omega
            refine jx_ld (pc' := 314) (l' := L) (st' := [.ref 66]) rfl (jl_aloadn gL_0) ?_
            refine jx_ld (pc' := 315) (l' := L) (st' := [.ref 66, .ref 66]) rfl (jl_aloadn gL_0) ?_
            refine jx_ar (pc' := 317) (st' := [.int (i32 (58)), .ref 66, .ref 66]) rfl rfl rfl rfl ?_
            have b185 : (-2147483648 : Int) ≤ G160 13 ∧ G160 13 ≤ 2147483647 := hW165.1 13
            refine jx_vr (pc' := 320) (as := [.int (i32 (58))]) (st := [.ref 66]) rfl rfl rfl rfl ⟨rfl, rfl, Nat.le_of_ble_eq_true rfl⟩ rfl rfl (c_is (dd := d) (hd := by omega) (hW := hW165) (k := 58) (tk := tk2_163) (e_tk := show G160 11 = tk2_163 from (e168)) (tn := G160 13) (e_tn := show G160 13 = G160 13 from rfl)  (h_k := ⟨(by decide), (by decide)⟩)  ) (fun o V' hq => ?_)
            obtain ⟨r186, rfl, rfl, b187, q188⟩ := hq
            refine .inr ⟨_, rfl, ?_⟩
            rcases q188 with ⟨rfl, a189, a190, a191⟩ | rfl
            · have _q : True := trivial
              refine jx_vr (pc' := 323) (as := [.int (i32 (1))]) (st := []) rfl rfl rfl rfl ⟨rfl, rfl, Nat.le_of_ble_eq_true rfl⟩ rfl rfl (c_need (dd := d) (hd := by omega) (hW := hW165) (g := 1) (ln := ln2_26) (e_ln := show G160 9 = ln2_26 from ((hF166.1 9 rfl).trans ((hF139.1 9 rfl).trans (e41)))) (le := A 4 (ln2_26).toNat) (e_le := show A161 4 (ln2_26).toNat = A 4 (ln2_26).toNat from (congrFun ((hF166.2 4 rfl).trans ((hF139.2 4 rfl).trans (((congrFun eA117 4).trans (uA_ne (by decide))).trans ((hF36.2 4 rfl).trans (hFx.2 4 rfl))))) _)) (at0 := at2_162) (e_at0 := show G160 10 = at2_162 from (e167)) (fk := fk2_137) (e_fk := show G160 16 = fk2_137 from ((hF166.1 16 rfl).trans (e141))) (tk0 := tk2_163) (e_tk0 := show G160 11 = tk2_163 from (e168))  (h_g := ⟨(by decide), (by decide)⟩)  (p_0 := by omega)) (fun o V' hq => ?_)
              obtain ⟨G192, A193, at2_194, tk2_195, fk2_196, rfl, rfl, hW197, hF198, e199, e200, e201, p202, p203, q204⟩ := hq
              have hF205 := Fr_tr hF175 hF198 (Fr_sub (by decide)) (Fr_sub (by decide))
              have hP206 := Pf_f hP176 hF198 (by decide)
              have hS207 := Fx_f hS177 hF198 (by decide)
              have hV208 := Fx_f hV178 hF198 (by decide)
              have hK209 := Fx_f hK179 hF198 (by decide)
              have sf210 : wM A193 (sy + 1) (many) := wM_fx (Sg_fr (sb := sy + 1 + many) hF198 (by decide)) (by omega) (by omega) sf180
              have sf211 : wP A193 (sy2_30) pb (18) (Vd Vs (sy + 1) sy1) (r25) (nd) (nd2_29) (sy1) (sy2_30) := wP_ag (Sg_fr hF198 (by decide)) (Qg_fr hF198 (by decide)) (by omega) (by omega) (Ax_ag (Ag_fr hF198 (by decide))) sf181
              have sf212 : NX A193 (r25) := NX_ag (by omega) (Ag_fr hF198 (by decide)) sf182
              have ec213 : ecn A193 (G192 31) = ec2_34 := (ecn_f (hF198.2 15 rfl) (hF198.1 31 rfl)).trans ec183
              have bat2_194 : (0 : Int) ≤ at2_194 ∧ at2_194 ≤ 3002 := e199 ▸ hW197.1 10
              have ztk2_195 := tz_b tk2_195
              have btk2_195 : (0 : Int) ≤ tk2_195 ∧ tk2_195 ≤ 5 := e200 ▸ hW197.1 11
              have bfk2_196 : (0 : Int) ≤ fk2_196 ∧ fk2_196 ≤ 6 := e201 ▸ hW197.1 16
              refine .inl ⟨rfl, ?_⟩
              rcases q204 with ⟨a214, a215, a216, a217⟩ | ⟨a218, a219, a220, a221⟩
              · have _q : True := trivial
                refine jx_ld (pc' := 324) (l' := L) (st' := [.ref 66]) rfl (jl_aloadn gL_0) ?_
                refine jx_vr (pc' := 327) (as := []) (st := []) rfl rfl rfl rfl ⟨rfl, rfl, Nat.le_of_ble_eq_true rfl⟩ rfl rfl (c_endLine (dd := d) (hd := by omega) (hW := hW197)  (ln := ln2_26) (e_ln := show G192 9 = ln2_26 from ((hF198.1 9 rfl).trans ((hF166.1 9 rfl).trans ((hF139.1 9 rfl).trans (e41))))) (li := li) (e_li := show G192 3 = li from ((hF198.1 3 rfl).trans ((hF166.1 3 rfl).trans ((hF139.1 3 rfl).trans ((hF36.1 3 rfl).trans ((hFx.1 3 rfl).trans (e_li))))))) (fk := fk2_196) (e_fk := show G192 16 = fk2_196 from (e201)) (tk0 := tk2_195) (e_tk0 := show G192 11 = tk2_195 from (e200))    (p_0 := by omega)) (fun o V' hq => ?_)
                obtain ⟨G222, A223, ln2_224, fk2_225, rfl, rfl, hW226, hF227, e228, e229, q230⟩ := hq
                have hF231 := Fr_tr hF205 hF227 (Fr_sub (by decide)) (Fr_sub (by decide))
                have hP232 := Pf_f hP206 hF227 (by decide)
                have hS233 := Fx_f hS207 hF227 (by decide)
                have hV234 := Fx_f hV208 hF227 (by decide)
                have hK235 := Fx_f hK209 hF227 (by decide)
                have sf236 : wM A223 (sy + 1) (many) := wM_fx (Sg_fr (sb := sy + 1 + many) hF227 (by decide)) (by omega) (by omega) sf210
                have sf237 : wP A223 (sy2_30) pb (18) (Vd Vs (sy + 1) sy1) (r25) (nd) (nd2_29) (sy1) (sy2_30) := wP_ag (Sg_fr hF227 (by decide)) (Qg_fr hF227 (by decide)) (by omega) (by omega) (Ax_ag (Ag_fr hF227 (by decide))) sf211
                have sf238 : NX A223 (r25) := NX_ag (by omega) (Ag_fr hF227 (by decide)) sf212
                have ec239 : ecn A223 (G222 31) = ec2_34 := (ecn_f (hF227.2 15 rfl) (hF227.1 31 rfl)).trans ec213
                have bln2_224 : (0 : Int) ≤ ln2_224 ∧ ln2_224 ≤ 3000 := e228 ▸ hW226.1 9
                have bfk2_225 : (0 : Int) ≤ fk2_225 ∧ fk2_225 ≤ 6 := e229 ▸ hW226.1 16
                refine .inl ⟨rfl, ?_⟩
                rcases q230 with ⟨a240, a241, a242, a243, a244⟩ | ⟨a245, a246⟩
                · have _q : True := trivial
                  exfalso
                  omega
                · have _q : True := trivial
                  exact c_readProc_w_at_327p (X := X) (d := d) (Vs := Vs) (sb := sb) (pb := pb) (hvb := hvb) (c0 := c0) (c1 := c1) (G := G) (A := A) (T := T) (ln := ln) (li := li) (at0 := at0) (fk := fk) (nd := nd) (sy := sy) (na := na) (vi := vi) (le := le) (op0 := op0) (tk0 := tk0) (pc0 := pc0) (ec := ec) (hd := hd) (hW := hW) (e_ln := e_ln) (e_li := e_li) (e_at0 := e_at0) (e_fk := e_fk) (e_nd := e_nd) (e_sy := e_sy) (e_na := e_na) (e_vi := e_vi) (e_le := e_le) (e_op0 := e_op0) (e_tk0 := e_tk0) (e_pc0 := e_pc0) (e_ec := e_ec) (i_LT := i_LT) (i_SV := i_SV) (i_PQ := i_PQ) (p_0 := p_0) (p_1 := p_1) (p_2 := p_2) (p_3 := p_3) (p_4 := p_4) (p_5 := p_5) (p_6 := p_6) (p_7 := p_7) (p_8 := p_8) (p_9 := p_9) L G222 A223 (p) (ln2_224) (fk2_225) (sy2_30) (na2_31) (ec2_34) gL_0 gL_1 hW226 hF231 hP232 hS233 hV234 hK235 ((e228)) ((e229)) (((hF227.1 19 rfl).trans ((hF198.1 19 rfl).trans ((hF166.1 19 rfl).trans ((hF139.1 19 rfl).trans (e45)))))) (((hF227.1 28 rfl).trans ((hF198.1 28 rfl).trans ((hF166.1 28 rfl).trans ((hF139.1 28 rfl).trans (e46)))))) (ec239) (((hF227.1 29 rfl).trans ((hF198.1 29 rfl).trans ((hF166.1 29 rfl).trans (hF139.1 29 rfl))))) (((hF227.1 46 rfl).trans ((hF198.1 46 rfl).trans ((hF166.1 46 rfl).trans ((hF139.1 46 rfl).trans ((hF36.1 46 rfl).trans (fx_46))))))) (by omega) (by omega) (by omega) (by omega) (by omega) (by omega) (by omega) (by omega)
              · have _q : True := trivial
                have pz247 : at2_162 + tz tk2_195 ≤ at2_194 := by omega
                refine jx_ld (pc' := 324) (l' := L) (st' := [.ref 66]) rfl (jl_aloadn gL_0) ?_
                refine jx_vr (pc' := 327) (as := []) (st := []) rfl rfl rfl rfl ⟨rfl, rfl, Nat.le_of_ble_eq_true rfl⟩ rfl rfl (c_endLine (dd := d) (hd := by omega) (hW := hW197)  (ln := ln2_26) (e_ln := show G192 9 = ln2_26 from ((hF198.1 9 rfl).trans ((hF166.1 9 rfl).trans ((hF139.1 9 rfl).trans (e41))))) (li := li) (e_li := show G192 3 = li from ((hF198.1 3 rfl).trans ((hF166.1 3 rfl).trans ((hF139.1 3 rfl).trans ((hF36.1 3 rfl).trans ((hFx.1 3 rfl).trans (e_li))))))) (fk := fk2_196) (e_fk := show G192 16 = fk2_196 from (e201)) (tk0 := tk2_195) (e_tk0 := show G192 11 = tk2_195 from (e200))    (p_0 := by omega)) (fun o V' hq => ?_)
                obtain ⟨G248, A249, ln2_250, fk2_251, rfl, rfl, hW252, hF253, e254, e255, q256⟩ := hq
                have hF257 := Fr_tr hF205 hF253 (Fr_sub (by decide)) (Fr_sub (by decide))
                have hP258 := Pf_f hP206 hF253 (by decide)
                have hS259 := Fx_f hS207 hF253 (by decide)
                have hV260 := Fx_f hV208 hF253 (by decide)
                have hK261 := Fx_f hK209 hF253 (by decide)
                have sf262 : wM A249 (sy + 1) (many) := wM_fx (Sg_fr (sb := sy + 1 + many) hF253 (by decide)) (by omega) (by omega) sf210
                have sf263 : wP A249 (sy2_30) pb (18) (Vd Vs (sy + 1) sy1) (r25) (nd) (nd2_29) (sy1) (sy2_30) := wP_ag (Sg_fr hF253 (by decide)) (Qg_fr hF253 (by decide)) (by omega) (by omega) (Ax_ag (Ag_fr hF253 (by decide))) sf211
                have sf264 : NX A249 (r25) := NX_ag (by omega) (Ag_fr hF253 (by decide)) sf212
                have ec265 : ecn A249 (G248 31) = ec2_34 := (ecn_f (hF253.2 15 rfl) (hF253.1 31 rfl)).trans ec213
                have bln2_250 : (0 : Int) ≤ ln2_250 ∧ ln2_250 ≤ 3000 := e254 ▸ hW252.1 9
                have bfk2_251 : (0 : Int) ≤ fk2_251 ∧ fk2_251 ≤ 6 := e255 ▸ hW252.1 16
                refine .inl ⟨rfl, ?_⟩
                rcases q256 with ⟨a266, a267, a268, a269, a270⟩ | ⟨a271, a272⟩
                · have _q : True := trivial
                  have b273 : (0 : Int) ≤ A 3 (ln2_250).toNat ∧ A 3 (ln2_250).toNat ≤ 3000 := hW.2 3 _
                  have lt274 : ln2_250 < li → A 4 (ln2_26).toNat < A 3 (ln2_250).toNat := fun hh => LT_nx (LT_ext (((hF253.1 3 rfl).trans ((hF198.1 3 rfl).trans ((hF166.1 3 rfl).trans ((hF139.1 3 rfl).trans ((hF36.1 3 rfl).trans (hFx.1 3 rfl))))))) (((hF253.2 3 rfl).trans ((hF198.2 3 rfl).trans ((hF166.2 3 rfl).trans ((hF139.2 3 rfl).trans (((congrFun eA117 3).trans (uA_ne (by decide))).trans ((hF36.2 3 rfl).trans (hFx.2 3 rfl)))))))) (((hF253.2 4 rfl).trans ((hF198.2 4 rfl).trans ((hF166.2 4 rfl).trans ((hF139.2 4 rfl).trans (((congrFun eA117 4).trans (uA_ne (by decide))).trans ((hF36.2 4 rfl).trans (hFx.2 4 rfl)))))))) i_LT) (show G248 3 = li from ((hF253.1 3 rfl).trans ((hF198.1 3 rfl).trans ((hF166.1 3 rfl).trans ((hF139.1 3 rfl).trans ((hF36.1 3 rfl).trans ((hFx.1 3 rfl).trans (e_li)))))))) (show A249 4 (ln2_26).toNat = A 4 (ln2_26).toNat from (congrFun ((hF253.2 4 rfl).trans ((hF198.2 4 rfl).trans ((hF166.2 4 rfl).trans ((hF139.2 4 rfl).trans (((congrFun eA117 4).trans (uA_ne (by decide))).trans ((hF36.2 4 rfl).trans (hFx.2 4 rfl))))))) _)) (show A249 3 (ln2_250).toNat = A 3 (ln2_250).toNat from (congrFun ((hF253.2 3 rfl).trans ((hF198.2 3 rfl).trans ((hF166.2 3 rfl).trans ((hF139.2 3 rfl).trans (((congrFun eA117 3).trans (uA_ne (by decide))).trans ((hF36.2 3 rfl).trans (hFx.2 3 rfl))))))) _)) (show ln2_250 = ln2_26 + 1 by omega) (by omega) hh
                  refine jx_ld (pc' := 328) (l' := L) (st' := [.ref 66]) rfl (jl_aloadn gL_0) ?_
                  refine jx_ld (pc' := 329) (l' := L) (st' := [.int (i32 (p)), .ref 66]) rfl (jl_iloadn gL_1) ?_
                  refine jx_vr (pc' := 332) (as := [.int (i32 (p))]) (st := []) rfl rfl rfl rfl ⟨rfl, rfl, Nat.le_of_ble_eq_true rfl⟩ rfl rfl (c_show (dd := d) (hd := by omega) (hW := hW252) (s := p) (vi := vi) (e_vi := show G248 29 = vi from ((hF253.1 29 rfl).trans ((hF198.1 29 rfl).trans ((hF166.1 29 rfl).trans (hF139.1 29 rfl)))))  (h_s := ⟨(Int.le_trans (by decide : (-2147483648 : Int) ≤ -2147483648) rx_p.1), (Int.le_trans rx_p.2 (by decide : (2147483647 : Int) ≤ 2147483647))⟩)  (p_0 := by omega) (p_1 := by omega)) (fun o V' hq => ?_)
                  obtain ⟨G275, A276, vi2_277, sv2_278, rfl, rfl, hW279, hF280, hQ281, e282, e283, p284, p285, -⟩ := hq
                  have hF287 := Fr_tr hF257 hF280 (Fr_sub (by decide)) (Fr_sub (by decide))
                  have hP288 := Pf_f hP258 hF280 (by decide)
                  have hS289 := Fx_f hS259 hF280 (by decide)
                  have hV290 := Fx_tr hV260 hQ281 (by omega)
                  have hK291 := Fx_f hK261 hF280 (by decide)
                  have sf292 : wM A276 (sy + 1) (many) := wM_fx (Sg_fr (sb := sy + 1 + many) hF280 (by decide)) (by omega) (by omega) sf262
                  have sf293 : wP A276 (sy2_30) pb (18) (Vd Vs (sy + 1) sy1) (r25) (nd) (nd2_29) (sy1) (sy2_30) := wP_ag (Sg_fr hF280 (by decide)) (Qg_fr hF280 (by decide)) (by omega) (by omega) (Ax_ag (Ag_fr hF280 (by decide))) sf263
                  have sf294 : NX A276 (r25) := NX_ag (by omega) (Ag_fr hF280 (by decide)) sf264
                  have ec295 : ecn A276 (G275 31) = ec2_34 := (ecn_f (hF280.2 15 rfl) (hF280.1 31 rfl)).trans ec265
                  have bvi2_277 : (0 : Int) ≤ vi2_277 ∧ vi2_277 ≤ 202 := e282 ▸ hW279.1 29
                  have bsv2_278 : (0 : Int) ≤ sv2_278 ∧ sv2_278 ≤ 201 := e283 ▸ hW279.2 14 _
                  refine .inl ⟨rfl, ?_⟩
                  refine jx_ld (pc' := 333) (l' := L) (st' := [.ref 66]) rfl (jl_aloadn gL_0) ?_
                  refine jx_ar (pc' := 334) (st' := [.ref 66, .ref 66]) rfl rfl rfl rfl ?_
                  refine jr_get (pc' := 337) (i := 46) (v := .int (i32 (pc0))) rfl rfl (by decide) (rFv_eq (by decide) (show G275 46 = pc0 from ((hF280.1 46 rfl).trans ((hF253.1 46 rfl).trans ((hF198.1 46 rfl).trans ((hF166.1 46 rfl).trans ((hF139.1 46 rfl).trans ((hF36.1 46 rfl).trans (fx_46))))))))) rfl ?_
                  refine jx_ar (pc' := 338) (st' := [.int (i32 (1)), .int (i32 (pc0)), .ref 66]) rfl rfl rfl rfl ?_
                  refine jx_add (pc' := 339) rfl rfl ?_
                  refine jr_put (pc' := 342) (i := 46) (z := (pc0 + 1)) rfl rfl (by decide) rfl rfl rfl rfl rfl rfl ?_
                  have hW296 : Wk (uG G275 46 ((pc0 + 1))) A276 := Wk_g hW279 (show (0 : Int) ≤ (pc0 + 1) by omega) (show (pc0 + 1) ≤ (24 : Int) by omega)
                  have hF297 := Fr_g (z := (pc0 + 1)) (i := 46) hF287 (by decide)
                  have ec298 : ecn A276 ((uG G275 46 ((pc0 + 1))) 31) = ec2_34 := ec295
                  refine jx_rt (v := none) rfl rfl rfl rfl rfl rfl ?_
                  exact ⟨_, _, ln2_250, at2_194, fk2_251, nd2_29, sy2_30, na2_31, vi2_277, A 3 (ln2_250).toNat, (pc0 + 1), ec2_34, rfl, rfl, hW296, hF297, hP288, hS289, hV290, hK291, ((hF280.1 9 rfl).trans (e254)), ((hF280.1 10 rfl).trans ((hF253.1 10 rfl).trans (e199))), ((hF280.1 16 rfl).trans (e255)), ((hF280.1 31 rfl).trans ((hF253.1 31 rfl).trans ((hF198.1 31 rfl).trans ((hF166.1 31 rfl).trans ((hF139.1 31 rfl).trans (e44)))))), ((hF280.1 19 rfl).trans ((hF253.1 19 rfl).trans ((hF198.1 19 rfl).trans ((hF166.1 19 rfl).trans ((hF139.1 19 rfl).trans (e45)))))), ((hF280.1 28 rfl).trans ((hF253.1 28 rfl).trans ((hF198.1 28 rfl).trans ((hF166.1 28 rfl).trans ((hF139.1 28 rfl).trans (e46)))))), (e282), (congrFun ((hF280.2 3 rfl).trans ((hF253.2 3 rfl).trans ((hF198.2 3 rfl).trans ((hF166.2 3 rfl).trans ((hF139.2 3 rfl).trans (((congrFun eA117 3).trans (uA_ne (by decide))).trans ((hF36.2 3 rfl).trans (hFx.2 3 rfl)))))))) _), rfl, ec298, by omega, by omega, by omega, by omega, by first | exact Or.inr ((⟨by omega, by omega, by omega, by omega, by omega, by omega, by omega, by omega, (wQ_mk (m := many) (pb := pb) (by omega) (by omega) (wQ_fx hP288 hS289 (Fx_su hK291 (by omega)) p_8) (by omega) (by omega) (by omega) (by omega) (by omega) ((show A276 7 (sy).toNat = kp1 from (congrFun ((hF280.2 7 rfl).trans ((hF253.2 7 rfl).trans ((hF198.2 7 rfl).trans ((hF166.2 7 rfl).trans ((hF139.2 7 rfl).trans ((congrFun eA117 7).trans (uA_ne (by decide)))))))) _).trans (k65)).trans (by omega : kp1 = 14)) ((show A276 12 (sy).toNat = np1 from (congrFun ((hF280.2 12 rfl).trans ((hF253.2 12 rfl).trans ((hF198.2 12 rfl).trans ((hF166.2 12 rfl).trans ((hF139.2 12 rfl).trans ((congrFun eA117 12).trans (uA_ne (by decide)))))))) _).trans (k66)).trans (by omega : np1 = pc0)) ((show A276 29 (pc0).toNat = pp1 from (congrFun ((hF280.2 29 rfl).trans ((hF253.2 29 rfl).trans ((hF198.2 29 rfl).trans ((hF166.2 29 rfl).trans ((hF139.2 29 rfl).trans (((congrFun eA117 29).trans (uA_ne (by decide))).trans (hF36.2 29 rfl))))))) _).trans (ex_pp1)).trans (by omega : pp1 = sy + 1)) ((show A276 30 (pc0).toNat = mp1 from (congrFun ((hF280.2 30 rfl).trans ((hF253.2 30 rfl).trans ((hF198.2 30 rfl).trans ((hF166.2 30 rfl).trans ((hF139.2 30 rfl).trans (((congrFun eA117 30).trans (uA_ne (by decide))).trans (hF36.2 30 rfl))))))) _).trans (ex_mp1)).trans (by omega : mp1 = many)) (show A276 31 (pc0).toNat = r25 from (congrFun ((hF280.2 31 rfl).trans ((hF253.2 31 rfl).trans ((hF198.2 31 rfl).trans ((hF166.2 31 rfl).trans (hF139.2 31 rfl))))) _).trans (q120)) sf292 (VT_fx hS289 (by omega) p_9) (by omega) sf293), (SV_sw (SV_show (w := sy2_30) i_SV e_vi (show (uG G275 46 ((pc0 + 1))) 29 = vi2_277 from (e282)) (by omega) hV290 ((show A276 14 (vi).toNat = sv2_278 from (e283)).trans (by omega : sv2_278 = sy)) (by omega) (by omega) (by omega) (by omega)) (show (uG G275 46 ((pc0 + 1))) 29 = vi2_277 from (e282))), (PQ_proc (s1 := sy2_30) i_PQ hS289 (by omega) (by omega) (Fx_su hK291 (by omega)) (by omega) (by omega) (by omega) (((show A276 12 (sy).toNat = np1 from (congrFun ((hF280.2 12 rfl).trans ((hF253.2 12 rfl).trans ((hF198.2 12 rfl).trans ((hF166.2 12 rfl).trans ((hF139.2 12 rfl).trans ((congrFun eA117 12).trans (uA_ne (by decide)))))))) _).trans (k66)).trans (by omega : np1 = pc0)).trans (by omega)) (by rw [show pb = pc0 by omega, ((show A276 30 (pc0).toNat = mp1 from (congrFun ((hF280.2 30 rfl).trans ((hF253.2 30 rfl).trans ((hF198.2 30 rfl).trans ((hF166.2 30 rfl).trans ((hF139.2 30 rfl).trans (((congrFun eA117 30).trans (uA_ne (by decide))).trans (hF36.2 30 rfl))))))) _).trans (ex_mp1)).trans (by omega : mp1 = many))]; omega) (by rw [show pb = pc0 by omega, ((show A276 30 (pc0).toNat = mp1 from (congrFun ((hF280.2 30 rfl).trans ((hF253.2 30 rfl).trans ((hF198.2 30 rfl).trans ((hF166.2 30 rfl).trans ((hF139.2 30 rfl).trans (((congrFun eA117 30).trans (uA_ne (by decide))).trans (hF36.2 30 rfl))))))) _).trans (ex_mp1)).trans (by omega : mp1 = many))]; omega) (by rw [show pb = pc0 by omega]; exact ((show A276 29 (pc0).toNat = pp1 from (congrFun ((hF280.2 29 rfl).trans ((hF253.2 29 rfl).trans ((hF198.2 29 rfl).trans ((hF166.2 29 rfl).trans ((hF139.2 29 rfl).trans (((congrFun eA117 29).trans (uA_ne (by decide))).trans (hF36.2 29 rfl))))))) _).trans (ex_pp1)).trans (by omega : pp1 = sy + 1))) (by rw [show pb = pc0 by omega, ((show A276 30 (pc0).toNat = mp1 from (congrFun ((hF280.2 30 rfl).trans ((hF253.2 30 rfl).trans ((hF198.2 30 rfl).trans ((hF166.2 30 rfl).trans ((hF139.2 30 rfl).trans (((congrFun eA117 30).trans (uA_ne (by decide))).trans (hF36.2 30 rfl))))))) _).trans (ex_mp1)).trans (by omega : mp1 = many))]; omega) (by rw [show pb = pc0 by omega, ((show A276 30 (pc0).toNat = mp1 from (congrFun ((hF280.2 30 rfl).trans ((hF253.2 30 rfl).trans ((hF198.2 30 rfl).trans ((hF166.2 30 rfl).trans ((hF139.2 30 rfl).trans (((congrFun eA117 30).trans (uA_ne (by decide))).trans (hF36.2 30 rfl))))))) _).trans (ex_mp1)).trans (by omega : mp1 = many))]; exact sf292) hvb), (VT_u (VT_fx hS289 (by omega) p_9) (by omega) (by omega) ((show A276 7 (sy).toNat = kp1 from (congrFun ((hF280.2 7 rfl).trans ((hF253.2 7 rfl).trans ((hF198.2 7 rfl).trans ((hF166.2 7 rfl).trans ((hF139.2 7 rfl).trans ((congrFun eA117 7).trans (uA_ne (by decide)))))))) _).trans (k65)).trans (by omega : kp1 = 14))), by omega⟩))⟩
                · have _q : True := trivial
                  exact c_readProc_w_at_327p (X := X) (d := d) (Vs := Vs) (sb := sb) (pb := pb) (hvb := hvb) (c0 := c0) (c1 := c1) (G := G) (A := A) (T := T) (ln := ln) (li := li) (at0 := at0) (fk := fk) (nd := nd) (sy := sy) (na := na) (vi := vi) (le := le) (op0 := op0) (tk0 := tk0) (pc0 := pc0) (ec := ec) (hd := hd) (hW := hW) (e_ln := e_ln) (e_li := e_li) (e_at0 := e_at0) (e_fk := e_fk) (e_nd := e_nd) (e_sy := e_sy) (e_na := e_na) (e_vi := e_vi) (e_le := e_le) (e_op0 := e_op0) (e_tk0 := e_tk0) (e_pc0 := e_pc0) (e_ec := e_ec) (i_LT := i_LT) (i_SV := i_SV) (i_PQ := i_PQ) (p_0 := p_0) (p_1 := p_1) (p_2 := p_2) (p_3 := p_3) (p_4 := p_4) (p_5 := p_5) (p_6 := p_6) (p_7 := p_7) (p_8 := p_8) (p_9 := p_9) L G248 A249 (p) (ln2_250) (fk2_251) (sy2_30) (na2_31) (ec2_34) gL_0 gL_1 hW252 hF257 hP258 hS259 hV260 hK261 ((e254)) ((e255)) (((hF253.1 19 rfl).trans ((hF198.1 19 rfl).trans ((hF166.1 19 rfl).trans ((hF139.1 19 rfl).trans (e45)))))) (((hF253.1 28 rfl).trans ((hF198.1 28 rfl).trans ((hF166.1 28 rfl).trans ((hF139.1 28 rfl).trans (e46)))))) (ec265) (((hF253.1 29 rfl).trans ((hF198.1 29 rfl).trans ((hF166.1 29 rfl).trans (hF139.1 29 rfl))))) (((hF253.1 46 rfl).trans ((hF198.1 46 rfl).trans ((hF166.1 46 rfl).trans ((hF139.1 46 rfl).trans ((hF36.1 46 rfl).trans (fx_46))))))) (by omega) (by omega) (by omega) (by omega) (by omega) (by omega) (by omega) (by omega)
            · have _q : True := trivial
              refine jx_vr (pc' := 323) (as := [.int (i32 (0))]) (st := []) rfl rfl rfl rfl ⟨rfl, rfl, Nat.le_of_ble_eq_true rfl⟩ rfl rfl (c_need (dd := d) (hd := by omega) (hW := hW165) (g := 0) (ln := ln2_26) (e_ln := show G160 9 = ln2_26 from ((hF166.1 9 rfl).trans ((hF139.1 9 rfl).trans (e41)))) (le := A 4 (ln2_26).toNat) (e_le := show A161 4 (ln2_26).toNat = A 4 (ln2_26).toNat from (congrFun ((hF166.2 4 rfl).trans ((hF139.2 4 rfl).trans (((congrFun eA117 4).trans (uA_ne (by decide))).trans ((hF36.2 4 rfl).trans (hFx.2 4 rfl))))) _)) (at0 := at2_162) (e_at0 := show G160 10 = at2_162 from (e167)) (fk := fk2_137) (e_fk := show G160 16 = fk2_137 from ((hF166.1 16 rfl).trans (e141))) (tk0 := tk2_163) (e_tk0 := show G160 11 = tk2_163 from (e168))  (h_g := ⟨(by decide), (by decide)⟩)  (p_0 := by omega)) (fun o V' hq => ?_)
              obtain ⟨G299, A300, at2_301, tk2_302, fk2_303, rfl, rfl, hW304, hF305, e306, e307, e308, p309, p310, q311⟩ := hq
              have hF312 := Fr_tr hF175 hF305 (Fr_sub (by decide)) (Fr_sub (by decide))
              have hP313 := Pf_f hP176 hF305 (by decide)
              have hS314 := Fx_f hS177 hF305 (by decide)
              have hV315 := Fx_f hV178 hF305 (by decide)
              have hK316 := Fx_f hK179 hF305 (by decide)
              have sf317 : wM A300 (sy + 1) (many) := wM_fx (Sg_fr (sb := sy + 1 + many) hF305 (by decide)) (by omega) (by omega) sf180
              have sf318 : wP A300 (sy2_30) pb (18) (Vd Vs (sy + 1) sy1) (r25) (nd) (nd2_29) (sy1) (sy2_30) := wP_ag (Sg_fr hF305 (by decide)) (Qg_fr hF305 (by decide)) (by omega) (by omega) (Ax_ag (Ag_fr hF305 (by decide))) sf181
              have sf319 : NX A300 (r25) := NX_ag (by omega) (Ag_fr hF305 (by decide)) sf182
              have ec320 : ecn A300 (G299 31) = ec2_34 := (ecn_f (hF305.2 15 rfl) (hF305.1 31 rfl)).trans ec183
              have bat2_301 : (0 : Int) ≤ at2_301 ∧ at2_301 ≤ 3002 := e306 ▸ hW304.1 10
              have ztk2_302 := tz_b tk2_302
              have btk2_302 : (0 : Int) ≤ tk2_302 ∧ tk2_302 ≤ 5 := e307 ▸ hW304.1 11
              have bfk2_303 : (0 : Int) ≤ fk2_303 ∧ fk2_303 ≤ 6 := e308 ▸ hW304.1 16
              refine .inl ⟨rfl, ?_⟩
              rcases q311 with ⟨a321, a322, a323, a324⟩ | ⟨a325, a326, a327, a328⟩
              · have _q : True := trivial
                refine jx_ld (pc' := 324) (l' := L) (st' := [.ref 66]) rfl (jl_aloadn gL_0) ?_
                refine jx_vr (pc' := 327) (as := []) (st := []) rfl rfl rfl rfl ⟨rfl, rfl, Nat.le_of_ble_eq_true rfl⟩ rfl rfl (c_endLine (dd := d) (hd := by omega) (hW := hW304)  (ln := ln2_26) (e_ln := show G299 9 = ln2_26 from ((hF305.1 9 rfl).trans ((hF166.1 9 rfl).trans ((hF139.1 9 rfl).trans (e41))))) (li := li) (e_li := show G299 3 = li from ((hF305.1 3 rfl).trans ((hF166.1 3 rfl).trans ((hF139.1 3 rfl).trans ((hF36.1 3 rfl).trans ((hFx.1 3 rfl).trans (e_li))))))) (fk := fk2_303) (e_fk := show G299 16 = fk2_303 from (e308)) (tk0 := tk2_302) (e_tk0 := show G299 11 = tk2_302 from (e307))    (p_0 := by omega)) (fun o V' hq => ?_)
                obtain ⟨G329, A330, ln2_331, fk2_332, rfl, rfl, hW333, hF334, e335, e336, q337⟩ := hq
                have hF338 := Fr_tr hF312 hF334 (Fr_sub (by decide)) (Fr_sub (by decide))
                have hP339 := Pf_f hP313 hF334 (by decide)
                have hS340 := Fx_f hS314 hF334 (by decide)
                have hV341 := Fx_f hV315 hF334 (by decide)
                have hK342 := Fx_f hK316 hF334 (by decide)
                have sf343 : wM A330 (sy + 1) (many) := wM_fx (Sg_fr (sb := sy + 1 + many) hF334 (by decide)) (by omega) (by omega) sf317
                have sf344 : wP A330 (sy2_30) pb (18) (Vd Vs (sy + 1) sy1) (r25) (nd) (nd2_29) (sy1) (sy2_30) := wP_ag (Sg_fr hF334 (by decide)) (Qg_fr hF334 (by decide)) (by omega) (by omega) (Ax_ag (Ag_fr hF334 (by decide))) sf318
                have sf345 : NX A330 (r25) := NX_ag (by omega) (Ag_fr hF334 (by decide)) sf319
                have ec346 : ecn A330 (G329 31) = ec2_34 := (ecn_f (hF334.2 15 rfl) (hF334.1 31 rfl)).trans ec320
                have bln2_331 : (0 : Int) ≤ ln2_331 ∧ ln2_331 ≤ 3000 := e335 ▸ hW333.1 9
                have bfk2_332 : (0 : Int) ≤ fk2_332 ∧ fk2_332 ≤ 6 := e336 ▸ hW333.1 16
                refine .inl ⟨rfl, ?_⟩
                rcases q337 with ⟨a347, a348, a349, a350, a351⟩ | ⟨a352, a353⟩
                · have _q : True := trivial
                  exfalso
                  omega
                · have _q : True := trivial
                  exact c_readProc_w_at_327p (X := X) (d := d) (Vs := Vs) (sb := sb) (pb := pb) (hvb := hvb) (c0 := c0) (c1 := c1) (G := G) (A := A) (T := T) (ln := ln) (li := li) (at0 := at0) (fk := fk) (nd := nd) (sy := sy) (na := na) (vi := vi) (le := le) (op0 := op0) (tk0 := tk0) (pc0 := pc0) (ec := ec) (hd := hd) (hW := hW) (e_ln := e_ln) (e_li := e_li) (e_at0 := e_at0) (e_fk := e_fk) (e_nd := e_nd) (e_sy := e_sy) (e_na := e_na) (e_vi := e_vi) (e_le := e_le) (e_op0 := e_op0) (e_tk0 := e_tk0) (e_pc0 := e_pc0) (e_ec := e_ec) (i_LT := i_LT) (i_SV := i_SV) (i_PQ := i_PQ) (p_0 := p_0) (p_1 := p_1) (p_2 := p_2) (p_3 := p_3) (p_4 := p_4) (p_5 := p_5) (p_6 := p_6) (p_7 := p_7) (p_8 := p_8) (p_9 := p_9) L G329 A330 (p) (ln2_331) (fk2_332) (sy2_30) (na2_31) (ec2_34) gL_0 gL_1 hW333 hF338 hP339 hS340 hV341 hK342 ((e335)) ((e336)) (((hF334.1 19 rfl).trans ((hF305.1 19 rfl).trans ((hF166.1 19 rfl).trans ((hF139.1 19 rfl).trans (e45)))))) (((hF334.1 28 rfl).trans ((hF305.1 28 rfl).trans ((hF166.1 28 rfl).trans ((hF139.1 28 rfl).trans (e46)))))) (ec346) (((hF334.1 29 rfl).trans ((hF305.1 29 rfl).trans ((hF166.1 29 rfl).trans (hF139.1 29 rfl))))) (((hF334.1 46 rfl).trans ((hF305.1 46 rfl).trans ((hF166.1 46 rfl).trans ((hF139.1 46 rfl).trans ((hF36.1 46 rfl).trans (fx_46))))))) (by omega) (by omega) (by omega) (by omega) (by omega) (by omega) (by omega) (by omega)
              · have _q : True := trivial
                exfalso
                omega
        · have _q : True := trivial
          refine jx_if_eq (pc' := 309) (tg := 327) rfl rfl rfl (by decide) (by decide) (fun h354 => ?_) (fun h354 => ?_)
          · have _q := h354
            exact c_readProc_w_at_327p (X := X) (d := d) (Vs := Vs) (sb := sb) (pb := pb) (hvb := hvb) (c0 := c0) (c1 := c1) (G := G) (A := A) (T := T) (ln := ln) (li := li) (at0 := at0) (fk := fk) (nd := nd) (sy := sy) (na := na) (vi := vi) (le := le) (op0 := op0) (tk0 := tk0) (pc0 := pc0) (ec := ec) (hd := hd) (hW := hW) (e_ln := e_ln) (e_li := e_li) (e_at0 := e_at0) (e_fk := e_fk) (e_nd := e_nd) (e_sy := e_sy) (e_na := e_na) (e_vi := e_vi) (e_le := e_le) (e_op0 := e_op0) (e_tk0 := e_tk0) (e_pc0 := e_pc0) (e_ec := e_ec) (i_LT := i_LT) (i_SV := i_SV) (i_PQ := i_PQ) (p_0 := p_0) (p_1 := p_1) (p_2 := p_2) (p_3 := p_3) (p_4 := p_4) (p_5 := p_5) (p_6 := p_6) (p_7 := p_7) (p_8 := p_8) (p_9 := p_9) L G134 A135 (p) (ln2_26) (fk2_137) (sy2_30) (na2_31) (ec2_34) gL_0 gL_1 hW138 hF143 hP144 hS145 hV146 hK147 (((hF139.1 9 rfl).trans (e41))) ((e141)) (((hF139.1 19 rfl).trans (e45))) (((hF139.1 28 rfl).trans (e46))) (ec151) ((hF139.1 29 rfl)) (((hF139.1 46 rfl).trans ((hF36.1 46 rfl).trans (fx_46)))) (by omega) (by omega) (by omega) (by omega) (by omega) (by omega) (by omega) (by omega)
          · have _q := h354
            exact absurd h354 (by omega)
    · have _q := h22
      refine jx_ld (pc' := 260) (l' := L) (st' := [.ref 66]) rfl (jl_aloadn gL_0) ?_
      refine jx_ld (pc' := 261) (l' := L) (st' := [.ref 66, .ref 66]) rfl (jl_aloadn gL_0) ?_
      refine jr_get (pc' := 264) (i := 47) (v := .ref 96) rfl rfl (by decide) rfl rfl ?_
      refine jx_ld (pc' := 265) (l' := L) (st' := [.ref 66, .ref 96, .ref 66]) rfl (jl_aloadn gL_0) ?_
      refine jr_get (pc' := 268) (i := 46) (v := .int (i32 (pc0))) rfl rfl (by decide) (rFv_eq (by decide) (show Gx 46 = pc0 from (fx_46))) rfl ?_
      refine jr_ldv (pc' := 269) (i := 29) (m := 25) (z := pc0) (y := pp1) rfl (by decide) rfl (by decide) (Int.le_trans (by decide : (0 : Int) ≤ 0) b_pc0.1) (Int.lt_of_le_of_lt b_pc0.2 (by decide : (24 : Int) < ((25 : Nat) : Int))) rfl (show Ax 29 (pc0).toNat = pp1 from (ex_pp1)) ?_
      refine jx_ld (pc' := 271) (l' := L) (st' := [.int (i32 (kk)), .int (i32 (pp1)), .ref 66]) rfl (jl_iload gL_5) ?_
      refine jx_add (pc' := 272) rfl rfl ?_
      refine jx_vr (pc' := 275) (as := [.int (i32 ((pp1 + kk)))]) (st := []) rfl rfl rfl rfl ⟨rfl, rfl, Nat.le_of_ble_eq_true rfl⟩ rfl rfl (c_show (dd := d) (hd := by omega) (hW := hWx) (s := (pp1 + kk)) (vi := vi1) (e_vi := show Gx 29 = vi1 from (ex_vi1))  (h_s := ⟨(by omega), (by omega)⟩)  (p_0 := by omega) (p_1 := by omega)) (fun o V' hq => ?_)
      obtain ⟨G355, A356, vi2_357, sv2_358, rfl, rfl, hW359, hF360, hQ361, e362, e363, p364, p365, -⟩ := hq
      have hF367 := Fr_tr hFx hF360 (Fr_sub (by decide)) (Fr_sub (by decide))
      have hP368 := Pf_f hPx hF360 (by decide)
      have hS369 := Fx_f hSx hF360 (by decide)
      have hV370 := Fx_tr hVx hQ361 (by omega)
      have hK371 := Fx_f hKx hF360 (by decide)
      have sf372 : wM A356 (sy + 1) (many) := wM_fx (Sg_fr (sb := sy + 1 + many) hF360 (by decide)) (by omega) (by omega) iv_10
      have sf373 : DS A356 (vi) (vi1) (sy + 1) (sy1) := DS_fx hQ361 (by omega) iv_11
      have ec374 : ecn A356 (G355 31) = ec := (ecn_f (hF360.2 15 rfl) (hF360.1 31 rfl)).trans fx_900
      have bvi2_357 : (0 : Int) ≤ vi2_357 ∧ vi2_357 ≤ 202 := e362 ▸ hW359.1 29
      have bsv2_358 : (0 : Int) ≤ sv2_358 ∧ sv2_358 ≤ 201 := e363 ▸ hW359.2 14 _
      refine .inl ⟨rfl, ?_⟩
      refine jx_inc (pc' := 278) (l' := jSto1 L 5 (.int (i32 ((kk + (1)))))) (x := kk) rfl gL_5 (by decide) rfl rfl ?_
      obtain ⟨L375, eL375⟩ : ∃ q, q = jSto1 L 5 (.int (i32 ((kk + (1))))) := ⟨_, rfl⟩
      rw [← eL375]
      have gL375_0 : jGet L375 0 = some (.ref 66) := eL375 ▸ jg_ne (by decide) gL_0 rfl
      have gL375_4 : jGet L375 4 = some (.int (i32 (vi))) := eL375 ▸ jg_ne (by decide) gL_4 rfl
      have gL375_1 : jGet L375 1 = some (.int (i32 (p))) := eL375 ▸ jg_ne (by decide) gL_1 rfl
      have gL375_2 : jGet L375 2 = some (.int (i32 (many))) := eL375 ▸ jg_ne (by decide) gL_2 rfl
      have gL375_5 : jGet L375 5 = some (.int (i32 ((kk + (1))))) := eL375 ▸ jg_eq
      refine jx_go (tg := 253) rfl rfl ?_
      exact ih253 _ (by omega) L375 G355 A356 (p) (many) ((kk + (1))) (ln1) (at1) (fk1) (sy1) (na1) (vi2_357) (pp1) (mp1) (kp1) (np1) (lf1) rfl gL375_0 gL375_4 gL375_1 gL375_2 gL375_5 hW359 hF367 hP368 hS369 hV370 hK371 (((hF360.1 9 rfl).trans (ex_ln1))) (((hF360.1 10 rfl).trans (ex_at1))) (((hF360.1 16 rfl).trans (ex_fk1))) (((hF360.1 19 rfl).trans (ex_sy1))) (((hF360.1 28 rfl).trans (ex_na1))) ((e362)) ((congrFun (hF360.2 29 rfl) _).trans (ex_pp1)) ((congrFun (hF360.2 30 rfl) _).trans (ex_mp1)) ((congrFun (hF360.2 7 rfl) _).trans (ex_kp1)) ((congrFun (hF360.2 12 rfl) _).trans (ex_np1)) ((congrFun (hF360.2 3 rfl) _).trans (ex_lf1)) (((hF360.1 46 rfl).trans (fx_46))) (((hF360.1 31 rfl).trans (fx_31))) (ec374) (by omega) (by omega) (by omega) (by omega) (by omega) (by omega) (by omega) (by omega) (by omega) (by omega) (by omega) (by omega) (by omega) (sf372) ((DS_add sf373 (show A356 14 (vi1).toNat = sv2_358 from (e363)) (by omega) (by omega) (by omega) (by omega))) (by omega) (by omega) (by omega) (by omega) (by omega)
set_option maxRecDepth 20000 in
set_option maxHeartbeats 4000000 in
theorem c_readProc_w_at_212p {X : jX} {d : Nat} {Vs : Nat → Prop} {sb pb : Int} (hvb : VB Vs sb) {c0 c1 : jC} {G : Nat → Int} {A : Nat → Nat → Int} {T : jH} {ln li at0 fk nd sy na vi le op0 tk0 pc0 ec : Int} (hd : 8 * 18 + 81 ≤ d + 1) (hW : Wk G A) (e_ln : G 9 = ln) (e_li : G 3 = li) (e_at0 : G 10 = at0) (e_fk : G 16 = fk) (e_nd : G 31 = nd) (e_sy : G 19 = sy) (e_na : G 28 = na) (e_vi : G 29 = vi) (e_le : A 4 (ln).toNat = le) (e_op0 : G 15 = op0) (e_tk0 : G 11 = tk0) (e_pc0 : G 46 = pc0) (e_ec : ecn A (G 31) = ec) (i_LT : LT G A) (i_SV : SV Vs sb G A) (i_PQ : PQ Vs sb pb G A) (p_0 : fk = 0) (p_1 : ln < li) (p_2 : at0 ≤ le) (p_3 : nd ≤ 2 * at0 - tz tk0 + 30) (p_4 : sy ≤ na + 2) (p_5 : vi ≤ sy) (p_6 : sb ≤ sy) (p_7 : pb = pc0) (p_8 : wQ A (pc0).toNat (nd) (sy)) (p_9 : VT (Vs) A (sy)) : ∀ (L : jL) (Gx : Nat → Int) (Ax : Nat → Nat → Int) (p many at1 fk1 sy1 na1 : Int), jGet L 0 = some (.ref 66) → jGet L 1 = some (.int (i32 p)) → jGet L 2 = some (.int (i32 many)) → Wk Gx Ax → Fr [9, 10, 11, 12, 13, 14, 15, 16, 17, 18, 19, 28, 29, 31, 46] [6, 7, 8, 9, 10, 11, 12, 14, 15, 16, 17, 18, 19, 20, 21, 22, 23, 24, 28, 29, 30, 31] G A Gx Ax → Pf nd A Ax → Fx sr (sy) A Ax → Fx [14] (vi) A Ax → Fx [29, 30, 31] (pc0) A Ax → Gx 10 = at1 → Gx 16 = fk1 → Gx 19 = sy1 → Gx 28 = na1 → Gx 9 = ln → Gx 29 = vi → Gx 46 = pc0 → Gx 31 = nd → ecn Ax (Gx 31) = ec → ((-2147483648 : Int) ≤ p ∧ p ≤ 2147483647) → ((-2147483648 : Int) ≤ many ∧ many ≤ 2147483647) → (1 ≤ fk1) → (at0 ≤ at1) → (at1 ≤ le) → (sy ≤ sy1) → (sy1 ≤ na1 + 2) → (0 ≤ many ∧ many ≤ 6) → (pc0 ≤ 23) → wj X d jm308 (212, L, [], rV c0 c1 Gx Ax T) (fun o V' => ∃ (G' : Nat → Int) (A' : Nat → Nat → Int) (ln2 : Int) (at2 : Int) (fk2 : Int) (nd2 : Int) (sy2 : Int) (na2 : Int) (vi2 : Int) (lf2 : Int) (pc2 : Int) (ec2 : Int), V' = rV c0 c1 G' A' T ∧ o = .inl none ∧ Wk G' A' ∧ Fr [9, 10, 11, 12, 13, 14, 15, 16, 17, 18, 19, 28, 29, 31, 46] [6, 7, 8, 9, 10, 11, 12, 14, 15, 16, 17, 18, 19, 20, 21, 22, 23, 24, 28, 29, 30, 31] G A G' A' ∧ Pf nd A A' ∧ Fx sr (sy) A A' ∧ Fx [14] (vi) A A' ∧ Fx [29, 30, 31] (pc0) A A' ∧ G' 9 = ln2 ∧ G' 10 = at2 ∧ G' 16 = fk2 ∧ G' 31 = nd2 ∧ G' 19 = sy2 ∧ G' 28 = na2 ∧ G' 29 = vi2 ∧ A' 3 (ln2).toNat = lf2 ∧ G' 46 = pc2 ∧ ecn A' (G' 31) = ec2 ∧ (sy2 ≤ na2 + 2) ∧ (vi2 ≤ sy2) ∧ (ln ≤ ln2) ∧ (ln2 ≤ li) ∧ (((1 ≤ fk2)) ∨ ((fk2 = 0) ∧ (ln < ln2) ∧ (at0 ≤ at2) ∧ (pc2 = pc0 + 1) ∧ (nd2 - nd ≤ 2 * at2 - (2 * at0 - tz tk0)) ∧ (at2 < lf2 ∨ li ≤ ln2) ∧ (vi2 = vi + 1) ∧ (sy < sy2) ∧ (wQ A' (pc2).toNat (nd2) (sy2)) ∧ (SW (Vu Vs sy) (sy2) (vi2) A') ∧ (PQ (Vu Vs sy) (sy2) (pc2) (fun _ => 0) A') ∧ (VT (Vu Vs sy) A' (sy2)) ∧ (nd2 - nd + 5 * (ec2 - ec) ≤ 2 * at2 - (2 * at0 - tz tk0))))) := by
  have hF0 : Fr [9, 10, 11, 12, 13, 14, 15, 16, 17, 18, 19, 28, 29, 31, 46] [6, 7, 8, 9, 10, 11, 12, 14, 15, 16, 17, 18, 19, 20, 21, 22, 23, 24, 28, 29, 30, 31] G A G A := Fr_rf
  have hP0 : Pf nd A A := Pf_rf
  have hS0 : Fx sr (sy) A A := Fx_rf
  have hV0 : Fx [14] (vi) A A := Fx_rf
  have hK0 : Fx [29, 30, 31] (pc0) A A := Fx_rf
  have b_ln : (0 : Int) ≤ ln ∧ ln ≤ 3000 := e_ln ▸ hW.1 9
  have b_li : (0 : Int) ≤ li ∧ li ≤ 3000 := e_li ▸ hW.1 3
  have b_at0 : (0 : Int) ≤ at0 ∧ at0 ≤ 3002 := e_at0 ▸ hW.1 10
  have b_fk : (0 : Int) ≤ fk ∧ fk ≤ 6 := e_fk ▸ hW.1 16
  have b_nd : (0 : Int) ≤ nd ∧ nd ≤ 6999 := e_nd ▸ hW.1 31
  have b_sy : (0 : Int) ≤ sy ∧ sy ≤ 202 := e_sy ▸ hW.1 19
  have b_na : (0 : Int) ≤ na ∧ na ≤ 200 := e_na ▸ hW.1 28
  have b_vi : (0 : Int) ≤ vi ∧ vi ≤ 202 := e_vi ▸ hW.1 29
  have b_le : (0 : Int) ≤ le ∧ le ≤ 3000 := e_le ▸ hW.2 4 _
  have b_op0 : (-2147483648 : Int) ≤ op0 ∧ op0 ≤ 2147483647 := e_op0 ▸ hW.1 15
  have z_tk0 := tz_f tk0
  have b_tk0 : (0 : Int) ≤ tk0 ∧ tk0 ≤ 5 := e_tk0 ▸ hW.1 11
  have b_pc0 : (0 : Int) ≤ pc0 ∧ pc0 ≤ 24 := e_pc0 ▸ hW.1 46
  intro L Gx Ax p many at1 fk1 sy1 na1 gL_0 gL_1 gL_2 hWx hFx hPx hSx hVx hKx ex_at1 ex_fk1 ex_sy1 ex_na1 fx_9 fx_29 fx_46 fx_31 fx_900 rx_p rx_many iv_0 iv_1 iv_2 iv_3 iv_4 iv_5 iv_6
  have b_at1 : (0 : Int) ≤ at1 ∧ at1 ≤ 3002 := ex_at1 ▸ hWx.1 10
  have b_fk1 : (0 : Int) ≤ fk1 ∧ fk1 ≤ 6 := ex_fk1 ▸ hWx.1 16
  have b_sy1 : (0 : Int) ≤ sy1 ∧ sy1 ≤ 202 := ex_sy1 ▸ hWx.1 19
  have b_na1 : (0 : Int) ≤ na1 ∧ na1 ≤ 200 := ex_na1 ▸ hWx.1 28
  refine jx_ld (pc' := 213) (l' := L) (st' := [.ref 66]) rfl (jl_aloadn gL_0) ?_
  refine jr_get (pc' := 216) (i := 48) (v := .ref 97) rfl rfl (by decide) rfl rfl ?_
  refine jx_ld (pc' := 217) (l' := L) (st' := [.ref 66, .ref 97]) rfl (jl_aloadn gL_0) ?_
  refine jr_get (pc' := 220) (i := 46) (v := .int (i32 (pc0))) rfl rfl (by decide) (rFv_eq (by decide) (show Gx 46 = pc0 from (fx_46))) rfl ?_
  refine jx_ld (pc' := 221) (l' := L) (st' := [.int (i32 (many)), .int (i32 (pc0)), .ref 97]) rfl (jl_iloadn gL_2) ?_
  refine jr_st (pc' := 222) (i := 30) (m := 25) (z := pc0) (y := many) rfl (by decide) rfl (by decide) (by omega) (by omega) rfl ?_
  have hW377 : Wk Gx (uA Ax 30 (pc0).toNat (many)) := Wk_a hWx (show (0 : Int) ≤ many by omega) (show many ≤ (6 : Int) by omega)
  have hF378 := Fr_a (z := many) (k := 30) (n := (pc0).toNat) hFx (by decide)
  obtain ⟨A376, eA376⟩ : ∃ q, q = uA Ax 30 (pc0).toNat (many) := ⟨_, rfl⟩
  rw [← eA376]
  rw [← eA376] at hW377 hF378
  have q379 : A376 30 (pc0).toNat = many := by rw [eA376]; exact uA_eq
  have hP380 : Pf nd A A376 := eA376 ▸ Pf_n hPx rfl
  have hS381 : Fx sr (sy) A A376 := eA376 ▸ Fx_n hSx rfl
  have hV382 : Fx [14] (vi) A A376 := eA376 ▸ Fx_n hVx rfl
  have hK383 : Fx [29, 30, 31] (pc0) A A376 := eA376 ▸ Fx_a hKx (z := pc0) (by omega) (by omega)
  have ec384 : ecn A376 (Gx 31) = ec := (ecn_e ((congrFun eA376 15).trans (uA_ne (by decide)))).trans fx_900
  refine jx_ld (pc' := 223) (l' := L) (st' := [.ref 66]) rfl (jl_aloadn gL_0) ?_
  refine jx_ld (pc' := 224) (l' := L) (st' := [.ref 66, .ref 66]) rfl (jl_aloadn gL_0) ?_
  refine jx_ar (pc' := 226) (st' := [.int (i32 (41)), .ref 66, .ref 66]) rfl rfl rfl rfl ?_
  have b385 : (0 : Int) ≤ Gx 11 ∧ Gx 11 ≤ 5 := hWx.1 11
  have b386 : (-2147483648 : Int) ≤ Gx 13 ∧ Gx 13 ≤ 2147483647 := hWx.1 13
  refine jx_vr (pc' := 229) (as := [.int (i32 (41))]) (st := [.ref 66]) rfl rfl rfl rfl ⟨rfl, rfl, Nat.le_of_ble_eq_true rfl⟩ rfl rfl (c_is (dd := d) (hd := by omega) (hW := hW377) (k := 41) (tk := Gx 11) (e_tk := show Gx 11 = Gx 11 from rfl) (tn := Gx 13) (e_tn := show Gx 13 = Gx 13 from rfl)  (h_k := ⟨(by decide), (by decide)⟩)  ) (fun o V' hq => ?_)
  obtain ⟨r387, rfl, rfl, b388, q389⟩ := hq
  refine .inr ⟨_, rfl, ?_⟩
  rcases q389 with ⟨rfl, a390, a391, a392⟩ | rfl
  · have _q : True := trivial
    refine jx_vr (pc' := 232) (as := [.int (i32 (1))]) (st := []) rfl rfl rfl rfl ⟨rfl, rfl, Nat.le_of_ble_eq_true rfl⟩ rfl rfl (c_need (dd := d) (hd := by omega) (hW := hW377) (g := 1) (ln := ln) (e_ln := show Gx 9 = ln from (fx_9)) (le := le) (e_le := show A376 4 (ln).toNat = le from (congrFun (((congrFun eA376 4).trans (uA_ne (by decide))).trans (hFx.2 4 rfl)) _).trans (e_le)) (at0 := at1) (e_at0 := show Gx 10 = at1 from (ex_at1)) (fk := fk1) (e_fk := show Gx 16 = fk1 from (ex_fk1)) (tk0 := Gx 11) (e_tk0 := show Gx 11 = Gx 11 from rfl)  (h_g := ⟨(by decide), (by decide)⟩)  (p_0 := by omega)) (fun o V' hq => ?_)
    obtain ⟨G393, A394, at2_395, tk2_396, fk2_397, rfl, rfl, hW398, hF399, e400, e401, e402, p403, p404, q405⟩ := hq
    have hF406 := Fr_tr hF378 hF399 (Fr_sub (by decide)) (Fr_sub (by decide))
    have hP407 := Pf_f hP380 hF399 (by decide)
    have hS408 := Fx_f hS381 hF399 (by decide)
    have hV409 := Fx_f hV382 hF399 (by decide)
    have hK410 := Fx_f hK383 hF399 (by decide)
    have ec411 : ecn A394 (G393 31) = ec := (ecn_f (hF399.2 15 rfl) (hF399.1 31 rfl)).trans ec384
    have bat2_395 : (0 : Int) ≤ at2_395 ∧ at2_395 ≤ 3002 := e400 ▸ hW398.1 10
    have ztk2_396 := tz_b tk2_396
    have btk2_396 : (0 : Int) ≤ tk2_396 ∧ tk2_396 ≤ 5 := e401 ▸ hW398.1 11
    have bfk2_397 : (0 : Int) ≤ fk2_397 ∧ fk2_397 ≤ 6 := e402 ▸ hW398.1 16
    refine .inl ⟨rfl, ?_⟩
    rcases q405 with ⟨a412, a413, a414, a415⟩ | ⟨a416, a417, a418, a419⟩
    · have _q : True := trivial
      refine jx_ld (pc' := 233) (l' := L) (st' := [.ref 66]) rfl (jl_aloadn gL_0) ?_
      refine jx_vr (pc' := 236) (as := []) (st := []) rfl rfl rfl rfl ⟨rfl, rfl, Nat.le_of_ble_eq_true rfl⟩ rfl rfl (c_endLine (dd := d) (hd := by omega) (hW := hW398)  (ln := ln) (e_ln := show G393 9 = ln from ((hF399.1 9 rfl).trans (fx_9))) (li := li) (e_li := show G393 3 = li from ((hF399.1 3 rfl).trans ((hFx.1 3 rfl).trans (e_li)))) (fk := fk2_397) (e_fk := show G393 16 = fk2_397 from (e402)) (tk0 := tk2_396) (e_tk0 := show G393 11 = tk2_396 from (e401))    (p_0 := by omega)) (fun o V' hq => ?_)
      obtain ⟨G420, A421, ln2_422, fk2_423, rfl, rfl, hW424, hF425, e426, e427, q428⟩ := hq
      have hF429 := Fr_tr hF406 hF425 (Fr_sub (by decide)) (Fr_sub (by decide))
      have hP430 := Pf_f hP407 hF425 (by decide)
      have hS431 := Fx_f hS408 hF425 (by decide)
      have hV432 := Fx_f hV409 hF425 (by decide)
      have hK433 := Fx_f hK410 hF425 (by decide)
      have ec434 : ecn A421 (G420 31) = ec := (ecn_f (hF425.2 15 rfl) (hF425.1 31 rfl)).trans ec411
      have bln2_422 : (0 : Int) ≤ ln2_422 ∧ ln2_422 ≤ 3000 := e426 ▸ hW424.1 9
      have bfk2_423 : (0 : Int) ≤ fk2_423 ∧ fk2_423 ≤ 6 := e427 ▸ hW424.1 16
      refine .inl ⟨rfl, ?_⟩
      rcases q428 with ⟨a435, a436, a437, a438, a439⟩ | ⟨a440, a441⟩
      · have _q : True := trivial
        exfalso
        omega
      · have _q : True := trivial
        refine jx_ld (pc' := 237) (l' := L) (st' := [.ref 66]) rfl (jl_aloadn gL_0) ?_
        refine jx_vr (pc' := 240) (as := []) (st := []) rfl rfl rfl rfl ⟨rfl, rfl, Nat.le_of_ble_eq_true rfl⟩ rfl rfl (c_bad (dd := d) (hd := by omega) (hW := hW424)  (fk := fk2_423) (e_fk := show G420 16 = fk2_423 from (e427))    ) (fun o V' hq => ?_)
        obtain ⟨r442, rfl, rfl, b443, q444⟩ := hq
        refine .inr ⟨_, rfl, ?_⟩
        rcases q444 with ⟨rfl, a445⟩ | ⟨rfl, a446⟩
        · have _q : True := trivial
          refine jx_if_eq (pc' := 243) (tg := 244) rfl rfl rfl (by decide) (by decide) (fun h447 => ?_) (fun h447 => ?_)
          · have _q := h447
            exact absurd h447 (by omega)
          · have _q := h447
            refine jx_rt (v := none) rfl rfl rfl rfl rfl rfl ?_
            exact ⟨_, _, ln2_422, at2_395, fk2_423, nd, sy1, na1, vi, A 3 (ln2_422).toNat, pc0, ec, rfl, rfl, hW424, hF429, hP430, hS431, hV432, hK433, (e426), ((hF425.1 10 rfl).trans (e400)), (e427), ((hF425.1 31 rfl).trans ((hF399.1 31 rfl).trans (fx_31))), ((hF425.1 19 rfl).trans ((hF399.1 19 rfl).trans (ex_sy1))), ((hF425.1 28 rfl).trans ((hF399.1 28 rfl).trans (ex_na1))), ((hF425.1 29 rfl).trans ((hF399.1 29 rfl).trans (fx_29))), (congrFun ((hF425.2 3 rfl).trans ((hF399.2 3 rfl).trans (((congrFun eA376 3).trans (uA_ne (by decide))).trans (hFx.2 3 rfl)))) _), ((hF425.1 46 rfl).trans ((hF399.1 46 rfl).trans (fx_46))), ec434, by omega, by omega, by omega, by omega, by first | exact Or.inl (by omega)⟩
        · have _q : True := trivial
          exfalso
          omega
    · have _q : True := trivial
      exfalso
      omega
  · have _q : True := trivial
    refine jx_vr (pc' := 232) (as := [.int (i32 (0))]) (st := []) rfl rfl rfl rfl ⟨rfl, rfl, Nat.le_of_ble_eq_true rfl⟩ rfl rfl (c_need (dd := d) (hd := by omega) (hW := hW377) (g := 0) (ln := ln) (e_ln := show Gx 9 = ln from (fx_9)) (le := le) (e_le := show A376 4 (ln).toNat = le from (congrFun (((congrFun eA376 4).trans (uA_ne (by decide))).trans (hFx.2 4 rfl)) _).trans (e_le)) (at0 := at1) (e_at0 := show Gx 10 = at1 from (ex_at1)) (fk := fk1) (e_fk := show Gx 16 = fk1 from (ex_fk1)) (tk0 := Gx 11) (e_tk0 := show Gx 11 = Gx 11 from rfl)  (h_g := ⟨(by decide), (by decide)⟩)  (p_0 := by omega)) (fun o V' hq => ?_)
    obtain ⟨G448, A449, at2_450, tk2_451, fk2_452, rfl, rfl, hW453, hF454, e455, e456, e457, p458, p459, q460⟩ := hq
    have hF461 := Fr_tr hF378 hF454 (Fr_sub (by decide)) (Fr_sub (by decide))
    have hP462 := Pf_f hP380 hF454 (by decide)
    have hS463 := Fx_f hS381 hF454 (by decide)
    have hV464 := Fx_f hV382 hF454 (by decide)
    have hK465 := Fx_f hK383 hF454 (by decide)
    have ec466 : ecn A449 (G448 31) = ec := (ecn_f (hF454.2 15 rfl) (hF454.1 31 rfl)).trans ec384
    have bat2_450 : (0 : Int) ≤ at2_450 ∧ at2_450 ≤ 3002 := e455 ▸ hW453.1 10
    have ztk2_451 := tz_b tk2_451
    have btk2_451 : (0 : Int) ≤ tk2_451 ∧ tk2_451 ≤ 5 := e456 ▸ hW453.1 11
    have bfk2_452 : (0 : Int) ≤ fk2_452 ∧ fk2_452 ≤ 6 := e457 ▸ hW453.1 16
    refine .inl ⟨rfl, ?_⟩
    rcases q460 with ⟨a467, a468, a469, a470⟩ | ⟨a471, a472, a473, a474⟩
    · have _q : True := trivial
      refine jx_ld (pc' := 233) (l' := L) (st' := [.ref 66]) rfl (jl_aloadn gL_0) ?_
      refine jx_vr (pc' := 236) (as := []) (st := []) rfl rfl rfl rfl ⟨rfl, rfl, Nat.le_of_ble_eq_true rfl⟩ rfl rfl (c_endLine (dd := d) (hd := by omega) (hW := hW453)  (ln := ln) (e_ln := show G448 9 = ln from ((hF454.1 9 rfl).trans (fx_9))) (li := li) (e_li := show G448 3 = li from ((hF454.1 3 rfl).trans ((hFx.1 3 rfl).trans (e_li)))) (fk := fk2_452) (e_fk := show G448 16 = fk2_452 from (e457)) (tk0 := tk2_451) (e_tk0 := show G448 11 = tk2_451 from (e456))    (p_0 := by omega)) (fun o V' hq => ?_)
      obtain ⟨G475, A476, ln2_477, fk2_478, rfl, rfl, hW479, hF480, e481, e482, q483⟩ := hq
      have hF484 := Fr_tr hF461 hF480 (Fr_sub (by decide)) (Fr_sub (by decide))
      have hP485 := Pf_f hP462 hF480 (by decide)
      have hS486 := Fx_f hS463 hF480 (by decide)
      have hV487 := Fx_f hV464 hF480 (by decide)
      have hK488 := Fx_f hK465 hF480 (by decide)
      have ec489 : ecn A476 (G475 31) = ec := (ecn_f (hF480.2 15 rfl) (hF480.1 31 rfl)).trans ec466
      have bln2_477 : (0 : Int) ≤ ln2_477 ∧ ln2_477 ≤ 3000 := e481 ▸ hW479.1 9
      have bfk2_478 : (0 : Int) ≤ fk2_478 ∧ fk2_478 ≤ 6 := e482 ▸ hW479.1 16
      refine .inl ⟨rfl, ?_⟩
      rcases q483 with ⟨a490, a491, a492, a493, a494⟩ | ⟨a495, a496⟩
      · have _q : True := trivial
        exfalso
        omega
      · have _q : True := trivial
        refine jx_ld (pc' := 237) (l' := L) (st' := [.ref 66]) rfl (jl_aloadn gL_0) ?_
        refine jx_vr (pc' := 240) (as := []) (st := []) rfl rfl rfl rfl ⟨rfl, rfl, Nat.le_of_ble_eq_true rfl⟩ rfl rfl (c_bad (dd := d) (hd := by omega) (hW := hW479)  (fk := fk2_478) (e_fk := show G475 16 = fk2_478 from (e482))    ) (fun o V' hq => ?_)
        obtain ⟨r497, rfl, rfl, b498, q499⟩ := hq
        refine .inr ⟨_, rfl, ?_⟩
        rcases q499 with ⟨rfl, a500⟩ | ⟨rfl, a501⟩
        · have _q : True := trivial
          refine jx_if_eq (pc' := 243) (tg := 244) rfl rfl rfl (by decide) (by decide) (fun h502 => ?_) (fun h502 => ?_)
          · have _q := h502
            exact absurd h502 (by omega)
          · have _q := h502
            refine jx_rt (v := none) rfl rfl rfl rfl rfl rfl ?_
            exact ⟨_, _, ln2_477, at2_450, fk2_478, nd, sy1, na1, vi, A 3 (ln2_477).toNat, pc0, ec, rfl, rfl, hW479, hF484, hP485, hS486, hV487, hK488, (e481), ((hF480.1 10 rfl).trans (e455)), (e482), ((hF480.1 31 rfl).trans ((hF454.1 31 rfl).trans (fx_31))), ((hF480.1 19 rfl).trans ((hF454.1 19 rfl).trans (ex_sy1))), ((hF480.1 28 rfl).trans ((hF454.1 28 rfl).trans (ex_na1))), ((hF480.1 29 rfl).trans ((hF454.1 29 rfl).trans (fx_29))), (congrFun ((hF480.2 3 rfl).trans ((hF454.2 3 rfl).trans (((congrFun eA376 3).trans (uA_ne (by decide))).trans (hFx.2 3 rfl)))) _), ((hF480.1 46 rfl).trans ((hF454.1 46 rfl).trans (fx_46))), ec489, by omega, by omega, by omega, by omega, by first | exact Or.inl (by omega)⟩
        · have _q : True := trivial
          exfalso
          omega
    · have _q : True := trivial
      exfalso
      omega
set_option maxRecDepth 20000 in
set_option maxHeartbeats 4000000 in
theorem c_readProc_w_at_146 {X : jX} {d : Nat} {Vs : Nat → Prop} {sb pb : Int} (hvb : VB Vs sb) {c0 c1 : jC} {G : Nat → Int} {A : Nat → Nat → Int} {T : jH} {ln li at0 fk nd sy na vi le op0 tk0 pc0 ec : Int} (hd : 8 * 18 + 81 ≤ d + 1) (hW : Wk G A) (e_ln : G 9 = ln) (e_li : G 3 = li) (e_at0 : G 10 = at0) (e_fk : G 16 = fk) (e_nd : G 31 = nd) (e_sy : G 19 = sy) (e_na : G 28 = na) (e_vi : G 29 = vi) (e_le : A 4 (ln).toNat = le) (e_op0 : G 15 = op0) (e_tk0 : G 11 = tk0) (e_pc0 : G 46 = pc0) (e_ec : ecn A (G 31) = ec) (i_LT : LT G A) (i_SV : SV Vs sb G A) (i_PQ : PQ Vs sb pb G A) (p_0 : fk = 0) (p_1 : ln < li) (p_2 : at0 ≤ le) (p_3 : nd ≤ 2 * at0 - tz tk0 + 30) (p_4 : sy ≤ na + 2) (p_5 : vi ≤ sy) (p_6 : sb ≤ sy) (p_7 : pb = pc0) (p_8 : wQ A (pc0).toNat (nd) (sy)) (p_9 : VT (Vs) A (sy)) : ∀ (m : Nat) (L : jL) (Gx : Nat → Int) (Ax : Nat → Nat → Int) (p many more at1 tk1 fk1 sy1 na1 pp1 kp1 np1 : Int), (7 - many).toNat = m → jGet L 0 = some (.ref 66) → jGet L 1 = some (.int (i32 p)) → jGet L 2 = some (.int (i32 many)) → jGet L 3 = some (.int (i32 more)) → Wk Gx Ax → Fr [9, 10, 11, 12, 13, 14, 15, 16, 17, 18, 19, 28, 29, 31, 46] [6, 7, 8, 9, 10, 11, 12, 14, 15, 16, 17, 18, 19, 20, 21, 22, 23, 24, 28, 29, 30, 31] G A Gx Ax → Pf nd A Ax → Fx sr (sy) A Ax → Fx [14] (vi) A Ax → Fx [29, 30, 31] (pc0) A Ax → Gx 10 = at1 → Gx 11 = tk1 → Gx 16 = fk1 → Gx 19 = sy1 → Gx 28 = na1 → Ax 29 (pc0).toNat = pp1 → Ax 7 (sy).toNat = kp1 → Ax 12 (sy).toNat = np1 → Gx 9 = ln → Gx 29 = vi → Gx 46 = pc0 → Gx 31 = nd → ecn Ax (Gx 31) = ec → ((-2147483648 : Int) ≤ p ∧ p ≤ 2147483647) → ((-2147483648 : Int) ≤ many ∧ many ≤ 2147483647) → ((-2147483648 : Int) ≤ more ∧ more ≤ 2147483647) → (fk1 = 0) → (at0 ≤ at1) → (at1 ≤ le) → (sy1 = sy + 1 + many) → (sy1 ≤ na1 + 2) → (0 ≤ many) → (0 ≤ more ∧ more ≤ 1) → (many + more ≤ 6) → (wM Ax (sy + 1) (many)) → (kp1 = 14) → (np1 = pc0) → (pp1 = sy + 1) → (p = sy) → (pc0 ≤ 23) → wj X d jm308 (146, L, [], rV c0 c1 Gx Ax T) (fun o V' => ∃ (G' : Nat → Int) (A' : Nat → Nat → Int) (ln2 : Int) (at2 : Int) (fk2 : Int) (nd2 : Int) (sy2 : Int) (na2 : Int) (vi2 : Int) (lf2 : Int) (pc2 : Int) (ec2 : Int), V' = rV c0 c1 G' A' T ∧ o = .inl none ∧ Wk G' A' ∧ Fr [9, 10, 11, 12, 13, 14, 15, 16, 17, 18, 19, 28, 29, 31, 46] [6, 7, 8, 9, 10, 11, 12, 14, 15, 16, 17, 18, 19, 20, 21, 22, 23, 24, 28, 29, 30, 31] G A G' A' ∧ Pf nd A A' ∧ Fx sr (sy) A A' ∧ Fx [14] (vi) A A' ∧ Fx [29, 30, 31] (pc0) A A' ∧ G' 9 = ln2 ∧ G' 10 = at2 ∧ G' 16 = fk2 ∧ G' 31 = nd2 ∧ G' 19 = sy2 ∧ G' 28 = na2 ∧ G' 29 = vi2 ∧ A' 3 (ln2).toNat = lf2 ∧ G' 46 = pc2 ∧ ecn A' (G' 31) = ec2 ∧ (sy2 ≤ na2 + 2) ∧ (vi2 ≤ sy2) ∧ (ln ≤ ln2) ∧ (ln2 ≤ li) ∧ (((1 ≤ fk2)) ∨ ((fk2 = 0) ∧ (ln < ln2) ∧ (at0 ≤ at2) ∧ (pc2 = pc0 + 1) ∧ (nd2 - nd ≤ 2 * at2 - (2 * at0 - tz tk0)) ∧ (at2 < lf2 ∨ li ≤ ln2) ∧ (vi2 = vi + 1) ∧ (sy < sy2) ∧ (wQ A' (pc2).toNat (nd2) (sy2)) ∧ (SW (Vu Vs sy) (sy2) (vi2) A') ∧ (PQ (Vu Vs sy) (sy2) (pc2) (fun _ => 0) A') ∧ (VT (Vu Vs sy) A' (sy2)) ∧ (nd2 - nd + 5 * (ec2 - ec) ≤ 2 * at2 - (2 * at0 - tz tk0))))) := by
  have hF0 : Fr [9, 10, 11, 12, 13, 14, 15, 16, 17, 18, 19, 28, 29, 31, 46] [6, 7, 8, 9, 10, 11, 12, 14, 15, 16, 17, 18, 19, 20, 21, 22, 23, 24, 28, 29, 30, 31] G A G A := Fr_rf
  have hP0 : Pf nd A A := Pf_rf
  have hS0 : Fx sr (sy) A A := Fx_rf
  have hV0 : Fx [14] (vi) A A := Fx_rf
  have hK0 : Fx [29, 30, 31] (pc0) A A := Fx_rf
  have b_ln : (0 : Int) ≤ ln ∧ ln ≤ 3000 := e_ln ▸ hW.1 9
  have b_li : (0 : Int) ≤ li ∧ li ≤ 3000 := e_li ▸ hW.1 3
  have b_at0 : (0 : Int) ≤ at0 ∧ at0 ≤ 3002 := e_at0 ▸ hW.1 10
  have b_fk : (0 : Int) ≤ fk ∧ fk ≤ 6 := e_fk ▸ hW.1 16
  have b_nd : (0 : Int) ≤ nd ∧ nd ≤ 6999 := e_nd ▸ hW.1 31
  have b_sy : (0 : Int) ≤ sy ∧ sy ≤ 202 := e_sy ▸ hW.1 19
  have b_na : (0 : Int) ≤ na ∧ na ≤ 200 := e_na ▸ hW.1 28
  have b_vi : (0 : Int) ≤ vi ∧ vi ≤ 202 := e_vi ▸ hW.1 29
  have b_le : (0 : Int) ≤ le ∧ le ≤ 3000 := e_le ▸ hW.2 4 _
  have b_op0 : (-2147483648 : Int) ≤ op0 ∧ op0 ≤ 2147483647 := e_op0 ▸ hW.1 15
  have z_tk0 := tz_f tk0
  have b_tk0 : (0 : Int) ≤ tk0 ∧ tk0 ≤ 5 := e_tk0 ▸ hW.1 11
  have b_pc0 : (0 : Int) ≤ pc0 ∧ pc0 ≤ 24 := e_pc0 ▸ hW.1 46
  intro m
  induction m using Nat.strongRecOn with
  | ind m ih146 =>
    intro L Gx Ax p many more at1 tk1 fk1 sy1 na1 pp1 kp1 np1 hm gL_0 gL_1 gL_2 gL_3 hWx hFx hPx hSx hVx hKx ex_at1 ex_tk1 ex_fk1 ex_sy1 ex_na1 ex_pp1 ex_kp1 ex_np1 fx_9 fx_29 fx_46 fx_31 fx_900 rx_p rx_many rx_more iv_0 iv_1 iv_2 iv_3 iv_4 iv_5 iv_6 iv_7 iv_8 iv_9 iv_10 iv_11 iv_12 iv_13
    have b_at1 : (0 : Int) ≤ at1 ∧ at1 ≤ 3002 := ex_at1 ▸ hWx.1 10
    have z_tk1 := tz_f tk1
    have b_tk1 : (0 : Int) ≤ tk1 ∧ tk1 ≤ 5 := ex_tk1 ▸ hWx.1 11
    have b_fk1 : (0 : Int) ≤ fk1 ∧ fk1 ≤ 6 := ex_fk1 ▸ hWx.1 16
    have b_sy1 : (0 : Int) ≤ sy1 ∧ sy1 ≤ 202 := ex_sy1 ▸ hWx.1 19
    have b_na1 : (0 : Int) ≤ na1 ∧ na1 ≤ 200 := ex_na1 ▸ hWx.1 28
    refine jx_ld (pc' := 147) (l' := L) (st' := [.ref 66]) rfl (jl_aloadn gL_0) ?_
    refine jx_vr (pc' := 150) (as := []) (st := []) rfl rfl rfl rfl ⟨rfl, rfl, Nat.le_of_ble_eq_true rfl⟩ rfl rfl (c_bad (dd := d) (hd := by omega) (hW := hWx)  (fk := fk1) (e_fk := show Gx 16 = fk1 from (ex_fk1))    ) (fun o V' hq => ?_)
    obtain ⟨r503, rfl, rfl, b504, q505⟩ := hq
    refine .inr ⟨_, rfl, ?_⟩
    rcases q505 with ⟨rfl, a506⟩ | ⟨rfl, a507⟩
    · have _q : True := trivial
      exfalso
      omega
    · have _q : True := trivial
      refine jx_if_ne (pc' := 153) (tg := 212) rfl rfl rfl (by decide) (by decide) (fun h508 => ?_) (fun h508 => ?_)
      · have _q := h508
        exact absurd h508 (by omega)
      · have _q := h508
        refine jx_ld (pc' := 154) (l' := L) (st' := [.int (i32 (more))]) rfl (jl_iloadn gL_3) ?_
        refine jx_if_eq (pc' := 157) (tg := 212) rfl rfl rfl (Int.le_trans (by decide : (-2147483648 : Int) ≤ -2147483648) rx_more.1) (Int.le_trans rx_more.2 (by decide : (2147483647 : Int) ≤ 2147483647)) (fun h509 => ?_) (fun h509 => ?_)
        · have _q := h509
          refine jx_ld (pc' := 213) (l' := L) (st' := [.ref 66]) rfl (jl_aloadn gL_0) ?_
          refine jr_get (pc' := 216) (i := 48) (v := .ref 97) rfl rfl (by decide) rfl rfl ?_
          refine jx_ld (pc' := 217) (l' := L) (st' := [.ref 66, .ref 97]) rfl (jl_aloadn gL_0) ?_
          refine jr_get (pc' := 220) (i := 46) (v := .int (i32 (pc0))) rfl rfl (by decide) (rFv_eq (by decide) (show Gx 46 = pc0 from (fx_46))) rfl ?_
          refine jx_ld (pc' := 221) (l' := L) (st' := [.int (i32 (many)), .int (i32 (pc0)), .ref 97]) rfl (jl_iloadn gL_2) ?_
          refine jr_st (pc' := 222) (i := 30) (m := 25) (z := pc0) (y := many) rfl (by decide) rfl (by decide) (by omega) (by omega) rfl ?_
          have hW511 : Wk Gx (uA Ax 30 (pc0).toNat (many)) := Wk_a hWx (show (0 : Int) ≤ many by omega) (show many ≤ (6 : Int) by omega)
          have hF512 := Fr_a (z := many) (k := 30) (n := (pc0).toNat) hFx (by decide)
          obtain ⟨A510, eA510⟩ : ∃ q, q = uA Ax 30 (pc0).toNat (many) := ⟨_, rfl⟩
          rw [← eA510]
          rw [← eA510] at hW511 hF512
          have q513 : A510 30 (pc0).toNat = many := by rw [eA510]; exact uA_eq
          have hP514 : Pf nd A A510 := eA510 ▸ Pf_n hPx rfl
          have hS515 : Fx sr (sy) A A510 := eA510 ▸ Fx_n hSx rfl
          have hV516 : Fx [14] (vi) A A510 := eA510 ▸ Fx_n hVx rfl
          have hK517 : Fx [29, 30, 31] (pc0) A A510 := eA510 ▸ Fx_a hKx (z := pc0) (by omega) (by omega)
          have sf518 : wM A510 (sy + 1) (many) := wM_fx (Sg_ne (sb := sy + 1 + many) eA510 rfl) (by omega) (by omega) iv_8
          have ec519 : ecn A510 (Gx 31) = ec := (ecn_e ((congrFun eA510 15).trans (uA_ne (by decide)))).trans fx_900
          refine jx_ld (pc' := 223) (l' := L) (st' := [.ref 66]) rfl (jl_aloadn gL_0) ?_
          refine jx_ld (pc' := 224) (l' := L) (st' := [.ref 66, .ref 66]) rfl (jl_aloadn gL_0) ?_
          refine jx_ar (pc' := 226) (st' := [.int (i32 (41)), .ref 66, .ref 66]) rfl rfl rfl rfl ?_
          have b520 : (-2147483648 : Int) ≤ Gx 13 ∧ Gx 13 ≤ 2147483647 := hWx.1 13
          refine jx_vr (pc' := 229) (as := [.int (i32 (41))]) (st := [.ref 66]) rfl rfl rfl rfl ⟨rfl, rfl, Nat.le_of_ble_eq_true rfl⟩ rfl rfl (c_is (dd := d) (hd := by omega) (hW := hW511) (k := 41) (tk := tk1) (e_tk := show Gx 11 = tk1 from (ex_tk1)) (tn := Gx 13) (e_tn := show Gx 13 = Gx 13 from rfl)  (h_k := ⟨(by decide), (by decide)⟩)  ) (fun o V' hq => ?_)
          obtain ⟨r521, rfl, rfl, b522, q523⟩ := hq
          refine .inr ⟨_, rfl, ?_⟩
          rcases q523 with ⟨rfl, a524, a525, a526⟩ | rfl
          · have _q : True := trivial
            refine jx_vr (pc' := 232) (as := [.int (i32 (1))]) (st := []) rfl rfl rfl rfl ⟨rfl, rfl, Nat.le_of_ble_eq_true rfl⟩ rfl rfl (c_need (dd := d) (hd := by omega) (hW := hW511) (g := 1) (ln := ln) (e_ln := show Gx 9 = ln from (fx_9)) (le := le) (e_le := show A510 4 (ln).toNat = le from (congrFun (((congrFun eA510 4).trans (uA_ne (by decide))).trans (hFx.2 4 rfl)) _).trans (e_le)) (at0 := at1) (e_at0 := show Gx 10 = at1 from (ex_at1)) (fk := fk1) (e_fk := show Gx 16 = fk1 from (ex_fk1)) (tk0 := tk1) (e_tk0 := show Gx 11 = tk1 from (ex_tk1))  (h_g := ⟨(by decide), (by decide)⟩)  (p_0 := by omega)) (fun o V' hq => ?_)
            obtain ⟨G527, A528, at2_529, tk2_530, fk2_531, rfl, rfl, hW532, hF533, e534, e535, e536, p537, p538, q539⟩ := hq
            have hF540 := Fr_tr hF512 hF533 (Fr_sub (by decide)) (Fr_sub (by decide))
            have hP541 := Pf_f hP514 hF533 (by decide)
            have hS542 := Fx_f hS515 hF533 (by decide)
            have hV543 := Fx_f hV516 hF533 (by decide)
            have hK544 := Fx_f hK517 hF533 (by decide)
            have sf545 : wM A528 (sy + 1) (many) := wM_fx (Sg_fr (sb := sy + 1 + many) hF533 (by decide)) (by omega) (by omega) sf518
            have ec546 : ecn A528 (G527 31) = ec := (ecn_f (hF533.2 15 rfl) (hF533.1 31 rfl)).trans ec519
            have bat2_529 : (0 : Int) ≤ at2_529 ∧ at2_529 ≤ 3002 := e534 ▸ hW532.1 10
            have ztk2_530 := tz_b tk2_530
            have btk2_530 : (0 : Int) ≤ tk2_530 ∧ tk2_530 ≤ 5 := e535 ▸ hW532.1 11
            have bfk2_531 : (0 : Int) ≤ fk2_531 ∧ fk2_531 ≤ 6 := e536 ▸ hW532.1 16
            refine .inl ⟨rfl, ?_⟩
            rcases q539 with ⟨a547, a548, a549, a550⟩ | ⟨a551, a552, a553, a554⟩
            · have _q : True := trivial
              refine jx_ld (pc' := 233) (l' := L) (st' := [.ref 66]) rfl (jl_aloadn gL_0) ?_
              refine jx_vr (pc' := 236) (as := []) (st := []) rfl rfl rfl rfl ⟨rfl, rfl, Nat.le_of_ble_eq_true rfl⟩ rfl rfl (c_endLine (dd := d) (hd := by omega) (hW := hW532)  (ln := ln) (e_ln := show G527 9 = ln from ((hF533.1 9 rfl).trans (fx_9))) (li := li) (e_li := show G527 3 = li from ((hF533.1 3 rfl).trans ((hFx.1 3 rfl).trans (e_li)))) (fk := fk2_531) (e_fk := show G527 16 = fk2_531 from (e536)) (tk0 := tk2_530) (e_tk0 := show G527 11 = tk2_530 from (e535))    (p_0 := by omega)) (fun o V' hq => ?_)
              obtain ⟨G555, A556, ln2_557, fk2_558, rfl, rfl, hW559, hF560, e561, e562, q563⟩ := hq
              have hF564 := Fr_tr hF540 hF560 (Fr_sub (by decide)) (Fr_sub (by decide))
              have hP565 := Pf_f hP541 hF560 (by decide)
              have hS566 := Fx_f hS542 hF560 (by decide)
              have hV567 := Fx_f hV543 hF560 (by decide)
              have hK568 := Fx_f hK544 hF560 (by decide)
              have sf569 : wM A556 (sy + 1) (many) := wM_fx (Sg_fr (sb := sy + 1 + many) hF560 (by decide)) (by omega) (by omega) sf545
              have ec570 : ecn A556 (G555 31) = ec := (ecn_f (hF560.2 15 rfl) (hF560.1 31 rfl)).trans ec546
              have bln2_557 : (0 : Int) ≤ ln2_557 ∧ ln2_557 ≤ 3000 := e561 ▸ hW559.1 9
              have bfk2_558 : (0 : Int) ≤ fk2_558 ∧ fk2_558 ≤ 6 := e562 ▸ hW559.1 16
              refine .inl ⟨rfl, ?_⟩
              rcases q563 with ⟨a571, a572, a573, a574, a575⟩ | ⟨a576, a577⟩
              · have _q : True := trivial
                exfalso
                omega
              · have _q : True := trivial
                refine jx_ld (pc' := 237) (l' := L) (st' := [.ref 66]) rfl (jl_aloadn gL_0) ?_
                refine jx_vr (pc' := 240) (as := []) (st := []) rfl rfl rfl rfl ⟨rfl, rfl, Nat.le_of_ble_eq_true rfl⟩ rfl rfl (c_bad (dd := d) (hd := by omega) (hW := hW559)  (fk := fk2_558) (e_fk := show G555 16 = fk2_558 from (e562))    ) (fun o V' hq => ?_)
                obtain ⟨r578, rfl, rfl, b579, q580⟩ := hq
                refine .inr ⟨_, rfl, ?_⟩
                rcases q580 with ⟨rfl, a581⟩ | ⟨rfl, a582⟩
                · have _q : True := trivial
                  refine jx_if_eq (pc' := 243) (tg := 244) rfl rfl rfl (by decide) (by decide) (fun h583 => ?_) (fun h583 => ?_)
                  · have _q := h583
                    exact absurd h583 (by omega)
                  · have _q := h583
                    refine jx_rt (v := none) rfl rfl rfl rfl rfl rfl ?_
                    exact ⟨_, _, ln2_557, at2_529, fk2_558, nd, sy1, na1, vi, A 3 (ln2_557).toNat, pc0, ec, rfl, rfl, hW559, hF564, hP565, hS566, hV567, hK568, (e561), ((hF560.1 10 rfl).trans (e534)), (e562), ((hF560.1 31 rfl).trans ((hF533.1 31 rfl).trans (fx_31))), ((hF560.1 19 rfl).trans ((hF533.1 19 rfl).trans (ex_sy1))), ((hF560.1 28 rfl).trans ((hF533.1 28 rfl).trans (ex_na1))), ((hF560.1 29 rfl).trans ((hF533.1 29 rfl).trans (fx_29))), (congrFun ((hF560.2 3 rfl).trans ((hF533.2 3 rfl).trans (((congrFun eA510 3).trans (uA_ne (by decide))).trans (hFx.2 3 rfl)))) _), ((hF560.1 46 rfl).trans ((hF533.1 46 rfl).trans (fx_46))), ec570, by omega, by omega, by omega, by omega, by first | exact Or.inl (by omega)⟩
                · have _q : True := trivial
                  exfalso
                  omega
            · have _q : True := trivial
              have pz584 : at1 + tz tk2_530 ≤ at2_529 := by omega
              refine jx_ld (pc' := 233) (l' := L) (st' := [.ref 66]) rfl (jl_aloadn gL_0) ?_
              refine jx_vr (pc' := 236) (as := []) (st := []) rfl rfl rfl rfl ⟨rfl, rfl, Nat.le_of_ble_eq_true rfl⟩ rfl rfl (c_endLine (dd := d) (hd := by omega) (hW := hW532)  (ln := ln) (e_ln := show G527 9 = ln from ((hF533.1 9 rfl).trans (fx_9))) (li := li) (e_li := show G527 3 = li from ((hF533.1 3 rfl).trans ((hFx.1 3 rfl).trans (e_li)))) (fk := fk2_531) (e_fk := show G527 16 = fk2_531 from (e536)) (tk0 := tk2_530) (e_tk0 := show G527 11 = tk2_530 from (e535))    (p_0 := by omega)) (fun o V' hq => ?_)
              obtain ⟨G585, A586, ln2_587, fk2_588, rfl, rfl, hW589, hF590, e591, e592, q593⟩ := hq
              have hF594 := Fr_tr hF540 hF590 (Fr_sub (by decide)) (Fr_sub (by decide))
              have hP595 := Pf_f hP541 hF590 (by decide)
              have hS596 := Fx_f hS542 hF590 (by decide)
              have hV597 := Fx_f hV543 hF590 (by decide)
              have hK598 := Fx_f hK544 hF590 (by decide)
              have sf599 : wM A586 (sy + 1) (many) := wM_fx (Sg_fr (sb := sy + 1 + many) hF590 (by decide)) (by omega) (by omega) sf545
              have ec600 : ecn A586 (G585 31) = ec := (ecn_f (hF590.2 15 rfl) (hF590.1 31 rfl)).trans ec546
              have bln2_587 : (0 : Int) ≤ ln2_587 ∧ ln2_587 ≤ 3000 := e591 ▸ hW589.1 9
              have bfk2_588 : (0 : Int) ≤ fk2_588 ∧ fk2_588 ≤ 6 := e592 ▸ hW589.1 16
              refine .inl ⟨rfl, ?_⟩
              rcases q593 with ⟨a601, a602, a603, a604, a605⟩ | ⟨a606, a607⟩
              · have _q : True := trivial
                have b608 : (0 : Int) ≤ A 3 (ln2_587).toNat ∧ A 3 (ln2_587).toNat ≤ 3000 := hW.2 3 _
                have lt609 : ln2_587 < li → le < A 3 (ln2_587).toNat := fun hh => LT_nx (LT_ext (((hF590.1 3 rfl).trans ((hF533.1 3 rfl).trans (hFx.1 3 rfl)))) (((hF590.2 3 rfl).trans ((hF533.2 3 rfl).trans (((congrFun eA510 3).trans (uA_ne (by decide))).trans (hFx.2 3 rfl))))) (((hF590.2 4 rfl).trans ((hF533.2 4 rfl).trans (((congrFun eA510 4).trans (uA_ne (by decide))).trans (hFx.2 4 rfl))))) i_LT) (show G585 3 = li from ((hF590.1 3 rfl).trans ((hF533.1 3 rfl).trans ((hFx.1 3 rfl).trans (e_li))))) (show A586 4 (ln).toNat = le from (congrFun ((hF590.2 4 rfl).trans ((hF533.2 4 rfl).trans (((congrFun eA510 4).trans (uA_ne (by decide))).trans (hFx.2 4 rfl)))) _).trans (e_le)) (show A586 3 (ln2_587).toNat = A 3 (ln2_587).toNat from (congrFun ((hF590.2 3 rfl).trans ((hF533.2 3 rfl).trans (((congrFun eA510 3).trans (uA_ne (by decide))).trans (hFx.2 3 rfl)))) _)) (show ln2_587 = ln + 1 by omega) (by omega) hh
                refine jx_ld (pc' := 237) (l' := L) (st' := [.ref 66]) rfl (jl_aloadn gL_0) ?_
                refine jx_vr (pc' := 240) (as := []) (st := []) rfl rfl rfl rfl ⟨rfl, rfl, Nat.le_of_ble_eq_true rfl⟩ rfl rfl (c_bad (dd := d) (hd := by omega) (hW := hW589)  (fk := fk2_588) (e_fk := show G585 16 = fk2_588 from (e592))    ) (fun o V' hq => ?_)
                obtain ⟨r610, rfl, rfl, b611, q612⟩ := hq
                refine .inr ⟨_, rfl, ?_⟩
                rcases q612 with ⟨rfl, a613⟩ | ⟨rfl, a614⟩
                · have _q : True := trivial
                  exfalso
                  omega
                · have _q : True := trivial
                  refine jx_if_eq (pc' := 243) (tg := 244) rfl rfl rfl (by decide) (by decide) (fun h615 => ?_) (fun h615 => ?_)
                  · have _q := h615
                    refine jx_ld (pc' := 245) (l' := L) (st' := [.ref 66]) rfl (jl_aloadn gL_0) ?_
                    refine jr_get (pc' := 248) (i := 29) (v := .int (i32 (vi))) rfl rfl (by decide) (rFv_eq (by decide) (show G585 29 = vi from ((hF590.1 29 rfl).trans ((hF533.1 29 rfl).trans (fx_29))))) rfl ?_
                    refine jx_ld (pc' := 250) (l' := jSto1 L 4 (.int (i32 (vi)))) (st' := []) rfl rfl ?_
                    obtain ⟨L616, eL616⟩ : ∃ q, q = jSto1 L 4 (.int (i32 (vi))) := ⟨_, rfl⟩
                    rw [← eL616]
                    have gL616_0 : jGet L616 0 = some (.ref 66) := eL616 ▸ jg_ne (by decide) gL_0 rfl
                    have gL616_1 : jGet L616 1 = some (.int (i32 (p))) := eL616 ▸ jg_ne (by decide) gL_1 rfl
                    have gL616_2 : jGet L616 2 = some (.int (i32 (many))) := eL616 ▸ jg_ne (by decide) gL_2 rfl
                    have gL616_3 : jGet L616 3 = some (.int (i32 (more))) := eL616 ▸ jg_ne (by decide) gL_3 rfl
                    have gL616_4 : jGet L616 4 = some (.int (i32 (vi))) := eL616 ▸ jg_eq
                    refine jx_ar (pc' := 251) (st' := [.int (i32 (0))]) rfl rfl rfl rfl ?_
                    refine jx_ld (pc' := 253) (l' := jSto1 L616 5 (.int (i32 (0)))) (st' := []) rfl rfl ?_
                    obtain ⟨L617, eL617⟩ : ∃ q, q = jSto1 L616 5 (.int (i32 (0))) := ⟨_, rfl⟩
                    rw [← eL617]
                    have gL617_0 : jGet L617 0 = some (.ref 66) := eL617 ▸ jg_ne (by decide) gL616_0 rfl
                    have gL617_1 : jGet L617 1 = some (.int (i32 (p))) := eL617 ▸ jg_ne (by decide) gL616_1 rfl
                    have gL617_2 : jGet L617 2 = some (.int (i32 (many))) := eL617 ▸ jg_ne (by decide) gL616_2 rfl
                    have gL617_3 : jGet L617 3 = some (.int (i32 (more))) := eL617 ▸ jg_ne (by decide) gL616_3 rfl
                    have gL617_4 : jGet L617 4 = some (.int (i32 (vi))) := eL617 ▸ jg_ne (by decide) gL616_4 rfl
                    have gL617_5 : jGet L617 5 = some (.int (i32 (0))) := eL617 ▸ jg_eq
                    exact c_readProc_w_at_253 (X := X) (d := d) (Vs := Vs) (sb := sb) (pb := pb) (hvb := hvb) (c0 := c0) (c1 := c1) (G := G) (A := A) (T := T) (ln := ln) (li := li) (at0 := at0) (fk := fk) (nd := nd) (sy := sy) (na := na) (vi := vi) (le := le) (op0 := op0) (tk0 := tk0) (pc0 := pc0) (ec := ec) (hd := hd) (hW := hW) (e_ln := e_ln) (e_li := e_li) (e_at0 := e_at0) (e_fk := e_fk) (e_nd := e_nd) (e_sy := e_sy) (e_na := e_na) (e_vi := e_vi) (e_le := e_le) (e_op0 := e_op0) (e_tk0 := e_tk0) (e_pc0 := e_pc0) (e_ec := e_ec) (i_LT := i_LT) (i_SV := i_SV) (i_PQ := i_PQ) (p_0 := p_0) (p_1 := p_1) (p_2 := p_2) (p_3 := p_3) (p_4 := p_4) (p_5 := p_5) (p_6 := p_6) (p_7 := p_7) (p_8 := p_8) (p_9 := p_9) _ L617 G585 A586 (p) (many) (0) (ln2_587) (at2_529) (fk2_588) (sy1) (na1) (vi) (pp1) (many) (kp1) (np1) (A 3 (ln2_587).toNat) rfl gL617_0 gL617_4 gL617_1 gL617_2 gL617_5 hW589 hF594 hP595 hS596 hV597 hK598 ((e591)) (((hF590.1 10 rfl).trans (e534))) ((e592)) (((hF590.1 19 rfl).trans ((hF533.1 19 rfl).trans (ex_sy1)))) (((hF590.1 28 rfl).trans ((hF533.1 28 rfl).trans (ex_na1)))) (((hF590.1 29 rfl).trans ((hF533.1 29 rfl).trans (fx_29)))) ((congrFun ((hF590.2 29 rfl).trans ((hF533.2 29 rfl).trans ((congrFun eA510 29).trans (uA_ne (by decide))))) _).trans (ex_pp1)) ((congrFun ((hF590.2 30 rfl).trans (hF533.2 30 rfl)) _).trans (q513)) ((congrFun ((hF590.2 7 rfl).trans ((hF533.2 7 rfl).trans ((congrFun eA510 7).trans (uA_ne (by decide))))) _).trans (ex_kp1)) ((congrFun ((hF590.2 12 rfl).trans ((hF533.2 12 rfl).trans ((congrFun eA510 12).trans (uA_ne (by decide))))) _).trans (ex_np1)) ((congrFun ((hF590.2 3 rfl).trans ((hF533.2 3 rfl).trans (((congrFun eA510 3).trans (uA_ne (by decide))).trans (hFx.2 3 rfl)))) _)) (((hF590.1 46 rfl).trans ((hF533.1 46 rfl).trans (fx_46)))) (((hF590.1 31 rfl).trans ((hF533.1 31 rfl).trans (fx_31)))) (ec600) (by omega) (by omega) (by omega) (by omega) (by omega) (by omega) (by omega) (by omega) (by omega) (by omega) (by omega) (by omega) (by omega) (sf599) (DS_nil) (by omega) (by omega) (by omega) (by omega) (by omega)
                  · have _q := h615
                    exact absurd h615 (by omega)
              · have _q : True := trivial
                refine jx_ld (pc' := 237) (l' := L) (st' := [.ref 66]) rfl (jl_aloadn gL_0) ?_
                refine jx_vr (pc' := 240) (as := []) (st := []) rfl rfl rfl rfl ⟨rfl, rfl, Nat.le_of_ble_eq_true rfl⟩ rfl rfl (c_bad (dd := d) (hd := by omega) (hW := hW589)  (fk := fk2_588) (e_fk := show G585 16 = fk2_588 from (e592))    ) (fun o V' hq => ?_)
                obtain ⟨r618, rfl, rfl, b619, q620⟩ := hq
                refine .inr ⟨_, rfl, ?_⟩
                rcases q620 with ⟨rfl, a621⟩ | ⟨rfl, a622⟩
                · have _q : True := trivial
                  refine jx_if_eq (pc' := 243) (tg := 244) rfl rfl rfl (by decide) (by decide) (fun h623 => ?_) (fun h623 => ?_)
                  · have _q := h623
                    exact absurd h623 (by omega)
                  · have _q := h623
                    refine jx_rt (v := none) rfl rfl rfl rfl rfl rfl ?_
                    exact ⟨_, _, ln2_587, at2_529, fk2_588, nd, sy1, na1, vi, A 3 (ln2_587).toNat, pc0, ec, rfl, rfl, hW589, hF594, hP595, hS596, hV597, hK598, (e591), ((hF590.1 10 rfl).trans (e534)), (e592), ((hF590.1 31 rfl).trans ((hF533.1 31 rfl).trans (fx_31))), ((hF590.1 19 rfl).trans ((hF533.1 19 rfl).trans (ex_sy1))), ((hF590.1 28 rfl).trans ((hF533.1 28 rfl).trans (ex_na1))), ((hF590.1 29 rfl).trans ((hF533.1 29 rfl).trans (fx_29))), (congrFun ((hF590.2 3 rfl).trans ((hF533.2 3 rfl).trans (((congrFun eA510 3).trans (uA_ne (by decide))).trans (hFx.2 3 rfl)))) _), ((hF590.1 46 rfl).trans ((hF533.1 46 rfl).trans (fx_46))), ec600, by omega, by omega, by omega, by omega, by first | exact Or.inl (by omega)⟩
                · have _q : True := trivial
                  exfalso
                  omega
          · have _q : True := trivial
            refine jx_vr (pc' := 232) (as := [.int (i32 (0))]) (st := []) rfl rfl rfl rfl ⟨rfl, rfl, Nat.le_of_ble_eq_true rfl⟩ rfl rfl (c_need (dd := d) (hd := by omega) (hW := hW511) (g := 0) (ln := ln) (e_ln := show Gx 9 = ln from (fx_9)) (le := le) (e_le := show A510 4 (ln).toNat = le from (congrFun (((congrFun eA510 4).trans (uA_ne (by decide))).trans (hFx.2 4 rfl)) _).trans (e_le)) (at0 := at1) (e_at0 := show Gx 10 = at1 from (ex_at1)) (fk := fk1) (e_fk := show Gx 16 = fk1 from (ex_fk1)) (tk0 := tk1) (e_tk0 := show Gx 11 = tk1 from (ex_tk1))  (h_g := ⟨(by decide), (by decide)⟩)  (p_0 := by omega)) (fun o V' hq => ?_)
            obtain ⟨G624, A625, at2_626, tk2_627, fk2_628, rfl, rfl, hW629, hF630, e631, e632, e633, p634, p635, q636⟩ := hq
            have hF637 := Fr_tr hF512 hF630 (Fr_sub (by decide)) (Fr_sub (by decide))
            have hP638 := Pf_f hP514 hF630 (by decide)
            have hS639 := Fx_f hS515 hF630 (by decide)
            have hV640 := Fx_f hV516 hF630 (by decide)
            have hK641 := Fx_f hK517 hF630 (by decide)
            have sf642 : wM A625 (sy + 1) (many) := wM_fx (Sg_fr (sb := sy + 1 + many) hF630 (by decide)) (by omega) (by omega) sf518
            have ec643 : ecn A625 (G624 31) = ec := (ecn_f (hF630.2 15 rfl) (hF630.1 31 rfl)).trans ec519
            have bat2_626 : (0 : Int) ≤ at2_626 ∧ at2_626 ≤ 3002 := e631 ▸ hW629.1 10
            have ztk2_627 := tz_b tk2_627
            have btk2_627 : (0 : Int) ≤ tk2_627 ∧ tk2_627 ≤ 5 := e632 ▸ hW629.1 11
            have bfk2_628 : (0 : Int) ≤ fk2_628 ∧ fk2_628 ≤ 6 := e633 ▸ hW629.1 16
            refine .inl ⟨rfl, ?_⟩
            rcases q636 with ⟨a644, a645, a646, a647⟩ | ⟨a648, a649, a650, a651⟩
            · have _q : True := trivial
              refine jx_ld (pc' := 233) (l' := L) (st' := [.ref 66]) rfl (jl_aloadn gL_0) ?_
              refine jx_vr (pc' := 236) (as := []) (st := []) rfl rfl rfl rfl ⟨rfl, rfl, Nat.le_of_ble_eq_true rfl⟩ rfl rfl (c_endLine (dd := d) (hd := by omega) (hW := hW629)  (ln := ln) (e_ln := show G624 9 = ln from ((hF630.1 9 rfl).trans (fx_9))) (li := li) (e_li := show G624 3 = li from ((hF630.1 3 rfl).trans ((hFx.1 3 rfl).trans (e_li)))) (fk := fk2_628) (e_fk := show G624 16 = fk2_628 from (e633)) (tk0 := tk2_627) (e_tk0 := show G624 11 = tk2_627 from (e632))    (p_0 := by omega)) (fun o V' hq => ?_)
              obtain ⟨G652, A653, ln2_654, fk2_655, rfl, rfl, hW656, hF657, e658, e659, q660⟩ := hq
              have hF661 := Fr_tr hF637 hF657 (Fr_sub (by decide)) (Fr_sub (by decide))
              have hP662 := Pf_f hP638 hF657 (by decide)
              have hS663 := Fx_f hS639 hF657 (by decide)
              have hV664 := Fx_f hV640 hF657 (by decide)
              have hK665 := Fx_f hK641 hF657 (by decide)
              have sf666 : wM A653 (sy + 1) (many) := wM_fx (Sg_fr (sb := sy + 1 + many) hF657 (by decide)) (by omega) (by omega) sf642
              have ec667 : ecn A653 (G652 31) = ec := (ecn_f (hF657.2 15 rfl) (hF657.1 31 rfl)).trans ec643
              have bln2_654 : (0 : Int) ≤ ln2_654 ∧ ln2_654 ≤ 3000 := e658 ▸ hW656.1 9
              have bfk2_655 : (0 : Int) ≤ fk2_655 ∧ fk2_655 ≤ 6 := e659 ▸ hW656.1 16
              refine .inl ⟨rfl, ?_⟩
              rcases q660 with ⟨a668, a669, a670, a671, a672⟩ | ⟨a673, a674⟩
              · have _q : True := trivial
                exfalso
                omega
              · have _q : True := trivial
                refine jx_ld (pc' := 237) (l' := L) (st' := [.ref 66]) rfl (jl_aloadn gL_0) ?_
                refine jx_vr (pc' := 240) (as := []) (st := []) rfl rfl rfl rfl ⟨rfl, rfl, Nat.le_of_ble_eq_true rfl⟩ rfl rfl (c_bad (dd := d) (hd := by omega) (hW := hW656)  (fk := fk2_655) (e_fk := show G652 16 = fk2_655 from (e659))    ) (fun o V' hq => ?_)
                obtain ⟨r675, rfl, rfl, b676, q677⟩ := hq
                refine .inr ⟨_, rfl, ?_⟩
                rcases q677 with ⟨rfl, a678⟩ | ⟨rfl, a679⟩
                · have _q : True := trivial
                  refine jx_if_eq (pc' := 243) (tg := 244) rfl rfl rfl (by decide) (by decide) (fun h680 => ?_) (fun h680 => ?_)
                  · have _q := h680
                    exact absurd h680 (by omega)
                  · have _q := h680
                    refine jx_rt (v := none) rfl rfl rfl rfl rfl rfl ?_
                    exact ⟨_, _, ln2_654, at2_626, fk2_655, nd, sy1, na1, vi, A 3 (ln2_654).toNat, pc0, ec, rfl, rfl, hW656, hF661, hP662, hS663, hV664, hK665, (e658), ((hF657.1 10 rfl).trans (e631)), (e659), ((hF657.1 31 rfl).trans ((hF630.1 31 rfl).trans (fx_31))), ((hF657.1 19 rfl).trans ((hF630.1 19 rfl).trans (ex_sy1))), ((hF657.1 28 rfl).trans ((hF630.1 28 rfl).trans (ex_na1))), ((hF657.1 29 rfl).trans ((hF630.1 29 rfl).trans (fx_29))), (congrFun ((hF657.2 3 rfl).trans ((hF630.2 3 rfl).trans (((congrFun eA510 3).trans (uA_ne (by decide))).trans (hFx.2 3 rfl)))) _), ((hF657.1 46 rfl).trans ((hF630.1 46 rfl).trans (fx_46))), ec667, by omega, by omega, by omega, by omega, by first | exact Or.inl (by omega)⟩
                · have _q : True := trivial
                  exfalso
                  omega
            · have _q : True := trivial
              exfalso
              omega
        · have _q := h509
          refine jx_ld (pc' := 158) (l' := L) (st' := [.ref 66]) rfl (jl_aloadn gL_0) ?_
          refine jx_ld (pc' := 159) (l' := L) (st' := [.ref 66, .ref 66]) rfl (jl_aloadn gL_0) ?_
          refine jr_get (pc' := 162) (i := 47) (v := .ref 96) rfl rfl (by decide) rfl rfl ?_
          refine jx_ld (pc' := 163) (l' := L) (st' := [.ref 66, .ref 96, .ref 66]) rfl (jl_aloadn gL_0) ?_
          refine jr_get (pc' := 166) (i := 46) (v := .int (i32 (pc0))) rfl rfl (by decide) (rFv_eq (by decide) (show Gx 46 = pc0 from (fx_46))) rfl ?_
          refine jr_ldv (pc' := 167) (i := 29) (m := 25) (z := pc0) (y := pp1) rfl (by decide) rfl (by decide) (Int.le_trans (by decide : (0 : Int) ≤ 0) b_pc0.1) (Int.lt_of_le_of_lt b_pc0.2 (by decide : (24 : Int) < ((25 : Nat) : Int))) rfl (show Ax 29 (pc0).toNat = pp1 from (ex_pp1)) ?_
          refine jx_vr (pc' := 170) (as := [.int (i32 (pp1))]) (st := []) rfl rfl rfl rfl ⟨rfl, rfl, Nat.le_of_ble_eq_true rfl⟩ rfl rfl (c_readParameter (dd := d) (hd := by omega) (hW := hWx) (fr := pp1) (ln := ln) (e_ln := show Gx 9 = ln from (fx_9)) (le := le) (e_le := show Ax 4 (ln).toNat = le from (congrFun (hFx.2 4 rfl) _).trans (e_le)) (at0 := at1) (e_at0 := show Gx 10 = at1 from (ex_at1)) (fk := fk1) (e_fk := show Gx 16 = fk1 from (ex_fk1)) (tk0 := tk1) (e_tk0 := show Gx 11 = tk1 from (ex_tk1)) (sy := sy1) (e_sy := show Gx 19 = sy1 from (ex_sy1)) (na := na1) (e_na := show Gx 28 = na1 from (ex_na1))  (h_fr := ⟨(by omega), (by omega)⟩)  (p_0 := by omega) (p_1 := by omega) (p_2 := by omega) (p_3 := by omega)) (fun o V' hq => ?_)
          obtain ⟨G681, A682, at2_683, fk2_684, sy2_685, na2_686, rfl, rfl, hW687, hF688, hQ689, e690, e691, e692, e693, p694, p695, p696, p697, q698⟩ := hq
          have hF699 := Fr_tr hFx hF688 (Fr_sub (by decide)) (Fr_sub (by decide))
          have hP700 := Pf_f hPx hF688 (by decide)
          have hS701 := Fx_tr hSx hQ689 (by omega)
          have hV702 := Fx_f hVx hF688 (by decide)
          have hK703 := Fx_f hKx hF688 (by decide)
          have k704 : A682 7 (sy).toNat = kp1 := (hQ689 7 _ rfl (by omega)).trans (show Ax 7 (sy).toNat = kp1 from (ex_kp1))
          have k705 : A682 12 (sy).toNat = np1 := (hQ689 12 _ rfl (by omega)).trans (show Ax 12 (sy).toNat = np1 from (ex_np1))
          have sf706 : wM A682 (sy + 1) (many) := wM_fx hQ689 (by omega) (by omega) iv_8
          have ec707 : ecn A682 (G681 31) = ec := (ecn_f (hF688.2 15 rfl) (hF688.1 31 rfl)).trans fx_900
          have bat2_683 : (0 : Int) ≤ at2_683 ∧ at2_683 ≤ 3002 := e690 ▸ hW687.1 10
          have bfk2_684 : (0 : Int) ≤ fk2_684 ∧ fk2_684 ≤ 6 := e691 ▸ hW687.1 16
          have bsy2_685 : (0 : Int) ≤ sy2_685 ∧ sy2_685 ≤ 202 := e692 ▸ hW687.1 19
          have bna2_686 : (0 : Int) ≤ na2_686 ∧ na2_686 ≤ 200 := e693 ▸ hW687.1 28
          refine .inl ⟨rfl, ?_⟩
          rcases q698 with a708 | ⟨a709, a710, a711⟩
          · have _q : True := trivial
            refine jx_inc (pc' := 173) (l' := jSto1 L 2 (.int (i32 ((many + (1)))))) (x := many) rfl gL_2 (by decide) rfl rfl ?_
            obtain ⟨L712, eL712⟩ : ∃ q, q = jSto1 L 2 (.int (i32 ((many + (1))))) := ⟨_, rfl⟩
            rw [← eL712]
            have gL712_0 : jGet L712 0 = some (.ref 66) := eL712 ▸ jg_ne (by decide) gL_0 rfl
            have gL712_1 : jGet L712 1 = some (.int (i32 (p))) := eL712 ▸ jg_ne (by decide) gL_1 rfl
            have gL712_3 : jGet L712 3 = some (.int (i32 (more))) := eL712 ▸ jg_ne (by decide) gL_3 rfl
            have gL712_2 : jGet L712 2 = some (.int (i32 ((many + (1))))) := eL712 ▸ jg_eq
            refine jx_ld (pc' := 174) (l' := L712) (st' := [.ref 66]) rfl (jl_aloadn gL712_0) ?_
            refine jx_vr (pc' := 177) (as := []) (st := []) rfl rfl rfl rfl ⟨rfl, rfl, Nat.le_of_ble_eq_true rfl⟩ rfl rfl (c_bad (dd := d) (hd := by omega) (hW := hW687)  (fk := fk2_684) (e_fk := show G681 16 = fk2_684 from (e691))    ) (fun o V' hq => ?_)
            obtain ⟨r713, rfl, rfl, b714, q715⟩ := hq
            refine .inr ⟨_, rfl, ?_⟩
            rcases q715 with ⟨rfl, a716⟩ | ⟨rfl, a717⟩
            · have _q : True := trivial
              refine jx_if_ne (pc' := 180) (tg := 199) rfl rfl rfl (by decide) (by decide) (fun h718 => ?_) (fun h718 => ?_)
              · have _q := h718
                refine jx_ar (pc' := 200) (st' := [.int (i32 (0))]) rfl rfl rfl rfl ?_
                refine jx_ld (pc' := 201) (l' := jSto1 L712 3 (.int (i32 (0)))) (st' := []) rfl rfl ?_
                obtain ⟨L719, eL719⟩ : ∃ q, q = jSto1 L712 3 (.int (i32 (0))) := ⟨_, rfl⟩
                rw [← eL719]
                have gL719_0 : jGet L719 0 = some (.ref 66) := eL719 ▸ jg_ne (by decide) gL712_0 rfl
                have gL719_1 : jGet L719 1 = some (.int (i32 (p))) := eL719 ▸ jg_ne (by decide) gL712_1 rfl
                have gL719_2 : jGet L719 2 = some (.int (i32 ((many + (1))))) := eL719 ▸ jg_ne (by decide) gL712_2 rfl
                have gL719_3 : jGet L719 3 = some (.int (i32 (0))) := eL719 ▸ jg_eq
                refine jx_ld (pc' := 202) (l' := L719) (st' := [.int (i32 (0))]) rfl (jl_iloadn gL719_3) ?_
                refine jx_if_eq (pc' := 205) (tg := 146) rfl rfl rfl (by decide) (by decide) (fun h720 => ?_) (fun h720 => ?_)
                · have _q := h720
                  refine jx_ld (pc' := 147) (l' := L719) (st' := [.ref 66]) rfl (jl_aloadn gL719_0) ?_
                  refine jx_vr (pc' := 150) (as := []) (st := []) rfl rfl rfl rfl ⟨rfl, rfl, Nat.le_of_ble_eq_true rfl⟩ rfl rfl (c_bad (dd := d) (hd := by omega) (hW := hW687)  (fk := fk2_684) (e_fk := show G681 16 = fk2_684 from (e691))    ) (fun o V' hq => ?_)
                  obtain ⟨r721, rfl, rfl, b722, q723⟩ := hq
                  refine .inr ⟨_, rfl, ?_⟩
                  rcases q723 with ⟨rfl, a724⟩ | ⟨rfl, a725⟩
                  · have _q : True := trivial
                    refine jx_if_ne (pc' := 153) (tg := 212) rfl rfl rfl (by decide) (by decide) (fun h726 => ?_) (fun h726 => ?_)
                    · have _q := h726
                      exact c_readProc_w_at_212p (X := X) (d := d) (Vs := Vs) (sb := sb) (pb := pb) (hvb := hvb) (c0 := c0) (c1 := c1) (G := G) (A := A) (T := T) (ln := ln) (li := li) (at0 := at0) (fk := fk) (nd := nd) (sy := sy) (na := na) (vi := vi) (le := le) (op0 := op0) (tk0 := tk0) (pc0 := pc0) (ec := ec) (hd := hd) (hW := hW) (e_ln := e_ln) (e_li := e_li) (e_at0 := e_at0) (e_fk := e_fk) (e_nd := e_nd) (e_sy := e_sy) (e_na := e_na) (e_vi := e_vi) (e_le := e_le) (e_op0 := e_op0) (e_tk0 := e_tk0) (e_pc0 := e_pc0) (e_ec := e_ec) (i_LT := i_LT) (i_SV := i_SV) (i_PQ := i_PQ) (p_0 := p_0) (p_1 := p_1) (p_2 := p_2) (p_3 := p_3) (p_4 := p_4) (p_5 := p_5) (p_6 := p_6) (p_7 := p_7) (p_8 := p_8) (p_9 := p_9) L719 G681 A682 (p) ((many + (1))) (at2_683) (fk2_684) (sy2_685) (na2_686) gL719_0 gL719_1 gL719_2 hW687 hF699 hP700 hS701 hV702 hK703 ((e690)) ((e691)) ((e692)) ((e693)) (((hF688.1 9 rfl).trans (fx_9))) (((hF688.1 29 rfl).trans (fx_29))) (((hF688.1 46 rfl).trans (fx_46))) (((hF688.1 31 rfl).trans (fx_31))) (ec707) (by omega) (by omega) (by omega) (by omega) (by omega) (by omega) (by omega) (by omega) (by omega)
                    · have _q := h726
                      exact absurd h726 (by omega)
                  · have _q : True := trivial
                    exfalso
                    omega
                · have _q := h720
                  exact absurd h720 (by omega)
              · have _q := h718
                exact absurd h718 (by omega)
            · have _q : True := trivial
              exfalso
              omega
          · have _q : True := trivial
            refine jx_inc (pc' := 173) (l' := jSto1 L 2 (.int (i32 ((many + (1)))))) (x := many) rfl gL_2 (by decide) rfl rfl ?_
            obtain ⟨L727, eL727⟩ : ∃ q, q = jSto1 L 2 (.int (i32 ((many + (1))))) := ⟨_, rfl⟩
            rw [← eL727]
            have gL727_0 : jGet L727 0 = some (.ref 66) := eL727 ▸ jg_ne (by decide) gL_0 rfl
            have gL727_1 : jGet L727 1 = some (.int (i32 (p))) := eL727 ▸ jg_ne (by decide) gL_1 rfl
            have gL727_3 : jGet L727 3 = some (.int (i32 (more))) := eL727 ▸ jg_ne (by decide) gL_3 rfl
            have gL727_2 : jGet L727 2 = some (.int (i32 ((many + (1))))) := eL727 ▸ jg_eq
            refine jx_ld (pc' := 174) (l' := L727) (st' := [.ref 66]) rfl (jl_aloadn gL727_0) ?_
            refine jx_vr (pc' := 177) (as := []) (st := []) rfl rfl rfl rfl ⟨rfl, rfl, Nat.le_of_ble_eq_true rfl⟩ rfl rfl (c_bad (dd := d) (hd := by omega) (hW := hW687)  (fk := fk2_684) (e_fk := show G681 16 = fk2_684 from (e691))    ) (fun o V' hq => ?_)
            obtain ⟨r728, rfl, rfl, b729, q730⟩ := hq
            refine .inr ⟨_, rfl, ?_⟩
            rcases q730 with ⟨rfl, a731⟩ | ⟨rfl, a732⟩
            · have _q : True := trivial
              exfalso
              omega
            · have _q : True := trivial
              refine jx_if_ne (pc' := 180) (tg := 199) rfl rfl rfl (by decide) (by decide) (fun h733 => ?_) (fun h733 => ?_)
              · have _q := h733
                exact absurd h733 (by omega)
              · have _q := h733
                refine jx_ld (pc' := 181) (l' := L727) (st' := [.ref 66]) rfl (jl_aloadn gL727_0) ?_
                refine jx_ar (pc' := 183) (st' := [.int (i32 (44)), .ref 66]) rfl rfl rfl rfl ?_
                have b734 : (0 : Int) ≤ G681 11 ∧ G681 11 ≤ 5 := hW687.1 11
                have b735 : (-2147483648 : Int) ≤ G681 13 ∧ G681 13 ≤ 2147483647 := hW687.1 13
                refine jx_vr (pc' := 186) (as := [.int (i32 (44))]) (st := []) rfl rfl rfl rfl ⟨rfl, rfl, Nat.le_of_ble_eq_true rfl⟩ rfl rfl (c_is (dd := d) (hd := by omega) (hW := hW687) (k := 44) (tk := G681 11) (e_tk := show G681 11 = G681 11 from rfl) (tn := G681 13) (e_tn := show G681 13 = G681 13 from rfl)  (h_k := ⟨(by decide), (by decide)⟩)  ) (fun o V' hq => ?_)
                obtain ⟨r736, rfl, rfl, b737, q738⟩ := hq
                refine .inr ⟨_, rfl, ?_⟩
                rcases q738 with ⟨rfl, a739, a740, a741⟩ | rfl
                · have _q : True := trivial
                  refine jx_if_eq (pc' := 189) (tg := 199) rfl rfl rfl (by decide) (by decide) (fun h742 => ?_) (fun h742 => ?_)
                  · have _q := h742
                    exact absurd h742 (by omega)
                  · have _q := h742
                    refine jx_ld (pc' := 190) (l' := L727) (st' := [.int (i32 ((many + (1))))]) rfl (jl_iloadn gL727_2) ?_
                    refine jx_ar (pc' := 192) (st' := [.int (i32 (6)), .int (i32 ((many + (1))))]) rfl rfl rfl rfl ?_
                    refine jx_icmp_ge (pc' := 195) (tg := 199) rfl rfl rfl (by omega) (by omega) (by decide) (by decide) (fun h743 => ?_) (fun h743 => ?_)
                    · have _q := h743
                      refine jx_ar (pc' := 200) (st' := [.int (i32 (0))]) rfl rfl rfl rfl ?_
                      refine jx_ld (pc' := 201) (l' := jSto1 L727 3 (.int (i32 (0)))) (st' := []) rfl rfl ?_
                      obtain ⟨L744, eL744⟩ : ∃ q, q = jSto1 L727 3 (.int (i32 (0))) := ⟨_, rfl⟩
                      rw [← eL744]
                      have gL744_0 : jGet L744 0 = some (.ref 66) := eL744 ▸ jg_ne (by decide) gL727_0 rfl
                      have gL744_1 : jGet L744 1 = some (.int (i32 (p))) := eL744 ▸ jg_ne (by decide) gL727_1 rfl
                      have gL744_2 : jGet L744 2 = some (.int (i32 ((many + (1))))) := eL744 ▸ jg_ne (by decide) gL727_2 rfl
                      have gL744_3 : jGet L744 3 = some (.int (i32 (0))) := eL744 ▸ jg_eq
                      refine jx_ld (pc' := 202) (l' := L744) (st' := [.int (i32 (0))]) rfl (jl_iloadn gL744_3) ?_
                      refine jx_if_eq (pc' := 205) (tg := 146) rfl rfl rfl (by decide) (by decide) (fun h745 => ?_) (fun h745 => ?_)
                      · have _q := h745
                        exact ih146 _ (by omega) L744 G681 A682 (p) ((many + (1))) (0) (at2_683) (G681 11) (fk2_684) (sy2_685) (na2_686) (pp1) (kp1) (np1) rfl gL744_0 gL744_1 gL744_2 gL744_3 hW687 hF699 hP700 hS701 hV702 hK703 ((e690)) (rfl) ((e691)) ((e692)) ((e693)) ((congrFun (hF688.2 29 rfl) _).trans (ex_pp1)) ((k704)) ((k705)) (((hF688.1 9 rfl).trans (fx_9))) (((hF688.1 29 rfl).trans (fx_29))) (((hF688.1 46 rfl).trans (fx_46))) (((hF688.1 31 rfl).trans (fx_31))) (ec707) (by omega) (by omega) (by omega) (by omega) (by omega) (by omega) (by omega) (by omega) (by omega) (by omega) (by omega) ((wM_add sf706 a711 (by omega) (by omega))) (by omega) (by omega) (by omega) (by omega) (by omega)
                      · have _q := h745
                        exact absurd h745 (by omega)
                    · have _q := h743
                      refine jx_ar (pc' := 196) (st' := [.int (i32 (1))]) rfl rfl rfl rfl ?_
                      refine jx_go (tg := 200) rfl rfl ?_
                      refine jx_ld (pc' := 201) (l' := jSto1 L727 3 (.int (i32 (1)))) (st' := []) rfl rfl ?_
                      obtain ⟨L746, eL746⟩ : ∃ q, q = jSto1 L727 3 (.int (i32 (1))) := ⟨_, rfl⟩
                      rw [← eL746]
                      have gL746_0 : jGet L746 0 = some (.ref 66) := eL746 ▸ jg_ne (by decide) gL727_0 rfl
                      have gL746_1 : jGet L746 1 = some (.int (i32 (p))) := eL746 ▸ jg_ne (by decide) gL727_1 rfl
                      have gL746_2 : jGet L746 2 = some (.int (i32 ((many + (1))))) := eL746 ▸ jg_ne (by decide) gL727_2 rfl
                      have gL746_3 : jGet L746 3 = some (.int (i32 (1))) := eL746 ▸ jg_eq
                      refine jx_ld (pc' := 202) (l' := L746) (st' := [.int (i32 (1))]) rfl (jl_iloadn gL746_3) ?_
                      refine jx_if_eq (pc' := 205) (tg := 146) rfl rfl rfl (by decide) (by decide) (fun h747 => ?_) (fun h747 => ?_)
                      · have _q := h747
                        exact absurd h747 (by omega)
                      · have _q := h747
                        refine jx_ld (pc' := 206) (l' := L746) (st' := [.ref 66]) rfl (jl_aloadn gL746_0) ?_
                        refine jx_vr (pc' := 209) (as := []) (st := []) rfl rfl rfl rfl ⟨rfl, rfl, Nat.le_of_ble_eq_true rfl⟩ rfl rfl (c_next (dd := d) (hd := by omega) (hW := hW687)  (ln := ln) (e_ln := show G681 9 = ln from ((hF688.1 9 rfl).trans (fx_9))) (le := le) (e_le := show A682 4 (ln).toNat = le from (congrFun ((hF688.2 4 rfl).trans (hFx.2 4 rfl)) _).trans (e_le)) (at0 := at2_683) (e_at0 := show G681 10 = at2_683 from (e690))    (p_0 := by omega)) (fun o V' hq => ?_)
                        obtain ⟨G748, A749, at2_750, tk2_751, rfl, rfl, hW752, hF753, e754, e755, p756, p757, p758, -⟩ := hq
                        have hF760 := Fr_tr hF699 hF753 (Fr_sub (by decide)) (Fr_sub (by decide))
                        have hP761 := Pf_f hP700 hF753 (by decide)
                        have hS762 := Fx_f hS701 hF753 (by decide)
                        have hV763 := Fx_f hV702 hF753 (by decide)
                        have hK764 := Fx_f hK703 hF753 (by decide)
                        have sf765 : wM A749 (sy + 1) (many) := wM_fx (Sg_fr (sb := sy + 1 + many) hF753 (by decide)) (by omega) (by omega) sf706
                        have sf766 : MP A749 (sy1) := MP_fx (Sg_fr (sb := sy1 + 1) hF753 (by decide)) (by omega) (by omega) a711
                        have ec767 : ecn A749 (G748 31) = ec := (ecn_f (hF753.2 15 rfl) (hF753.1 31 rfl)).trans ec707
                        have bat2_750 : (0 : Int) ≤ at2_750 ∧ at2_750 ≤ 3002 := e754 ▸ hW752.1 10
                        have ztk2_751 := tz_b tk2_751
                        have btk2_751 : (0 : Int) ≤ tk2_751 ∧ tk2_751 ≤ 5 := e755 ▸ hW752.1 11
                        refine .inl ⟨rfl, ?_⟩
                        have pz768 : at2_683 + tz tk2_751 ≤ at2_750 := by omega
                        refine jx_go (tg := 146) rfl rfl ?_
                        exact ih146 _ (by omega) L746 G748 A749 (p) ((many + (1))) (1) (at2_750) (tk2_751) (fk2_684) (sy2_685) (na2_686) (pp1) (kp1) (np1) rfl gL746_0 gL746_1 gL746_2 gL746_3 hW752 hF760 hP761 hS762 hV763 hK764 ((e754)) ((e755)) (((hF753.1 16 rfl).trans (e691))) (((hF753.1 19 rfl).trans (e692))) (((hF753.1 28 rfl).trans (e693))) ((congrFun ((hF753.2 29 rfl).trans (hF688.2 29 rfl)) _).trans (ex_pp1)) ((congrFun (hF753.2 7 rfl) _).trans (k704)) ((congrFun (hF753.2 12 rfl) _).trans (k705)) (((hF753.1 9 rfl).trans ((hF688.1 9 rfl).trans (fx_9)))) (((hF753.1 29 rfl).trans ((hF688.1 29 rfl).trans (fx_29)))) (((hF753.1 46 rfl).trans ((hF688.1 46 rfl).trans (fx_46)))) (((hF753.1 31 rfl).trans ((hF688.1 31 rfl).trans (fx_31)))) (ec767) (by omega) (by omega) (by omega) (by omega) (by omega) (by omega) (by omega) (by omega) (by omega) (by omega) (by omega) ((wM_add sf765 sf766 (by omega) (by omega))) (by omega) (by omega) (by omega) (by omega) (by omega)
                · have _q : True := trivial
                  refine jx_if_eq (pc' := 189) (tg := 199) rfl rfl rfl (by decide) (by decide) (fun h769 => ?_) (fun h769 => ?_)
                  · have _q := h769
                    refine jx_ar (pc' := 200) (st' := [.int (i32 (0))]) rfl rfl rfl rfl ?_
                    refine jx_ld (pc' := 201) (l' := jSto1 L727 3 (.int (i32 (0)))) (st' := []) rfl rfl ?_
                    obtain ⟨L770, eL770⟩ : ∃ q, q = jSto1 L727 3 (.int (i32 (0))) := ⟨_, rfl⟩
                    rw [← eL770]
                    have gL770_0 : jGet L770 0 = some (.ref 66) := eL770 ▸ jg_ne (by decide) gL727_0 rfl
                    have gL770_1 : jGet L770 1 = some (.int (i32 (p))) := eL770 ▸ jg_ne (by decide) gL727_1 rfl
                    have gL770_2 : jGet L770 2 = some (.int (i32 ((many + (1))))) := eL770 ▸ jg_ne (by decide) gL727_2 rfl
                    have gL770_3 : jGet L770 3 = some (.int (i32 (0))) := eL770 ▸ jg_eq
                    refine jx_ld (pc' := 202) (l' := L770) (st' := [.int (i32 (0))]) rfl (jl_iloadn gL770_3) ?_
                    refine jx_if_eq (pc' := 205) (tg := 146) rfl rfl rfl (by decide) (by decide) (fun h771 => ?_) (fun h771 => ?_)
                    · have _q := h771
                      exact ih146 _ (by omega) L770 G681 A682 (p) ((many + (1))) (0) (at2_683) (G681 11) (fk2_684) (sy2_685) (na2_686) (pp1) (kp1) (np1) rfl gL770_0 gL770_1 gL770_2 gL770_3 hW687 hF699 hP700 hS701 hV702 hK703 ((e690)) (rfl) ((e691)) ((e692)) ((e693)) ((congrFun (hF688.2 29 rfl) _).trans (ex_pp1)) ((k704)) ((k705)) (((hF688.1 9 rfl).trans (fx_9))) (((hF688.1 29 rfl).trans (fx_29))) (((hF688.1 46 rfl).trans (fx_46))) (((hF688.1 31 rfl).trans (fx_31))) (ec707) (by omega) (by omega) (by omega) (by omega) (by omega) (by omega) (by omega) (by omega) (by omega) (by omega) (by omega) ((wM_add sf706 a711 (by omega) (by omega))) (by omega) (by omega) (by omega) (by omega) (by omega)
                    · have _q := h771
                      exact absurd h771 (by omega)
                  · have _q := h769
                    exact absurd h769 (by omega)
set_option maxRecDepth 20000 in
set_option maxHeartbeats 4000000 in
theorem c_readProc_w {X : jX} {dd : Nat} {Vs : Nat → Prop} {sb pb : Int} (hvb : VB Vs sb) {c0 c1 : jC} {G : Nat → Int} {A : Nat → Nat → Int} {T : jH} {ln li at0 fk nd sy na vi le op0 tk0 pc0 ec : Int} (hd : 8 * 18 + 81 ≤ dd) (hW : Wk G A) (e_ln : G 9 = ln) (e_li : G 3 = li) (e_at0 : G 10 = at0) (e_fk : G 16 = fk) (e_nd : G 31 = nd) (e_sy : G 19 = sy) (e_na : G 28 = na) (e_vi : G 29 = vi) (e_le : A 4 (ln).toNat = le) (e_op0 : G 15 = op0) (e_tk0 : G 11 = tk0) (e_pc0 : G 46 = pc0) (e_ec : ecn A (G 31) = ec) (i_LT : LT G A) (i_SV : SV Vs sb G A) (i_PQ : PQ Vs sb pb G A) (p_0 : fk = 0) (p_1 : ln < li) (p_2 : at0 ≤ le) (p_3 : nd ≤ 2 * at0 - tz tk0 + 30) (p_4 : sy ≤ na + 2) (p_5 : vi ≤ sy) (p_6 : sb ≤ sy) (p_7 : pb = pc0) (p_8 : wQ A (pc0).toNat (nd) (sy)) (p_9 : VT (Vs) A (sy)) : wk X dd 308 [.ref 66] (rV c0 c1 G A T) (fun o V' => ∃ (G' : Nat → Int) (A' : Nat → Nat → Int) (ln2 : Int) (at2 : Int) (fk2 : Int) (nd2 : Int) (sy2 : Int) (na2 : Int) (vi2 : Int) (lf2 : Int) (pc2 : Int) (ec2 : Int), V' = rV c0 c1 G' A' T ∧ o = .inl none ∧ Wk G' A' ∧ Fr [9, 10, 11, 12, 13, 14, 15, 16, 17, 18, 19, 28, 29, 31, 46] [6, 7, 8, 9, 10, 11, 12, 14, 15, 16, 17, 18, 19, 20, 21, 22, 23, 24, 28, 29, 30, 31] G A G' A' ∧ Pf nd A A' ∧ Fx sr (sy) A A' ∧ Fx [14] (vi) A A' ∧ Fx [29, 30, 31] (pc0) A A' ∧ G' 9 = ln2 ∧ G' 10 = at2 ∧ G' 16 = fk2 ∧ G' 31 = nd2 ∧ G' 19 = sy2 ∧ G' 28 = na2 ∧ G' 29 = vi2 ∧ A' 3 (ln2).toNat = lf2 ∧ G' 46 = pc2 ∧ ecn A' (G' 31) = ec2 ∧ (sy2 ≤ na2 + 2) ∧ (vi2 ≤ sy2) ∧ (ln ≤ ln2) ∧ (ln2 ≤ li) ∧ (((1 ≤ fk2)) ∨ ((fk2 = 0) ∧ (ln < ln2) ∧ (at0 ≤ at2) ∧ (pc2 = pc0 + 1) ∧ (nd2 - nd ≤ 2 * at2 - (2 * at0 - tz tk0)) ∧ (at2 < lf2 ∨ li ≤ ln2) ∧ (vi2 = vi + 1) ∧ (sy < sy2) ∧ (wQ A' (pc2).toNat (nd2) (sy2)) ∧ (SW (Vu Vs sy) (sy2) (vi2) A') ∧ (PQ (Vu Vs sy) (sy2) (pc2) (fun _ => 0) A') ∧ (VT (Vu Vs sy) A' (sy2)) ∧ (nd2 - nd + 5 * (ec2 - ec) ≤ 2 * at2 - (2 * at0 - tz tk0))))) := by
  obtain ⟨d, rfl⟩ : ∃ d, dd = d + 1 := ⟨dd - 1, by omega⟩
  refine wk_of (e := jm308) rfl (Nat.le_of_ble_eq_true rfl) ?_
  show wj X d jm308 (0, [(0, .ref 66)], [], rV c0 c1 G A T) _
  have hF0 : Fr [9, 10, 11, 12, 13, 14, 15, 16, 17, 18, 19, 28, 29, 31, 46] [6, 7, 8, 9, 10, 11, 12, 14, 15, 16, 17, 18, 19, 20, 21, 22, 23, 24, 28, 29, 30, 31] G A G A := Fr_rf
  have hP0 : Pf nd A A := Pf_rf
  have hS0 : Fx sr (sy) A A := Fx_rf
  have hV0 : Fx [14] (vi) A A := Fx_rf
  have hK0 : Fx [29, 30, 31] (pc0) A A := Fx_rf
  have b_ln : (0 : Int) ≤ ln ∧ ln ≤ 3000 := e_ln ▸ hW.1 9
  have b_li : (0 : Int) ≤ li ∧ li ≤ 3000 := e_li ▸ hW.1 3
  have b_at0 : (0 : Int) ≤ at0 ∧ at0 ≤ 3002 := e_at0 ▸ hW.1 10
  have b_fk : (0 : Int) ≤ fk ∧ fk ≤ 6 := e_fk ▸ hW.1 16
  have b_nd : (0 : Int) ≤ nd ∧ nd ≤ 6999 := e_nd ▸ hW.1 31
  have b_sy : (0 : Int) ≤ sy ∧ sy ≤ 202 := e_sy ▸ hW.1 19
  have b_na : (0 : Int) ≤ na ∧ na ≤ 200 := e_na ▸ hW.1 28
  have b_vi : (0 : Int) ≤ vi ∧ vi ≤ 202 := e_vi ▸ hW.1 29
  have b_le : (0 : Int) ≤ le ∧ le ≤ 3000 := e_le ▸ hW.2 4 _
  have b_op0 : (-2147483648 : Int) ≤ op0 ∧ op0 ≤ 2147483647 := e_op0 ▸ hW.1 15
  have z_tk0 := tz_f tk0
  have b_tk0 : (0 : Int) ≤ tk0 ∧ tk0 ≤ 5 := e_tk0 ▸ hW.1 11
  have b_pc0 : (0 : Int) ≤ pc0 ∧ pc0 ≤ 24 := e_pc0 ▸ hW.1 46
  refine jx_ld (pc' := 1) (l' := [(0, .ref 66)]) (st' := [.ref 66]) rfl (jl_aloadn rfl) ?_
  refine jx_vr (pc' := 4) (as := []) (st := []) rfl rfl rfl rfl ⟨rfl, rfl, Nat.le_of_ble_eq_true rfl⟩ rfl rfl (c_next (dd := d) (hd := by omega) (hW := hW)  (ln := ln) (e_ln := show G 9 = ln from (e_ln)) (le := le) (e_le := show A 4 (ln).toNat = le from (e_le)) (at0 := at0) (e_at0 := show G 10 = at0 from (e_at0))    (p_0 := by omega)) (fun o V' hq => ?_)
  obtain ⟨G772, A773, at2_774, tk2_775, rfl, rfl, hW776, hF777, e778, e779, p780, p781, p782, -⟩ := hq
  have hF784 := Fr_tr hF0 hF777 (Fr_sub (by decide)) (Fr_sub (by decide))
  have hP785 := Pf_f hP0 hF777 (by decide)
  have hS786 := Fx_f hS0 hF777 (by decide)
  have hV787 := Fx_f hV0 hF777 (by decide)
  have hK788 := Fx_f hK0 hF777 (by decide)
  have sf789 : wQ A773 (pc0).toNat (nd) (sy) := (show A773 = A from funext (fun k => hF777.2 k rfl)) ▸ p_8
  have sf790 : VT (Vs) A773 (sy) := (show A773 = A from funext (fun k => hF777.2 k rfl)) ▸ p_9
  have ec791 : ecn A773 (G772 31) = ec := (ecn_f (hF777.2 15 rfl) (hF777.1 31 rfl)).trans e_ec
  have bat2_774 : (0 : Int) ≤ at2_774 ∧ at2_774 ≤ 3002 := e778 ▸ hW776.1 10
  have ztk2_775 := tz_b tk2_775
  have btk2_775 : (0 : Int) ≤ tk2_775 ∧ tk2_775 ≤ 5 := e779 ▸ hW776.1 11
  refine .inl ⟨rfl, ?_⟩
  have pz792 : at0 + tz tk2_775 ≤ at2_774 := by omega
  refine jx_ld (pc' := 5) (l' := [(0, .ref 66)]) (st' := [.ref 66]) rfl (jl_aloadn rfl) ?_
  have z793 := tz_f (tk2_775)
  refine jr_get (pc' := 8) (i := 11) (v := .int (i32 (tk2_775))) rfl rfl (by decide) (rFv_eq (by decide) (show G772 11 = tk2_775 from (e779))) rfl ?_
  refine jx_ar (pc' := 9) (st' := [.int (i32 (1)), .int (i32 (tk2_775))]) rfl rfl rfl rfl ?_
  refine jx_icmp_eq (pc' := 12) (tg := 22) rfl rfl rfl (Int.le_trans (by decide : (-2147483648 : Int) ≤ 0) btk2_775.1) (Int.le_trans btk2_775.2 (by decide : (5 : Int) ≤ 2147483647)) (by decide) (by decide) (fun h794 => ?_) (fun h794 => ?_)
  · have _q := h794
    refine jx_ld (pc' := 23) (l' := [(0, .ref 66)]) (st' := [.ref 66]) rfl (jl_aloadn rfl) ?_
    refine jx_ld (pc' := 24) (l' := [(0, .ref 66)]) (st' := [.ref 66, .ref 66]) rfl (jl_aloadn rfl) ?_
    refine jr_get (pc' := 27) (i := 14) (v := .long (i64 (G772 14))) rfl rfl (by decide) rfl rfl ?_
    obtain ⟨y795, ey795⟩ : ∃ q : Int64, q = i64 (G772 14) := ⟨_, rfl⟩
    rw [← ey795]
    refine jx_vr (pc' := 30) (as := [.long (y795)]) (st := []) rfl rfl rfl rfl ⟨rfl, rfl, Nat.le_of_ble_eq_true rfl⟩ rfl rfl (c_isTaken (dd := d) (hd := by omega) (hW := hW776) (nm := y795) (sy := sy) (e_sy := show G772 19 = sy from ((hF777.1 19 rfl).trans (e_sy)))    ) (fun o V' hq => ?_)
    obtain ⟨r796, rfl, rfl, b797, -⟩ := hq
    refine .inr ⟨_, rfl, ?_⟩
    refine jx_if_eq (pc' := 33) (tg := 42) rfl rfl rfl (Int.le_trans (by decide : (-2147483648 : Int) ≤ 0) b797.1) (Int.le_trans b797.2 (by decide : (1 : Int) ≤ 2147483647)) (fun h799 => ?_) (fun h799 => ?_)
    · have _q := h799
      refine jx_ld (pc' := 43) (l' := [(0, .ref 66)]) (st' := [.ref 66]) rfl (jl_aloadn rfl) ?_
      refine jx_vr (pc' := 46) (as := []) (st := []) rfl rfl rfl rfl ⟨rfl, rfl, Nat.le_of_ble_eq_true rfl⟩ rfl rfl (c_bad (dd := d) (hd := by omega) (hW := hW776)  (fk := fk) (e_fk := show G772 16 = fk from ((hF777.1 16 rfl).trans (e_fk)))    ) (fun o V' hq => ?_)
      obtain ⟨r800, rfl, rfl, b801, q802⟩ := hq
      refine .inr ⟨_, rfl, ?_⟩
      rcases q802 with ⟨rfl, a803⟩ | ⟨rfl, a804⟩
      · have _q : True := trivial
        exfalso
        omega
      · have _q : True := trivial
        refine jx_if_ne (pc' := 49) (tg := 68) rfl rfl rfl (by decide) (by decide) (fun h805 => ?_) (fun h805 => ?_)
        · have _q := h805
          exact absurd h805 (by omega)
        · have _q := h805
          refine jx_ld (pc' := 50) (l' := [(0, .ref 66)]) (st' := [.ref 66]) rfl (jl_aloadn rfl) ?_
          refine jr_get (pc' := 53) (i := 46) (v := .int (i32 (pc0))) rfl rfl (by decide) (rFv_eq (by decide) (show G772 46 = pc0 from ((hF777.1 46 rfl).trans (e_pc0)))) rfl ?_
          refine jx_ar (pc' := 55) (st' := [.int (i32 (24)), .int (i32 (pc0))]) rfl rfl rfl rfl ?_
          refine jx_icmp_ne (pc' := 58) (tg := 68) rfl rfl rfl (Int.le_trans (by decide : (-2147483648 : Int) ≤ 0) b_pc0.1) (Int.le_trans b_pc0.2 (by decide : (24 : Int) ≤ 2147483647)) (by decide) (by decide) (fun h806 => ?_) (fun h806 => ?_)
          · have _q := h806
            refine jx_ld (pc' := 69) (l' := [(0, .ref 66)]) (st' := [.ref 66]) rfl (jl_aloadn rfl) ?_
            refine jx_ar (pc' := 71) (st' := [.int (i32 (14)), .ref 66]) rfl rfl rfl rfl ?_
            refine jx_ar (pc' := 72) (st' := [.int (i32 (0)), .int (i32 (14)), .ref 66]) rfl rfl rfl rfl ?_
            refine jx_vr (pc' := 75) (as := [.int (i32 (14)), .int (i32 (0))]) (st := []) rfl rfl rfl rfl ⟨rfl, rfl, Nat.le_of_ble_eq_true rfl⟩ rfl rfl (c_newName (dd := d) (hd := by omega) (hW := hW776) (kind := 14) (many := 0) (sy := sy) (e_sy := show G772 19 = sy from ((hF777.1 19 rfl).trans (e_sy))) (na := na) (e_na := show G772 28 = na from ((hF777.1 28 rfl).trans (e_na))) (fk := fk) (e_fk := show G772 16 = fk from ((hF777.1 16 rfl).trans (e_fk)))  (h_kind := ⟨(by decide), (by decide)⟩) (h_many := ⟨(by decide), (by decide)⟩)  (p_0 := by omega) (p_1 := by omega)) (fun o V' hq => ?_)
            obtain ⟨G807, A808, r809, sy2_810, na2_811, fk2_812, yk2_813, rfl, rfl, hW814, hF815, hQ816, b817, e818, e819, e820, e821, q822⟩ := hq
            have hF823 := Fr_tr hF784 hF815 (Fr_sub (by decide)) (Fr_sub (by decide))
            have hP824 := Pf_f hP785 hF815 (by decide)
            have hS825 := Fx_tr hS786 hQ816 (by omega)
            have hV826 := Fx_f hV787 hF815 (by decide)
            have hK827 := Fx_f hK788 hF815 (by decide)
            have sf828 : wQ A808 (pc0).toNat (nd) (sy) := wQ_fx (Pf_f Pf_rf hF815 (by decide)) (Fx_su hQ816 (by omega)) (Fx_su (Fx_f (w := pc0) Fx_rf hF815 (by decide)) (by omega)) sf789
            have sf829 : VT (Vs) A808 (sy) := VT_fx hQ816 (by omega) sf790
            have ec830 : ecn A808 (G807 31) = ec := (ecn_f (hF815.2 15 rfl) (hF815.1 31 rfl)).trans ec791
            have bsy2_810 : (0 : Int) ≤ sy2_810 ∧ sy2_810 ≤ 202 := e818 ▸ hW814.1 19
            have bna2_811 : (0 : Int) ≤ na2_811 ∧ na2_811 ≤ 200 := e819 ▸ hW814.1 28
            have bfk2_812 : (0 : Int) ≤ fk2_812 ∧ fk2_812 ≤ 6 := e820 ▸ hW814.1 16
            have byk2_813 : (0 : Int) ≤ yk2_813 ∧ yk2_813 ≤ 14 := e821 ▸ hW814.2 7 _
            refine .inr ⟨_, rfl, ?_⟩
            rcases q822 with ⟨a837, a831, a832, a833, a834, a835, a836⟩ | ⟨rfl, a838, a839, a840⟩
            · have _q : True := trivial
              rw [a837]
              refine jx_ld (pc' := 76) (l' := jSto1 [(0, .ref 66)] 1 (.int (i32 (sy)))) (st' := []) rfl rfl ?_
              obtain ⟨L841, eL841⟩ : ∃ q, q = jSto1 [(0, .ref 66)] 1 (.int (i32 (sy))) := ⟨_, rfl⟩
              rw [← eL841]
              have gL841_0 : jGet L841 0 = some (.ref 66) := eL841 ▸ jg_ne (by decide) (rfl : jGet [(0, .ref 66)] 0 = some (.ref 66)) rfl
              have gL841_1 : jGet L841 1 = some (.int (i32 (sy))) := eL841 ▸ jg_eq
              refine jx_ld (pc' := 77) (l' := L841) (st' := [.ref 66]) rfl (jl_aloadn gL841_0) ?_
              refine jx_vr (pc' := 80) (as := []) (st := []) rfl rfl rfl rfl ⟨rfl, rfl, Nat.le_of_ble_eq_true rfl⟩ rfl rfl (c_bad (dd := d) (hd := by omega) (hW := hW814)  (fk := fk2_812) (e_fk := show G807 16 = fk2_812 from (e820))    ) (fun o V' hq => ?_)
              obtain ⟨r842, rfl, rfl, b843, q844⟩ := hq
              refine .inr ⟨_, rfl, ?_⟩
              rcases q844 with ⟨rfl, a845⟩ | ⟨rfl, a846⟩
              · have _q : True := trivial
                exfalso
                omega
              · have _q : True := trivial
                refine jx_if_eq (pc' := 83) (tg := 84) rfl rfl rfl (by decide) (by decide) (fun h847 => ?_) (fun h847 => ?_)
                · have _q := h847
                  refine jx_ld (pc' := 85) (l' := L841) (st' := [.ref 66]) rfl (jl_aloadn gL841_0) ?_
                  refine jr_get (pc' := 88) (i := 26) (v := .ref 79) rfl rfl (by decide) rfl rfl ?_
                  refine jx_ld (pc' := 89) (l' := L841) (st' := [.int (i32 (sy)), .ref 79]) rfl (jl_iloadn gL841_1) ?_
                  refine jx_ld (pc' := 90) (l' := L841) (st' := [.ref 66, .int (i32 (sy)), .ref 79]) rfl (jl_aloadn gL841_0) ?_
                  refine jr_get (pc' := 93) (i := 46) (v := .int (i32 (pc0))) rfl rfl (by decide) (rFv_eq (by decide) (show G807 46 = pc0 from ((hF815.1 46 rfl).trans ((hF777.1 46 rfl).trans (e_pc0))))) rfl ?_
                  refine jr_st (pc' := 94) (i := 12) (m := 260) (z := sy) (y := pc0) rfl (by decide) rfl (by decide) (by omega) (by omega) rfl ?_
                  have hW849 : Wk G807 (uA A808 12 (sy).toNat (pc0)) := Wk_a hW814 (show (0 : Int) ≤ pc0 by omega) (show pc0 ≤ (24 : Int) by omega)
                  have hF850 := Fr_a (z := pc0) (k := 12) (n := (sy).toNat) hF823 (by decide)
                  obtain ⟨A848, eA848⟩ : ∃ q, q = uA A808 12 (sy).toNat (pc0) := ⟨_, rfl⟩
                  rw [← eA848]
                  rw [← eA848] at hW849 hF850
                  have q851 : A848 12 (sy).toNat = pc0 := by rw [eA848]; exact uA_eq
                  have hP852 : Pf nd A A848 := eA848 ▸ Pf_n hP824 rfl
                  have hS853 : Fx sr (sy) A A848 := eA848 ▸ Fx_a hS825 (z := sy) (by omega) (by omega)
                  have hV854 : Fx [14] (vi) A A848 := eA848 ▸ Fx_n hV826 rfl
                  have hK855 : Fx [29, 30, 31] (pc0) A A848 := eA848 ▸ Fx_n hK827 rfl
                  have ec856 : ecn A848 (G807 31) = ec := (ecn_e ((congrFun eA848 15).trans (uA_ne (by decide)))).trans ec830
                  refine jx_ld (pc' := 95) (l' := L841) (st' := [.ref 66]) rfl (jl_aloadn gL841_0) ?_
                  refine jx_ar (pc' := 96) (st' := [.int (i32 (1)), .ref 66]) rfl rfl rfl rfl ?_
                  refine jx_vr (pc' := 99) (as := [.int (i32 (1))]) (st := []) rfl rfl rfl rfl ⟨rfl, rfl, Nat.le_of_ble_eq_true rfl⟩ rfl rfl (c_need (dd := d) (hd := by omega) (hW := hW849) (g := 1) (ln := ln) (e_ln := show G807 9 = ln from ((hF815.1 9 rfl).trans ((hF777.1 9 rfl).trans (e_ln)))) (le := le) (e_le := show A848 4 (ln).toNat = le from (congrFun (((congrFun eA848 4).trans (uA_ne (by decide))).trans ((hF815.2 4 rfl).trans (hF777.2 4 rfl))) _).trans (e_le)) (at0 := at2_774) (e_at0 := show G807 10 = at2_774 from ((hF815.1 10 rfl).trans (e778))) (fk := fk2_812) (e_fk := show G807 16 = fk2_812 from (e820)) (tk0 := tk2_775) (e_tk0 := show G807 11 = tk2_775 from ((hF815.1 11 rfl).trans (e779)))  (h_g := ⟨(by decide), (by decide)⟩)  (p_0 := by omega)) (fun o V' hq => ?_)
                  obtain ⟨G857, A858, at2_859, tk2_860, fk2_861, rfl, rfl, hW862, hF863, e864, e865, e866, p867, p868, q869⟩ := hq
                  have hF870 := Fr_tr hF850 hF863 (Fr_sub (by decide)) (Fr_sub (by decide))
                  have hP871 := Pf_f hP852 hF863 (by decide)
                  have hS872 := Fx_f hS853 hF863 (by decide)
                  have hV873 := Fx_f hV854 hF863 (by decide)
                  have hK874 := Fx_f hK855 hF863 (by decide)
                  have ec875 : ecn A858 (G857 31) = ec := (ecn_f (hF863.2 15 rfl) (hF863.1 31 rfl)).trans ec856
                  have bat2_859 : (0 : Int) ≤ at2_859 ∧ at2_859 ≤ 3002 := e864 ▸ hW862.1 10
                  have ztk2_860 := tz_b tk2_860
                  have btk2_860 : (0 : Int) ≤ tk2_860 ∧ tk2_860 ≤ 5 := e865 ▸ hW862.1 11
                  have bfk2_861 : (0 : Int) ≤ fk2_861 ∧ fk2_861 ≤ 6 := e866 ▸ hW862.1 16
                  refine .inl ⟨rfl, ?_⟩
                  rcases q869 with ⟨a876, a877, a878, a879⟩ | ⟨a880, a881, a882, a883⟩
                  · have _q : True := trivial
                    refine jx_ld (pc' := 100) (l' := L841) (st' := [.ref 66]) rfl (jl_aloadn gL841_0) ?_
                    refine jx_ld (pc' := 101) (l' := L841) (st' := [.ref 66, .ref 66]) rfl (jl_aloadn gL841_0) ?_
                    refine jx_ar (pc' := 103) (st' := [.int (i32 (40)), .ref 66, .ref 66]) rfl rfl rfl rfl ?_
                    have b884 : (-2147483648 : Int) ≤ G857 13 ∧ G857 13 ≤ 2147483647 := hW862.1 13
                    refine jx_vr (pc' := 106) (as := [.int (i32 (40))]) (st := [.ref 66]) rfl rfl rfl rfl ⟨rfl, rfl, Nat.le_of_ble_eq_true rfl⟩ rfl rfl (c_is (dd := d) (hd := by omega) (hW := hW862) (k := 40) (tk := tk2_860) (e_tk := show G857 11 = tk2_860 from (e865)) (tn := G857 13) (e_tn := show G857 13 = G857 13 from rfl)  (h_k := ⟨(by decide), (by decide)⟩)  ) (fun o V' hq => ?_)
                    obtain ⟨r885, rfl, rfl, b886, q887⟩ := hq
                    refine .inr ⟨_, rfl, ?_⟩
                    rcases q887 with ⟨rfl, a888, a889, a890⟩ | rfl
                    · have _q : True := trivial
                      refine jx_vr (pc' := 109) (as := [.int (i32 (1))]) (st := []) rfl rfl rfl rfl ⟨rfl, rfl, Nat.le_of_ble_eq_true rfl⟩ rfl rfl (c_need (dd := d) (hd := by omega) (hW := hW862) (g := 1) (ln := ln) (e_ln := show G857 9 = ln from ((hF863.1 9 rfl).trans ((hF815.1 9 rfl).trans ((hF777.1 9 rfl).trans (e_ln))))) (le := le) (e_le := show A858 4 (ln).toNat = le from (congrFun ((hF863.2 4 rfl).trans (((congrFun eA848 4).trans (uA_ne (by decide))).trans ((hF815.2 4 rfl).trans (hF777.2 4 rfl)))) _).trans (e_le)) (at0 := at2_859) (e_at0 := show G857 10 = at2_859 from (e864)) (fk := fk2_861) (e_fk := show G857 16 = fk2_861 from (e866)) (tk0 := tk2_860) (e_tk0 := show G857 11 = tk2_860 from (e865))  (h_g := ⟨(by decide), (by decide)⟩)  (p_0 := by omega)) (fun o V' hq => ?_)
                      obtain ⟨G891, A892, at2_893, tk2_894, fk2_895, rfl, rfl, hW896, hF897, e898, e899, e900, p901, p902, q903⟩ := hq
                      have hF904 := Fr_tr hF870 hF897 (Fr_sub (by decide)) (Fr_sub (by decide))
                      have hP905 := Pf_f hP871 hF897 (by decide)
                      have hS906 := Fx_f hS872 hF897 (by decide)
                      have hV907 := Fx_f hV873 hF897 (by decide)
                      have hK908 := Fx_f hK874 hF897 (by decide)
                      have ec909 : ecn A892 (G891 31) = ec := (ecn_f (hF897.2 15 rfl) (hF897.1 31 rfl)).trans ec875
                      have bat2_893 : (0 : Int) ≤ at2_893 ∧ at2_893 ≤ 3002 := e898 ▸ hW896.1 10
                      have ztk2_894 := tz_b tk2_894
                      have btk2_894 : (0 : Int) ≤ tk2_894 ∧ tk2_894 ≤ 5 := e899 ▸ hW896.1 11
                      have bfk2_895 : (0 : Int) ≤ fk2_895 ∧ fk2_895 ≤ 6 := e900 ▸ hW896.1 16
                      refine .inl ⟨rfl, ?_⟩
                      rcases q903 with ⟨a910, a911, a912, a913⟩ | ⟨a914, a915, a916, a917⟩
                      · have _q : True := trivial
                        refine jx_ld (pc' := 110) (l' := L841) (st' := [.ref 66]) rfl (jl_aloadn gL841_0) ?_
                        refine jr_get (pc' := 113) (i := 47) (v := .ref 96) rfl rfl (by decide) rfl rfl ?_
                        refine jx_ld (pc' := 114) (l' := L841) (st' := [.ref 66, .ref 96]) rfl (jl_aloadn gL841_0) ?_
                        refine jr_get (pc' := 117) (i := 46) (v := .int (i32 (pc0))) rfl rfl (by decide) (rFv_eq (by decide) (show G891 46 = pc0 from ((hF897.1 46 rfl).trans ((hF863.1 46 rfl).trans ((hF815.1 46 rfl).trans ((hF777.1 46 rfl).trans (e_pc0))))))) rfl ?_
                        refine jx_ld (pc' := 118) (l' := L841) (st' := [.ref 66, .int (i32 (pc0)), .ref 96]) rfl (jl_aloadn gL841_0) ?_
                        refine jr_get (pc' := 121) (i := 19) (v := .int (i32 (sy2_810))) rfl rfl (by decide) (rFv_eq (by decide) (show G891 19 = sy2_810 from ((hF897.1 19 rfl).trans ((hF863.1 19 rfl).trans (e818))))) rfl ?_
                        refine jr_st (pc' := 122) (i := 29) (m := 25) (z := pc0) (y := sy2_810) rfl (by decide) rfl (by decide) (by omega) (by omega) rfl ?_
                        have hW919 : Wk G891 (uA A892 29 (pc0).toNat (sy2_810)) := Wk_a hW896 (show (0 : Int) ≤ sy2_810 by omega) (show sy2_810 ≤ (202 : Int) by omega)
                        have hF920 := Fr_a (z := sy2_810) (k := 29) (n := (pc0).toNat) hF904 (by decide)
                        obtain ⟨A918, eA918⟩ : ∃ q, q = uA A892 29 (pc0).toNat (sy2_810) := ⟨_, rfl⟩
                        rw [← eA918]
                        rw [← eA918] at hW919 hF920
                        have q921 : A918 29 (pc0).toNat = sy2_810 := by rw [eA918]; exact uA_eq
                        have hP922 : Pf nd A A918 := eA918 ▸ Pf_n hP905 rfl
                        have hS923 : Fx sr (sy) A A918 := eA918 ▸ Fx_n hS906 rfl
                        have hV924 : Fx [14] (vi) A A918 := eA918 ▸ Fx_n hV907 rfl
                        have hK925 : Fx [29, 30, 31] (pc0) A A918 := eA918 ▸ Fx_a hK908 (z := pc0) (by omega) (by omega)
                        have ec926 : ecn A918 (G891 31) = ec := (ecn_e ((congrFun eA918 15).trans (uA_ne (by decide)))).trans ec909
                        refine jx_ar (pc' := 123) (st' := [.int (i32 (0))]) rfl rfl rfl rfl ?_
                        refine jx_ld (pc' := 124) (l' := jSto1 L841 2 (.int (i32 (0)))) (st' := []) rfl rfl ?_
                        obtain ⟨L927, eL927⟩ : ∃ q, q = jSto1 L841 2 (.int (i32 (0))) := ⟨_, rfl⟩
                        rw [← eL927]
                        have gL927_0 : jGet L927 0 = some (.ref 66) := eL927 ▸ jg_ne (by decide) gL841_0 rfl
                        have gL927_1 : jGet L927 1 = some (.int (i32 (sy))) := eL927 ▸ jg_ne (by decide) gL841_1 rfl
                        have gL927_2 : jGet L927 2 = some (.int (i32 (0))) := eL927 ▸ jg_eq
                        refine jx_ld (pc' := 125) (l' := L927) (st' := [.ref 66]) rfl (jl_aloadn gL927_0) ?_
                        refine jx_vr (pc' := 128) (as := []) (st := []) rfl rfl rfl rfl ⟨rfl, rfl, Nat.le_of_ble_eq_true rfl⟩ rfl rfl (c_bad (dd := d) (hd := by omega) (hW := hW919)  (fk := fk2_895) (e_fk := show G891 16 = fk2_895 from (e900))    ) (fun o V' hq => ?_)
                        obtain ⟨r928, rfl, rfl, b929, q930⟩ := hq
                        refine .inr ⟨_, rfl, ?_⟩
                        rcases q930 with ⟨rfl, a931⟩ | ⟨rfl, a932⟩
                        · have _q : True := trivial
                          refine jx_if_ne (pc' := 131) (tg := 144) rfl rfl rfl (by decide) (by decide) (fun h933 => ?_) (fun h933 => ?_)
                          · have _q := h933
                            refine jx_ar (pc' := 145) (st' := [.int (i32 (0))]) rfl rfl rfl rfl ?_
                            refine jx_ld (pc' := 146) (l' := jSto1 L927 3 (.int (i32 (0)))) (st' := []) rfl rfl ?_
                            obtain ⟨L934, eL934⟩ : ∃ q, q = jSto1 L927 3 (.int (i32 (0))) := ⟨_, rfl⟩
                            rw [← eL934]
                            have gL934_0 : jGet L934 0 = some (.ref 66) := eL934 ▸ jg_ne (by decide) gL927_0 rfl
                            have gL934_1 : jGet L934 1 = some (.int (i32 (sy))) := eL934 ▸ jg_ne (by decide) gL927_1 rfl
                            have gL934_2 : jGet L934 2 = some (.int (i32 (0))) := eL934 ▸ jg_ne (by decide) gL927_2 rfl
                            have gL934_3 : jGet L934 3 = some (.int (i32 (0))) := eL934 ▸ jg_eq
                            refine jx_ld (pc' := 147) (l' := L934) (st' := [.ref 66]) rfl (jl_aloadn gL934_0) ?_
                            refine jx_vr (pc' := 150) (as := []) (st := []) rfl rfl rfl rfl ⟨rfl, rfl, Nat.le_of_ble_eq_true rfl⟩ rfl rfl (c_bad (dd := d) (hd := by omega) (hW := hW919)  (fk := fk2_895) (e_fk := show G891 16 = fk2_895 from (e900))    ) (fun o V' hq => ?_)
                            obtain ⟨r935, rfl, rfl, b936, q937⟩ := hq
                            refine .inr ⟨_, rfl, ?_⟩
                            rcases q937 with ⟨rfl, a938⟩ | ⟨rfl, a939⟩
                            · have _q : True := trivial
                              refine jx_if_ne (pc' := 153) (tg := 212) rfl rfl rfl (by decide) (by decide) (fun h940 => ?_) (fun h940 => ?_)
                              · have _q := h940
                                exact c_readProc_w_at_212p (X := X) (d := d) (Vs := Vs) (sb := sb) (pb := pb) (hvb := hvb) (c0 := c0) (c1 := c1) (G := G) (A := A) (T := T) (ln := ln) (li := li) (at0 := at0) (fk := fk) (nd := nd) (sy := sy) (na := na) (vi := vi) (le := le) (op0 := op0) (tk0 := tk0) (pc0 := pc0) (ec := ec) (hd := hd) (hW := hW) (e_ln := e_ln) (e_li := e_li) (e_at0 := e_at0) (e_fk := e_fk) (e_nd := e_nd) (e_sy := e_sy) (e_na := e_na) (e_vi := e_vi) (e_le := e_le) (e_op0 := e_op0) (e_tk0 := e_tk0) (e_pc0 := e_pc0) (e_ec := e_ec) (i_LT := i_LT) (i_SV := i_SV) (i_PQ := i_PQ) (p_0 := p_0) (p_1 := p_1) (p_2 := p_2) (p_3 := p_3) (p_4 := p_4) (p_5 := p_5) (p_6 := p_6) (p_7 := p_7) (p_8 := p_8) (p_9 := p_9) L934 G891 A918 (sy) (0) (at2_893) (fk2_895) (sy2_810) (na2_811) gL934_0 gL934_1 gL934_2 hW919 hF920 hP922 hS923 hV924 hK925 ((e898)) ((e900)) (((hF897.1 19 rfl).trans ((hF863.1 19 rfl).trans (e818)))) (((hF897.1 28 rfl).trans ((hF863.1 28 rfl).trans (e819)))) (((hF897.1 9 rfl).trans ((hF863.1 9 rfl).trans ((hF815.1 9 rfl).trans ((hF777.1 9 rfl).trans (e_ln)))))) (((hF897.1 29 rfl).trans ((hF863.1 29 rfl).trans ((hF815.1 29 rfl).trans ((hF777.1 29 rfl).trans (e_vi)))))) (((hF897.1 46 rfl).trans ((hF863.1 46 rfl).trans ((hF815.1 46 rfl).trans ((hF777.1 46 rfl).trans (e_pc0)))))) (((hF897.1 31 rfl).trans ((hF863.1 31 rfl).trans ((hF815.1 31 rfl).trans ((hF777.1 31 rfl).trans (e_nd)))))) (ec926) (by omega) (by omega) (by omega) (by omega) (by omega) (by omega) (by omega) (by omega) (by omega)
                              · have _q := h940
                                exact absurd h940 (by omega)
                            · have _q : True := trivial
                              exfalso
                              omega
                          · have _q := h933
                            exact absurd h933 (by omega)
                        · have _q : True := trivial
                          exfalso
                          omega
                      · have _q : True := trivial
                        exfalso
                        omega
                    · have _q : True := trivial
                      refine jx_vr (pc' := 109) (as := [.int (i32 (0))]) (st := []) rfl rfl rfl rfl ⟨rfl, rfl, Nat.le_of_ble_eq_true rfl⟩ rfl rfl (c_need (dd := d) (hd := by omega) (hW := hW862) (g := 0) (ln := ln) (e_ln := show G857 9 = ln from ((hF863.1 9 rfl).trans ((hF815.1 9 rfl).trans ((hF777.1 9 rfl).trans (e_ln))))) (le := le) (e_le := show A858 4 (ln).toNat = le from (congrFun ((hF863.2 4 rfl).trans (((congrFun eA848 4).trans (uA_ne (by decide))).trans ((hF815.2 4 rfl).trans (hF777.2 4 rfl)))) _).trans (e_le)) (at0 := at2_859) (e_at0 := show G857 10 = at2_859 from (e864)) (fk := fk2_861) (e_fk := show G857 16 = fk2_861 from (e866)) (tk0 := tk2_860) (e_tk0 := show G857 11 = tk2_860 from (e865))  (h_g := ⟨(by decide), (by decide)⟩)  (p_0 := by omega)) (fun o V' hq => ?_)
                      obtain ⟨G941, A942, at2_943, tk2_944, fk2_945, rfl, rfl, hW946, hF947, e948, e949, e950, p951, p952, q953⟩ := hq
                      have hF954 := Fr_tr hF870 hF947 (Fr_sub (by decide)) (Fr_sub (by decide))
                      have hP955 := Pf_f hP871 hF947 (by decide)
                      have hS956 := Fx_f hS872 hF947 (by decide)
                      have hV957 := Fx_f hV873 hF947 (by decide)
                      have hK958 := Fx_f hK874 hF947 (by decide)
                      have ec959 : ecn A942 (G941 31) = ec := (ecn_f (hF947.2 15 rfl) (hF947.1 31 rfl)).trans ec875
                      have bat2_943 : (0 : Int) ≤ at2_943 ∧ at2_943 ≤ 3002 := e948 ▸ hW946.1 10
                      have ztk2_944 := tz_b tk2_944
                      have btk2_944 : (0 : Int) ≤ tk2_944 ∧ tk2_944 ≤ 5 := e949 ▸ hW946.1 11
                      have bfk2_945 : (0 : Int) ≤ fk2_945 ∧ fk2_945 ≤ 6 := e950 ▸ hW946.1 16
                      refine .inl ⟨rfl, ?_⟩
                      rcases q953 with ⟨a960, a961, a962, a963⟩ | ⟨a964, a965, a966, a967⟩
                      · have _q : True := trivial
                        refine jx_ld (pc' := 110) (l' := L841) (st' := [.ref 66]) rfl (jl_aloadn gL841_0) ?_
                        refine jr_get (pc' := 113) (i := 47) (v := .ref 96) rfl rfl (by decide) rfl rfl ?_
                        refine jx_ld (pc' := 114) (l' := L841) (st' := [.ref 66, .ref 96]) rfl (jl_aloadn gL841_0) ?_
                        refine jr_get (pc' := 117) (i := 46) (v := .int (i32 (pc0))) rfl rfl (by decide) (rFv_eq (by decide) (show G941 46 = pc0 from ((hF947.1 46 rfl).trans ((hF863.1 46 rfl).trans ((hF815.1 46 rfl).trans ((hF777.1 46 rfl).trans (e_pc0))))))) rfl ?_
                        refine jx_ld (pc' := 118) (l' := L841) (st' := [.ref 66, .int (i32 (pc0)), .ref 96]) rfl (jl_aloadn gL841_0) ?_
                        refine jr_get (pc' := 121) (i := 19) (v := .int (i32 (sy2_810))) rfl rfl (by decide) (rFv_eq (by decide) (show G941 19 = sy2_810 from ((hF947.1 19 rfl).trans ((hF863.1 19 rfl).trans (e818))))) rfl ?_
                        refine jr_st (pc' := 122) (i := 29) (m := 25) (z := pc0) (y := sy2_810) rfl (by decide) rfl (by decide) (by omega) (by omega) rfl ?_
                        have hW969 : Wk G941 (uA A942 29 (pc0).toNat (sy2_810)) := Wk_a hW946 (show (0 : Int) ≤ sy2_810 by omega) (show sy2_810 ≤ (202 : Int) by omega)
                        have hF970 := Fr_a (z := sy2_810) (k := 29) (n := (pc0).toNat) hF954 (by decide)
                        obtain ⟨A968, eA968⟩ : ∃ q, q = uA A942 29 (pc0).toNat (sy2_810) := ⟨_, rfl⟩
                        rw [← eA968]
                        rw [← eA968] at hW969 hF970
                        have q971 : A968 29 (pc0).toNat = sy2_810 := by rw [eA968]; exact uA_eq
                        have hP972 : Pf nd A A968 := eA968 ▸ Pf_n hP955 rfl
                        have hS973 : Fx sr (sy) A A968 := eA968 ▸ Fx_n hS956 rfl
                        have hV974 : Fx [14] (vi) A A968 := eA968 ▸ Fx_n hV957 rfl
                        have hK975 : Fx [29, 30, 31] (pc0) A A968 := eA968 ▸ Fx_a hK958 (z := pc0) (by omega) (by omega)
                        have ec976 : ecn A968 (G941 31) = ec := (ecn_e ((congrFun eA968 15).trans (uA_ne (by decide)))).trans ec959
                        refine jx_ar (pc' := 123) (st' := [.int (i32 (0))]) rfl rfl rfl rfl ?_
                        refine jx_ld (pc' := 124) (l' := jSto1 L841 2 (.int (i32 (0)))) (st' := []) rfl rfl ?_
                        obtain ⟨L977, eL977⟩ : ∃ q, q = jSto1 L841 2 (.int (i32 (0))) := ⟨_, rfl⟩
                        rw [← eL977]
                        have gL977_0 : jGet L977 0 = some (.ref 66) := eL977 ▸ jg_ne (by decide) gL841_0 rfl
                        have gL977_1 : jGet L977 1 = some (.int (i32 (sy))) := eL977 ▸ jg_ne (by decide) gL841_1 rfl
                        have gL977_2 : jGet L977 2 = some (.int (i32 (0))) := eL977 ▸ jg_eq
                        refine jx_ld (pc' := 125) (l' := L977) (st' := [.ref 66]) rfl (jl_aloadn gL977_0) ?_
                        refine jx_vr (pc' := 128) (as := []) (st := []) rfl rfl rfl rfl ⟨rfl, rfl, Nat.le_of_ble_eq_true rfl⟩ rfl rfl (c_bad (dd := d) (hd := by omega) (hW := hW969)  (fk := fk2_945) (e_fk := show G941 16 = fk2_945 from (e950))    ) (fun o V' hq => ?_)
                        obtain ⟨r978, rfl, rfl, b979, q980⟩ := hq
                        refine .inr ⟨_, rfl, ?_⟩
                        rcases q980 with ⟨rfl, a981⟩ | ⟨rfl, a982⟩
                        · have _q : True := trivial
                          refine jx_if_ne (pc' := 131) (tg := 144) rfl rfl rfl (by decide) (by decide) (fun h983 => ?_) (fun h983 => ?_)
                          · have _q := h983
                            refine jx_ar (pc' := 145) (st' := [.int (i32 (0))]) rfl rfl rfl rfl ?_
                            refine jx_ld (pc' := 146) (l' := jSto1 L977 3 (.int (i32 (0)))) (st' := []) rfl rfl ?_
                            obtain ⟨L984, eL984⟩ : ∃ q, q = jSto1 L977 3 (.int (i32 (0))) := ⟨_, rfl⟩
                            rw [← eL984]
                            have gL984_0 : jGet L984 0 = some (.ref 66) := eL984 ▸ jg_ne (by decide) gL977_0 rfl
                            have gL984_1 : jGet L984 1 = some (.int (i32 (sy))) := eL984 ▸ jg_ne (by decide) gL977_1 rfl
                            have gL984_2 : jGet L984 2 = some (.int (i32 (0))) := eL984 ▸ jg_ne (by decide) gL977_2 rfl
                            have gL984_3 : jGet L984 3 = some (.int (i32 (0))) := eL984 ▸ jg_eq
                            refine jx_ld (pc' := 147) (l' := L984) (st' := [.ref 66]) rfl (jl_aloadn gL984_0) ?_
                            refine jx_vr (pc' := 150) (as := []) (st := []) rfl rfl rfl rfl ⟨rfl, rfl, Nat.le_of_ble_eq_true rfl⟩ rfl rfl (c_bad (dd := d) (hd := by omega) (hW := hW969)  (fk := fk2_945) (e_fk := show G941 16 = fk2_945 from (e950))    ) (fun o V' hq => ?_)
                            obtain ⟨r985, rfl, rfl, b986, q987⟩ := hq
                            refine .inr ⟨_, rfl, ?_⟩
                            rcases q987 with ⟨rfl, a988⟩ | ⟨rfl, a989⟩
                            · have _q : True := trivial
                              refine jx_if_ne (pc' := 153) (tg := 212) rfl rfl rfl (by decide) (by decide) (fun h990 => ?_) (fun h990 => ?_)
                              · have _q := h990
                                exact c_readProc_w_at_212p (X := X) (d := d) (Vs := Vs) (sb := sb) (pb := pb) (hvb := hvb) (c0 := c0) (c1 := c1) (G := G) (A := A) (T := T) (ln := ln) (li := li) (at0 := at0) (fk := fk) (nd := nd) (sy := sy) (na := na) (vi := vi) (le := le) (op0 := op0) (tk0 := tk0) (pc0 := pc0) (ec := ec) (hd := hd) (hW := hW) (e_ln := e_ln) (e_li := e_li) (e_at0 := e_at0) (e_fk := e_fk) (e_nd := e_nd) (e_sy := e_sy) (e_na := e_na) (e_vi := e_vi) (e_le := e_le) (e_op0 := e_op0) (e_tk0 := e_tk0) (e_pc0 := e_pc0) (e_ec := e_ec) (i_LT := i_LT) (i_SV := i_SV) (i_PQ := i_PQ) (p_0 := p_0) (p_1 := p_1) (p_2 := p_2) (p_3 := p_3) (p_4 := p_4) (p_5 := p_5) (p_6 := p_6) (p_7 := p_7) (p_8 := p_8) (p_9 := p_9) L984 G941 A968 (sy) (0) (at2_943) (fk2_945) (sy2_810) (na2_811) gL984_0 gL984_1 gL984_2 hW969 hF970 hP972 hS973 hV974 hK975 ((e948)) ((e950)) (((hF947.1 19 rfl).trans ((hF863.1 19 rfl).trans (e818)))) (((hF947.1 28 rfl).trans ((hF863.1 28 rfl).trans (e819)))) (((hF947.1 9 rfl).trans ((hF863.1 9 rfl).trans ((hF815.1 9 rfl).trans ((hF777.1 9 rfl).trans (e_ln)))))) (((hF947.1 29 rfl).trans ((hF863.1 29 rfl).trans ((hF815.1 29 rfl).trans ((hF777.1 29 rfl).trans (e_vi)))))) (((hF947.1 46 rfl).trans ((hF863.1 46 rfl).trans ((hF815.1 46 rfl).trans ((hF777.1 46 rfl).trans (e_pc0)))))) (((hF947.1 31 rfl).trans ((hF863.1 31 rfl).trans ((hF815.1 31 rfl).trans ((hF777.1 31 rfl).trans (e_nd)))))) (ec976) (by omega) (by omega) (by omega) (by omega) (by omega) (by omega) (by omega) (by omega) (by omega)
                              · have _q := h990
                                exact absurd h990 (by omega)
                            · have _q : True := trivial
                              exfalso
                              omega
                          · have _q := h983
                            exact absurd h983 (by omega)
                        · have _q : True := trivial
                          exfalso
                          omega
                      · have _q : True := trivial
                        exfalso
                        omega
                  · have _q : True := trivial
                    have pz991 : at2_774 + tz tk2_860 ≤ at2_859 := by omega
                    refine jx_ld (pc' := 100) (l' := L841) (st' := [.ref 66]) rfl (jl_aloadn gL841_0) ?_
                    refine jx_ld (pc' := 101) (l' := L841) (st' := [.ref 66, .ref 66]) rfl (jl_aloadn gL841_0) ?_
                    refine jx_ar (pc' := 103) (st' := [.int (i32 (40)), .ref 66, .ref 66]) rfl rfl rfl rfl ?_
                    have b992 : (-2147483648 : Int) ≤ G857 13 ∧ G857 13 ≤ 2147483647 := hW862.1 13
                    refine jx_vr (pc' := 106) (as := [.int (i32 (40))]) (st := [.ref 66]) rfl rfl rfl rfl ⟨rfl, rfl, Nat.le_of_ble_eq_true rfl⟩ rfl rfl (c_is (dd := d) (hd := by omega) (hW := hW862) (k := 40) (tk := tk2_860) (e_tk := show G857 11 = tk2_860 from (e865)) (tn := G857 13) (e_tn := show G857 13 = G857 13 from rfl)  (h_k := ⟨(by decide), (by decide)⟩)  ) (fun o V' hq => ?_)
                    obtain ⟨r993, rfl, rfl, b994, q995⟩ := hq
                    refine .inr ⟨_, rfl, ?_⟩
                    rcases q995 with ⟨rfl, a996, a997, a998⟩ | rfl
                    · have _q : True := trivial
                      refine jx_vr (pc' := 109) (as := [.int (i32 (1))]) (st := []) rfl rfl rfl rfl ⟨rfl, rfl, Nat.le_of_ble_eq_true rfl⟩ rfl rfl (c_need (dd := d) (hd := by omega) (hW := hW862) (g := 1) (ln := ln) (e_ln := show G857 9 = ln from ((hF863.1 9 rfl).trans ((hF815.1 9 rfl).trans ((hF777.1 9 rfl).trans (e_ln))))) (le := le) (e_le := show A858 4 (ln).toNat = le from (congrFun ((hF863.2 4 rfl).trans (((congrFun eA848 4).trans (uA_ne (by decide))).trans ((hF815.2 4 rfl).trans (hF777.2 4 rfl)))) _).trans (e_le)) (at0 := at2_859) (e_at0 := show G857 10 = at2_859 from (e864)) (fk := fk2_861) (e_fk := show G857 16 = fk2_861 from (e866)) (tk0 := tk2_860) (e_tk0 := show G857 11 = tk2_860 from (e865))  (h_g := ⟨(by decide), (by decide)⟩)  (p_0 := by omega)) (fun o V' hq => ?_)
                      obtain ⟨G999, A1000, at2_1001, tk2_1002, fk2_1003, rfl, rfl, hW1004, hF1005, e1006, e1007, e1008, p1009, p1010, q1011⟩ := hq
                      have hF1012 := Fr_tr hF870 hF1005 (Fr_sub (by decide)) (Fr_sub (by decide))
                      have hP1013 := Pf_f hP871 hF1005 (by decide)
                      have hS1014 := Fx_f hS872 hF1005 (by decide)
                      have hV1015 := Fx_f hV873 hF1005 (by decide)
                      have hK1016 := Fx_f hK874 hF1005 (by decide)
                      have ec1017 : ecn A1000 (G999 31) = ec := (ecn_f (hF1005.2 15 rfl) (hF1005.1 31 rfl)).trans ec875
                      have bat2_1001 : (0 : Int) ≤ at2_1001 ∧ at2_1001 ≤ 3002 := e1006 ▸ hW1004.1 10
                      have ztk2_1002 := tz_b tk2_1002
                      have btk2_1002 : (0 : Int) ≤ tk2_1002 ∧ tk2_1002 ≤ 5 := e1007 ▸ hW1004.1 11
                      have bfk2_1003 : (0 : Int) ≤ fk2_1003 ∧ fk2_1003 ≤ 6 := e1008 ▸ hW1004.1 16
                      refine .inl ⟨rfl, ?_⟩
                      rcases q1011 with ⟨a1018, a1019, a1020, a1021⟩ | ⟨a1022, a1023, a1024, a1025⟩
                      · have _q : True := trivial
                        refine jx_ld (pc' := 110) (l' := L841) (st' := [.ref 66]) rfl (jl_aloadn gL841_0) ?_
                        refine jr_get (pc' := 113) (i := 47) (v := .ref 96) rfl rfl (by decide) rfl rfl ?_
                        refine jx_ld (pc' := 114) (l' := L841) (st' := [.ref 66, .ref 96]) rfl (jl_aloadn gL841_0) ?_
                        refine jr_get (pc' := 117) (i := 46) (v := .int (i32 (pc0))) rfl rfl (by decide) (rFv_eq (by decide) (show G999 46 = pc0 from ((hF1005.1 46 rfl).trans ((hF863.1 46 rfl).trans ((hF815.1 46 rfl).trans ((hF777.1 46 rfl).trans (e_pc0))))))) rfl ?_
                        refine jx_ld (pc' := 118) (l' := L841) (st' := [.ref 66, .int (i32 (pc0)), .ref 96]) rfl (jl_aloadn gL841_0) ?_
                        refine jr_get (pc' := 121) (i := 19) (v := .int (i32 (sy2_810))) rfl rfl (by decide) (rFv_eq (by decide) (show G999 19 = sy2_810 from ((hF1005.1 19 rfl).trans ((hF863.1 19 rfl).trans (e818))))) rfl ?_
                        refine jr_st (pc' := 122) (i := 29) (m := 25) (z := pc0) (y := sy2_810) rfl (by decide) rfl (by decide) (by omega) (by omega) rfl ?_
                        have hW1027 : Wk G999 (uA A1000 29 (pc0).toNat (sy2_810)) := Wk_a hW1004 (show (0 : Int) ≤ sy2_810 by omega) (show sy2_810 ≤ (202 : Int) by omega)
                        have hF1028 := Fr_a (z := sy2_810) (k := 29) (n := (pc0).toNat) hF1012 (by decide)
                        obtain ⟨A1026, eA1026⟩ : ∃ q, q = uA A1000 29 (pc0).toNat (sy2_810) := ⟨_, rfl⟩
                        rw [← eA1026]
                        rw [← eA1026] at hW1027 hF1028
                        have q1029 : A1026 29 (pc0).toNat = sy2_810 := by rw [eA1026]; exact uA_eq
                        have hP1030 : Pf nd A A1026 := eA1026 ▸ Pf_n hP1013 rfl
                        have hS1031 : Fx sr (sy) A A1026 := eA1026 ▸ Fx_n hS1014 rfl
                        have hV1032 : Fx [14] (vi) A A1026 := eA1026 ▸ Fx_n hV1015 rfl
                        have hK1033 : Fx [29, 30, 31] (pc0) A A1026 := eA1026 ▸ Fx_a hK1016 (z := pc0) (by omega) (by omega)
                        have ec1034 : ecn A1026 (G999 31) = ec := (ecn_e ((congrFun eA1026 15).trans (uA_ne (by decide)))).trans ec1017
                        refine jx_ar (pc' := 123) (st' := [.int (i32 (0))]) rfl rfl rfl rfl ?_
                        refine jx_ld (pc' := 124) (l' := jSto1 L841 2 (.int (i32 (0)))) (st' := []) rfl rfl ?_
                        obtain ⟨L1035, eL1035⟩ : ∃ q, q = jSto1 L841 2 (.int (i32 (0))) := ⟨_, rfl⟩
                        rw [← eL1035]
                        have gL1035_0 : jGet L1035 0 = some (.ref 66) := eL1035 ▸ jg_ne (by decide) gL841_0 rfl
                        have gL1035_1 : jGet L1035 1 = some (.int (i32 (sy))) := eL1035 ▸ jg_ne (by decide) gL841_1 rfl
                        have gL1035_2 : jGet L1035 2 = some (.int (i32 (0))) := eL1035 ▸ jg_eq
                        refine jx_ld (pc' := 125) (l' := L1035) (st' := [.ref 66]) rfl (jl_aloadn gL1035_0) ?_
                        refine jx_vr (pc' := 128) (as := []) (st := []) rfl rfl rfl rfl ⟨rfl, rfl, Nat.le_of_ble_eq_true rfl⟩ rfl rfl (c_bad (dd := d) (hd := by omega) (hW := hW1027)  (fk := fk2_1003) (e_fk := show G999 16 = fk2_1003 from (e1008))    ) (fun o V' hq => ?_)
                        obtain ⟨r1036, rfl, rfl, b1037, q1038⟩ := hq
                        refine .inr ⟨_, rfl, ?_⟩
                        rcases q1038 with ⟨rfl, a1039⟩ | ⟨rfl, a1040⟩
                        · have _q : True := trivial
                          refine jx_if_ne (pc' := 131) (tg := 144) rfl rfl rfl (by decide) (by decide) (fun h1041 => ?_) (fun h1041 => ?_)
                          · have _q := h1041
                            refine jx_ar (pc' := 145) (st' := [.int (i32 (0))]) rfl rfl rfl rfl ?_
                            refine jx_ld (pc' := 146) (l' := jSto1 L1035 3 (.int (i32 (0)))) (st' := []) rfl rfl ?_
                            obtain ⟨L1042, eL1042⟩ : ∃ q, q = jSto1 L1035 3 (.int (i32 (0))) := ⟨_, rfl⟩
                            rw [← eL1042]
                            have gL1042_0 : jGet L1042 0 = some (.ref 66) := eL1042 ▸ jg_ne (by decide) gL1035_0 rfl
                            have gL1042_1 : jGet L1042 1 = some (.int (i32 (sy))) := eL1042 ▸ jg_ne (by decide) gL1035_1 rfl
                            have gL1042_2 : jGet L1042 2 = some (.int (i32 (0))) := eL1042 ▸ jg_ne (by decide) gL1035_2 rfl
                            have gL1042_3 : jGet L1042 3 = some (.int (i32 (0))) := eL1042 ▸ jg_eq
                            refine jx_ld (pc' := 147) (l' := L1042) (st' := [.ref 66]) rfl (jl_aloadn gL1042_0) ?_
                            refine jx_vr (pc' := 150) (as := []) (st := []) rfl rfl rfl rfl ⟨rfl, rfl, Nat.le_of_ble_eq_true rfl⟩ rfl rfl (c_bad (dd := d) (hd := by omega) (hW := hW1027)  (fk := fk2_1003) (e_fk := show G999 16 = fk2_1003 from (e1008))    ) (fun o V' hq => ?_)
                            obtain ⟨r1043, rfl, rfl, b1044, q1045⟩ := hq
                            refine .inr ⟨_, rfl, ?_⟩
                            rcases q1045 with ⟨rfl, a1046⟩ | ⟨rfl, a1047⟩
                            · have _q : True := trivial
                              refine jx_if_ne (pc' := 153) (tg := 212) rfl rfl rfl (by decide) (by decide) (fun h1048 => ?_) (fun h1048 => ?_)
                              · have _q := h1048
                                exact c_readProc_w_at_212p (X := X) (d := d) (Vs := Vs) (sb := sb) (pb := pb) (hvb := hvb) (c0 := c0) (c1 := c1) (G := G) (A := A) (T := T) (ln := ln) (li := li) (at0 := at0) (fk := fk) (nd := nd) (sy := sy) (na := na) (vi := vi) (le := le) (op0 := op0) (tk0 := tk0) (pc0 := pc0) (ec := ec) (hd := hd) (hW := hW) (e_ln := e_ln) (e_li := e_li) (e_at0 := e_at0) (e_fk := e_fk) (e_nd := e_nd) (e_sy := e_sy) (e_na := e_na) (e_vi := e_vi) (e_le := e_le) (e_op0 := e_op0) (e_tk0 := e_tk0) (e_pc0 := e_pc0) (e_ec := e_ec) (i_LT := i_LT) (i_SV := i_SV) (i_PQ := i_PQ) (p_0 := p_0) (p_1 := p_1) (p_2 := p_2) (p_3 := p_3) (p_4 := p_4) (p_5 := p_5) (p_6 := p_6) (p_7 := p_7) (p_8 := p_8) (p_9 := p_9) L1042 G999 A1026 (sy) (0) (at2_1001) (fk2_1003) (sy2_810) (na2_811) gL1042_0 gL1042_1 gL1042_2 hW1027 hF1028 hP1030 hS1031 hV1032 hK1033 ((e1006)) ((e1008)) (((hF1005.1 19 rfl).trans ((hF863.1 19 rfl).trans (e818)))) (((hF1005.1 28 rfl).trans ((hF863.1 28 rfl).trans (e819)))) (((hF1005.1 9 rfl).trans ((hF863.1 9 rfl).trans ((hF815.1 9 rfl).trans ((hF777.1 9 rfl).trans (e_ln)))))) (((hF1005.1 29 rfl).trans ((hF863.1 29 rfl).trans ((hF815.1 29 rfl).trans ((hF777.1 29 rfl).trans (e_vi)))))) (((hF1005.1 46 rfl).trans ((hF863.1 46 rfl).trans ((hF815.1 46 rfl).trans ((hF777.1 46 rfl).trans (e_pc0)))))) (((hF1005.1 31 rfl).trans ((hF863.1 31 rfl).trans ((hF815.1 31 rfl).trans ((hF777.1 31 rfl).trans (e_nd)))))) (ec1034) (by omega) (by omega) (by omega) (by omega) (by omega) (by omega) (by omega) (by omega) (by omega)
                              · have _q := h1048
                                exact absurd h1048 (by omega)
                            · have _q : True := trivial
                              exfalso
                              omega
                          · have _q := h1041
                            exact absurd h1041 (by omega)
                        · have _q : True := trivial
                          exfalso
                          omega
                      · have _q : True := trivial
                        have pz1049 : at2_859 + tz tk2_1002 ≤ at2_1001 := by omega
                        refine jx_ld (pc' := 110) (l' := L841) (st' := [.ref 66]) rfl (jl_aloadn gL841_0) ?_
                        refine jr_get (pc' := 113) (i := 47) (v := .ref 96) rfl rfl (by decide) rfl rfl ?_
                        refine jx_ld (pc' := 114) (l' := L841) (st' := [.ref 66, .ref 96]) rfl (jl_aloadn gL841_0) ?_
                        refine jr_get (pc' := 117) (i := 46) (v := .int (i32 (pc0))) rfl rfl (by decide) (rFv_eq (by decide) (show G999 46 = pc0 from ((hF1005.1 46 rfl).trans ((hF863.1 46 rfl).trans ((hF815.1 46 rfl).trans ((hF777.1 46 rfl).trans (e_pc0))))))) rfl ?_
                        refine jx_ld (pc' := 118) (l' := L841) (st' := [.ref 66, .int (i32 (pc0)), .ref 96]) rfl (jl_aloadn gL841_0) ?_
                        refine jr_get (pc' := 121) (i := 19) (v := .int (i32 (sy2_810))) rfl rfl (by decide) (rFv_eq (by decide) (show G999 19 = sy2_810 from ((hF1005.1 19 rfl).trans ((hF863.1 19 rfl).trans (e818))))) rfl ?_
                        refine jr_st (pc' := 122) (i := 29) (m := 25) (z := pc0) (y := sy2_810) rfl (by decide) rfl (by decide) (by omega) (by omega) rfl ?_
                        have hW1051 : Wk G999 (uA A1000 29 (pc0).toNat (sy2_810)) := Wk_a hW1004 (show (0 : Int) ≤ sy2_810 by omega) (show sy2_810 ≤ (202 : Int) by omega)
                        have hF1052 := Fr_a (z := sy2_810) (k := 29) (n := (pc0).toNat) hF1012 (by decide)
                        obtain ⟨A1050, eA1050⟩ : ∃ q, q = uA A1000 29 (pc0).toNat (sy2_810) := ⟨_, rfl⟩
                        rw [← eA1050]
                        rw [← eA1050] at hW1051 hF1052
                        have q1053 : A1050 29 (pc0).toNat = sy2_810 := by rw [eA1050]; exact uA_eq
                        have hP1054 : Pf nd A A1050 := eA1050 ▸ Pf_n hP1013 rfl
                        have hS1055 : Fx sr (sy) A A1050 := eA1050 ▸ Fx_n hS1014 rfl
                        have hV1056 : Fx [14] (vi) A A1050 := eA1050 ▸ Fx_n hV1015 rfl
                        have hK1057 : Fx [29, 30, 31] (pc0) A A1050 := eA1050 ▸ Fx_a hK1016 (z := pc0) (by omega) (by omega)
                        have ec1058 : ecn A1050 (G999 31) = ec := (ecn_e ((congrFun eA1050 15).trans (uA_ne (by decide)))).trans ec1017
                        refine jx_ar (pc' := 123) (st' := [.int (i32 (0))]) rfl rfl rfl rfl ?_
                        refine jx_ld (pc' := 124) (l' := jSto1 L841 2 (.int (i32 (0)))) (st' := []) rfl rfl ?_
                        obtain ⟨L1059, eL1059⟩ : ∃ q, q = jSto1 L841 2 (.int (i32 (0))) := ⟨_, rfl⟩
                        rw [← eL1059]
                        have gL1059_0 : jGet L1059 0 = some (.ref 66) := eL1059 ▸ jg_ne (by decide) gL841_0 rfl
                        have gL1059_1 : jGet L1059 1 = some (.int (i32 (sy))) := eL1059 ▸ jg_ne (by decide) gL841_1 rfl
                        have gL1059_2 : jGet L1059 2 = some (.int (i32 (0))) := eL1059 ▸ jg_eq
                        refine jx_ld (pc' := 125) (l' := L1059) (st' := [.ref 66]) rfl (jl_aloadn gL1059_0) ?_
                        refine jx_vr (pc' := 128) (as := []) (st := []) rfl rfl rfl rfl ⟨rfl, rfl, Nat.le_of_ble_eq_true rfl⟩ rfl rfl (c_bad (dd := d) (hd := by omega) (hW := hW1051)  (fk := fk2_1003) (e_fk := show G999 16 = fk2_1003 from (e1008))    ) (fun o V' hq => ?_)
                        obtain ⟨r1060, rfl, rfl, b1061, q1062⟩ := hq
                        refine .inr ⟨_, rfl, ?_⟩
                        rcases q1062 with ⟨rfl, a1063⟩ | ⟨rfl, a1064⟩
                        · have _q : True := trivial
                          exfalso
                          omega
                        · have _q : True := trivial
                          refine jx_if_ne (pc' := 131) (tg := 144) rfl rfl rfl (by decide) (by decide) (fun h1065 => ?_) (fun h1065 => ?_)
                          · have _q := h1065
                            exact absurd h1065 (by omega)
                          · have _q := h1065
                            refine jx_ld (pc' := 132) (l' := L1059) (st' := [.ref 66]) rfl (jl_aloadn gL1059_0) ?_
                            refine jx_ar (pc' := 134) (st' := [.int (i32 (41)), .ref 66]) rfl rfl rfl rfl ?_
                            have b1066 : (-2147483648 : Int) ≤ G999 13 ∧ G999 13 ≤ 2147483647 := hW1004.1 13
                            refine jx_vr (pc' := 137) (as := [.int (i32 (41))]) (st := []) rfl rfl rfl rfl ⟨rfl, rfl, Nat.le_of_ble_eq_true rfl⟩ rfl rfl (c_is (dd := d) (hd := by omega) (hW := hW1051) (k := 41) (tk := tk2_1002) (e_tk := show G999 11 = tk2_1002 from (e1007)) (tn := G999 13) (e_tn := show G999 13 = G999 13 from rfl)  (h_k := ⟨(by decide), (by decide)⟩)  ) (fun o V' hq => ?_)
                            obtain ⟨r1067, rfl, rfl, b1068, q1069⟩ := hq
                            refine .inr ⟨_, rfl, ?_⟩
                            rcases q1069 with ⟨rfl, a1070, a1071, a1072⟩ | rfl
                            · have _q : True := trivial
                              refine jx_if_ne (pc' := 140) (tg := 144) rfl rfl rfl (by decide) (by decide) (fun h1073 => ?_) (fun h1073 => ?_)
                              · have _q := h1073
                                refine jx_ar (pc' := 145) (st' := [.int (i32 (0))]) rfl rfl rfl rfl ?_
                                refine jx_ld (pc' := 146) (l' := jSto1 L1059 3 (.int (i32 (0)))) (st' := []) rfl rfl ?_
                                obtain ⟨L1074, eL1074⟩ : ∃ q, q = jSto1 L1059 3 (.int (i32 (0))) := ⟨_, rfl⟩
                                rw [← eL1074]
                                have gL1074_0 : jGet L1074 0 = some (.ref 66) := eL1074 ▸ jg_ne (by decide) gL1059_0 rfl
                                have gL1074_1 : jGet L1074 1 = some (.int (i32 (sy))) := eL1074 ▸ jg_ne (by decide) gL1059_1 rfl
                                have gL1074_2 : jGet L1074 2 = some (.int (i32 (0))) := eL1074 ▸ jg_ne (by decide) gL1059_2 rfl
                                have gL1074_3 : jGet L1074 3 = some (.int (i32 (0))) := eL1074 ▸ jg_eq
                                exact c_readProc_w_at_146 (X := X) (d := d) (Vs := Vs) (sb := sb) (pb := pb) (hvb := hvb) (c0 := c0) (c1 := c1) (G := G) (A := A) (T := T) (ln := ln) (li := li) (at0 := at0) (fk := fk) (nd := nd) (sy := sy) (na := na) (vi := vi) (le := le) (op0 := op0) (tk0 := tk0) (pc0 := pc0) (ec := ec) (hd := hd) (hW := hW) (e_ln := e_ln) (e_li := e_li) (e_at0 := e_at0) (e_fk := e_fk) (e_nd := e_nd) (e_sy := e_sy) (e_na := e_na) (e_vi := e_vi) (e_le := e_le) (e_op0 := e_op0) (e_tk0 := e_tk0) (e_pc0 := e_pc0) (e_ec := e_ec) (i_LT := i_LT) (i_SV := i_SV) (i_PQ := i_PQ) (p_0 := p_0) (p_1 := p_1) (p_2 := p_2) (p_3 := p_3) (p_4 := p_4) (p_5 := p_5) (p_6 := p_6) (p_7 := p_7) (p_8 := p_8) (p_9 := p_9) _ L1074 G999 A1050 (sy) (0) (0) (at2_1001) (tk2_1002) (fk2_1003) (sy2_810) (na2_811) (sy2_810) (yk2_813) (pc0) rfl gL1074_0 gL1074_1 gL1074_2 gL1074_3 hW1051 hF1052 hP1054 hS1055 hV1056 hK1057 ((e1006)) ((e1007)) ((e1008)) (((hF1005.1 19 rfl).trans ((hF863.1 19 rfl).trans (e818)))) (((hF1005.1 28 rfl).trans ((hF863.1 28 rfl).trans (e819)))) ((q1053)) ((congrFun (((congrFun eA1050 7).trans (uA_ne (by decide))).trans ((hF1005.2 7 rfl).trans ((hF863.2 7 rfl).trans ((congrFun eA848 7).trans (uA_ne (by decide)))))) _).trans (e821)) ((congrFun (((congrFun eA1050 12).trans (uA_ne (by decide))).trans ((hF1005.2 12 rfl).trans (hF863.2 12 rfl))) _).trans (q851)) (((hF1005.1 9 rfl).trans ((hF863.1 9 rfl).trans ((hF815.1 9 rfl).trans ((hF777.1 9 rfl).trans (e_ln)))))) (((hF1005.1 29 rfl).trans ((hF863.1 29 rfl).trans ((hF815.1 29 rfl).trans ((hF777.1 29 rfl).trans (e_vi)))))) (((hF1005.1 46 rfl).trans ((hF863.1 46 rfl).trans ((hF815.1 46 rfl).trans ((hF777.1 46 rfl).trans (e_pc0)))))) (((hF1005.1 31 rfl).trans ((hF863.1 31 rfl).trans ((hF815.1 31 rfl).trans ((hF777.1 31 rfl).trans (e_nd)))))) (ec1058) (by omega) (by omega) (by omega) (by omega) (by omega) (by omega) (by omega) (by omega) (by omega) (by omega) (by omega) (wM_nil) (by omega) (by omega) (by omega) (by omega) (by omega)
                              · have _q := h1073
                                exact absurd h1073 (by omega)
                            · have _q : True := trivial
                              refine jx_if_ne (pc' := 140) (tg := 144) rfl rfl rfl (by decide) (by decide) (fun h1075 => ?_) (fun h1075 => ?_)
                              · have _q := h1075
                                exact absurd h1075 (by omega)
                              · have _q := h1075
                                refine jx_ar (pc' := 141) (st' := [.int (i32 (1))]) rfl rfl rfl rfl ?_
                                refine jx_go (tg := 145) rfl rfl ?_
                                refine jx_ld (pc' := 146) (l' := jSto1 L1059 3 (.int (i32 (1)))) (st' := []) rfl rfl ?_
                                obtain ⟨L1076, eL1076⟩ : ∃ q, q = jSto1 L1059 3 (.int (i32 (1))) := ⟨_, rfl⟩
                                rw [← eL1076]
                                have gL1076_0 : jGet L1076 0 = some (.ref 66) := eL1076 ▸ jg_ne (by decide) gL1059_0 rfl
                                have gL1076_1 : jGet L1076 1 = some (.int (i32 (sy))) := eL1076 ▸ jg_ne (by decide) gL1059_1 rfl
                                have gL1076_2 : jGet L1076 2 = some (.int (i32 (0))) := eL1076 ▸ jg_ne (by decide) gL1059_2 rfl
                                have gL1076_3 : jGet L1076 3 = some (.int (i32 (1))) := eL1076 ▸ jg_eq
                                exact c_readProc_w_at_146 (X := X) (d := d) (Vs := Vs) (sb := sb) (pb := pb) (hvb := hvb) (c0 := c0) (c1 := c1) (G := G) (A := A) (T := T) (ln := ln) (li := li) (at0 := at0) (fk := fk) (nd := nd) (sy := sy) (na := na) (vi := vi) (le := le) (op0 := op0) (tk0 := tk0) (pc0 := pc0) (ec := ec) (hd := hd) (hW := hW) (e_ln := e_ln) (e_li := e_li) (e_at0 := e_at0) (e_fk := e_fk) (e_nd := e_nd) (e_sy := e_sy) (e_na := e_na) (e_vi := e_vi) (e_le := e_le) (e_op0 := e_op0) (e_tk0 := e_tk0) (e_pc0 := e_pc0) (e_ec := e_ec) (i_LT := i_LT) (i_SV := i_SV) (i_PQ := i_PQ) (p_0 := p_0) (p_1 := p_1) (p_2 := p_2) (p_3 := p_3) (p_4 := p_4) (p_5 := p_5) (p_6 := p_6) (p_7 := p_7) (p_8 := p_8) (p_9 := p_9) _ L1076 G999 A1050 (sy) (0) (1) (at2_1001) (tk2_1002) (fk2_1003) (sy2_810) (na2_811) (sy2_810) (yk2_813) (pc0) rfl gL1076_0 gL1076_1 gL1076_2 gL1076_3 hW1051 hF1052 hP1054 hS1055 hV1056 hK1057 ((e1006)) ((e1007)) ((e1008)) (((hF1005.1 19 rfl).trans ((hF863.1 19 rfl).trans (e818)))) (((hF1005.1 28 rfl).trans ((hF863.1 28 rfl).trans (e819)))) ((q1053)) ((congrFun (((congrFun eA1050 7).trans (uA_ne (by decide))).trans ((hF1005.2 7 rfl).trans ((hF863.2 7 rfl).trans ((congrFun eA848 7).trans (uA_ne (by decide)))))) _).trans (e821)) ((congrFun (((congrFun eA1050 12).trans (uA_ne (by decide))).trans ((hF1005.2 12 rfl).trans (hF863.2 12 rfl))) _).trans (q851)) (((hF1005.1 9 rfl).trans ((hF863.1 9 rfl).trans ((hF815.1 9 rfl).trans ((hF777.1 9 rfl).trans (e_ln)))))) (((hF1005.1 29 rfl).trans ((hF863.1 29 rfl).trans ((hF815.1 29 rfl).trans ((hF777.1 29 rfl).trans (e_vi)))))) (((hF1005.1 46 rfl).trans ((hF863.1 46 rfl).trans ((hF815.1 46 rfl).trans ((hF777.1 46 rfl).trans (e_pc0)))))) (((hF1005.1 31 rfl).trans ((hF863.1 31 rfl).trans ((hF815.1 31 rfl).trans ((hF777.1 31 rfl).trans (e_nd)))))) (ec1058) (by omega) (by omega) (by omega) (by omega) (by omega) (by omega) (by omega) (by omega) (by omega) (by omega) (by omega) (wM_nil) (by omega) (by omega) (by omega) (by omega) (by omega)
                    · have _q : True := trivial
                      refine jx_vr (pc' := 109) (as := [.int (i32 (0))]) (st := []) rfl rfl rfl rfl ⟨rfl, rfl, Nat.le_of_ble_eq_true rfl⟩ rfl rfl (c_need (dd := d) (hd := by omega) (hW := hW862) (g := 0) (ln := ln) (e_ln := show G857 9 = ln from ((hF863.1 9 rfl).trans ((hF815.1 9 rfl).trans ((hF777.1 9 rfl).trans (e_ln))))) (le := le) (e_le := show A858 4 (ln).toNat = le from (congrFun ((hF863.2 4 rfl).trans (((congrFun eA848 4).trans (uA_ne (by decide))).trans ((hF815.2 4 rfl).trans (hF777.2 4 rfl)))) _).trans (e_le)) (at0 := at2_859) (e_at0 := show G857 10 = at2_859 from (e864)) (fk := fk2_861) (e_fk := show G857 16 = fk2_861 from (e866)) (tk0 := tk2_860) (e_tk0 := show G857 11 = tk2_860 from (e865))  (h_g := ⟨(by decide), (by decide)⟩)  (p_0 := by omega)) (fun o V' hq => ?_)
                      obtain ⟨G1077, A1078, at2_1079, tk2_1080, fk2_1081, rfl, rfl, hW1082, hF1083, e1084, e1085, e1086, p1087, p1088, q1089⟩ := hq
                      have hF1090 := Fr_tr hF870 hF1083 (Fr_sub (by decide)) (Fr_sub (by decide))
                      have hP1091 := Pf_f hP871 hF1083 (by decide)
                      have hS1092 := Fx_f hS872 hF1083 (by decide)
                      have hV1093 := Fx_f hV873 hF1083 (by decide)
                      have hK1094 := Fx_f hK874 hF1083 (by decide)
                      have ec1095 : ecn A1078 (G1077 31) = ec := (ecn_f (hF1083.2 15 rfl) (hF1083.1 31 rfl)).trans ec875
                      have bat2_1079 : (0 : Int) ≤ at2_1079 ∧ at2_1079 ≤ 3002 := e1084 ▸ hW1082.1 10
                      have ztk2_1080 := tz_b tk2_1080
                      have btk2_1080 : (0 : Int) ≤ tk2_1080 ∧ tk2_1080 ≤ 5 := e1085 ▸ hW1082.1 11
                      have bfk2_1081 : (0 : Int) ≤ fk2_1081 ∧ fk2_1081 ≤ 6 := e1086 ▸ hW1082.1 16
                      refine .inl ⟨rfl, ?_⟩
                      rcases q1089 with ⟨a1096, a1097, a1098, a1099⟩ | ⟨a1100, a1101, a1102, a1103⟩
                      · have _q : True := trivial
                        refine jx_ld (pc' := 110) (l' := L841) (st' := [.ref 66]) rfl (jl_aloadn gL841_0) ?_
                        refine jr_get (pc' := 113) (i := 47) (v := .ref 96) rfl rfl (by decide) rfl rfl ?_
                        refine jx_ld (pc' := 114) (l' := L841) (st' := [.ref 66, .ref 96]) rfl (jl_aloadn gL841_0) ?_
                        refine jr_get (pc' := 117) (i := 46) (v := .int (i32 (pc0))) rfl rfl (by decide) (rFv_eq (by decide) (show G1077 46 = pc0 from ((hF1083.1 46 rfl).trans ((hF863.1 46 rfl).trans ((hF815.1 46 rfl).trans ((hF777.1 46 rfl).trans (e_pc0))))))) rfl ?_
                        refine jx_ld (pc' := 118) (l' := L841) (st' := [.ref 66, .int (i32 (pc0)), .ref 96]) rfl (jl_aloadn gL841_0) ?_
                        refine jr_get (pc' := 121) (i := 19) (v := .int (i32 (sy2_810))) rfl rfl (by decide) (rFv_eq (by decide) (show G1077 19 = sy2_810 from ((hF1083.1 19 rfl).trans ((hF863.1 19 rfl).trans (e818))))) rfl ?_
                        refine jr_st (pc' := 122) (i := 29) (m := 25) (z := pc0) (y := sy2_810) rfl (by decide) rfl (by decide) (by omega) (by omega) rfl ?_
                        have hW1105 : Wk G1077 (uA A1078 29 (pc0).toNat (sy2_810)) := Wk_a hW1082 (show (0 : Int) ≤ sy2_810 by omega) (show sy2_810 ≤ (202 : Int) by omega)
                        have hF1106 := Fr_a (z := sy2_810) (k := 29) (n := (pc0).toNat) hF1090 (by decide)
                        obtain ⟨A1104, eA1104⟩ : ∃ q, q = uA A1078 29 (pc0).toNat (sy2_810) := ⟨_, rfl⟩
                        rw [← eA1104]
                        rw [← eA1104] at hW1105 hF1106
                        have q1107 : A1104 29 (pc0).toNat = sy2_810 := by rw [eA1104]; exact uA_eq
                        have hP1108 : Pf nd A A1104 := eA1104 ▸ Pf_n hP1091 rfl
                        have hS1109 : Fx sr (sy) A A1104 := eA1104 ▸ Fx_n hS1092 rfl
                        have hV1110 : Fx [14] (vi) A A1104 := eA1104 ▸ Fx_n hV1093 rfl
                        have hK1111 : Fx [29, 30, 31] (pc0) A A1104 := eA1104 ▸ Fx_a hK1094 (z := pc0) (by omega) (by omega)
                        have ec1112 : ecn A1104 (G1077 31) = ec := (ecn_e ((congrFun eA1104 15).trans (uA_ne (by decide)))).trans ec1095
                        refine jx_ar (pc' := 123) (st' := [.int (i32 (0))]) rfl rfl rfl rfl ?_
                        refine jx_ld (pc' := 124) (l' := jSto1 L841 2 (.int (i32 (0)))) (st' := []) rfl rfl ?_
                        obtain ⟨L1113, eL1113⟩ : ∃ q, q = jSto1 L841 2 (.int (i32 (0))) := ⟨_, rfl⟩
                        rw [← eL1113]
                        have gL1113_0 : jGet L1113 0 = some (.ref 66) := eL1113 ▸ jg_ne (by decide) gL841_0 rfl
                        have gL1113_1 : jGet L1113 1 = some (.int (i32 (sy))) := eL1113 ▸ jg_ne (by decide) gL841_1 rfl
                        have gL1113_2 : jGet L1113 2 = some (.int (i32 (0))) := eL1113 ▸ jg_eq
                        refine jx_ld (pc' := 125) (l' := L1113) (st' := [.ref 66]) rfl (jl_aloadn gL1113_0) ?_
                        refine jx_vr (pc' := 128) (as := []) (st := []) rfl rfl rfl rfl ⟨rfl, rfl, Nat.le_of_ble_eq_true rfl⟩ rfl rfl (c_bad (dd := d) (hd := by omega) (hW := hW1105)  (fk := fk2_1081) (e_fk := show G1077 16 = fk2_1081 from (e1086))    ) (fun o V' hq => ?_)
                        obtain ⟨r1114, rfl, rfl, b1115, q1116⟩ := hq
                        refine .inr ⟨_, rfl, ?_⟩
                        rcases q1116 with ⟨rfl, a1117⟩ | ⟨rfl, a1118⟩
                        · have _q : True := trivial
                          refine jx_if_ne (pc' := 131) (tg := 144) rfl rfl rfl (by decide) (by decide) (fun h1119 => ?_) (fun h1119 => ?_)
                          · have _q := h1119
                            refine jx_ar (pc' := 145) (st' := [.int (i32 (0))]) rfl rfl rfl rfl ?_
                            refine jx_ld (pc' := 146) (l' := jSto1 L1113 3 (.int (i32 (0)))) (st' := []) rfl rfl ?_
                            obtain ⟨L1120, eL1120⟩ : ∃ q, q = jSto1 L1113 3 (.int (i32 (0))) := ⟨_, rfl⟩
                            rw [← eL1120]
                            have gL1120_0 : jGet L1120 0 = some (.ref 66) := eL1120 ▸ jg_ne (by decide) gL1113_0 rfl
                            have gL1120_1 : jGet L1120 1 = some (.int (i32 (sy))) := eL1120 ▸ jg_ne (by decide) gL1113_1 rfl
                            have gL1120_2 : jGet L1120 2 = some (.int (i32 (0))) := eL1120 ▸ jg_ne (by decide) gL1113_2 rfl
                            have gL1120_3 : jGet L1120 3 = some (.int (i32 (0))) := eL1120 ▸ jg_eq
                            refine jx_ld (pc' := 147) (l' := L1120) (st' := [.ref 66]) rfl (jl_aloadn gL1120_0) ?_
                            refine jx_vr (pc' := 150) (as := []) (st := []) rfl rfl rfl rfl ⟨rfl, rfl, Nat.le_of_ble_eq_true rfl⟩ rfl rfl (c_bad (dd := d) (hd := by omega) (hW := hW1105)  (fk := fk2_1081) (e_fk := show G1077 16 = fk2_1081 from (e1086))    ) (fun o V' hq => ?_)
                            obtain ⟨r1121, rfl, rfl, b1122, q1123⟩ := hq
                            refine .inr ⟨_, rfl, ?_⟩
                            rcases q1123 with ⟨rfl, a1124⟩ | ⟨rfl, a1125⟩
                            · have _q : True := trivial
                              refine jx_if_ne (pc' := 153) (tg := 212) rfl rfl rfl (by decide) (by decide) (fun h1126 => ?_) (fun h1126 => ?_)
                              · have _q := h1126
                                exact c_readProc_w_at_212p (X := X) (d := d) (Vs := Vs) (sb := sb) (pb := pb) (hvb := hvb) (c0 := c0) (c1 := c1) (G := G) (A := A) (T := T) (ln := ln) (li := li) (at0 := at0) (fk := fk) (nd := nd) (sy := sy) (na := na) (vi := vi) (le := le) (op0 := op0) (tk0 := tk0) (pc0 := pc0) (ec := ec) (hd := hd) (hW := hW) (e_ln := e_ln) (e_li := e_li) (e_at0 := e_at0) (e_fk := e_fk) (e_nd := e_nd) (e_sy := e_sy) (e_na := e_na) (e_vi := e_vi) (e_le := e_le) (e_op0 := e_op0) (e_tk0 := e_tk0) (e_pc0 := e_pc0) (e_ec := e_ec) (i_LT := i_LT) (i_SV := i_SV) (i_PQ := i_PQ) (p_0 := p_0) (p_1 := p_1) (p_2 := p_2) (p_3 := p_3) (p_4 := p_4) (p_5 := p_5) (p_6 := p_6) (p_7 := p_7) (p_8 := p_8) (p_9 := p_9) L1120 G1077 A1104 (sy) (0) (at2_1079) (fk2_1081) (sy2_810) (na2_811) gL1120_0 gL1120_1 gL1120_2 hW1105 hF1106 hP1108 hS1109 hV1110 hK1111 ((e1084)) ((e1086)) (((hF1083.1 19 rfl).trans ((hF863.1 19 rfl).trans (e818)))) (((hF1083.1 28 rfl).trans ((hF863.1 28 rfl).trans (e819)))) (((hF1083.1 9 rfl).trans ((hF863.1 9 rfl).trans ((hF815.1 9 rfl).trans ((hF777.1 9 rfl).trans (e_ln)))))) (((hF1083.1 29 rfl).trans ((hF863.1 29 rfl).trans ((hF815.1 29 rfl).trans ((hF777.1 29 rfl).trans (e_vi)))))) (((hF1083.1 46 rfl).trans ((hF863.1 46 rfl).trans ((hF815.1 46 rfl).trans ((hF777.1 46 rfl).trans (e_pc0)))))) (((hF1083.1 31 rfl).trans ((hF863.1 31 rfl).trans ((hF815.1 31 rfl).trans ((hF777.1 31 rfl).trans (e_nd)))))) (ec1112) (by omega) (by omega) (by omega) (by omega) (by omega) (by omega) (by omega) (by omega) (by omega)
                              · have _q := h1126
                                exact absurd h1126 (by omega)
                            · have _q : True := trivial
                              exfalso
                              omega
                          · have _q := h1119
                            exact absurd h1119 (by omega)
                        · have _q : True := trivial
                          exfalso
                          omega
                      · have _q : True := trivial
                        exfalso
                        omega
                · have _q := h847
                  exact absurd h847 (by omega)
            · have _q : True := trivial
              refine jx_ld (pc' := 76) (l' := jSto1 [(0, .ref 66)] 1 (.int (i32 (0)))) (st' := []) rfl rfl ?_
              obtain ⟨L1127, eL1127⟩ : ∃ q, q = jSto1 [(0, .ref 66)] 1 (.int (i32 (0))) := ⟨_, rfl⟩
              rw [← eL1127]
              have gL1127_0 : jGet L1127 0 = some (.ref 66) := eL1127 ▸ jg_ne (by decide) (rfl : jGet [(0, .ref 66)] 0 = some (.ref 66)) rfl
              have gL1127_1 : jGet L1127 1 = some (.int (i32 (0))) := eL1127 ▸ jg_eq
              refine jx_ld (pc' := 77) (l' := L1127) (st' := [.ref 66]) rfl (jl_aloadn gL1127_0) ?_
              refine jx_vr (pc' := 80) (as := []) (st := []) rfl rfl rfl rfl ⟨rfl, rfl, Nat.le_of_ble_eq_true rfl⟩ rfl rfl (c_bad (dd := d) (hd := by omega) (hW := hW814)  (fk := fk2_812) (e_fk := show G807 16 = fk2_812 from (e820))    ) (fun o V' hq => ?_)
              obtain ⟨r1128, rfl, rfl, b1129, q1130⟩ := hq
              refine .inr ⟨_, rfl, ?_⟩
              rcases q1130 with ⟨rfl, a1131⟩ | ⟨rfl, a1132⟩
              · have _q : True := trivial
                refine jx_if_eq (pc' := 83) (tg := 84) rfl rfl rfl (by decide) (by decide) (fun h1133 => ?_) (fun h1133 => ?_)
                · have _q := h1133
                  exact absurd h1133 (by omega)
                · have _q := h1133
                  refine jx_rt (v := none) rfl rfl rfl rfl rfl rfl ?_
                  exact ⟨_, _, ln, at2_774, fk2_812, nd, sy2_810, na2_811, vi, A 3 (ln).toNat, pc0, ec, rfl, rfl, hW814, hF823, hP824, hS825, hV826, hK827, ((hF815.1 9 rfl).trans ((hF777.1 9 rfl).trans (e_ln))), ((hF815.1 10 rfl).trans (e778)), (e820), ((hF815.1 31 rfl).trans ((hF777.1 31 rfl).trans (e_nd))), (e818), (e819), ((hF815.1 29 rfl).trans ((hF777.1 29 rfl).trans (e_vi))), (congrFun ((hF815.2 3 rfl).trans (hF777.2 3 rfl)) _), ((hF815.1 46 rfl).trans ((hF777.1 46 rfl).trans (e_pc0))), ec830, by omega, by omega, by omega, by omega, by first | exact Or.inl (by omega)⟩
              · have _q : True := trivial
                exfalso
                omega
          · have _q := h806
            refine jx_ld (pc' := 59) (l' := [(0, .ref 66)]) (st' := [.ref 66]) rfl (jl_aloadn rfl) ?_
            refine jx_ar (pc' := 61) (st' := [.int (i32 (6)), .ref 66]) rfl rfl rfl rfl ?_
            refine jx_ld (pc' := 62) (l' := [(0, .ref 66)]) (st' := [.ref 66, .int (i32 (6)), .ref 66]) rfl (jl_aloadn rfl) ?_
            have b1134 : (-3000 : Int) ≤ G772 12 ∧ G772 12 ≤ 3002 := hW776.1 12
            refine jr_get (pc' := 65) (i := 12) (v := .int (i32 (G772 12))) rfl rfl (by decide) rfl rfl ?_
            refine jx_vr (pc' := 68) (as := [.int (i32 (6)), .int (i32 (G772 12))]) (st := []) rfl rfl rfl rfl ⟨rfl, rfl, Nat.le_of_ble_eq_true rfl⟩ rfl rfl (c_fail (dd := d) (hd := by omega) (hW := hW776) (kind := 6) (place := G772 12) (fk := fk) (e_fk := show G772 16 = fk from ((hF777.1 16 rfl).trans (e_fk)))  (h_kind := ⟨(by decide), (by decide)⟩) (h_place := ⟨(Int.le_trans (by decide : (-2147483648 : Int) ≤ -3000) b1134.1), (Int.le_trans b1134.2 (by decide : (3002 : Int) ≤ 2147483647))⟩)  (p_0 := by omega) (p_1 := by omega)) (fun o V' hq => ?_)
            obtain ⟨G1135, A1136, fk2_1137, rfl, rfl, hW1138, hF1139, e1140, p1141, -⟩ := hq
            have hF1143 := Fr_tr hF784 hF1139 (Fr_sub (by decide)) (Fr_sub (by decide))
            have hP1144 := Pf_f hP785 hF1139 (by decide)
            have hS1145 := Fx_f hS786 hF1139 (by decide)
            have hV1146 := Fx_f hV787 hF1139 (by decide)
            have hK1147 := Fx_f hK788 hF1139 (by decide)
            have sf1148 : wQ A1136 (pc0).toNat (nd) (sy) := (show A1136 = A773 from funext (fun k => hF1139.2 k rfl)) ▸ sf789
            have sf1149 : VT (Vs) A1136 (sy) := (show A1136 = A773 from funext (fun k => hF1139.2 k rfl)) ▸ sf790
            have ec1150 : ecn A1136 (G1135 31) = ec := (ecn_f (hF1139.2 15 rfl) (hF1139.1 31 rfl)).trans ec791
            have bfk2_1137 : (0 : Int) ≤ fk2_1137 ∧ fk2_1137 ≤ 6 := e1140 ▸ hW1138.1 16
            refine .inl ⟨rfl, ?_⟩
            refine jx_ld (pc' := 69) (l' := [(0, .ref 66)]) (st' := [.ref 66]) rfl (jl_aloadn rfl) ?_
            refine jx_ar (pc' := 71) (st' := [.int (i32 (14)), .ref 66]) rfl rfl rfl rfl ?_
            refine jx_ar (pc' := 72) (st' := [.int (i32 (0)), .int (i32 (14)), .ref 66]) rfl rfl rfl rfl ?_
            refine jx_vr (pc' := 75) (as := [.int (i32 (14)), .int (i32 (0))]) (st := []) rfl rfl rfl rfl ⟨rfl, rfl, Nat.le_of_ble_eq_true rfl⟩ rfl rfl (c_newName (dd := d) (hd := by omega) (hW := hW1138) (kind := 14) (many := 0) (sy := sy) (e_sy := show G1135 19 = sy from ((hF1139.1 19 rfl).trans ((hF777.1 19 rfl).trans (e_sy)))) (na := na) (e_na := show G1135 28 = na from ((hF1139.1 28 rfl).trans ((hF777.1 28 rfl).trans (e_na)))) (fk := fk2_1137) (e_fk := show G1135 16 = fk2_1137 from (e1140))  (h_kind := ⟨(by decide), (by decide)⟩) (h_many := ⟨(by decide), (by decide)⟩)  (p_0 := by omega) (p_1 := by omega)) (fun o V' hq => ?_)
            obtain ⟨G1151, A1152, r1153, sy2_1154, na2_1155, fk2_1156, yk2_1157, rfl, rfl, hW1158, hF1159, hQ1160, b1161, e1162, e1163, e1164, e1165, q1166⟩ := hq
            have hF1167 := Fr_tr hF1143 hF1159 (Fr_sub (by decide)) (Fr_sub (by decide))
            have hP1168 := Pf_f hP1144 hF1159 (by decide)
            have hS1169 := Fx_tr hS1145 hQ1160 (by omega)
            have hV1170 := Fx_f hV1146 hF1159 (by decide)
            have hK1171 := Fx_f hK1147 hF1159 (by decide)
            have sf1172 : wQ A1152 (pc0).toNat (nd) (sy) := wQ_fx (Pf_f Pf_rf hF1159 (by decide)) (Fx_su hQ1160 (by omega)) (Fx_su (Fx_f (w := pc0) Fx_rf hF1159 (by decide)) (by omega)) sf1148
            have sf1173 : VT (Vs) A1152 (sy) := VT_fx hQ1160 (by omega) sf1149
            have ec1174 : ecn A1152 (G1151 31) = ec := (ecn_f (hF1159.2 15 rfl) (hF1159.1 31 rfl)).trans ec1150
            have bsy2_1154 : (0 : Int) ≤ sy2_1154 ∧ sy2_1154 ≤ 202 := e1162 ▸ hW1158.1 19
            have bna2_1155 : (0 : Int) ≤ na2_1155 ∧ na2_1155 ≤ 200 := e1163 ▸ hW1158.1 28
            have bfk2_1156 : (0 : Int) ≤ fk2_1156 ∧ fk2_1156 ≤ 6 := e1164 ▸ hW1158.1 16
            have byk2_1157 : (0 : Int) ≤ yk2_1157 ∧ yk2_1157 ≤ 14 := e1165 ▸ hW1158.2 7 _
            refine .inr ⟨_, rfl, ?_⟩
            rcases q1166 with ⟨a1181, a1175, a1176, a1177, a1178, a1179, a1180⟩ | ⟨rfl, a1182, a1183, a1184⟩
            · have _q : True := trivial
              rw [a1181]
              exfalso
              omega
            · have _q : True := trivial
              refine jx_ld (pc' := 76) (l' := jSto1 [(0, .ref 66)] 1 (.int (i32 (0)))) (st' := []) rfl rfl ?_
              obtain ⟨L1185, eL1185⟩ : ∃ q, q = jSto1 [(0, .ref 66)] 1 (.int (i32 (0))) := ⟨_, rfl⟩
              rw [← eL1185]
              have gL1185_0 : jGet L1185 0 = some (.ref 66) := eL1185 ▸ jg_ne (by decide) (rfl : jGet [(0, .ref 66)] 0 = some (.ref 66)) rfl
              have gL1185_1 : jGet L1185 1 = some (.int (i32 (0))) := eL1185 ▸ jg_eq
              refine jx_ld (pc' := 77) (l' := L1185) (st' := [.ref 66]) rfl (jl_aloadn gL1185_0) ?_
              refine jx_vr (pc' := 80) (as := []) (st := []) rfl rfl rfl rfl ⟨rfl, rfl, Nat.le_of_ble_eq_true rfl⟩ rfl rfl (c_bad (dd := d) (hd := by omega) (hW := hW1158)  (fk := fk2_1156) (e_fk := show G1151 16 = fk2_1156 from (e1164))    ) (fun o V' hq => ?_)
              obtain ⟨r1186, rfl, rfl, b1187, q1188⟩ := hq
              refine .inr ⟨_, rfl, ?_⟩
              rcases q1188 with ⟨rfl, a1189⟩ | ⟨rfl, a1190⟩
              · have _q : True := trivial
                refine jx_if_eq (pc' := 83) (tg := 84) rfl rfl rfl (by decide) (by decide) (fun h1191 => ?_) (fun h1191 => ?_)
                · have _q := h1191
                  exact absurd h1191 (by omega)
                · have _q := h1191
                  refine jx_rt (v := none) rfl rfl rfl rfl rfl rfl ?_
                  exact ⟨_, _, ln, at2_774, fk2_1156, nd, sy2_1154, na2_1155, vi, A 3 (ln).toNat, pc0, ec, rfl, rfl, hW1158, hF1167, hP1168, hS1169, hV1170, hK1171, ((hF1159.1 9 rfl).trans ((hF1139.1 9 rfl).trans ((hF777.1 9 rfl).trans (e_ln)))), ((hF1159.1 10 rfl).trans ((hF1139.1 10 rfl).trans (e778))), (e1164), ((hF1159.1 31 rfl).trans ((hF1139.1 31 rfl).trans ((hF777.1 31 rfl).trans (e_nd)))), (e1162), (e1163), ((hF1159.1 29 rfl).trans ((hF1139.1 29 rfl).trans ((hF777.1 29 rfl).trans (e_vi)))), (congrFun ((hF1159.2 3 rfl).trans ((hF1139.2 3 rfl).trans (hF777.2 3 rfl))) _), ((hF1159.1 46 rfl).trans ((hF1139.1 46 rfl).trans ((hF777.1 46 rfl).trans (e_pc0)))), ec1174, by omega, by omega, by omega, by omega, by first | exact Or.inl (by omega)⟩
              · have _q : True := trivial
                exfalso
                omega
    · have _q := h799
      refine jx_ld (pc' := 34) (l' := [(0, .ref 66)]) (st' := [.ref 66]) rfl (jl_aloadn rfl) ?_
      refine jx_ar (pc' := 35) (st' := [.int (i32 (2)), .ref 66]) rfl rfl rfl rfl ?_
      refine jx_ld (pc' := 36) (l' := [(0, .ref 66)]) (st' := [.ref 66, .int (i32 (2)), .ref 66]) rfl (jl_aloadn rfl) ?_
      have b1192 : (-3000 : Int) ≤ G772 12 ∧ G772 12 ≤ 3002 := hW776.1 12
      refine jr_get (pc' := 39) (i := 12) (v := .int (i32 (G772 12))) rfl rfl (by decide) rfl rfl ?_
      refine jx_vr (pc' := 42) (as := [.int (i32 (2)), .int (i32 (G772 12))]) (st := []) rfl rfl rfl rfl ⟨rfl, rfl, Nat.le_of_ble_eq_true rfl⟩ rfl rfl (c_fail (dd := d) (hd := by omega) (hW := hW776) (kind := 2) (place := G772 12) (fk := fk) (e_fk := show G772 16 = fk from ((hF777.1 16 rfl).trans (e_fk)))  (h_kind := ⟨(by decide), (by decide)⟩) (h_place := ⟨(Int.le_trans (by decide : (-2147483648 : Int) ≤ -3000) b1192.1), (Int.le_trans b1192.2 (by decide : (3002 : Int) ≤ 2147483647))⟩)  (p_0 := by omega) (p_1 := by omega)) (fun o V' hq => ?_)
      obtain ⟨G1193, A1194, fk2_1195, rfl, rfl, hW1196, hF1197, e1198, p1199, -⟩ := hq
      have hF1201 := Fr_tr hF784 hF1197 (Fr_sub (by decide)) (Fr_sub (by decide))
      have hP1202 := Pf_f hP785 hF1197 (by decide)
      have hS1203 := Fx_f hS786 hF1197 (by decide)
      have hV1204 := Fx_f hV787 hF1197 (by decide)
      have hK1205 := Fx_f hK788 hF1197 (by decide)
      have sf1206 : wQ A1194 (pc0).toNat (nd) (sy) := (show A1194 = A773 from funext (fun k => hF1197.2 k rfl)) ▸ sf789
      have sf1207 : VT (Vs) A1194 (sy) := (show A1194 = A773 from funext (fun k => hF1197.2 k rfl)) ▸ sf790
      have ec1208 : ecn A1194 (G1193 31) = ec := (ecn_f (hF1197.2 15 rfl) (hF1197.1 31 rfl)).trans ec791
      have bfk2_1195 : (0 : Int) ≤ fk2_1195 ∧ fk2_1195 ≤ 6 := e1198 ▸ hW1196.1 16
      refine .inl ⟨rfl, ?_⟩
      refine jx_ld (pc' := 43) (l' := [(0, .ref 66)]) (st' := [.ref 66]) rfl (jl_aloadn rfl) ?_
      refine jx_vr (pc' := 46) (as := []) (st := []) rfl rfl rfl rfl ⟨rfl, rfl, Nat.le_of_ble_eq_true rfl⟩ rfl rfl (c_bad (dd := d) (hd := by omega) (hW := hW1196)  (fk := fk2_1195) (e_fk := show G1193 16 = fk2_1195 from (e1198))    ) (fun o V' hq => ?_)
      obtain ⟨r1209, rfl, rfl, b1210, q1211⟩ := hq
      refine .inr ⟨_, rfl, ?_⟩
      rcases q1211 with ⟨rfl, a1212⟩ | ⟨rfl, a1213⟩
      · have _q : True := trivial
        refine jx_if_ne (pc' := 49) (tg := 68) rfl rfl rfl (by decide) (by decide) (fun h1214 => ?_) (fun h1214 => ?_)
        · have _q := h1214
          refine jx_ld (pc' := 69) (l' := [(0, .ref 66)]) (st' := [.ref 66]) rfl (jl_aloadn rfl) ?_
          refine jx_ar (pc' := 71) (st' := [.int (i32 (14)), .ref 66]) rfl rfl rfl rfl ?_
          refine jx_ar (pc' := 72) (st' := [.int (i32 (0)), .int (i32 (14)), .ref 66]) rfl rfl rfl rfl ?_
          refine jx_vr (pc' := 75) (as := [.int (i32 (14)), .int (i32 (0))]) (st := []) rfl rfl rfl rfl ⟨rfl, rfl, Nat.le_of_ble_eq_true rfl⟩ rfl rfl (c_newName (dd := d) (hd := by omega) (hW := hW1196) (kind := 14) (many := 0) (sy := sy) (e_sy := show G1193 19 = sy from ((hF1197.1 19 rfl).trans ((hF777.1 19 rfl).trans (e_sy)))) (na := na) (e_na := show G1193 28 = na from ((hF1197.1 28 rfl).trans ((hF777.1 28 rfl).trans (e_na)))) (fk := fk2_1195) (e_fk := show G1193 16 = fk2_1195 from (e1198))  (h_kind := ⟨(by decide), (by decide)⟩) (h_many := ⟨(by decide), (by decide)⟩)  (p_0 := by omega) (p_1 := by omega)) (fun o V' hq => ?_)
          obtain ⟨G1215, A1216, r1217, sy2_1218, na2_1219, fk2_1220, yk2_1221, rfl, rfl, hW1222, hF1223, hQ1224, b1225, e1226, e1227, e1228, e1229, q1230⟩ := hq
          have hF1231 := Fr_tr hF1201 hF1223 (Fr_sub (by decide)) (Fr_sub (by decide))
          have hP1232 := Pf_f hP1202 hF1223 (by decide)
          have hS1233 := Fx_tr hS1203 hQ1224 (by omega)
          have hV1234 := Fx_f hV1204 hF1223 (by decide)
          have hK1235 := Fx_f hK1205 hF1223 (by decide)
          have sf1236 : wQ A1216 (pc0).toNat (nd) (sy) := wQ_fx (Pf_f Pf_rf hF1223 (by decide)) (Fx_su hQ1224 (by omega)) (Fx_su (Fx_f (w := pc0) Fx_rf hF1223 (by decide)) (by omega)) sf1206
          have sf1237 : VT (Vs) A1216 (sy) := VT_fx hQ1224 (by omega) sf1207
          have ec1238 : ecn A1216 (G1215 31) = ec := (ecn_f (hF1223.2 15 rfl) (hF1223.1 31 rfl)).trans ec1208
          have bsy2_1218 : (0 : Int) ≤ sy2_1218 ∧ sy2_1218 ≤ 202 := e1226 ▸ hW1222.1 19
          have bna2_1219 : (0 : Int) ≤ na2_1219 ∧ na2_1219 ≤ 200 := e1227 ▸ hW1222.1 28
          have bfk2_1220 : (0 : Int) ≤ fk2_1220 ∧ fk2_1220 ≤ 6 := e1228 ▸ hW1222.1 16
          have byk2_1221 : (0 : Int) ≤ yk2_1221 ∧ yk2_1221 ≤ 14 := e1229 ▸ hW1222.2 7 _
          refine .inr ⟨_, rfl, ?_⟩
          rcases q1230 with ⟨a1245, a1239, a1240, a1241, a1242, a1243, a1244⟩ | ⟨rfl, a1246, a1247, a1248⟩
          · have _q : True := trivial
            rw [a1245]
            exfalso
            omega
          · have _q : True := trivial
            refine jx_ld (pc' := 76) (l' := jSto1 [(0, .ref 66)] 1 (.int (i32 (0)))) (st' := []) rfl rfl ?_
            obtain ⟨L1249, eL1249⟩ : ∃ q, q = jSto1 [(0, .ref 66)] 1 (.int (i32 (0))) := ⟨_, rfl⟩
            rw [← eL1249]
            have gL1249_0 : jGet L1249 0 = some (.ref 66) := eL1249 ▸ jg_ne (by decide) (rfl : jGet [(0, .ref 66)] 0 = some (.ref 66)) rfl
            have gL1249_1 : jGet L1249 1 = some (.int (i32 (0))) := eL1249 ▸ jg_eq
            refine jx_ld (pc' := 77) (l' := L1249) (st' := [.ref 66]) rfl (jl_aloadn gL1249_0) ?_
            refine jx_vr (pc' := 80) (as := []) (st := []) rfl rfl rfl rfl ⟨rfl, rfl, Nat.le_of_ble_eq_true rfl⟩ rfl rfl (c_bad (dd := d) (hd := by omega) (hW := hW1222)  (fk := fk2_1220) (e_fk := show G1215 16 = fk2_1220 from (e1228))    ) (fun o V' hq => ?_)
            obtain ⟨r1250, rfl, rfl, b1251, q1252⟩ := hq
            refine .inr ⟨_, rfl, ?_⟩
            rcases q1252 with ⟨rfl, a1253⟩ | ⟨rfl, a1254⟩
            · have _q : True := trivial
              refine jx_if_eq (pc' := 83) (tg := 84) rfl rfl rfl (by decide) (by decide) (fun h1255 => ?_) (fun h1255 => ?_)
              · have _q := h1255
                exact absurd h1255 (by omega)
              · have _q := h1255
                refine jx_rt (v := none) rfl rfl rfl rfl rfl rfl ?_
                exact ⟨_, _, ln, at2_774, fk2_1220, nd, sy2_1218, na2_1219, vi, A 3 (ln).toNat, pc0, ec, rfl, rfl, hW1222, hF1231, hP1232, hS1233, hV1234, hK1235, ((hF1223.1 9 rfl).trans ((hF1197.1 9 rfl).trans ((hF777.1 9 rfl).trans (e_ln)))), ((hF1223.1 10 rfl).trans ((hF1197.1 10 rfl).trans (e778))), (e1228), ((hF1223.1 31 rfl).trans ((hF1197.1 31 rfl).trans ((hF777.1 31 rfl).trans (e_nd)))), (e1226), (e1227), ((hF1223.1 29 rfl).trans ((hF1197.1 29 rfl).trans ((hF777.1 29 rfl).trans (e_vi)))), (congrFun ((hF1223.2 3 rfl).trans ((hF1197.2 3 rfl).trans (hF777.2 3 rfl))) _), ((hF1223.1 46 rfl).trans ((hF1197.1 46 rfl).trans ((hF777.1 46 rfl).trans (e_pc0)))), ec1238, by omega, by omega, by omega, by omega, by first | exact Or.inl (by omega)⟩
            · have _q : True := trivial
              exfalso
              omega
        · have _q := h1214
          exact absurd h1214 (by omega)
      · have _q : True := trivial
        exfalso
        omega
  · have _q := h794
    refine jx_ld (pc' := 13) (l' := [(0, .ref 66)]) (st' := [.ref 66]) rfl (jl_aloadn rfl) ?_
    refine jx_ar (pc' := 14) (st' := [.int (i32 (1)), .ref 66]) rfl rfl rfl rfl ?_
    refine jx_ld (pc' := 15) (l' := [(0, .ref 66)]) (st' := [.ref 66, .int (i32 (1)), .ref 66]) rfl (jl_aloadn rfl) ?_
    have b1256 : (-3000 : Int) ≤ G772 12 ∧ G772 12 ≤ 3002 := hW776.1 12
    refine jr_get (pc' := 18) (i := 12) (v := .int (i32 (G772 12))) rfl rfl (by decide) rfl rfl ?_
    refine jx_vr (pc' := 21) (as := [.int (i32 (1)), .int (i32 (G772 12))]) (st := []) rfl rfl rfl rfl ⟨rfl, rfl, Nat.le_of_ble_eq_true rfl⟩ rfl rfl (c_fail (dd := d) (hd := by omega) (hW := hW776) (kind := 1) (place := G772 12) (fk := fk) (e_fk := show G772 16 = fk from ((hF777.1 16 rfl).trans (e_fk)))  (h_kind := ⟨(by decide), (by decide)⟩) (h_place := ⟨(Int.le_trans (by decide : (-2147483648 : Int) ≤ -3000) b1256.1), (Int.le_trans b1256.2 (by decide : (3002 : Int) ≤ 2147483647))⟩)  (p_0 := by omega) (p_1 := by omega)) (fun o V' hq => ?_)
    obtain ⟨G1257, A1258, fk2_1259, rfl, rfl, hW1260, hF1261, e1262, p1263, -⟩ := hq
    have hF1265 := Fr_tr hF784 hF1261 (Fr_sub (by decide)) (Fr_sub (by decide))
    have hP1266 := Pf_f hP785 hF1261 (by decide)
    have hS1267 := Fx_f hS786 hF1261 (by decide)
    have hV1268 := Fx_f hV787 hF1261 (by decide)
    have hK1269 := Fx_f hK788 hF1261 (by decide)
    have sf1270 : wQ A1258 (pc0).toNat (nd) (sy) := (show A1258 = A773 from funext (fun k => hF1261.2 k rfl)) ▸ sf789
    have sf1271 : VT (Vs) A1258 (sy) := (show A1258 = A773 from funext (fun k => hF1261.2 k rfl)) ▸ sf790
    have ec1272 : ecn A1258 (G1257 31) = ec := (ecn_f (hF1261.2 15 rfl) (hF1261.1 31 rfl)).trans ec791
    have bfk2_1259 : (0 : Int) ≤ fk2_1259 ∧ fk2_1259 ≤ 6 := e1262 ▸ hW1260.1 16
    refine .inl ⟨rfl, ?_⟩
    refine jx_rt (v := none) rfl rfl rfl rfl rfl rfl ?_
    exact ⟨_, _, ln, at2_774, fk2_1259, nd, sy, na, vi, A 3 (ln).toNat, pc0, ec, rfl, rfl, hW1260, hF1265, hP1266, hS1267, hV1268, hK1269, ((hF1261.1 9 rfl).trans ((hF777.1 9 rfl).trans (e_ln))), ((hF1261.1 10 rfl).trans (e778)), (e1262), ((hF1261.1 31 rfl).trans ((hF777.1 31 rfl).trans (e_nd))), ((hF1261.1 19 rfl).trans ((hF777.1 19 rfl).trans (e_sy))), ((hF1261.1 28 rfl).trans ((hF777.1 28 rfl).trans (e_na))), ((hF1261.1 29 rfl).trans ((hF777.1 29 rfl).trans (e_vi))), (congrFun ((hF1261.2 3 rfl).trans (hF777.2 3 rfl)) _), ((hF1261.1 46 rfl).trans ((hF777.1 46 rfl).trans (e_pc0))), ec1272, by omega, by omega, by omega, by omega, by first | exact Or.inl (by omega)⟩
